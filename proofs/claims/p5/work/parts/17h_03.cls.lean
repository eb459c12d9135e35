set_option maxHeartbeats 4000000 in
set_option maxRecDepth 100000 in
theorem b_SoundFile_loadMessage_23 {D : va_G} {ca : Nat → ClassId} {ad : Nat → Int → Nat → Nat} {L : List Nat} {aS vS : Nat → Nat} {A : Nat → Prop} {p : Program} {l : Launch} {e : Env} {s : State} {m : MethodId} {args : Array Value} {below : List Frame} {meth : Method} {c : Code} {K : zK} {r : Int} {F9 : zF} {B9 : zB} (X : zX D ca L aS vS A p s m args meth c prog_10_method_15_code 6 (Option.none : Option Jvm.ClassFile.FieldType) "StaveHouse$SoundFile") {l4 : Int} {l0 : Int} {l1 : Int} {F : zF} {B : zB} {H : Heap} {locs : List Loc} {ls : Array Slot} (hf : f_SoundFile_loadMessage_23 K l4 l0 l1 F B = some (r, F9, B9)) (hZ : zH D ca ad lnC K.2 L F B A H) (hS : va_S A s.heap H locs) (hl : lv_has ls 6 [(4, .int (iI l4)), (0, .ref (ad 8 l0 0)), (1, .int (iI l1))]) : W p l e ({ frames := 3, cells := 0, slots := 0, locals := 63 } : Room) s m args below meth c H locs 0 0 (MQ below (Q_SoundFile_loadMessage K D ca ad L r F9 B9 A) args s 0 0 A) (F0 m 23 ls []) := by
  obtain ⟨hx, hb, hr, hml, hown, hts, hlk, hK, hA, hL, hX⟩ := id X
  replace hf : (if 0 ≤ l0 ∧ l0 < K.2 8 then if r32 (F 8 l0 7) then (if (F 8 l0 7) = 0 then if r32 l4 then (if l4 = 12 then if 0 ≤ (F 8 l0 8) ∧ (F 8 l0 8) < 8 then if r32 (B 8 l0 3 (F 8 l0 8)) then (if (B 8 l0 3 (F 8 l0 8)) = (-1) then f_SoundFile_loadMessage_62 K F (zup4 B 8 l0 3 (F 8 l0 8) (zrm l1 4)) else f_SoundFile_loadMessage_62 K F B) else none else none else f_SoundFile_loadMessage_62 K F B) else none else f_SoundFile_loadMessage_62 K F B) else none else none) = some (r, F9, B9) := hf
  refine lv_aload_n hx hb d_10_15_23 rfl (lv_at hl 1 rfl) ?_
  obtain ⟨g12, hf⟩ := gif hf
  refine zget (ci := 8) (C := RX8) (T := TX8) (v := .int (iI (F 8 l0 7))) (k := 7) hx hb hts inW_8 hown hK hZ g12.1 g12.2 rfl (by decide) k_7_231 rfl d_10_15_24 ?_
  obtain ⟨g13, hf⟩ := gif hf
  refine z0ne (tgt := 62) hx hb g13 d_10_15_27 (by decide) (fun h14 => ?_) (fun h14 => ?_)
  · replace hf := gneg hf h14
    exact b_SoundFile_loadMessage_62 X hf hZ hS (lv_sub hl [] rfl)
  · replace hf := gpos hf h14
    refine lv_iload hx hb d_10_15_30 (lv_at hl 0 rfl) ?_
    refine lv_bipush (v := iI 12) hx hb d_10_15_32 (by decide) ?_
    obtain ⟨g15, hf⟩ := gif hf
    refine zne (tgt := 62) hx hb g15 (by decide) d_10_15_34 (by decide) (fun h16 => ?_) (fun h16 => ?_)
    · replace hf := gneg hf h16
      exact b_SoundFile_loadMessage_62 X hf hZ hS (lv_sub hl [] rfl)
    · replace hf := gpos hf h16
      refine lv_aload_n hx hb d_10_15_37 rfl (lv_at hl 1 rfl) ?_
      refine zget (ci := 8) (C := RX8) (T := TX8) (v := .ref (ad 8 l0 (3 + 1))) (k := 3) hx hb hts inW_8 hown hK hZ g12.1 g12.2 rfl (by decide) k_7_226 rfl d_10_15_38 ?_
      refine lv_aload_n hx hb d_10_15_41 rfl (lv_at hl 1 rfl) ?_
      refine zget (ci := 8) (C := RX8) (T := TX8) (v := .int (iI (F 8 l0 8))) (k := 8) hx hb hts inW_8 hown hK hZ g12.1 g12.2 rfl (by decide) k_7_232 rfl d_10_15_42 ?_
      obtain ⟨g17, hf⟩ := gif hf
      refine zald (ci := 8) (k := 3) hx hb hK rfl hZ g12.1 g12.2 rfl (Nat.le_of_ble_eq_true rfl) g17.1 g17.2 d_10_15_45 ?_
      refine lv_iconst (v := iI (-1)) hx hb d_10_15_46 rfl ?_
      obtain ⟨g18, hf⟩ := gif hf
      refine zne (tgt := 62) hx hb g18 (by decide) d_10_15_47 (by decide) (fun h19 => ?_) (fun h19 => ?_)
      · replace hf := gneg hf h19
        exact b_SoundFile_loadMessage_62 X hf hZ hS (lv_sub hl [] rfl)
      · replace hf := gpos hf h19
        refine lv_aload_n hx hb d_10_15_50 rfl (lv_at hl 1 rfl) ?_
        refine zget (ci := 8) (C := RX8) (T := TX8) (v := .ref (ad 8 l0 (3 + 1))) (k := 3) hx hb hts inW_8 hown hK hZ g12.1 g12.2 rfl (by decide) k_7_226 rfl d_10_15_51 ?_
        refine lv_aload_n hx hb d_10_15_54 rfl (lv_at hl 1 rfl) ?_
        refine zget (ci := 8) (C := RX8) (T := TX8) (v := .int (iI (F 8 l0 8))) (k := 8) hx hb hts inW_8 hown hK hZ g12.1 g12.2 rfl (by decide) k_7_232 rfl d_10_15_55 ?_
        refine lv_iload_n hx hb d_10_15_58 rfl (lv_at hl 2 rfl) ?_
        refine lv_iconst (v := iI 4) hx hb d_10_15_59 rfl ?_
        refine zrm_r hx hb (by decide) d_10_15_60 ?_
        refine zast (ci := 8) (k := 3) hx hb hK rfl hZ hS g12.1 g12.2 rfl (Nat.le_of_ble_eq_true rfl) g17.1 g17.2 d_10_15_61 (fun H20 locs20 hZ20 hS20 => ?_)
        exact b_SoundFile_loadMessage_62 X hf hZ20 hS20 (lv_sub hl [] rfl)

noncomputable def f_SoundFile_loadMessage (K : zK) (l0 : Int) (l1 : Int) (l2 : Int) (l3 : Int) (F : zF) (B : zB) : zO := if 0 ≤ l0 ∧ l0 < K.2 8 then if r32 (zdv (F 8 l0 9) 16) then (if (zdv (F 8 l0 9) 16) = 12 then f_SoundFile_loadMessage_23 K (zdv (F 8 l0 9) 16) l0 l1 F B else (if (zdv (F 8 l0 9) 16) = 13 then f_SoundFile_loadMessage_23 K (zdv (F 8 l0 9) 16) l0 l1 F B else zbind (f_SoundFile_takeData K l0 F B) (fun r5 F5 B5 => if r32 (F5 8 l0 7) then (if (F5 8 l0 7) = 0 then (if (zdv (F 8 l0 9) 16) = 9 then if r32 r5 then (if r5 ≤ 0 then f_SoundFile_loadMessage_100 K (zdv (F 8 l0 9) 16) l0 l1 l3 F5 B5 else zbind (f_SoundFile_beginSound K l0 l1 r5 l2 F5 B5) (fun r11 F11 B11 => f_SoundFile_loadMessage_120 K F11 B11)) else none else f_SoundFile_loadMessage_100 K (zdv (F 8 l0 9) 16) l0 l1 l3 F5 B5) else some (0, F5, B5)) else none))) else none else none
set_option maxHeartbeats 4000000 in
set_option maxRecDepth 100000 in
theorem c_SoundFile_loadMessage {l : Launch} {D : va_G} {ca : Nat → ClassId} {ad : Nat → Int → Nat → Nat} {L : List Nat} {aS vS : Nat → Nat} {sz : Nat} {K : zK}  {l0 : Int} {l1 : Int} {l2 : Int} {l3 : Int} {F F9 : zF} {B B9 : zB} {r : Int} (hf : f_SoundFile_loadMessage K l0 l1 l2 l3 F B = some (r, F9, B9)) : Met l ({ cls := "StaveHouse$SoundFile", name := "loadMessage", desc := "(III)V" } : Jvm.MethodName) (Cond.code ({ cls := "StaveHouse$SoundFile", name := "loadMessage", desc := "(III)V" } : Jvm.MethodName) prog_10_method_15_code 6 (Option.none : Option Jvm.ClassFile.FieldType) :: wAll) ({ frames := 3, cells := 0, slots := 0, locals := 63 } : Room) (va_Pc [.ref (ad 8 l0 0), .int (iI l1), .int (iI l2), .int (iI l3)] (zPre D ca ad lnC K.2 L aS vS F B sz)) (Q_SoundFile_loadMessage K D ca ad L r F9 B9 (zA L sz)) 0 0 (zA L sz) := by
  refine zMet (Qc := Q_SoundFile_loadMessage K D ca ad L r F9 B9) (lv := [(0, .ref (ad 8 l0 0)), (1, .int (iI l1)), (2, .int (iI l2)), (3, .int (iI l3))]) (by decide) (Nat.le_of_ble_eq_true rfl) rfl (fun A p e s m below meth c ls X hZ hS hl => ?_)
  obtain ⟨hx, hb, hr, hml, hown, hts, hlk, hK, hA, hL, hX⟩ := id X
  replace hf : (if 0 ≤ l0 ∧ l0 < K.2 8 then if r32 (zdv (F 8 l0 9) 16) then (if (zdv (F 8 l0 9) 16) = 12 then f_SoundFile_loadMessage_23 K (zdv (F 8 l0 9) 16) l0 l1 F B else (if (zdv (F 8 l0 9) 16) = 13 then f_SoundFile_loadMessage_23 K (zdv (F 8 l0 9) 16) l0 l1 F B else zbind (f_SoundFile_takeData K l0 F B) (fun r5 F5 B5 => if r32 (F5 8 l0 7) then (if (F5 8 l0 7) = 0 then (if (zdv (F 8 l0 9) 16) = 9 then if r32 r5 then (if r5 ≤ 0 then f_SoundFile_loadMessage_100 K (zdv (F 8 l0 9) 16) l0 l1 l3 F5 B5 else zbind (f_SoundFile_beginSound K l0 l1 r5 l2 F5 B5) (fun r11 F11 B11 => f_SoundFile_loadMessage_120 K F11 B11)) else none else f_SoundFile_loadMessage_100 K (zdv (F 8 l0 9) 16) l0 l1 l3 F5 B5) else some (0, F5, B5)) else none))) else none else none) = some (r, F9, B9) := hf
  refine lv_aload_n hx hb d_10_15_0 rfl (lv_at hl 0 rfl) ?_
  obtain ⟨g1, hf⟩ := gif hf
  refine zget (ci := 8) (C := RX8) (T := TX8) (v := .int (iI (F 8 l0 9))) (k := 9) hx hb hts inW_8 hown hK hZ g1.1 g1.2 rfl (by decide) k_7_233 rfl d_10_15_1 ?_
  refine lv_bipush (v := iI 16) hx hb d_10_15_4 (by decide) ?_
  refine zdv_r hx hb (by decide) d_10_15_6 ?_
  refine lv_istore (lv' := [(4, .int (iI (zdv (F 8 l0 9) 16))), (0, .ref (ad 8 l0 0)), (1, .int (iI l1)), (2, .int (iI l2)), (3, .int (iI l3))]) hx hb d_10_15_7 hl (by decide) rfl (fun ls hl => ?_)
  refine lv_iload hx hb d_10_15_9 (lv_at hl 0 rfl) ?_
  refine lv_bipush (v := iI 12) hx hb d_10_15_11 (by decide) ?_
  obtain ⟨g2, hf⟩ := gif hf
  refine zeq (tgt := 23) hx hb g2 (by decide) d_10_15_13 (by decide) (fun h3 => ?_) (fun h3 => ?_)
  · replace hf := gpos hf h3
    exact b_SoundFile_loadMessage_23 X hf hZ hS (lv_sub hl [0, 1, 2] rfl)
  · replace hf := gneg hf h3
    refine lv_iload hx hb d_10_15_16 (lv_at hl 0 rfl) ?_
    refine lv_bipush (v := iI 13) hx hb d_10_15_18 (by decide) ?_
    refine zne (tgt := 63) hx hb g2 (by decide) d_10_15_20 (by decide) (fun h4 => ?_) (fun h4 => ?_)
    · replace hf := gneg hf h4
      refine lv_aload_n hx hb d_10_15_63 rfl (lv_at hl 1 rfl) ?_
      obtain ⟨r5, F5, B5, hc5, hf⟩ := gbind hf
      refine va_calli (va_runV (As := []) (rest := []) ⟨hx, hb, hml, hown, hts⟩ (c_SoundFile_takeData (l := l) hc5) (cwV 0 hts (gdV k_8_92 k_8_94 ks_104 k_1_23 k_8_95) rfl rfl rfl (by decide +kernel) ⟨Nat.le_of_ble_eq_true rfl, Nat.le_of_ble_eq_true rfl⟩) (zPV X hZ hS (ci := 8) g1.1 g1.2 (r := (RX8, TX8, 15)) rfl []) rfl rfl hl.1 rfl (lv_room (Nat.le_of_ble_eq_true rfl)) d_10_15_64 ⟨Nat.le_of_ble_eq_true rfl, Nat.le_of_ble_eq_true rfl⟩) hS (fun q _ h => zAin X hS q h) (zAin X hS) (fun p5 u5 t5 H5 locs5 ht5 hv5 hw5 hB5 hz5 hk5 hS5 => ?_)
      have hZ5 := zBack X ht5 hB5
      subst hw5
      refine lv_istore (lv' := [(5, .int (iI r5)), (4, .int (iI (zdv (F 8 l0 9) 16))), (0, .ref (ad 8 l0 0)), (1, .int (iI l1)), (2, .int (iI l2)), (3, .int (iI l3))]) hx hb d_10_15_67 hl (by decide) rfl (fun ls hl => ?_)
      refine lv_aload_n hx hb d_10_15_69 rfl (lv_at hl 2 rfl) ?_
      refine zget (ci := 8) (C := RX8) (T := TX8) (v := .int (iI (F5 8 l0 7))) (k := 7) hx hb hts inW_8 hown hK hZ5 g1.1 g1.2 rfl (by decide) k_7_231 rfl d_10_15_70 ?_
      obtain ⟨g6, hf⟩ := gif hf
      refine z0eq (tgt := 77) hx hb g6 d_10_15_73 (by decide) (fun h7 => ?_) (fun h7 => ?_)
      · replace hf := gpos hf h7
        refine lv_iload hx hb d_10_15_77 (lv_at hl 1 rfl) ?_
        refine lv_bipush (v := iI 9) hx hb d_10_15_79 (by decide) ?_
        refine zne (tgt := 100) hx hb g2 (by decide) d_10_15_81 (by decide) (fun h8 => ?_) (fun h8 => ?_)
        · replace hf := gneg hf h8
          exact b_SoundFile_loadMessage_100 X hf hZ5 hS5 (lv_sub hl [1, 2, 3, 5] rfl)
        · replace hf := gpos hf h8
          refine lv_iload hx hb d_10_15_84 (lv_at hl 0 rfl) ?_
          obtain ⟨g9, hf⟩ := gif hf
          refine z0le (tgt := 100) hx hb g9 d_10_15_86 (by decide) (fun h10 => ?_) (fun h10 => ?_)
          · replace hf := gpos hf h10
            exact b_SoundFile_loadMessage_100 X hf hZ5 hS5 (lv_sub hl [1, 2, 3, 5] rfl)
          · replace hf := gneg hf h10
            refine lv_aload_n hx hb d_10_15_89 rfl (lv_at hl 2 rfl) ?_
            refine lv_iload_n hx hb d_10_15_90 rfl (lv_at hl 3 rfl) ?_
            refine lv_iload hx hb d_10_15_91 (lv_at hl 0 rfl) ?_
            refine lv_iload_n hx hb d_10_15_93 rfl (lv_at hl 4 rfl) ?_
            obtain ⟨r11, F11, B11, hc11, hf⟩ := gbind hf
            refine va_callv (va_runV (As := [.int (iI l1), .int (iI r5), .int (iI l2)]) (rest := []) ⟨hx, hb, hml, hown, hts⟩ (c_SoundFile_beginSound (l := l) hc11) (cwV 3 hts (gdV k_8_117 k_8_119 ks_109 k_1_23 k_8_120) rfl rfl rfl (by decide +kernel) ⟨Nat.le_of_ble_eq_true rfl, Nat.le_of_ble_eq_true rfl⟩) (zPV X hZ5 hS5 (ci := 8) g1.1 g1.2 (r := (RX8, TX8, 15)) rfl [.int (iI l1), .int (iI r5), .int (iI l2)]) rfl rfl hl.1 rfl (lv_room (Nat.le_of_ble_eq_true rfl)) d_10_15_94 ⟨Nat.le_of_ble_eq_true rfl, Nat.le_of_ble_eq_true rfl⟩) hS5 (fun q _ h => zAin X hS5 q h) (zAin X hS5) (fun u11 t11 H11 locs11 ht11 hv11 hw11 hB11 hz11 hk11 hS11 => ?_)
            have hZ11 := zBack X ht11 hB11
            refine lv_goto (tgt := 120) hx hb d_10_15_97 (by decide) ?_
            exact b_SoundFile_loadMessage_120 X hf hZ11 hS11 (lv_sub hl [] rfl)
      · replace hf := gneg hf h7
        cases hf
        exact W.vret hx hb hr (fun t ht hW => ⟨⟨(), rfl, trivial, by rw [ht]; exact hZ5, va_K.moved hW.alike hK⟩, hS5.F ht⟩) hS5.2.2 d_10_15_76 hlk
    · replace hf := gpos hf h4
      exact b_SoundFile_loadMessage_23 X hf hZ hS (lv_sub hl [0, 1, 2] rfl)

noncomputable abbrev Q_Scribe_gatherEvent (K : zK) (D : va_G) (ca : Nat → ClassId) (ad : Nat → Int → Nat → Nat) (L : List Nat) (r : Int) (F : zF) (B : zB) (A : Nat → Prop) : Array Value → State → Outcome → State → Prop := va_Qv (S := Unit) (fun _ => True) (fun _ => zPo D ca ad lnC K.2 L F B A) A
noncomputable def f_Scribe_gatherEvent_195 (K : zK)  (F : zF) (B : zB) : zO := some (0, F, B)
set_option maxHeartbeats 4000000 in
set_option maxRecDepth 100000 in
theorem b_Scribe_gatherEvent_195 {D : va_G} {ca : Nat → ClassId} {ad : Nat → Int → Nat → Nat} {L : List Nat} {aS vS : Nat → Nat} {A : Nat → Prop} {p : Program} {l : Launch} {e : Env} {s : State} {m : MethodId} {args : Array Value} {below : List Frame} {meth : Method} {c : Code} {K : zK} {r : Int} {F9 : zF} {B9 : zB} (X : zX D ca L aS vS A p s m args meth c prog_9_method_6_code 4 (Option.none : Option Jvm.ClassFile.FieldType) "StaveHouse$Scribe")  {F : zF} {B : zB} {H : Heap} {locs : List Loc} {ls : Array Slot} (hf : f_Scribe_gatherEvent_195 K  F B = some (r, F9, B9)) (hZ : zH D ca ad lnC K.2 L F B A H) (hS : va_S A s.heap H locs) (hl : lv_has ls 4 []) : W p l e ({ frames := 2, cells := 0, slots := 0, locals := 37 } : Room) s m args below meth c H locs 0 0 (MQ below (Q_Scribe_gatherEvent K D ca ad L r F9 B9 A) args s 0 0 A) (F0 m 195 ls []) := by
  obtain ⟨hx, hb, hr, hml, hown, hts, hlk, hK, hA, hL, hX⟩ := id X
  replace hf : (some (0, F, B)) = some (r, F9, B9) := hf
  cases hf
  exact W.vret hx hb hr (fun t ht hW => ⟨⟨(), rfl, trivial, by rw [ht]; exact hZ, va_K.moved hW.alike hK⟩, hS.F ht⟩) hS.2.2 d_9_6_195 hlk

noncomputable def f_Scribe_gatherEvent_158 (K : zK) (l0 : Int) (l2 : Int) (F : zF) (B : zB) : zO := if 0 ≤ l0 ∧ l0 < K.2 7 then if r32 (F 7 l0 7) then if r32 l2 then (if l2 ≤ (F 7 l0 7) then f_Scribe_gatherEvent_195 K F B else if 0 ≤ (F 7 l0 0) ∧ (F 7 l0 0) < K.2 8 then if 0 ≤ (F 7 l0 7) ∧ (F 7 l0 7) < 400 then zbind (f_Scribe_gridPlace K l0 (B 8 (F 7 l0 0) 224 (F 7 l0 7)) F B) (fun r41 F41 B41 => if r64 (F 7 l0 6) then if r64 r41 then f_Scribe_gatherEvent_195 K (zup3 F41 7 l0 6 (zmin (F 7 l0 6) r41)) B41 else none else none) else none else none) else none else none else none
set_option maxHeartbeats 4000000 in
set_option maxRecDepth 100000 in
theorem b_Scribe_gatherEvent_158 {D : va_G} {ca : Nat → ClassId} {ad : Nat → Int → Nat → Nat} {L : List Nat} {aS vS : Nat → Nat} {A : Nat → Prop} {p : Program} {l : Launch} {e : Env} {s : State} {m : MethodId} {args : Array Value} {below : List Frame} {meth : Method} {c : Code} {K : zK} {r : Int} {F9 : zF} {B9 : zB} (X : zX D ca L aS vS A p s m args meth c prog_9_method_6_code 4 (Option.none : Option Jvm.ClassFile.FieldType) "StaveHouse$Scribe") {l0 : Int} {l2 : Int} {F : zF} {B : zB} {H : Heap} {locs : List Loc} {ls : Array Slot} (hf : f_Scribe_gatherEvent_158 K l0 l2 F B = some (r, F9, B9)) (hZ : zH D ca ad lnC K.2 L F B A H) (hS : va_S A s.heap H locs) (hl : lv_has ls 4 [(0, .ref (ad 7 l0 0)), (2, .int (iI l2))]) : W p l e ({ frames := 2, cells := 0, slots := 0, locals := 37 } : Room) s m args below meth c H locs 0 0 (MQ below (Q_Scribe_gatherEvent K D ca ad L r F9 B9 A) args s 0 0 A) (F0 m 158 ls []) := by
  obtain ⟨hx, hb, hr, hml, hown, hts, hlk, hK, hA, hL, hX⟩ := id X
  replace hf : (if 0 ≤ l0 ∧ l0 < K.2 7 then if r32 (F 7 l0 7) then if r32 l2 then (if l2 ≤ (F 7 l0 7) then f_Scribe_gatherEvent_195 K F B else if 0 ≤ (F 7 l0 0) ∧ (F 7 l0 0) < K.2 8 then if 0 ≤ (F 7 l0 7) ∧ (F 7 l0 7) < 400 then zbind (f_Scribe_gridPlace K l0 (B 8 (F 7 l0 0) 224 (F 7 l0 7)) F B) (fun r41 F41 B41 => if r64 (F 7 l0 6) then if r64 r41 then f_Scribe_gatherEvent_195 K (zup3 F41 7 l0 6 (zmin (F 7 l0 6) r41)) B41 else none else none) else none else none) else none else none else none) = some (r, F9, B9) := hf
  refine lv_aload_n hx hb d_9_6_158 rfl (lv_at hl 0 rfl) ?_
  obtain ⟨g35, hf⟩ := gif hf
  refine zget (ci := 7) (C := RX7) (T := TX7) (v := .int (iI (F 7 l0 7))) (k := 7) hx hb hts inW_7 hown hK hZ g35.1 g35.2 rfl (by decide) k_2_105 rfl d_9_6_159 ?_
  refine lv_iload_n hx hb d_9_6_162 rfl (lv_at hl 1 rfl) ?_
  obtain ⟨g36, hf⟩ := gif hf
  obtain ⟨g37, hf⟩ := gif hf
  refine zge (tgt := 195) hx hb g36 g37 d_9_6_163 (by decide) (fun h38 => ?_) (fun h38 => ?_)
  · replace hf := gpos hf h38
    exact b_Scribe_gatherEvent_195 X hf hZ hS (lv_sub hl [] rfl)
  · replace hf := gneg hf h38
    refine lv_aload_n hx hb d_9_6_166 rfl (lv_at hl 0 rfl) ?_
    refine lv_aload_n hx hb d_9_6_167 rfl (lv_at hl 0 rfl) ?_
    refine zget (ci := 7) (C := RX7) (T := TX7) (v := .long (lI (F 7 l0 6))) (k := 6) hx hb hts inW_7 hown hK hZ g35.1 g35.2 rfl (by decide) k_2_104 rfl d_9_6_168 ?_
    refine lv_aload_n hx hb d_9_6_171 rfl (lv_at hl 0 rfl) ?_
    refine lv_aload_n hx hb d_9_6_172 rfl (lv_at hl 0 rfl) ?_
    refine zget (ci := 7) (C := RX7) (T := TX7) (v := va_rf (zrf ad 8 (F 7 l0 0))) (k := 0) hx hb hts inW_7 hown hK hZ g35.1 g35.2 rfl (by decide) k_2_98 rfl d_9_6_173 ?_
    obtain ⟨g39, hf⟩ := gif hf
    refine zunrf g39.1 ?_
    refine zget (ci := 8) (C := RX8) (T := TX8) (v := .ref (ad 8 (F 7 l0 0) (1 + 1))) (k := 1) hx hb hts inW_8 hown hK hZ g39.1 g39.2 rfl (by decide) k_7_221 rfl d_9_6_176 ?_
    refine lv_iconst (v := iI 4) hx hb d_9_6_179 rfl ?_
    refine zaldQ (t := 1) (ci := 8) (k := 1) hx hb hK rfl hZ g39.1 g39.2 rfl (Nat.le_of_ble_eq_true rfl) (by decide) (by decide) d_9_6_180 ?_
    refine W.eq (g2 := F0 m 181 ls [.ref (ad 8 (F 7 l0 0) (224 + 1)), .ref (ad 7 l0 0), .long (lI (F 7 l0 6)), .ref (ad 7 l0 0)]) rfl ?_
    refine lv_aload_n hx hb d_9_6_181 rfl (lv_at hl 0 rfl) ?_
    refine zget (ci := 7) (C := RX7) (T := TX7) (v := .int (iI (F 7 l0 7))) (k := 7) hx hb hts inW_7 hown hK hZ g35.1 g35.2 rfl (by decide) k_2_105 rfl d_9_6_182 ?_
    obtain ⟨g40, hf⟩ := gif hf
    refine zlald (ci := 8) (k := 224) hx hb hK rfl hZ g39.1 g39.2 rfl (Nat.le_of_ble_eq_true rfl) g40.1 g40.2 d_9_6_185 ?_
    obtain ⟨r41, F41, B41, hc41, hf⟩ := gbind hf
    refine va_calll (va_runV (As := [.long (lI (B 8 (F 7 l0 0) 224 (F 7 l0 7)))]) (rest := [.long (lI (F 7 l0 6)), .ref (ad 7 l0 0)]) ⟨hx, hb, hml, hown, hts⟩ (c_Scribe_gridPlace (l := l) hc41) (cwV 1 hts (gdV k_8_156 k_8_158 ks_114 k_1_7 k_8_159) rfl rfl rfl (by decide +kernel) ⟨Nat.le_of_ble_eq_true rfl, Nat.le_of_ble_eq_true rfl⟩) (zPV X hZ hS (ci := 7) g35.1 g35.2 (r := (RX7, TX7, 9)) rfl [.long (lI (B 8 (F 7 l0 0) 224 (F 7 l0 7)))]) rfl rfl hl.1 rfl (lv_room (Nat.le_of_ble_eq_true rfl)) d_9_6_186 ⟨Nat.le_of_ble_eq_true rfl, Nat.le_of_ble_eq_true rfl⟩) hS (fun q _ h => zAin X hS q h) (zAin X hS) (fun p41 u41 t41 H41 locs41 ht41 hv41 hw41 hB41 hz41 hk41 hS41 => ?_)
    have hZ41 := zBack X ht41 hB41
    subst hw41
    obtain ⟨g42, hf⟩ := gif hf
    obtain ⟨g43, hf⟩ := gif hf
    refine va_mmin_long hx hb (by rw [hml]; exact hl.1.symm) hown (hts _ k_8_164) (hts _ k_5_58) (hts _ k_1_3) (hts _ k_5_59) (Nat.le_of_ble_eq_true rfl) (Nat.le_of_ble_eq_true rfl) (Nat.le_of_ble_eq_true rfl) (Nat.le_of_ble_eq_true rfl) d_9_6_189 ?_
    rw [zlmin_e g42 g43]
    refine zput (ci := 7) (C := RX7) (T := TX7) (k := 6) (v := (zmin (F 7 l0 6) r41)) (w := .long (lI (zmin (F 7 l0 6) r41))) hx hb hts inW_7 tyX7 tyX7_ok nmX7 hown hK hZ41 hS41 g35.1 g35.2 rfl (by decide) k_2_104 rfl (fun G h => congrArg (fun q => Value.long (lI q)) h) rfl rfl (zno (by decide)) d_9_6_192 (fun H44 locs44 hZ44 hS44 => ?_)
    exact b_Scribe_gatherEvent_195 X hf hZ44 hS44 (lv_sub hl [] rfl)

noncomputable def f_Scribe_gatherEvent_58 (K : zK) : Nat → Int → Int → zF → zB → zO
  | 0, _, _, _, _ => none
  | n + 1, l0, l2, F, B => if 0 ≤ l0 ∧ l0 < K.2 7 then if r32 (F 7 l0 7) then if r32 l2 then (if l2 ≤ (F 7 l0 7) then f_Scribe_gatherEvent_158 K l0 l2 F B else if 0 ≤ (F 7 l0 0) ∧ (F 7 l0 0) < K.2 8 then if 0 ≤ (F 7 l0 7) ∧ (F 7 l0 7) < 400 then zbind (f_Scribe_gridPlace K l0 (B 8 (F 7 l0 0) 224 (F 7 l0 7)) F B) (fun r19 F19 B19 => if r64 r19 then if r64 (F19 7 l0 5) then (if (zcmp r19 (F19 7 l0 5)) = 0 then if 0 ≤ (F19 7 l0 0) ∧ (F19 7 l0 0) < K.2 8 then if 0 ≤ (F19 7 l0 7) ∧ (F19 7 l0 7) < 400 then zbind (f_Scribe_gridPlace K l0 (B19 8 (F19 7 l0 0) 225 (F19 7 l0 7)) F19 B19) (fun r25 F25 B25 => if r64 (F19 7 l0 6) then if r64 r25 then if 0 ≤ (F25 7 l0 0) ∧ (F25 7 l0 0) < K.2 8 then if 0 ≤ (F25 7 l0 7) ∧ (F25 7 l0 7) < 400 then if 0 ≤ (zand (B25 8 (F25 7 l0 0) 222 (F25 7 l0 7)) 127) ∧ (zand (B25 8 (F25 7 l0 0) 222 (F25 7 l0 7)) 127) < 128 then f_Scribe_gatherEvent_58 K n l0 l2 (zup3 (zup3 F25 7 l0 6 (zmax (F19 7 l0 6) r25)) 7 l0 7 ((F25 7 l0 7) + 1)) (zup4 B25 7 l0 8 (zand (B25 8 (F25 7 l0 0) 222 (F25 7 l0 7)) 127) 1) else none else none else none else none else none) else none else none else f_Scribe_gatherEvent_158 K l0 l2 F19 B19) else none else none) else none else none) else none else none else none
set_option maxHeartbeats 4000000 in
set_option maxRecDepth 100000 in
theorem b_Scribe_gatherEvent_58 {D : va_G} {ca : Nat → ClassId} {ad : Nat → Int → Nat → Nat} {L : List Nat} {aS vS : Nat → Nat} {A : Nat → Prop} {p : Program} {l : Launch} {e : Env} {s : State} {m : MethodId} {args : Array Value} {below : List Frame} {meth : Method} {c : Code} {K : zK} {r : Int} {F9 : zF} {B9 : zB} (X : zX D ca L aS vS A p s m args meth c prog_9_method_6_code 4 (Option.none : Option Jvm.ClassFile.FieldType) "StaveHouse$Scribe") : ∀ {n : Nat} {l0 : Int} {l2 : Int} {F : zF} {B : zB} {H : Heap} {locs : List Loc} {ls : Array Slot}, f_Scribe_gatherEvent_58 K n l0 l2 F B = some (r, F9, B9) → zH D ca ad lnC K.2 L F B A H → va_S A s.heap H locs → lv_has ls 4 [(0, .ref (ad 7 l0 0)), (2, .int (iI l2))] → W p l e ({ frames := 2, cells := 0, slots := 0, locals := 37 } : Room) s m args below meth c H locs 0 0 (MQ below (Q_Scribe_gatherEvent K D ca ad L r F9 B9 A) args s 0 0 A) (F0 m 58 ls []) := by
  obtain ⟨hx, hb, hr, hml, hown, hts, hlk, hK, hA, hL, hX⟩ := id X
  intro n
  induction n with
  | zero =>
    intros
    rename_i hf _ _ _
    cases hf
  | succ n ih =>
    intro l0 l2 F B H locs ls hf hZ hS hl
    replace hf : (if 0 ≤ l0 ∧ l0 < K.2 7 then if r32 (F 7 l0 7) then if r32 l2 then (if l2 ≤ (F 7 l0 7) then f_Scribe_gatherEvent_158 K l0 l2 F B else if 0 ≤ (F 7 l0 0) ∧ (F 7 l0 0) < K.2 8 then if 0 ≤ (F 7 l0 7) ∧ (F 7 l0 7) < 400 then zbind (f_Scribe_gridPlace K l0 (B 8 (F 7 l0 0) 224 (F 7 l0 7)) F B) (fun r19 F19 B19 => if r64 r19 then if r64 (F19 7 l0 5) then (if (zcmp r19 (F19 7 l0 5)) = 0 then if 0 ≤ (F19 7 l0 0) ∧ (F19 7 l0 0) < K.2 8 then if 0 ≤ (F19 7 l0 7) ∧ (F19 7 l0 7) < 400 then zbind (f_Scribe_gridPlace K l0 (B19 8 (F19 7 l0 0) 225 (F19 7 l0 7)) F19 B19) (fun r25 F25 B25 => if r64 (F19 7 l0 6) then if r64 r25 then if 0 ≤ (F25 7 l0 0) ∧ (F25 7 l0 0) < K.2 8 then if 0 ≤ (F25 7 l0 7) ∧ (F25 7 l0 7) < 400 then if 0 ≤ (zand (B25 8 (F25 7 l0 0) 222 (F25 7 l0 7)) 127) ∧ (zand (B25 8 (F25 7 l0 0) 222 (F25 7 l0 7)) 127) < 128 then f_Scribe_gatherEvent_58 K n l0 l2 (zup3 (zup3 F25 7 l0 6 (zmax (F19 7 l0 6) r25)) 7 l0 7 ((F25 7 l0 7) + 1)) (zup4 B25 7 l0 8 (zand (B25 8 (F25 7 l0 0) 222 (F25 7 l0 7)) 127) 1) else none else none else none else none else none) else none else none else f_Scribe_gatherEvent_158 K l0 l2 F19 B19) else none else none) else none else none) else none else none else none) = some (r, F9, B9) := hf
    refine lv_aload_n hx hb d_9_6_58 rfl (lv_at hl 0 rfl) ?_
    obtain ⟨g13, hf⟩ := gif hf
    refine zget (ci := 7) (C := RX7) (T := TX7) (v := .int (iI (F 7 l0 7))) (k := 7) hx hb hts inW_7 hown hK hZ g13.1 g13.2 rfl (by decide) k_2_105 rfl d_9_6_59 ?_
    refine lv_iload_n hx hb d_9_6_62 rfl (lv_at hl 1 rfl) ?_
    obtain ⟨g14, hf⟩ := gif hf
    obtain ⟨g15, hf⟩ := gif hf
    refine zge (tgt := 158) hx hb g14 g15 d_9_6_63 (by decide) (fun h16 => ?_) (fun h16 => ?_)
    · replace hf := gpos hf h16
      exact b_Scribe_gatherEvent_158 X hf hZ hS (lv_sub hl [0, 1] rfl)
    · replace hf := gneg hf h16
      refine lv_aload_n hx hb d_9_6_66 rfl (lv_at hl 0 rfl) ?_
      refine lv_aload_n hx hb d_9_6_67 rfl (lv_at hl 0 rfl) ?_
      refine zget (ci := 7) (C := RX7) (T := TX7) (v := va_rf (zrf ad 8 (F 7 l0 0))) (k := 0) hx hb hts inW_7 hown hK hZ g13.1 g13.2 rfl (by decide) k_2_98 rfl d_9_6_68 ?_
      obtain ⟨g17, hf⟩ := gif hf
      refine zunrf g17.1 ?_
      refine zget (ci := 8) (C := RX8) (T := TX8) (v := .ref (ad 8 (F 7 l0 0) (1 + 1))) (k := 1) hx hb hts inW_8 hown hK hZ g17.1 g17.2 rfl (by decide) k_7_221 rfl d_9_6_71 ?_
      refine lv_iconst (v := iI 4) hx hb d_9_6_74 rfl ?_
      refine zaldQ (t := 1) (ci := 8) (k := 1) hx hb hK rfl hZ g17.1 g17.2 rfl (Nat.le_of_ble_eq_true rfl) (by decide) (by decide) d_9_6_75 ?_
      refine W.eq (g2 := F0 m 76 ls [.ref (ad 8 (F 7 l0 0) (224 + 1)), .ref (ad 7 l0 0)]) rfl ?_
      refine lv_aload_n hx hb d_9_6_76 rfl (lv_at hl 0 rfl) ?_
      refine zget (ci := 7) (C := RX7) (T := TX7) (v := .int (iI (F 7 l0 7))) (k := 7) hx hb hts inW_7 hown hK hZ g13.1 g13.2 rfl (by decide) k_2_105 rfl d_9_6_77 ?_
      obtain ⟨g18, hf⟩ := gif hf
      refine zlald (ci := 8) (k := 224) hx hb hK rfl hZ g17.1 g17.2 rfl (Nat.le_of_ble_eq_true rfl) g18.1 g18.2 d_9_6_80 ?_
      obtain ⟨r19, F19, B19, hc19, hf⟩ := gbind hf
      refine va_calll (va_runV (As := [.long (lI (B 8 (F 7 l0 0) 224 (F 7 l0 7)))]) (rest := []) ⟨hx, hb, hml, hown, hts⟩ (c_Scribe_gridPlace (l := l) hc19) (cwV 1 hts (gdV k_8_156 k_8_158 ks_114 k_1_7 k_8_159) rfl rfl rfl (by decide +kernel) ⟨Nat.le_of_ble_eq_true rfl, Nat.le_of_ble_eq_true rfl⟩) (zPV X hZ hS (ci := 7) g13.1 g13.2 (r := (RX7, TX7, 9)) rfl [.long (lI (B 8 (F 7 l0 0) 224 (F 7 l0 7)))]) rfl rfl hl.1 rfl (lv_room (Nat.le_of_ble_eq_true rfl)) d_9_6_81 ⟨Nat.le_of_ble_eq_true rfl, Nat.le_of_ble_eq_true rfl⟩) hS (fun q _ h => zAin X hS q h) (zAin X hS) (fun p19 u19 t19 H19 locs19 ht19 hv19 hw19 hB19 hz19 hk19 hS19 => ?_)
      have hZ19 := zBack X ht19 hB19
      subst hw19
      refine lv_aload_n hx hb d_9_6_84 rfl (lv_at hl 0 rfl) ?_
      refine zget (ci := 7) (C := RX7) (T := TX7) (v := .long (lI (F19 7 l0 5))) (k := 5) hx hb hts inW_7 hown hK hZ19 g13.1 g13.2 rfl (by decide) k_2_103 rfl d_9_6_85 ?_
      obtain ⟨g20, hf⟩ := gif hf
      obtain ⟨g21, hf⟩ := gif hf
      refine zcmp_r hx hb g20 g21 d_9_6_88 ?_
      refine z0ne (tgt := 158) hx hb zcmp_32 d_9_6_89 (by decide) (fun h22 => ?_) (fun h22 => ?_)
      · replace hf := gneg hf h22
        exact b_Scribe_gatherEvent_158 X hf hZ19 hS19 (lv_sub hl [0, 1] rfl)
      · replace hf := gpos hf h22
        refine lv_aload_n hx hb d_9_6_92 rfl (lv_at hl 0 rfl) ?_
        refine lv_aload_n hx hb d_9_6_93 rfl (lv_at hl 0 rfl) ?_
        refine zget (ci := 7) (C := RX7) (T := TX7) (v := .long (lI (F19 7 l0 6))) (k := 6) hx hb hts inW_7 hown hK hZ19 g13.1 g13.2 rfl (by decide) k_2_104 rfl d_9_6_94 ?_
        refine lv_aload_n hx hb d_9_6_97 rfl (lv_at hl 0 rfl) ?_
        refine lv_aload_n hx hb d_9_6_98 rfl (lv_at hl 0 rfl) ?_
        refine zget (ci := 7) (C := RX7) (T := TX7) (v := va_rf (zrf ad 8 (F19 7 l0 0))) (k := 0) hx hb hts inW_7 hown hK hZ19 g13.1 g13.2 rfl (by decide) k_2_98 rfl d_9_6_99 ?_
        obtain ⟨g23, hf⟩ := gif hf
        refine zunrf g23.1 ?_
        refine zget (ci := 8) (C := RX8) (T := TX8) (v := .ref (ad 8 (F19 7 l0 0) (1 + 1))) (k := 1) hx hb hts inW_8 hown hK hZ19 g23.1 g23.2 rfl (by decide) k_7_221 rfl d_9_6_102 ?_
        refine lv_iconst (v := iI 5) hx hb d_9_6_105 rfl ?_
        refine zaldQ (t := 1) (ci := 8) (k := 1) hx hb hK rfl hZ19 g23.1 g23.2 rfl (Nat.le_of_ble_eq_true rfl) (by decide) (by decide) d_9_6_106 ?_
        refine W.eq (g2 := F0 m 107 ls [.ref (ad 8 (F19 7 l0 0) (225 + 1)), .ref (ad 7 l0 0), .long (lI (F19 7 l0 6)), .ref (ad 7 l0 0)]) rfl ?_
        refine lv_aload_n hx hb d_9_6_107 rfl (lv_at hl 0 rfl) ?_
        refine zget (ci := 7) (C := RX7) (T := TX7) (v := .int (iI (F19 7 l0 7))) (k := 7) hx hb hts inW_7 hown hK hZ19 g13.1 g13.2 rfl (by decide) k_2_105 rfl d_9_6_108 ?_
        obtain ⟨g24, hf⟩ := gif hf
        refine zlald (ci := 8) (k := 225) hx hb hK rfl hZ19 g23.1 g23.2 rfl (Nat.le_of_ble_eq_true rfl) g24.1 g24.2 d_9_6_111 ?_
        obtain ⟨r25, F25, B25, hc25, hf⟩ := gbind hf
        refine va_calll (va_runV (As := [.long (lI (B19 8 (F19 7 l0 0) 225 (F19 7 l0 7)))]) (rest := [.long (lI (F19 7 l0 6)), .ref (ad 7 l0 0)]) ⟨hx, hb, hml, hown, hts⟩ (c_Scribe_gridPlace (l := l) hc25) (cwV 1 hts (gdV k_8_156 k_8_158 ks_114 k_1_7 k_8_159) rfl rfl rfl (by decide +kernel) ⟨Nat.le_of_ble_eq_true rfl, Nat.le_of_ble_eq_true rfl⟩) (zPV X hZ19 hS19 (ci := 7) g13.1 g13.2 (r := (RX7, TX7, 9)) rfl [.long (lI (B19 8 (F19 7 l0 0) 225 (F19 7 l0 7)))]) rfl rfl hl.1 rfl (lv_room (Nat.le_of_ble_eq_true rfl)) d_9_6_112 ⟨Nat.le_of_ble_eq_true rfl, Nat.le_of_ble_eq_true rfl⟩) hS19 (fun q _ h => zAin X hS19 q h) (zAin X hS19) (fun p25 u25 t25 H25 locs25 ht25 hv25 hw25 hB25 hz25 hk25 hS25 => ?_)
        have hZ25 := zBack X ht25 hB25
        subst hw25
        obtain ⟨g26, hf⟩ := gif hf
        obtain ⟨g27, hf⟩ := gif hf
        refine va_mmax_long hx hb (by rw [hml]; exact hl.1.symm) hown (hts _ k_8_163) (hts _ k_5_176) (hts _ k_1_3) (hts _ k_5_177) (Nat.le_of_ble_eq_true rfl) (Nat.le_of_ble_eq_true rfl) (Nat.le_of_ble_eq_true rfl) (Nat.le_of_ble_eq_true rfl) d_9_6_115 ?_
        rw [zlmax_e g26 g27]
        refine zput (ci := 7) (C := RX7) (T := TX7) (k := 6) (v := (zmax (F19 7 l0 6) r25)) (w := .long (lI (zmax (F19 7 l0 6) r25))) hx hb hts inW_7 tyX7 tyX7_ok nmX7 hown hK hZ25 hS25 g13.1 g13.2 rfl (by decide) k_2_104 rfl (fun G h => congrArg (fun q => Value.long (lI q)) h) rfl rfl (zno (by decide)) d_9_6_118 (fun H28 locs28 hZ28 hS28 => ?_)
        refine lv_aload_n hx hb d_9_6_121 rfl (lv_at hl 0 rfl) ?_
        refine zget (ci := 7) (C := RX7) (T := TX7) (v := .ref (ad 7 l0 (8 + 1))) (k := 8) hx hb hts inW_7 hown hK hZ28 g13.1 g13.2 rfl (by decide) k_2_106 rfl d_9_6_122 ?_
        refine lv_aload_n hx hb d_9_6_125 rfl (lv_at hl 0 rfl) ?_
        refine zget (ci := 7) (C := RX7) (T := TX7) (v := va_rf (zrf ad 8 (F25 7 l0 0))) (k := 0) hx hb hts inW_7 hown hK hZ28 g13.1 g13.2 rfl (by decide) k_2_98 (congrArg (fun q : Int => va_rf (zrf ad 8 q)) (show (zup3 F25 7 l0 6 (zmax (F19 7 l0 6) r25)) 7 l0 0 = F25 7 l0 0 by simp [zup3])) d_9_6_126 ?_
        obtain ⟨g29, hf⟩ := gif hf
        refine zunrf g29.1 ?_
        refine zget (ci := 8) (C := RX8) (T := TX8) (v := .ref (ad 8 (F25 7 l0 0) (1 + 1))) (k := 1) hx hb hts inW_8 hown hK hZ28 g29.1 g29.2 rfl (by decide) k_7_221 rfl d_9_6_129 ?_
        refine lv_iconst (v := iI 2) hx hb d_9_6_132 rfl ?_
        refine zaldQ (t := 1) (ci := 8) (k := 1) hx hb hK rfl hZ28 g29.1 g29.2 rfl (Nat.le_of_ble_eq_true rfl) (by decide) (by decide) d_9_6_133 ?_
        refine W.eq (g2 := F0 m 134 ls [.ref (ad 8 (F25 7 l0 0) (222 + 1)), .ref (ad 7 l0 (8 + 1))]) rfl ?_
        refine lv_aload_n hx hb d_9_6_134 rfl (lv_at hl 0 rfl) ?_
        refine zget (ci := 7) (C := RX7) (T := TX7) (v := .int (iI (F25 7 l0 7))) (k := 7) hx hb hts inW_7 hown hK hZ28 g13.1 g13.2 rfl (by decide) k_2_105 (congrArg (fun q : Int => Value.int (iI q)) (show (zup3 F25 7 l0 6 (zmax (F19 7 l0 6) r25)) 7 l0 7 = F25 7 l0 7 by simp [zup3])) d_9_6_135 ?_
        obtain ⟨g30, hf⟩ := gif hf
        refine zlald (ci := 8) (k := 222) hx hb hK rfl hZ28 g29.1 g29.2 rfl (Nat.le_of_ble_eq_true rfl) g30.1 g30.2 d_9_6_138 ?_
        refine zl2iw hx hb d_9_6_139 ?_
        refine lv_bipush (v := iI 127) hx hb d_9_6_140 (by decide) ?_
        refine zand_r hx hb d_9_6_142 ?_
        refine lv_iconst (v := iI 1) hx hb d_9_6_143 rfl ?_
        obtain ⟨g31, hf⟩ := gif hf
        refine zzast (ci := 7) (k := 8) hx hb hK rfl hZ28 hS28 g13.1 g13.2 rfl (Nat.le_of_ble_eq_true rfl) (by decide) g31.1 g31.2 d_9_6_144 (fun H33 locs33 hZ33 hS33 => ?_)
        refine lv_aload_n hx hb d_9_6_145 rfl (lv_at hl 0 rfl) ?_
        refine lv_dup hx hb d_9_6_146 rfl ?_
        refine zget (ci := 7) (C := RX7) (T := TX7) (v := .int (iI (F25 7 l0 7))) (k := 7) hx hb hts inW_7 hown hK hZ33 g13.1 g13.2 rfl (by decide) k_2_105 (congrArg (fun q : Int => Value.int (iI q)) (show (zup3 F25 7 l0 6 (zmax (F19 7 l0 6) r25)) 7 l0 7 = F25 7 l0 7 by simp [zup3])) d_9_6_147 ?_
        refine lv_iconst (v := iI 1) hx hb d_9_6_150 rfl ?_
        refine zadd hx hb d_9_6_151 ?_
        refine zput (ci := 7) (C := RX7) (T := TX7) (k := 7) (v := ((F25 7 l0 7) + 1)) (w := .int (iI ((F25 7 l0 7) + 1))) hx hb hts inW_7 tyX7 tyX7_ok nmX7 hown hK hZ33 hS33 g13.1 g13.2 rfl (by decide) k_2_105 rfl (fun G h => congrArg (fun q => Value.int (iI q)) h) rfl rfl (zno (by decide)) d_9_6_152 (fun H34 locs34 hZ34 hS34 => ?_)
        refine lv_goto (tgt := 58) hx hb d_9_6_155 (by decide) ?_
        exact ih hf hZ34 hS34 (lv_sub hl [0, 1] rfl)

noncomputable def f_Scribe_gatherEvent_36 (K : zK) : Nat → Int → Int → Int → zF → zB → zO
  | 0, _, _, _, _, _ => none
  | n + 1, l3, l0, l2, F, B => if 0 ≤ l0 ∧ l0 < K.2 7 then if r32 l3 then (if 128 ≤ l3 then f_Scribe_gatherEvent_58 K K.1 l0 l2 F B else if 0 ≤ l3 ∧ l3 < 128 then f_Scribe_gatherEvent_36 K n (l3 + 1) l0 l2 F (zup4 B 7 l0 8 l3 0) else none) else none else none
set_option maxHeartbeats 4000000 in
set_option maxRecDepth 100000 in
theorem b_Scribe_gatherEvent_36 {D : va_G} {ca : Nat → ClassId} {ad : Nat → Int → Nat → Nat} {L : List Nat} {aS vS : Nat → Nat} {A : Nat → Prop} {p : Program} {l : Launch} {e : Env} {s : State} {m : MethodId} {args : Array Value} {below : List Frame} {meth : Method} {c : Code} {K : zK} {r : Int} {F9 : zF} {B9 : zB} (X : zX D ca L aS vS A p s m args meth c prog_9_method_6_code 4 (Option.none : Option Jvm.ClassFile.FieldType) "StaveHouse$Scribe") : ∀ {n : Nat} {l3 : Int} {l0 : Int} {l2 : Int} {F : zF} {B : zB} {H : Heap} {locs : List Loc} {ls : Array Slot}, f_Scribe_gatherEvent_36 K n l3 l0 l2 F B = some (r, F9, B9) → zH D ca ad lnC K.2 L F B A H → va_S A s.heap H locs → lv_has ls 4 [(3, .int (iI l3)), (0, .ref (ad 7 l0 0)), (2, .int (iI l2))] → W p l e ({ frames := 2, cells := 0, slots := 0, locals := 37 } : Room) s m args below meth c H locs 0 0 (MQ below (Q_Scribe_gatherEvent K D ca ad L r F9 B9 A) args s 0 0 A) (F0 m 36 ls []) := by
  obtain ⟨hx, hb, hr, hml, hown, hts, hlk, hK, hA, hL, hX⟩ := id X
  intro n
  induction n with
  | zero =>
    intros
    rename_i hf _ _ _
    cases hf
  | succ n ih =>
    intro l3 l0 l2 F B H locs ls hf hZ hS hl
    replace hf : (if 0 ≤ l0 ∧ l0 < K.2 7 then if r32 l3 then (if 128 ≤ l3 then f_Scribe_gatherEvent_58 K K.1 l0 l2 F B else if 0 ≤ l3 ∧ l3 < 128 then f_Scribe_gatherEvent_36 K n (l3 + 1) l0 l2 F (zup4 B 7 l0 8 l3 0) else none) else none else none) = some (r, F9, B9) := hf
    refine lv_iload_n hx hb d_9_6_36 rfl (lv_at hl 0 rfl) ?_
    refine lv_aload_n hx hb d_9_6_37 rfl (lv_at hl 1 rfl) ?_
    obtain ⟨g8, hf⟩ := gif hf
    refine zget (ci := 7) (C := RX7) (T := TX7) (v := .ref (ad 7 l0 (8 + 1))) (k := 8) hx hb hts inW_7 hown hK hZ g8.1 g8.2 rfl (by decide) k_2_106 rfl d_9_6_38 ?_
    refine zlen (t := 3) (x := 3) (ci := 7) (k := 8) hx hb hK rfl (fun _ _ => ⟨_, rfl⟩) hZ g8.1 g8.2 rfl d_9_6_41 ?_
    refine W.eq (g2 := F0 m 42 ls [.int (iI 128), .int (iI l3)]) rfl ?_
    obtain ⟨g9, hf⟩ := gif hf
    refine zge (tgt := 58) hx hb g9 (by decide) d_9_6_42 (by decide) (fun h10 => ?_) (fun h10 => ?_)
    · replace hf := gpos hf h10
      exact b_Scribe_gatherEvent_58 X hf hZ hS (lv_sub hl [1, 2] rfl)
    · replace hf := gneg hf h10
      refine lv_aload_n hx hb d_9_6_45 rfl (lv_at hl 1 rfl) ?_
      refine zget (ci := 7) (C := RX7) (T := TX7) (v := .ref (ad 7 l0 (8 + 1))) (k := 8) hx hb hts inW_7 hown hK hZ g8.1 g8.2 rfl (by decide) k_2_106 rfl d_9_6_46 ?_
      refine lv_iload_n hx hb d_9_6_49 rfl (lv_at hl 0 rfl) ?_
      refine lv_iconst (v := iI 0) hx hb d_9_6_50 rfl ?_
      obtain ⟨g11, hf⟩ := gif hf
      refine zzast (ci := 7) (k := 8) hx hb hK rfl hZ hS g8.1 g8.2 rfl (Nat.le_of_ble_eq_true rfl) (by decide) g11.1 g11.2 d_9_6_51 (fun H12 locs12 hZ12 hS12 => ?_)
      refine lv_iinc (v := iI (l3 + 1)) (lv' := [(3, .int (iI (l3 + 1))), (0, .ref (ad 7 l0 0)), (2, .int (iI l2))]) hx hb d_9_6_52 hl (k := 0) rfl (iI_add _ 1) (by decide) rfl (fun ls hl => ?_)
      refine lv_goto (tgt := 36) hx hb d_9_6_55 (by decide) ?_
      exact ih hf hZ12 hS12 (lv_sub hl [0, 1, 2] rfl)

noncomputable def f_Scribe_gatherEvent (K : zK) (l0 : Int) (l1 : Int) (l2 : Int) (F : zF) (B : zB) : zO := if 0 ≤ l0 ∧ l0 < K.2 7 then if 0 ≤ (F 7 l0 0) ∧ (F 7 l0 0) < K.2 8 then if 0 ≤ l1 ∧ l1 < 400 then zbind (f_Scribe_gridPlace K l0 (B 8 (F 7 l0 0) 224 l1) F B) (fun r4 F4 B4 => f_Scribe_gatherEvent_36 K K.1 0 l0 l2 (zup3 (zup3 (zup3 F4 7 l0 5 r4) 7 l0 6 (r4 + 1)) 7 l0 7 l1) B4) else none else none else none
set_option maxHeartbeats 4000000 in
set_option maxRecDepth 100000 in
theorem c_Scribe_gatherEvent {l : Launch} {D : va_G} {ca : Nat → ClassId} {ad : Nat → Int → Nat → Nat} {L : List Nat} {aS vS : Nat → Nat} {sz : Nat} {K : zK}  {l0 : Int} {l1 : Int} {l2 : Int} {F F9 : zF} {B B9 : zB} {r : Int} (hf : f_Scribe_gatherEvent K l0 l1 l2 F B = some (r, F9, B9)) : Met l ({ cls := "StaveHouse$Scribe", name := "gatherEvent", desc := "(II)V" } : Jvm.MethodName) (Cond.code ({ cls := "StaveHouse$Scribe", name := "gatherEvent", desc := "(II)V" } : Jvm.MethodName) prog_9_method_6_code 4 (Option.none : Option Jvm.ClassFile.FieldType) :: wAll) ({ frames := 2, cells := 0, slots := 0, locals := 37 } : Room) (va_Pc [.ref (ad 7 l0 0), .int (iI l1), .int (iI l2)] (zPre D ca ad lnC K.2 L aS vS F B sz)) (Q_Scribe_gatherEvent K D ca ad L r F9 B9 (zA L sz)) 0 0 (zA L sz) := by
  refine zMet (Qc := Q_Scribe_gatherEvent K D ca ad L r F9 B9) (lv := [(0, .ref (ad 7 l0 0)), (1, .int (iI l1)), (2, .int (iI l2))]) (by decide) (Nat.le_of_ble_eq_true rfl) rfl (fun A p e s m below meth c ls X hZ hS hl => ?_)
  obtain ⟨hx, hb, hr, hml, hown, hts, hlk, hK, hA, hL, hX⟩ := id X
  replace hf : (if 0 ≤ l0 ∧ l0 < K.2 7 then if 0 ≤ (F 7 l0 0) ∧ (F 7 l0 0) < K.2 8 then if 0 ≤ l1 ∧ l1 < 400 then zbind (f_Scribe_gridPlace K l0 (B 8 (F 7 l0 0) 224 l1) F B) (fun r4 F4 B4 => f_Scribe_gatherEvent_36 K K.1 0 l0 l2 (zup3 (zup3 (zup3 F4 7 l0 5 r4) 7 l0 6 (r4 + 1)) 7 l0 7 l1) B4) else none else none else none) = some (r, F9, B9) := hf
  refine lv_aload_n hx hb d_9_6_0 rfl (lv_at hl 0 rfl) ?_
  refine lv_aload_n hx hb d_9_6_1 rfl (lv_at hl 0 rfl) ?_
  refine lv_aload_n hx hb d_9_6_2 rfl (lv_at hl 0 rfl) ?_
  obtain ⟨g1, hf⟩ := gif hf
  refine zget (ci := 7) (C := RX7) (T := TX7) (v := va_rf (zrf ad 8 (F 7 l0 0))) (k := 0) hx hb hts inW_7 hown hK hZ g1.1 g1.2 rfl (by decide) k_2_98 rfl d_9_6_3 ?_
  obtain ⟨g2, hf⟩ := gif hf
  refine zunrf g2.1 ?_
  refine zget (ci := 8) (C := RX8) (T := TX8) (v := .ref (ad 8 (F 7 l0 0) (1 + 1))) (k := 1) hx hb hts inW_8 hown hK hZ g2.1 g2.2 rfl (by decide) k_7_221 rfl d_9_6_6 ?_
  refine lv_iconst (v := iI 4) hx hb d_9_6_9 rfl ?_
  refine zaldQ (t := 1) (ci := 8) (k := 1) hx hb hK rfl hZ g2.1 g2.2 rfl (Nat.le_of_ble_eq_true rfl) (by decide) (by decide) d_9_6_10 ?_
  refine W.eq (g2 := F0 m 11 ls [.ref (ad 8 (F 7 l0 0) (224 + 1)), .ref (ad 7 l0 0), .ref (ad 7 l0 0)]) rfl ?_
  refine lv_iload_n hx hb d_9_6_11 rfl (lv_at hl 1 rfl) ?_
  obtain ⟨g3, hf⟩ := gif hf
  refine zlald (ci := 8) (k := 224) hx hb hK rfl hZ g2.1 g2.2 rfl (Nat.le_of_ble_eq_true rfl) g3.1 g3.2 d_9_6_12 ?_
  obtain ⟨r4, F4, B4, hc4, hf⟩ := gbind hf
  refine va_calll (va_runV (As := [.long (lI (B 8 (F 7 l0 0) 224 l1))]) (rest := [.ref (ad 7 l0 0)]) ⟨hx, hb, hml, hown, hts⟩ (c_Scribe_gridPlace (l := l) hc4) (cwV 1 hts (gdV k_8_156 k_8_158 ks_114 k_1_7 k_8_159) rfl rfl rfl (by decide +kernel) ⟨Nat.le_of_ble_eq_true rfl, Nat.le_of_ble_eq_true rfl⟩) (zPV X hZ hS (ci := 7) g1.1 g1.2 (r := (RX7, TX7, 9)) rfl [.long (lI (B 8 (F 7 l0 0) 224 l1))]) rfl rfl hl.1 rfl (lv_room (Nat.le_of_ble_eq_true rfl)) d_9_6_13 ⟨Nat.le_of_ble_eq_true rfl, Nat.le_of_ble_eq_true rfl⟩) hS (fun q _ h => zAin X hS q h) (zAin X hS) (fun p4 u4 t4 H4 locs4 ht4 hv4 hw4 hB4 hz4 hk4 hS4 => ?_)
  have hZ4 := zBack X ht4 hB4
  subst hw4
  refine zput (ci := 7) (C := RX7) (T := TX7) (k := 5) (v := r4) (w := .long (lI r4)) hx hb hts inW_7 tyX7 tyX7_ok nmX7 hown hK hZ4 hS4 g1.1 g1.2 rfl (by decide) k_2_103 rfl (fun G h => congrArg (fun q => Value.long (lI q)) h) rfl rfl (zno (by decide)) d_9_6_16 (fun H5 locs5 hZ5 hS5 => ?_)
  refine lv_aload_n hx hb d_9_6_19 rfl (lv_at hl 0 rfl) ?_
  refine lv_aload_n hx hb d_9_6_20 rfl (lv_at hl 0 rfl) ?_
  refine zget (ci := 7) (C := RX7) (T := TX7) (v := .long (lI r4)) (k := 5) hx hb hts inW_7 hown hK hZ5 g1.1 g1.2 rfl (by decide) k_2_103 (congrArg (fun q : Int => Value.long (lI q)) (show (zup3 F4 7 l0 5 r4) 7 l0 5 = r4 by simp [zup3])) d_9_6_21 ?_
  refine lv_lconst (v := lI 1) hx hb d_9_6_24 (by decide) ?_
  refine zladd hx hb d_9_6_25 ?_
  refine zput (ci := 7) (C := RX7) (T := TX7) (k := 6) (v := (r4 + 1)) (w := .long (lI (r4 + 1))) hx hb hts inW_7 tyX7 tyX7_ok nmX7 hown hK hZ5 hS5 g1.1 g1.2 rfl (by decide) k_2_104 rfl (fun G h => congrArg (fun q => Value.long (lI q)) h) rfl rfl (zno (by decide)) d_9_6_26 (fun H6 locs6 hZ6 hS6 => ?_)
  refine lv_aload_n hx hb d_9_6_29 rfl (lv_at hl 0 rfl) ?_
  refine lv_iload_n hx hb d_9_6_30 rfl (lv_at hl 1 rfl) ?_
  refine zput (ci := 7) (C := RX7) (T := TX7) (k := 7) (v := l1) (w := .int (iI l1)) hx hb hts inW_7 tyX7 tyX7_ok nmX7 hown hK hZ6 hS6 g1.1 g1.2 rfl (by decide) k_2_105 rfl (fun G h => congrArg (fun q => Value.int (iI q)) h) rfl rfl (zno (by decide)) d_9_6_31 (fun H7 locs7 hZ7 hS7 => ?_)
  refine lv_iconst (v := iI 0) hx hb d_9_6_34 rfl ?_
  refine lv_istore_n (lv' := [(3, .int (iI 0)), (0, .ref (ad 7 l0 0)), (1, .int (iI l1)), (2, .int (iI l2))]) hx hb d_9_6_35 rfl hl (by decide) rfl (fun ls hl => ?_)
  exact b_Scribe_gatherEvent_36 X hf hZ7 hS7 (lv_sub hl [0, 1, 3] rfl)

noncomputable abbrev Q_Scribe_spellEvent (K : zK) (D : va_G) (ca : Nat → ClassId) (ad : Nat → Int → Nat → Nat) (L : List Nat) (r : Int) (F : zF) (B : zB) (A : Nat → Prop) : Array Value → State → Outcome → State → Prop := va_Qv (S := Unit) (fun _ => True) (fun _ => zPo D ca ad lnC K.2 L F B A) A
noncomputable def f_Scribe_spellEvent_50 (K : zK)  (F : zF) (B : zB) : zO := some (0, F, B)
set_option maxHeartbeats 4000000 in
set_option maxRecDepth 100000 in
theorem b_Scribe_spellEvent_50 {D : va_G} {ca : Nat → ClassId} {ad : Nat → Int → Nat → Nat} {L : List Nat} {aS vS : Nat → Nat} {A : Nat → Prop} {p : Program} {l : Launch} {e : Env} {s : State} {m : MethodId} {args : Array Value} {below : List Frame} {meth : Method} {c : Code} {K : zK} {r : Int} {F9 : zF} {B9 : zB} (X : zX D ca L aS vS A p s m args meth c prog_9_method_7_code 3 (Option.none : Option Jvm.ClassFile.FieldType) "StaveHouse$Scribe")  {F : zF} {B : zB} {H : Heap} {locs : List Loc} {ls : Array Slot} (hf : f_Scribe_spellEvent_50 K  F B = some (r, F9, B9)) (hZ : zH D ca ad lnC K.2 L F B A H) (hS : va_S A s.heap H locs) (hl : lv_has ls 3 []) : W p l e ({ frames := 2, cells := 0, slots := 0, locals := 50 } : Room) s m args below meth c H locs 0 0 (MQ below (Q_Scribe_spellEvent K D ca ad L r F9 B9 A) args s 0 0 A) (F0 m 50 ls []) := by
  obtain ⟨hx, hb, hr, hml, hown, hts, hlk, hK, hA, hL, hX⟩ := id X
  replace hf : (some (0, F, B)) = some (r, F9, B9) := hf
  cases hf
  exact W.vret hx hb hr (fun t ht hW => ⟨⟨(), rfl, trivial, by rw [ht]; exact hZ, va_K.moved hW.alike hK⟩, hS.F ht⟩) hS.2.2 d_9_7_50 hlk

noncomputable def f_Scribe_spellEvent_44 (rec12 : Int → Int → Int → zF → zB → zO) (K : zK) (l2 : Int) (l1 : Int) (l0 : Int) (F : zF) (B : zB) : zO := rec12 (l2 + 1) l1 l0 F B
set_option maxHeartbeats 4000000 in
set_option maxRecDepth 100000 in
theorem b_Scribe_spellEvent_44 {D : va_G} {ca : Nat → ClassId} {ad : Nat → Int → Nat → Nat} {L : List Nat} {aS vS : Nat → Nat} {A : Nat → Prop} {p : Program} {l : Launch} {e : Env} {s : State} {m : MethodId} {args : Array Value} {below : List Frame} {meth : Method} {c : Code} {K : zK} {r : Int} {F9 : zF} {B9 : zB} (X : zX D ca L aS vS A p s m args meth c prog_9_method_7_code 3 (Option.none : Option Jvm.ClassFile.FieldType) "StaveHouse$Scribe") {rec12 : Int → Int → Int → zF → zB → zO} (hrec12 : ∀ {l2 : Int} {l1 : Int} {l0 : Int} {F : zF} {B : zB} {H : Heap} {locs : List Loc} {ls : Array Slot}, rec12 l2 l1 l0 F B = some (r, F9, B9) → zH D ca ad lnC K.2 L F B A H → va_S A s.heap H locs → lv_has ls 3 [(2, .int (iI l2)), (1, .int (iI l1)), (0, .ref (ad 7 l0 0))] → W p l e ({ frames := 2, cells := 0, slots := 0, locals := 50 } : Room) s m args below meth c H locs 0 0 (MQ below (Q_Scribe_spellEvent K D ca ad L r F9 B9 A) args s 0 0 A) (F0 m 12 ls [])) {l2 : Int} {l1 : Int} {l0 : Int} {F : zF} {B : zB} {H : Heap} {locs : List Loc} {ls : Array Slot} (hf : f_Scribe_spellEvent_44 rec12 K l2 l1 l0 F B = some (r, F9, B9)) (hZ : zH D ca ad lnC K.2 L F B A H) (hS : va_S A s.heap H locs) (hl : lv_has ls 3 [(2, .int (iI l2)), (1, .int (iI l1)), (0, .ref (ad 7 l0 0))]) : W p l e ({ frames := 2, cells := 0, slots := 0, locals := 50 } : Room) s m args below meth c H locs 0 0 (MQ below (Q_Scribe_spellEvent K D ca ad L r F9 B9 A) args s 0 0 A) (F0 m 44 ls []) := by
  obtain ⟨hx, hb, hr, hml, hown, hts, hlk, hK, hA, hL, hX⟩ := id X
  replace hf : (rec12 (l2 + 1) l1 l0 F B) = some (r, F9, B9) := hf
  refine lv_iinc (v := iI (l2 + 1)) (lv' := [(2, .int (iI (l2 + 1))), (1, .int (iI l1)), (0, .ref (ad 7 l0 0))]) hx hb d_9_7_44 hl (k := 0) rfl (iI_add _ 1) (by decide) rfl (fun ls hl => ?_)
  refine lv_goto (tgt := 12) hx hb d_9_7_47 (by decide) ?_
  exact hrec12 hf hZ hS (lv_sub hl [0, 1, 2] rfl)

noncomputable def f_Scribe_spellEvent_12 (K : zK) : Nat → Int → Int → Int → zF → zB → zO
  | 0, _, _, _, _, _ => none
  | n + 1, l2, l1, l0, F, B => if 0 ≤ l0 ∧ l0 < K.2 7 then if r32 l2 then (if 128 ≤ l2 then f_Scribe_spellEvent_50 K F B else if r32 l1 then (if 6 ≤ l1 then f_Scribe_spellEvent_50 K F B else if 0 ≤ l2 ∧ l2 < 128 then if r32 (B 7 l0 8 l2) then (if (B 7 l0 8 l2) = 0 then f_Scribe_spellEvent_44 (f_Scribe_spellEvent_12 K n) K l2 l1 l0 F B else zbind (f_Scribe_spell K l0 l2 F B) (fun r12 F12 B12 => f_Scribe_spellEvent_44 (f_Scribe_spellEvent_12 K n) K l2 (l1 + 1) l0 F12 B12)) else none else none) else none) else none else none
set_option maxHeartbeats 4000000 in
set_option maxRecDepth 100000 in
theorem b_Scribe_spellEvent_12 {D : va_G} {ca : Nat → ClassId} {ad : Nat → Int → Nat → Nat} {L : List Nat} {aS vS : Nat → Nat} {A : Nat → Prop} {p : Program} {l : Launch} {e : Env} {s : State} {m : MethodId} {args : Array Value} {below : List Frame} {meth : Method} {c : Code} {K : zK} {r : Int} {F9 : zF} {B9 : zB} (X : zX D ca L aS vS A p s m args meth c prog_9_method_7_code 3 (Option.none : Option Jvm.ClassFile.FieldType) "StaveHouse$Scribe") : ∀ {n : Nat} {l2 : Int} {l1 : Int} {l0 : Int} {F : zF} {B : zB} {H : Heap} {locs : List Loc} {ls : Array Slot}, f_Scribe_spellEvent_12 K n l2 l1 l0 F B = some (r, F9, B9) → zH D ca ad lnC K.2 L F B A H → va_S A s.heap H locs → lv_has ls 3 [(2, .int (iI l2)), (1, .int (iI l1)), (0, .ref (ad 7 l0 0))] → W p l e ({ frames := 2, cells := 0, slots := 0, locals := 50 } : Room) s m args below meth c H locs 0 0 (MQ below (Q_Scribe_spellEvent K D ca ad L r F9 B9 A) args s 0 0 A) (F0 m 12 ls []) := by
  obtain ⟨hx, hb, hr, hml, hown, hts, hlk, hK, hA, hL, hX⟩ := id X
  intro n
  induction n with
  | zero =>
    intros
    rename_i hf _ _ _
    cases hf
  | succ n ih =>
    intro l2 l1 l0 F B H locs ls hf hZ hS hl
    replace hf : (if 0 ≤ l0 ∧ l0 < K.2 7 then if r32 l2 then (if 128 ≤ l2 then f_Scribe_spellEvent_50 K F B else if r32 l1 then (if 6 ≤ l1 then f_Scribe_spellEvent_50 K F B else if 0 ≤ l2 ∧ l2 < 128 then if r32 (B 7 l0 8 l2) then (if (B 7 l0 8 l2) = 0 then f_Scribe_spellEvent_44 (f_Scribe_spellEvent_12 K n) K l2 l1 l0 F B else zbind (f_Scribe_spell K l0 l2 F B) (fun r12 F12 B12 => f_Scribe_spellEvent_44 (f_Scribe_spellEvent_12 K n) K l2 (l1 + 1) l0 F12 B12)) else none else none) else none) else none else none) = some (r, F9, B9) := hf
    refine lv_iload_n hx hb d_9_7_12 rfl (lv_at hl 0 rfl) ?_
    refine lv_aload_n hx hb d_9_7_13 rfl (lv_at hl 2 rfl) ?_
    obtain ⟨g4, hf⟩ := gif hf
    refine zget (ci := 7) (C := RX7) (T := TX7) (v := .ref (ad 7 l0 (8 + 1))) (k := 8) hx hb hts inW_7 hown hK hZ g4.1 g4.2 rfl (by decide) k_2_106 rfl d_9_7_14 ?_
    refine zlen (t := 3) (x := 3) (ci := 7) (k := 8) hx hb hK rfl (fun _ _ => ⟨_, rfl⟩) hZ g4.1 g4.2 rfl d_9_7_17 ?_
    refine W.eq (g2 := F0 m 18 ls [.int (iI 128), .int (iI l2)]) rfl ?_
    obtain ⟨g5, hf⟩ := gif hf
    refine zge (tgt := 50) hx hb g5 (by decide) d_9_7_18 (by decide) (fun h6 => ?_) (fun h6 => ?_)
    · replace hf := gpos hf h6
      exact b_Scribe_spellEvent_50 X hf hZ hS (lv_sub hl [] rfl)
    · replace hf := gneg hf h6
      refine lv_iload_n hx hb d_9_7_21 rfl (lv_at hl 1 rfl) ?_
      refine lv_bipush (v := iI 6) hx hb d_9_7_22 (by decide) ?_
      obtain ⟨g7, hf⟩ := gif hf
      refine zge (tgt := 50) hx hb g7 (by decide) d_9_7_24 (by decide) (fun h8 => ?_) (fun h8 => ?_)
      · replace hf := gpos hf h8
        exact b_Scribe_spellEvent_50 X hf hZ hS (lv_sub hl [] rfl)
      · replace hf := gneg hf h8
        refine lv_aload_n hx hb d_9_7_27 rfl (lv_at hl 2 rfl) ?_
        refine zget (ci := 7) (C := RX7) (T := TX7) (v := .ref (ad 7 l0 (8 + 1))) (k := 8) hx hb hts inW_7 hown hK hZ g4.1 g4.2 rfl (by decide) k_2_106 rfl d_9_7_28 ?_
        refine lv_iload_n hx hb d_9_7_31 rfl (lv_at hl 0 rfl) ?_
        obtain ⟨g9, hf⟩ := gif hf
        refine zzald (ci := 7) (k := 8) hx hb hK rfl hZ g4.1 g4.2 rfl (Nat.le_of_ble_eq_true rfl) g9.1 g9.2 d_9_7_32 ?_
        obtain ⟨g10, hf⟩ := gif hf
        refine z0eq (tgt := 44) hx hb g10 d_9_7_33 (by decide) (fun h11 => ?_) (fun h11 => ?_)
        · replace hf := gpos hf h11
          exact b_Scribe_spellEvent_44 X ih hf hZ hS (lv_sub hl [0, 1, 2] rfl)
        · replace hf := gneg hf h11
          refine lv_iinc (v := iI (l1 + 1)) (lv' := [(1, .int (iI (l1 + 1))), (2, .int (iI l2)), (0, .ref (ad 7 l0 0))]) hx hb d_9_7_36 hl (k := 1) rfl (iI_add _ 1) (by decide) rfl (fun ls hl => ?_)
          refine lv_aload_n hx hb d_9_7_39 rfl (lv_at hl 2 rfl) ?_
          refine lv_iload_n hx hb d_9_7_40 rfl (lv_at hl 1 rfl) ?_
          obtain ⟨r12, F12, B12, hc12, hf⟩ := gbind hf
          refine va_callv (va_runV (As := [.int (iI l2)]) (rest := []) ⟨hx, hb, hml, hown, hts⟩ (c_Scribe_spell (l := l) hc12) (cwV 1 hts (gdV k_8_226 k_8_228 ks_122 k_1_7 k_8_229) rfl rfl rfl (by decide +kernel) ⟨Nat.le_of_ble_eq_true rfl, Nat.le_of_ble_eq_true rfl⟩) (zPV X hZ hS (ci := 7) g4.1 g4.2 (r := (RX7, TX7, 9)) rfl [.int (iI l2)]) rfl rfl hl.1 rfl (lv_room (Nat.le_of_ble_eq_true rfl)) d_9_7_41 ⟨Nat.le_of_ble_eq_true rfl, Nat.le_of_ble_eq_true rfl⟩) hS (fun q _ h => zAin X hS q h) (zAin X hS) (fun u12 t12 H12 locs12 ht12 hv12 hw12 hB12 hz12 hk12 hS12 => ?_)
          have hZ12 := zBack X ht12 hB12
          exact b_Scribe_spellEvent_44 X ih hf hZ12 hS12 (lv_sub hl [1, 0, 2] rfl)

noncomputable def f_Scribe_spellEvent (K : zK) (l0 : Int) (F : zF) (B : zB) : zO := if 0 ≤ l0 ∧ l0 < K.2 7 then if 0 ≤ (F 7 l0 4) ∧ (F 7 l0 4) < K.2 1 then f_Scribe_spellEvent_12 K K.1 0 0 l0 (zup3 F 1 (F 7 l0 4) 10 0) B else none else none
set_option maxHeartbeats 4000000 in
set_option maxRecDepth 100000 in
theorem c_Scribe_spellEvent {l : Launch} {D : va_G} {ca : Nat → ClassId} {ad : Nat → Int → Nat → Nat} {L : List Nat} {aS vS : Nat → Nat} {sz : Nat} {K : zK}  {l0 : Int} {F F9 : zF} {B B9 : zB} {r : Int} (hf : f_Scribe_spellEvent K l0 F B = some (r, F9, B9)) : Met l ({ cls := "StaveHouse$Scribe", name := "spellEvent", desc := "()V" } : Jvm.MethodName) (Cond.code ({ cls := "StaveHouse$Scribe", name := "spellEvent", desc := "()V" } : Jvm.MethodName) prog_9_method_7_code 3 (Option.none : Option Jvm.ClassFile.FieldType) :: wAll) ({ frames := 2, cells := 0, slots := 0, locals := 50 } : Room) (va_Pc [.ref (ad 7 l0 0)] (zPre D ca ad lnC K.2 L aS vS F B sz)) (Q_Scribe_spellEvent K D ca ad L r F9 B9 (zA L sz)) 0 0 (zA L sz) := by
  refine zMet (Qc := Q_Scribe_spellEvent K D ca ad L r F9 B9) (lv := [(0, .ref (ad 7 l0 0))]) (by decide) (Nat.le_of_ble_eq_true rfl) rfl (fun A p e s m below meth c ls X hZ hS hl => ?_)
  obtain ⟨hx, hb, hr, hml, hown, hts, hlk, hK, hA, hL, hX⟩ := id X
  replace hf : (if 0 ≤ l0 ∧ l0 < K.2 7 then if 0 ≤ (F 7 l0 4) ∧ (F 7 l0 4) < K.2 1 then f_Scribe_spellEvent_12 K K.1 0 0 l0 (zup3 F 1 (F 7 l0 4) 10 0) B else none else none) = some (r, F9, B9) := hf
  refine lv_aload_n hx hb d_9_7_0 rfl (lv_at hl 0 rfl) ?_
  obtain ⟨g1, hf⟩ := gif hf
  refine zget (ci := 7) (C := RX7) (T := TX7) (v := va_rf (zrf ad 1 (F 7 l0 4))) (k := 4) hx hb hts inW_7 hown hK hZ g1.1 g1.2 rfl (by decide) k_2_102 rfl d_9_7_1 ?_
  refine lv_iconst (v := iI 0) hx hb d_9_7_4 rfl ?_
  obtain ⟨g2, hf⟩ := gif hf
  refine W.eq (g2 := F0 m 5 ls [.int (iI 0), .ref (ad 1 (F 7 l0 4) 0)]) (by rw [zrf_pos (ad := ad) (t := 1) g2.1]; try rfl) ?_
  refine zput (ci := 1) (C := RX1) (T := TX1) (k := 10) (v := 0) (w := .int (iI 0)) hx hb hts inW_1 tyX1 tyX1_ok nmX1 hown hK hZ hS g2.1 g2.2 rfl (by decide) k_2_50 rfl (fun G h => congrArg (fun q => Value.int (iI q)) h) rfl rfl (zno (by decide)) d_9_7_5 (fun H3 locs3 hZ3 hS3 => ?_)
  refine lv_iconst (v := iI 0) hx hb d_9_7_8 rfl ?_
  refine lv_istore_n (lv' := [(1, .int (iI 0)), (0, .ref (ad 7 l0 0))]) hx hb d_9_7_9 rfl hl (by decide) rfl (fun ls hl => ?_)
  refine lv_iconst (v := iI 0) hx hb d_9_7_10 rfl ?_
  refine lv_istore_n (lv' := [(2, .int (iI 0)), (1, .int (iI 0)), (0, .ref (ad 7 l0 0))]) hx hb d_9_7_11 rfl hl (by decide) rfl (fun ls hl => ?_)
  exact b_Scribe_spellEvent_12 X hf hZ3 hS3 (lv_sub hl [0, 1, 2] rfl)

noncomputable abbrev Q_Performance_level (K : zK) (D : va_G) (ca : Nat → ClassId) (ad : Nat → Int → Nat → Nat) (L : List Nat) (r : Int) (F : zF) (B : zB) (A : Nat → Prop) : Array Value → State → Outcome → State → Prop := va_Qi (S := Unit) (fun p _ => p = iI r) (fun _ => zPo D ca ad lnC K.2 L F B A) A
noncomputable def f_Performance_level_28 (K : zK) (s0 : Int) (F : zF) (B : zB) : zO := some (s0, F, B)
set_option maxHeartbeats 4000000 in
set_option maxRecDepth 100000 in
theorem b_Performance_level_28 {D : va_G} {ca : Nat → ClassId} {ad : Nat → Int → Nat → Nat} {L : List Nat} {aS vS : Nat → Nat} {A : Nat → Prop} {p : Program} {l : Launch} {e : Env} {s : State} {m : MethodId} {args : Array Value} {below : List Frame} {meth : Method} {c : Code} {K : zK} {r : Int} {F9 : zF} {B9 : zB} (X : zX D ca L aS vS A p s m args meth c prog_7_method_29_code 2 (Option.some Jvm.ClassFile.FieldType.int) "StaveHouse$Performance") {s0 : Int} {F : zF} {B : zB} {H : Heap} {locs : List Loc} {ls : Array Slot} (hf : f_Performance_level_28 K s0 F B = some (r, F9, B9)) (hZ : zH D ca ad lnC K.2 L F B A H) (hS : va_S A s.heap H locs) (hl : lv_has ls 2 []) : W p l e ({ frames := 2, cells := 0, slots := 0, locals := 33 } : Room) s m args below meth c H locs 0 0 (MQ below (Q_Performance_level K D ca ad L r F9 B9 A) args s 0 0 A) (F0 m 28 ls [.int (iI s0)]) := by
  obtain ⟨hx, hb, hr, hml, hown, hts, hlk, hK, hA, hL, hX⟩ := id X
  replace hf : (some (s0, F, B)) = some (r, F9, B9) := hf
  cases hf
  exact W.iret hx hb hr (fun t ht hW => ⟨⟨_, (), rfl, rfl, by rw [ht]; exact hZ, va_K.moved hW.alike hK⟩, hS.F ht⟩) hS.2.2 d_7_29_28 hlk

noncomputable def f_Performance_level (K : zK) (l0 : Int) (l1 : Int) (F : zF) (B : zB) : zO := if r32 l0 then if r32 l1 then (if l1 ≤ l0 then zbind (f_Performance_rise K l1 F B) (fun r4 F4 B4 => f_Performance_level_28 K (zdv (r4 * (400 - (l0 - l1))) 400) F4 B4) else zbind (f_Performance_rise K l0 F B) (fun r5 F5 B5 => f_Performance_level_28 K r5 F5 B5)) else none else none
set_option maxHeartbeats 4000000 in
set_option maxRecDepth 100000 in
theorem c_Performance_level {l : Launch} {D : va_G} {ca : Nat → ClassId} {ad : Nat → Int → Nat → Nat} {L : List Nat} {aS vS : Nat → Nat} {sz : Nat} {K : zK}  {l0 : Int} {l1 : Int} {F F9 : zF} {B B9 : zB} {r : Int} (hf : f_Performance_level K l0 l1 F B = some (r, F9, B9)) : Met l ({ cls := "StaveHouse$Performance", name := "level", desc := "(II)I" } : Jvm.MethodName) (Cond.code ({ cls := "StaveHouse$Performance", name := "level", desc := "(II)I" } : Jvm.MethodName) prog_7_method_29_code 2 (Option.some Jvm.ClassFile.FieldType.int) :: wAll) ({ frames := 2, cells := 0, slots := 0, locals := 33 } : Room) (va_Pc [.int (iI l0), .int (iI l1)] (zPre D ca ad lnC K.2 L aS vS F B sz)) (Q_Performance_level K D ca ad L r F9 B9 (zA L sz)) 0 0 (zA L sz) := by
  refine zMet (Qc := Q_Performance_level K D ca ad L r F9 B9) (lv := [(0, .int (iI l0)), (1, .int (iI l1))]) (by decide) (Nat.le_of_ble_eq_true rfl) rfl (fun A p e s m below meth c ls X hZ hS hl => ?_)
  obtain ⟨hx, hb, hr, hml, hown, hts, hlk, hK, hA, hL, hX⟩ := id X
  replace hf : (if r32 l0 then if r32 l1 then (if l1 ≤ l0 then zbind (f_Performance_rise K l1 F B) (fun r4 F4 B4 => f_Performance_level_28 K (zdv (r4 * (400 - (l0 - l1))) 400) F4 B4) else zbind (f_Performance_rise K l0 F B) (fun r5 F5 B5 => f_Performance_level_28 K r5 F5 B5)) else none else none) = some (r, F9, B9) := hf
  refine lv_iload_n hx hb d_7_29_0 rfl (lv_at hl 0 rfl) ?_
  refine lv_iload_n hx hb d_7_29_1 rfl (lv_at hl 1 rfl) ?_
  obtain ⟨g1, hf⟩ := gif hf
  obtain ⟨g2, hf⟩ := gif hf
  refine zge (tgt := 12) hx hb g1 g2 d_7_29_2 (by decide) (fun h3 => ?_) (fun h3 => ?_)
  · replace hf := gpos hf h3
    refine lv_iload_n hx hb d_7_29_12 rfl (lv_at hl 1 rfl) ?_
    obtain ⟨r4, F4, B4, hc4, hf⟩ := gbind hf
    refine va_calli (va_runS (As := [.int (iI l1)]) (rest := []) ⟨hx, hb, hml, hown, hts⟩ (c_Performance_rise (l := l) hc4) (va_cwS 1 hts (gdS k_9_19 k_9_20 k_1_20 k_9_21) rfl rfl rfl (by decide +kernel) ⟨Nat.le_of_ble_eq_true rfl, Nat.le_of_ble_eq_true rfl⟩) (zPS X hZ hS [.int (iI l1)]) rfl rfl hl.1 rfl (lv_room (Nat.le_of_ble_eq_true rfl)) d_7_29_13 ⟨Nat.le_of_ble_eq_true rfl, Nat.le_of_ble_eq_true rfl⟩) hS (fun q _ h => zAin X hS q h) (zAin X hS) (fun p4 u4 t4 H4 locs4 ht4 hv4 hw4 hB4 hz4 hk4 hS4 => ?_)
    have hZ4 := zBack X ht4 hB4
    subst hw4
    refine lv_sipush (v := iI 400) hx hb d_7_29_16 (by decide) ?_
    refine lv_iload_n hx hb d_7_29_19 rfl (lv_at hl 0 rfl) ?_
    refine lv_iload_n hx hb d_7_29_20 rfl (lv_at hl 1 rfl) ?_
    refine zsub hx hb d_7_29_21 ?_
    refine zsub hx hb d_7_29_22 ?_
    refine zmul hx hb d_7_29_23 ?_
    refine lv_sipush (v := iI 400) hx hb d_7_29_24 (by decide) ?_
    refine zdv_r hx hb (by decide) d_7_29_27 ?_
    exact b_Performance_level_28 X hf hZ4 hS4 (lv_sub hl [] rfl)
  · replace hf := gneg hf h3
    refine lv_iload_n hx hb d_7_29_5 rfl (lv_at hl 0 rfl) ?_
    obtain ⟨r5, F5, B5, hc5, hf⟩ := gbind hf
    refine va_calli (va_runS (As := [.int (iI l0)]) (rest := []) ⟨hx, hb, hml, hown, hts⟩ (c_Performance_rise (l := l) hc5) (va_cwS 1 hts (gdS k_9_19 k_9_20 k_1_20 k_9_21) rfl rfl rfl (by decide +kernel) ⟨Nat.le_of_ble_eq_true rfl, Nat.le_of_ble_eq_true rfl⟩) (zPS X hZ hS [.int (iI l0)]) rfl rfl hl.1 rfl (lv_room (Nat.le_of_ble_eq_true rfl)) d_7_29_6 ⟨Nat.le_of_ble_eq_true rfl, Nat.le_of_ble_eq_true rfl⟩) hS (fun q _ h => zAin X hS q h) (zAin X hS) (fun p5 u5 t5 H5 locs5 ht5 hv5 hw5 hB5 hz5 hk5 hS5 => ?_)
    have hZ5 := zBack X ht5 hB5
    subst hw5
    refine lv_goto (tgt := 28) hx hb d_7_29_9 (by decide) ?_
    exact b_Performance_level_28 X hf hZ5 hS5 (lv_sub hl [] rfl)

noncomputable abbrev Q_Study_tonesAbove (K : zK) (D : va_G) (ca : Nat → ClassId) (ad : Nat → Int → Nat → Nat) (L : List Nat) (r : Int) (F : zF) (B : zB) (A : Nat → Prop) : Array Value → State → Outcome → State → Prop := va_Qi (S := Unit) (fun p _ => p = iI r) (fun _ => zPo D ca ad lnC K.2 L F B A) A
noncomputable def f_Study_tonesAbove (K : zK) (l0 : Int) (l1 : Int) (l2 : Int) (F : zF) (B : zB) : zO := if 0 ≤ l0 ∧ l0 < K.2 9 then if 0 ≤ (zrm (l1 + l2) 7) ∧ (zrm (l1 + l2) 7) < 7 then if r32 (B 9 l0 10 (zrm (l1 + l2) 7)) then (if (B 9 l0 10 (zrm (l1 + l2) 7)) = 0 then some (99, F, B) else if 0 ≤ (zrm (l1 + l2) 7) ∧ (zrm (l1 + l2) 7) < ztl 5 then zbind (f_Study_alterationOf K l0 (zrm (l1 + l2) 7) F B) (fun r6 F6 B6 => if 0 ≤ l1 ∧ l1 < ztl 5 then zbind (f_Study_alterationOf K l0 l1 F6 B6) (fun r8 F8 B8 => zbind (f_Math_floorMod K ((((ztv 5 (zrm (l1 + l2) 7)) + r6) - (ztv 5 l1)) - r8) 12 F8 B8) (fun r9 F9 B9 => some (r9, F9, B9))) else none) else none) else none else none else none
