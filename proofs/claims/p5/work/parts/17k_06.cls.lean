set_option maxHeartbeats 4000000 in
set_option maxRecDepth 100000 in
theorem b_Tokens_start_7 {D : va_G} {ca : Nat → ClassId} {ad : Nat → Int → Nat → Nat} {L : List Nat} {aS vS : Nat → Nat} {A : Nat → Prop} {p : Program} {l : Launch} {e : Env} {s : State} {m : MethodId} {args : Array Value} {below : List Frame} {meth : Method} {c : Code} {K : zK} {r : Int} {F9 : zF} {B9 : zB} (X : zX D ca L aS vS A p s m args meth c prog_12_method_2_code 7 (Option.none : Option Jvm.ClassFile.FieldType) "StaveHouse$Tokens") : ∀ {n : Nat} {l4 : Int} {l3 : Int} {l2 : Int} {l0 : Int} {l1 : Int} {F : zF} {B : zB} {H : Heap} {locs : List Loc} {ls : Array Slot}, f_Tokens_start_7 K n l4 l3 l2 l0 l1 F B = some (r, F9, B9) → zH D ca ad lnC K.2 L F B A H → va_S A s.heap H locs → lv_has ls 7 [(4, .int (iI l4)), (3, .int (iI l3)), (2, .int (iI l2)), (0, .ref (ad 10 l0 0)), (1, .ref (ad 0 l1 0))] → W p l e ({ frames := 4, cells := 0, slots := 0, locals := 91 } : Room) s m args below meth c H locs 0 0 (MQ below (Q_Tokens_start K D ca ad L r F9 B9 A) args s 0 0 A) (F0 m 7 ls []) := by
  obtain ⟨hx, hb, hr, hml, hown, hts, hlk, hK, hA, hL, hX⟩ := id X
  intro n
  induction n with
  | zero =>
    intros
    rename_i hf _ _ _
    cases hf
  | succ n ih =>
    intro l4 l3 l2 l0 l1 F B H locs ls hf hZ hS hl
    replace hf : (if r32 l4 then (if 3000 ≤ l4 then f_Tokens_start_135 K l3 l0 l1 F B else if 0 ≤ l1 ∧ l1 < K.2 0 then if r32 l2 then if r32 (F 0 l1 1) then (if (F 0 l1 1) ≤ l2 then f_Tokens_start_135 K l3 l0 l1 F B else zbind (f_ByteRow_at K l1 l2 F B) (fun r7 F7 B7 => zbind (f_Tokens_isBlank K r7 F7 B7) (fun r8 F8 B8 => if r32 r8 then (if r8 = 0 then zbind (f_Tokens_isRunByte K r7 F8 B8) (fun r11 F11 B11 => if r32 r11 then (if r11 = 0 then f_Tokens_start_63 (f_Tokens_start_7 K n) K r7 l4 l3 l2 l0 l1 (l2 + 1) F11 B11 else zbind (f_Tokens_runEnd K l1 l2 F11 B11) (fun r14 F14 B14 => f_Tokens_start_63 (f_Tokens_start_7 K n) K r7 l4 l3 l2 l0 l1 r14 F14 B14)) else none) else f_Tokens_start_129 (f_Tokens_start_7 K n) K (l2 + 1) l4 l3 l0 l1 F8 B8) else none))) else none else none else none) else none) = some (r, F9, B9) := hf
    refine lv_iload hx hb d_12_2_7 (lv_at hl 0 rfl) ?_
    refine lv_sipush (v := iI 3000) hx hb d_12_2_9 (by decide) ?_
    obtain ⟨g1, hf⟩ := gif hf
    refine zge (tgt := 135) hx hb g1 (by decide) d_12_2_12 (by decide) (fun h2 => ?_) (fun h2 => ?_)
    · replace hf := gpos hf h2
      exact b_Tokens_start_135 X hf hZ hS (lv_sub hl [1, 3, 4] rfl)
    · replace hf := gneg hf h2
      refine lv_iload_n hx hb d_12_2_15 rfl (lv_at hl 2 rfl) ?_
      refine lv_aload_n hx hb d_12_2_16 rfl (lv_at hl 4 rfl) ?_
      obtain ⟨g3, hf⟩ := gif hf
      refine zget (ci := 0) (C := RX0) (T := TX0) (v := .int (iI (F 0 l1 1))) (k := 1) hx hb hts inW_0 hown hK hZ g3.1 g3.2 rfl (by decide) k_1_44 rfl d_12_2_17 ?_
      obtain ⟨g4, hf⟩ := gif hf
      obtain ⟨g5, hf⟩ := gif hf
      refine zge (tgt := 135) hx hb g4 g5 d_12_2_20 (by decide) (fun h6 => ?_) (fun h6 => ?_)
      · replace hf := gpos hf h6
        exact b_Tokens_start_135 X hf hZ hS (lv_sub hl [1, 3, 4] rfl)
      · replace hf := gneg hf h6
        refine lv_aload_n hx hb d_12_2_23 rfl (lv_at hl 4 rfl) ?_
        refine lv_iload_n hx hb d_12_2_24 rfl (lv_at hl 2 rfl) ?_
        obtain ⟨r7, F7, B7, hc7, hf⟩ := gbind hf
        refine va_calli (va_runV (As := [.int (iI l2)]) (rest := []) ⟨hx, hb, hml, hown, hts⟩ (c_ByteRow_at (l := l) hc7) (cwV 1 hts (gdV k_3_34 k_3_35 k_3_36 k_1_2 k_3_37) rfl rfl rfl (by decide +kernel) ⟨Nat.le_of_ble_eq_true rfl, Nat.le_of_ble_eq_true rfl⟩) (zPV X hZ hS (ci := 0) g3.1 g3.2 (r := (RX0, TX0, 3)) rfl [.int (iI l2)]) rfl rfl hl.1 rfl (lv_room (Nat.le_of_ble_eq_true rfl)) d_12_2_25 ⟨Nat.le_of_ble_eq_true rfl, Nat.le_of_ble_eq_true rfl⟩) hS (fun q _ h => zAin X hS q h) (zAin X hS) (fun p7 u7 t7 H7 locs7 ht7 hv7 hw7 hB7 hz7 hk7 hS7 => ?_)
        have hZ7 := zBack X ht7 hB7
        subst hw7
        refine lv_istore (lv' := [(5, .int (iI r7)), (4, .int (iI l4)), (3, .int (iI l3)), (2, .int (iI l2)), (0, .ref (ad 10 l0 0)), (1, .ref (ad 0 l1 0))]) hx hb d_12_2_28 hl (by decide) rfl (fun ls hl => ?_)
        refine lv_iload hx hb d_12_2_30 (lv_at hl 0 rfl) ?_
        obtain ⟨r8, F8, B8, hc8, hf⟩ := gbind hf
        refine va_calli (va_runS (As := [.int (iI r7)]) (rest := []) ⟨hx, hb, hml, hown, hts⟩ (c_Tokens_isBlank (l := l) hc8) (va_cwS 1 hts (gdS k_3_38 k_3_39 k_1_5 k_3_40) rfl rfl rfl (by decide +kernel) ⟨Nat.le_of_ble_eq_true rfl, Nat.le_of_ble_eq_true rfl⟩) (zPS X hZ7 hS7 [.int (iI r7)]) rfl rfl hl.1 rfl (lv_room (Nat.le_of_ble_eq_true rfl)) d_12_2_32 ⟨Nat.le_of_ble_eq_true rfl, Nat.le_of_ble_eq_true rfl⟩) hS7 (fun q _ h => zAin X hS7 q h) (zAin X hS7) (fun p8 u8 t8 H8 locs8 ht8 hv8 hw8 hB8 hz8 hk8 hS8 => ?_)
        have hZ8 := zBack X ht8 hB8
        subst hw8
        obtain ⟨g9, hf⟩ := gif hf
        refine z0eq (tgt := 44) hx hb g9 d_12_2_35 (by decide) (fun h10 => ?_) (fun h10 => ?_)
        · replace hf := gpos hf h10
          refine lv_iload hx hb d_12_2_44 (lv_at hl 0 rfl) ?_
          obtain ⟨r11, F11, B11, hc11, hf⟩ := gbind hf
          refine va_calli (va_runS (As := [.int (iI r7)]) (rest := []) ⟨hx, hb, hml, hown, hts⟩ (c_Tokens_isRunByte (l := l) hc11) (va_cwS 1 hts (gdS k_3_41 k_3_42 k_1_5 k_3_43) rfl rfl rfl (by decide +kernel) ⟨Nat.le_of_ble_eq_true rfl, Nat.le_of_ble_eq_true rfl⟩) (zPS X hZ8 hS8 [.int (iI r7)]) rfl rfl hl.1 rfl (lv_room (Nat.le_of_ble_eq_true rfl)) d_12_2_46 ⟨Nat.le_of_ble_eq_true rfl, Nat.le_of_ble_eq_true rfl⟩) hS8 (fun q _ h => zAin X hS8 q h) (zAin X hS8) (fun p11 u11 t11 H11 locs11 ht11 hv11 hw11 hB11 hz11 hk11 hS11 => ?_)
          have hZ11 := zBack X ht11 hB11
          subst hw11
          obtain ⟨g12, hf⟩ := gif hf
          refine z0eq (tgt := 60) hx hb g12 d_12_2_49 (by decide) (fun h13 => ?_) (fun h13 => ?_)
          · replace hf := gpos hf h13
            refine lv_iload_n hx hb d_12_2_60 rfl (lv_at hl 3 rfl) ?_
            refine lv_iconst (v := iI 1) hx hb d_12_2_61 rfl ?_
            refine zadd hx hb d_12_2_62 ?_
            exact b_Tokens_start_63 X ih hf hZ11 hS11 (lv_sub hl [0, 1, 2, 3, 4, 5] rfl)
          · replace hf := gneg hf h13
            refine lv_aload_n hx hb d_12_2_52 rfl (lv_at hl 5 rfl) ?_
            refine lv_iload_n hx hb d_12_2_53 rfl (lv_at hl 3 rfl) ?_
            obtain ⟨r14, F14, B14, hc14, hf⟩ := gbind hf
            refine va_calli (va_runS (As := [.ref (ad 0 l1 0), .int (iI l2)]) (rest := []) ⟨hx, hb, hml, hown, hts⟩ (c_Tokens_runEnd (l := l) hc14) (va_cwS 2 hts (gdS k_3_50 k_3_51 k_1_5 k_3_52) rfl rfl rfl (by decide +kernel) ⟨Nat.le_of_ble_eq_true rfl, Nat.le_of_ble_eq_true rfl⟩) (zPS X hZ11 hS11 [.ref (ad 0 l1 0), .int (iI l2)]) rfl rfl hl.1 rfl (lv_room (Nat.le_of_ble_eq_true rfl)) d_12_2_54 ⟨Nat.le_of_ble_eq_true rfl, Nat.le_of_ble_eq_true rfl⟩) hS11 (fun q _ h => zAin X hS11 q h) (zAin X hS11) (fun p14 u14 t14 H14 locs14 ht14 hv14 hw14 hB14 hz14 hk14 hS14 => ?_)
            have hZ14 := zBack X ht14 hB14
            subst hw14
            refine lv_goto (tgt := 63) hx hb d_12_2_57 (by decide) ?_
            exact b_Tokens_start_63 X ih hf hZ14 hS14 (lv_sub hl [0, 1, 2, 3, 4, 5] rfl)
        · replace hf := gneg hf h10
          refine lv_iinc (v := iI (l2 + 1)) (lv' := [(2, .int (iI (l2 + 1))), (5, .int (iI r7)), (4, .int (iI l4)), (3, .int (iI l3)), (0, .ref (ad 10 l0 0)), (1, .ref (ad 0 l1 0))]) hx hb d_12_2_38 hl (k := 3) rfl (iI_add _ 1) (by decide) rfl (fun ls hl => ?_)
          refine lv_goto (tgt := 129) hx hb d_12_2_41 (by decide) ?_
          exact b_Tokens_start_129 X ih hf hZ8 hS8 (lv_sub hl [0, 2, 3, 4, 5] rfl)

noncomputable def f_Tokens_start (K : zK) (l0 : Int) (l1 : Int) (F : zF) (B : zB) : zO := f_Tokens_start_7 K K.1 0 0 0 l0 l1 F B
set_option maxHeartbeats 4000000 in
set_option maxRecDepth 100000 in
theorem c_Tokens_start {l : Launch} {D : va_G} {ca : Nat → ClassId} {ad : Nat → Int → Nat → Nat} {L : List Nat} {aS vS : Nat → Nat} {sz : Nat} {K : zK}  {l0 : Int} {l1 : Int} {F F9 : zF} {B B9 : zB} {r : Int} (hf : f_Tokens_start K l0 l1 F B = some (r, F9, B9)) : Met l ({ cls := "StaveHouse$Tokens", name := "start", desc := "(LStaveHouse$ByteRow;)V" } : Jvm.MethodName) (Cond.code ({ cls := "StaveHouse$Tokens", name := "start", desc := "(LStaveHouse$ByteRow;)V" } : Jvm.MethodName) prog_12_method_2_code 7 (Option.none : Option Jvm.ClassFile.FieldType) :: wAll) ({ frames := 4, cells := 0, slots := 0, locals := 91 } : Room) (va_Pc [.ref (ad 10 l0 0), .ref (ad 0 l1 0)] (zPre D ca ad lnC K.2 L aS vS F B sz)) (Q_Tokens_start K D ca ad L r F9 B9 (zA L sz)) 0 0 (zA L sz) := by
  refine zMet (Qc := Q_Tokens_start K D ca ad L r F9 B9) (lv := [(0, .ref (ad 10 l0 0)), (1, .ref (ad 0 l1 0))]) (by decide) (Nat.le_of_ble_eq_true rfl) rfl (fun A p e s m below meth c ls X hZ hS hl => ?_)
  obtain ⟨hx, hb, hr, hml, hown, hts, hlk, hK, hA, hL, hX⟩ := id X
  replace hf : (f_Tokens_start_7 K K.1 0 0 0 l0 l1 F B) = some (r, F9, B9) := hf
  refine lv_iconst (v := iI 0) hx hb d_12_2_0 rfl ?_
  refine lv_istore_n (lv' := [(2, .int (iI 0)), (0, .ref (ad 10 l0 0)), (1, .ref (ad 0 l1 0))]) hx hb d_12_2_1 rfl hl (by decide) rfl (fun ls hl => ?_)
  refine lv_iconst (v := iI 0) hx hb d_12_2_2 rfl ?_
  refine lv_istore_n (lv' := [(3, .int (iI 0)), (2, .int (iI 0)), (0, .ref (ad 10 l0 0)), (1, .ref (ad 0 l1 0))]) hx hb d_12_2_3 rfl hl (by decide) rfl (fun ls hl => ?_)
  refine lv_iconst (v := iI 0) hx hb d_12_2_4 rfl ?_
  refine lv_istore (lv' := [(4, .int (iI 0)), (3, .int (iI 0)), (2, .int (iI 0)), (0, .ref (ad 10 l0 0)), (1, .ref (ad 0 l1 0))]) hx hb d_12_2_5 hl (by decide) rfl (fun ls hl => ?_)
  exact b_Tokens_start_7 X hf hZ hS (lv_sub hl [0, 1, 2, 3, 4] rfl)

noncomputable abbrev Q_Parser_takeEvent (K : zK) (D : va_G) (ca : Nat → ClassId) (ad : Nat → Int → Nat → Nat) (L : List Nat) (r : Int) (F : zF) (B : zB) (A : Nat → Prop) : Array Value → State → Outcome → State → Prop := va_Qi (S := Unit) (fun p _ => p = iI r) (fun _ => zPo D ca ad lnC K.2 L F B A) A
noncomputable def f_Parser_takeEvent_110 (K : zK)  (F : zF) (B : zB) : zO := some (1, F, B)
set_option maxHeartbeats 4000000 in
set_option maxRecDepth 100000 in
theorem b_Parser_takeEvent_110 {D : va_G} {ca : Nat → ClassId} {ad : Nat → Int → Nat → Nat} {L : List Nat} {aS vS : Nat → Nat} {A : Nat → Prop} {p : Program} {l : Launch} {e : Env} {s : State} {m : MethodId} {args : Array Value} {below : List Frame} {meth : Method} {c : Code} {K : zK} {r : Int} {F9 : zF} {B9 : zB} (X : zX D ca L aS vS A p s m args meth c prog_5_method_23_code 3 (Option.some Jvm.ClassFile.FieldType.boolean) "StaveHouse$Parser")  {F : zF} {B : zB} {H : Heap} {locs : List Loc} {ls : Array Slot} (hf : f_Parser_takeEvent_110 K  F B = some (r, F9, B9)) (hZ : zH D ca ad lnC K.2 L F B A H) (hS : va_S A s.heap H locs) (hl : lv_has ls 3 []) : W p l e ({ frames := 5, cells := 0, slots := 0, locals := 114 } : Room) s m args below meth c H locs 0 0 (MQ below (Q_Parser_takeEvent K D ca ad L r F9 B9 A) args s 0 0 A) (F0 m 110 ls []) := by
  obtain ⟨hx, hb, hr, hml, hown, hts, hlk, hK, hA, hL, hX⟩ := id X
  replace hf : (some (1, F, B)) = some (r, F9, B9) := hf
  refine lv_iconst (v := iI 1) hx hb d_5_23_110 rfl ?_
  cases hf
  exact W.zret hx hb hr rfl (fun t ht hW => ⟨⟨_, (), rfl, rfl, by rw [ht]; exact hZ, va_K.moved hW.alike hK⟩, hS.F ht⟩) hS.2.2 d_5_23_111 hlk

noncomputable def f_Parser_takeEvent_91 (K : zK) (l2 : Int) (l0 : Int) (l1 : Int) (F : zF) (B : zB) : zO := if 0 ≤ l0 ∧ l0 < K.2 3 then if 0 ≤ l1 ∧ l1 < 3000 then if r32 l2 then (if l2 = 0 then zbind (f_Parser_takeMarks K l0 l1 F (zup4 B 3 l0 2 l1 (F 3 l0 20))) (fun r34 F34 B34 => f_Parser_takeEvent_110 K F34 B34) else f_Parser_takeEvent_110 K F (zup4 B 3 l0 2 l1 (F 3 l0 20))) else none else none else none
set_option maxHeartbeats 4000000 in
set_option maxRecDepth 100000 in
theorem b_Parser_takeEvent_91 {D : va_G} {ca : Nat → ClassId} {ad : Nat → Int → Nat → Nat} {L : List Nat} {aS vS : Nat → Nat} {A : Nat → Prop} {p : Program} {l : Launch} {e : Env} {s : State} {m : MethodId} {args : Array Value} {below : List Frame} {meth : Method} {c : Code} {K : zK} {r : Int} {F9 : zF} {B9 : zB} (X : zX D ca L aS vS A p s m args meth c prog_5_method_23_code 3 (Option.some Jvm.ClassFile.FieldType.boolean) "StaveHouse$Parser") {l2 : Int} {l0 : Int} {l1 : Int} {F : zF} {B : zB} {H : Heap} {locs : List Loc} {ls : Array Slot} (hf : f_Parser_takeEvent_91 K l2 l0 l1 F B = some (r, F9, B9)) (hZ : zH D ca ad lnC K.2 L F B A H) (hS : va_S A s.heap H locs) (hl : lv_has ls 3 [(2, .int (iI l2)), (0, .ref (ad 3 l0 0)), (1, .int (iI l1))]) : W p l e ({ frames := 5, cells := 0, slots := 0, locals := 114 } : Room) s m args below meth c H locs 0 0 (MQ below (Q_Parser_takeEvent K D ca ad L r F9 B9 A) args s 0 0 A) (F0 m 91 ls []) := by
  obtain ⟨hx, hb, hr, hml, hown, hts, hlk, hK, hA, hL, hX⟩ := id X
  replace hf : (if 0 ≤ l0 ∧ l0 < K.2 3 then if 0 ≤ l1 ∧ l1 < 3000 then if r32 l2 then (if l2 = 0 then zbind (f_Parser_takeMarks K l0 l1 F (zup4 B 3 l0 2 l1 (F 3 l0 20))) (fun r34 F34 B34 => f_Parser_takeEvent_110 K F34 B34) else f_Parser_takeEvent_110 K F (zup4 B 3 l0 2 l1 (F 3 l0 20))) else none else none else none) = some (r, F9, B9) := hf
  refine lv_aload_n hx hb d_5_23_91 rfl (lv_at hl 1 rfl) ?_
  obtain ⟨g28, hf⟩ := gif hf
  refine zget (ci := 3) (C := RX3) (T := TX3) (v := .ref (ad 3 l0 (2 + 1))) (k := 2) hx hb hts inW_3 hown hK hZ g28.1 g28.2 rfl (by decide) k_1_110 rfl d_5_23_92 ?_
  refine lv_iload_n hx hb d_5_23_95 rfl (lv_at hl 2 rfl) ?_
  refine lv_aload_n hx hb d_5_23_96 rfl (lv_at hl 1 rfl) ?_
  refine zget (ci := 3) (C := RX3) (T := TX3) (v := .int (iI (F 3 l0 20))) (k := 20) hx hb hts inW_3 hown hK hZ g28.1 g28.2 rfl (by decide) k_1_137 rfl d_5_23_97 ?_
  obtain ⟨g29, hf⟩ := gif hf
  refine zast (ci := 3) (k := 2) hx hb hK rfl hZ hS g28.1 g28.2 rfl (Nat.le_of_ble_eq_true rfl) g29.1 g29.2 d_5_23_100 (fun H30 locs30 hZ30 hS30 => ?_)
  refine lv_iload_n hx hb d_5_23_101 rfl (lv_at hl 0 rfl) ?_
  obtain ⟨g31, hf⟩ := gif hf
  refine z0ne (tgt := 110) hx hb g31 d_5_23_102 (by decide) (fun h33 => ?_) (fun h33 => ?_)
  · replace hf := gneg hf h33
    exact b_Parser_takeEvent_110 X hf hZ30 hS30 (lv_sub hl [] rfl)
  · replace hf := gpos hf h33
    refine lv_aload_n hx hb d_5_23_105 rfl (lv_at hl 1 rfl) ?_
    refine lv_iload_n hx hb d_5_23_106 rfl (lv_at hl 2 rfl) ?_
    obtain ⟨r34, F34, B34, hc34, hf⟩ := gbind hf
    refine va_callv (va_runV (As := [.int (iI l1)]) (rest := []) ⟨hx, hb, hml, hown, hts⟩ (c_Parser_takeMarks (l := l) hc34) (cwV 1 hts (gdV k_4_22 k_4_24 ks_20 k_1_4 k_4_25) rfl rfl rfl (by decide +kernel) ⟨Nat.le_of_ble_eq_true rfl, Nat.le_of_ble_eq_true rfl⟩) (zPV X hZ30 hS30 (ci := 3) g28.1 g28.2 (r := (RX3, TX3, 22)) rfl [.int (iI l1)]) rfl rfl hl.1 rfl (lv_room (Nat.le_of_ble_eq_true rfl)) d_5_23_107 ⟨Nat.le_of_ble_eq_true rfl, Nat.le_of_ble_eq_true rfl⟩) hS30 (fun q _ h => zAin X hS30 q h) (zAin X hS30) (fun u34 t34 H34 locs34 ht34 hv34 hw34 hB34 hz34 hk34 hS34 => ?_)
    have hZ34 := zBack X ht34 hB34
    exact b_Parser_takeEvent_110 X hf hZ34 hS34 (lv_sub hl [] rfl)

noncomputable def f_Parser_takeEvent_70 (K : zK) (l2 : Int) (l0 : Int) (l1 : Int) (F : zF) (B : zB) : zO := if 0 ≤ l0 ∧ l0 < K.2 3 then if 0 ≤ (F 3 l0 11) ∧ (F 3 l0 11) < K.2 10 then zbind (f_Tokens_isSign K (F 3 l0 11) 58 F B) (fun r22 F22 B22 => if r32 r22 then (if r22 = 0 then f_Parser_takeEvent_91 K l2 l0 l1 F22 B22 else zbind (f_Parser_takeLength K l0 F22 B22) (fun r25 F25 B25 => if r32 r25 then (if r25 = 0 then some (0, F25, B25) else f_Parser_takeEvent_91 K l2 l0 l1 F25 B25) else none)) else none) else none else none
set_option maxHeartbeats 4000000 in
set_option maxRecDepth 100000 in
theorem b_Parser_takeEvent_70 {D : va_G} {ca : Nat → ClassId} {ad : Nat → Int → Nat → Nat} {L : List Nat} {aS vS : Nat → Nat} {A : Nat → Prop} {p : Program} {l : Launch} {e : Env} {s : State} {m : MethodId} {args : Array Value} {below : List Frame} {meth : Method} {c : Code} {K : zK} {r : Int} {F9 : zF} {B9 : zB} (X : zX D ca L aS vS A p s m args meth c prog_5_method_23_code 3 (Option.some Jvm.ClassFile.FieldType.boolean) "StaveHouse$Parser") {l2 : Int} {l0 : Int} {l1 : Int} {F : zF} {B : zB} {H : Heap} {locs : List Loc} {ls : Array Slot} (hf : f_Parser_takeEvent_70 K l2 l0 l1 F B = some (r, F9, B9)) (hZ : zH D ca ad lnC K.2 L F B A H) (hS : va_S A s.heap H locs) (hl : lv_has ls 3 [(2, .int (iI l2)), (0, .ref (ad 3 l0 0)), (1, .int (iI l1))]) : W p l e ({ frames := 5, cells := 0, slots := 0, locals := 114 } : Room) s m args below meth c H locs 0 0 (MQ below (Q_Parser_takeEvent K D ca ad L r F9 B9 A) args s 0 0 A) (F0 m 70 ls []) := by
  obtain ⟨hx, hb, hr, hml, hown, hts, hlk, hK, hA, hL, hX⟩ := id X
  replace hf : (if 0 ≤ l0 ∧ l0 < K.2 3 then if 0 ≤ (F 3 l0 11) ∧ (F 3 l0 11) < K.2 10 then zbind (f_Tokens_isSign K (F 3 l0 11) 58 F B) (fun r22 F22 B22 => if r32 r22 then (if r22 = 0 then f_Parser_takeEvent_91 K l2 l0 l1 F22 B22 else zbind (f_Parser_takeLength K l0 F22 B22) (fun r25 F25 B25 => if r32 r25 then (if r25 = 0 then some (0, F25, B25) else f_Parser_takeEvent_91 K l2 l0 l1 F25 B25) else none)) else none) else none else none) = some (r, F9, B9) := hf
  refine lv_aload_n hx hb d_5_23_70 rfl (lv_at hl 1 rfl) ?_
  obtain ⟨g20, hf⟩ := gif hf
  refine zget (ci := 3) (C := RX3) (T := TX3) (v := va_rf (zrf ad 10 (F 3 l0 11))) (k := 11) hx hb hts inW_3 hown hK hZ g20.1 g20.2 rfl (by decide) k_1_128 rfl d_5_23_71 ?_
  refine lv_bipush (v := iI 58) hx hb d_5_23_74 (by decide) ?_
  obtain ⟨g21, hf⟩ := gif hf
  refine W.eq (g2 := F0 m 76 ls [.int (iI 58), .ref (ad 10 (F 3 l0 11) 0)]) (by rw [zrf_pos (ad := ad) (t := 10) g21.1]; try rfl) ?_
  obtain ⟨r22, F22, B22, hc22, hf⟩ := gbind hf
  refine va_calli (va_runV (As := [.int (iI 58)]) (rest := []) ⟨hx, hb, hml, hown, hts⟩ (c_Tokens_isSign (l := l) hc22) (cwV 1 hts (gdV k_3_208 k_3_209 k_3_210 k_1_5 k_3_211) rfl rfl rfl (by decide +kernel) ⟨Nat.le_of_ble_eq_true rfl, Nat.le_of_ble_eq_true rfl⟩) (zPV X hZ hS (ci := 10) g21.1 g21.2 (r := (RX10, TX10, 9)) rfl [.int (iI 58)]) rfl rfl hl.1 rfl (lv_room (Nat.le_of_ble_eq_true rfl)) d_5_23_76 ⟨Nat.le_of_ble_eq_true rfl, Nat.le_of_ble_eq_true rfl⟩) hS (fun q _ h => zAin X hS q h) (zAin X hS) (fun p22 u22 t22 H22 locs22 ht22 hv22 hw22 hB22 hz22 hk22 hS22 => ?_)
  have hZ22 := zBack X ht22 hB22
  subst hw22
  obtain ⟨g23, hf⟩ := gif hf
  refine z0eq (tgt := 91) hx hb g23 d_5_23_79 (by decide) (fun h24 => ?_) (fun h24 => ?_)
  · replace hf := gpos hf h24
    exact b_Parser_takeEvent_91 X hf hZ22 hS22 (lv_sub hl [0, 1, 2] rfl)
  · replace hf := gneg hf h24
    refine lv_aload_n hx hb d_5_23_82 rfl (lv_at hl 1 rfl) ?_
    obtain ⟨r25, F25, B25, hc25, hf⟩ := gbind hf
    refine va_calli (va_runV (As := []) (rest := []) ⟨hx, hb, hml, hown, hts⟩ (c_Parser_takeLength (l := l) hc25) (cwV 0 hts (gdV k_4_5 k_4_7 ks_18 k_1_4 k_4_8) rfl rfl rfl (by decide +kernel) ⟨Nat.le_of_ble_eq_true rfl, Nat.le_of_ble_eq_true rfl⟩) (zPV X hZ22 hS22 (ci := 3) g20.1 g20.2 (r := (RX3, TX3, 22)) rfl []) rfl rfl hl.1 rfl (lv_room (Nat.le_of_ble_eq_true rfl)) d_5_23_83 ⟨Nat.le_of_ble_eq_true rfl, Nat.le_of_ble_eq_true rfl⟩) hS22 (fun q _ h => zAin X hS22 q h) (zAin X hS22) (fun p25 u25 t25 H25 locs25 ht25 hv25 hw25 hB25 hz25 hk25 hS25 => ?_)
    have hZ25 := zBack X ht25 hB25
    subst hw25
    obtain ⟨g26, hf⟩ := gif hf
    refine z0ne (tgt := 91) hx hb g26 d_5_23_86 (by decide) (fun h27 => ?_) (fun h27 => ?_)
    · replace hf := gneg hf h27
      exact b_Parser_takeEvent_91 X hf hZ25 hS25 (lv_sub hl [0, 1, 2] rfl)
    · replace hf := gpos hf h27
      refine lv_iconst (v := iI 0) hx hb d_5_23_89 rfl ?_
      cases hf
      exact W.zret hx hb hr rfl (fun t ht hW => ⟨⟨_, (), rfl, rfl, by rw [ht]; exact hZ25, va_K.moved hW.alike hK⟩, hS25.F ht⟩) hS25.2.2 d_5_23_90 hlk

noncomputable def f_Parser_takeEvent_26 (K : zK) (l0 : Int) (l1 : Int) (s0 : Int) (F : zF) (B : zB) : zO := if r32 s0 then (if s0 = 0 then if 0 ≤ l0 ∧ l0 < K.2 3 then if 0 ≤ (F 3 l0 11) ∧ (F 3 l0 11) < K.2 10 then if r32 (F 10 (F 3 l0 11) 0) then (if (F 10 (F 3 l0 11) 0) = 2 then zbind (f_Parser_takePitch K l0 l1 F B) (fun r16 F16 B16 => f_Parser_takeEvent_70 K s0 l0 l1 F16 B16) else zbind (f_Parser_takeChord K l0 l1 F B) (fun r13 F13 B13 => if r32 r13 then (if r13 = 0 then some (0, F13, B13) else f_Parser_takeEvent_70 K s0 l0 l1 F13 B13) else none)) else none else none else none else if 0 ≤ l0 ∧ l0 < K.2 3 then if 0 ≤ (F 3 l0 11) ∧ (F 3 l0 11) < K.2 10 then zbind (f_Tokens_advance K (F 3 l0 11) F B) (fun r19 F19 B19 => f_Parser_takeEvent_70 K s0 l0 l1 F19 B19) else none else none) else none
set_option maxHeartbeats 4000000 in
set_option maxRecDepth 100000 in
theorem b_Parser_takeEvent_26 {D : va_G} {ca : Nat → ClassId} {ad : Nat → Int → Nat → Nat} {L : List Nat} {aS vS : Nat → Nat} {A : Nat → Prop} {p : Program} {l : Launch} {e : Env} {s : State} {m : MethodId} {args : Array Value} {below : List Frame} {meth : Method} {c : Code} {K : zK} {r : Int} {F9 : zF} {B9 : zB} (X : zX D ca L aS vS A p s m args meth c prog_5_method_23_code 3 (Option.some Jvm.ClassFile.FieldType.boolean) "StaveHouse$Parser") {l0 : Int} {l1 : Int} {s0 : Int} {F : zF} {B : zB} {H : Heap} {locs : List Loc} {ls : Array Slot} (hf : f_Parser_takeEvent_26 K l0 l1 s0 F B = some (r, F9, B9)) (hZ : zH D ca ad lnC K.2 L F B A H) (hS : va_S A s.heap H locs) (hl : lv_has ls 3 [(0, .ref (ad 3 l0 0)), (1, .int (iI l1))]) : W p l e ({ frames := 5, cells := 0, slots := 0, locals := 114 } : Room) s m args below meth c H locs 0 0 (MQ below (Q_Parser_takeEvent K D ca ad L r F9 B9 A) args s 0 0 A) (F0 m 26 ls [.int (iI s0)]) := by
  obtain ⟨hx, hb, hr, hml, hown, hts, hlk, hK, hA, hL, hX⟩ := id X
  replace hf : (if r32 s0 then (if s0 = 0 then if 0 ≤ l0 ∧ l0 < K.2 3 then if 0 ≤ (F 3 l0 11) ∧ (F 3 l0 11) < K.2 10 then if r32 (F 10 (F 3 l0 11) 0) then (if (F 10 (F 3 l0 11) 0) = 2 then zbind (f_Parser_takePitch K l0 l1 F B) (fun r16 F16 B16 => f_Parser_takeEvent_70 K s0 l0 l1 F16 B16) else zbind (f_Parser_takeChord K l0 l1 F B) (fun r13 F13 B13 => if r32 r13 then (if r13 = 0 then some (0, F13, B13) else f_Parser_takeEvent_70 K s0 l0 l1 F13 B13) else none)) else none else none else none else if 0 ≤ l0 ∧ l0 < K.2 3 then if 0 ≤ (F 3 l0 11) ∧ (F 3 l0 11) < K.2 10 then zbind (f_Tokens_advance K (F 3 l0 11) F B) (fun r19 F19 B19 => f_Parser_takeEvent_70 K s0 l0 l1 F19 B19) else none else none) else none) = some (r, F9, B9) := hf
  refine lv_istore_n (lv' := [(2, .int (iI s0)), (0, .ref (ad 3 l0 0)), (1, .int (iI l1))]) hx hb d_5_23_26 rfl hl (by decide) rfl (fun ls hl => ?_)
  refine lv_iload_n hx hb d_5_23_27 rfl (lv_at hl 0 rfl) ?_
  obtain ⟨g7, hf⟩ := gif hf
  refine z0eq (tgt := 41) hx hb g7 d_5_23_28 (by decide) (fun h8 => ?_) (fun h8 => ?_)
  · replace hf := gpos hf h8
    refine lv_aload_n hx hb d_5_23_41 rfl (lv_at hl 1 rfl) ?_
    obtain ⟨g9, hf⟩ := gif hf
    refine zget (ci := 3) (C := RX3) (T := TX3) (v := va_rf (zrf ad 10 (F 3 l0 11))) (k := 11) hx hb hts inW_3 hown hK hZ g9.1 g9.2 rfl (by decide) k_1_128 rfl d_5_23_42 ?_
    obtain ⟨g10, hf⟩ := gif hf
    refine zunrf g10.1 ?_
    refine zget (ci := 10) (C := RX10) (T := TX10) (v := .int (iI (F 10 (F 3 l0 11) 0))) (k := 0) hx hb hts inW_10 hown hK hZ g10.1 g10.2 rfl (by decide) k_1_72 rfl d_5_23_45 ?_
    refine lv_iconst (v := iI 2) hx hb d_5_23_48 rfl ?_
    obtain ⟨g11, hf⟩ := gif hf
    refine zne (tgt := 60) hx hb g11 (by decide) d_5_23_49 (by decide) (fun h12 => ?_) (fun h12 => ?_)
    · replace hf := gneg hf h12
      refine lv_aload_n hx hb d_5_23_60 rfl (lv_at hl 1 rfl) ?_
      refine lv_iload_n hx hb d_5_23_61 rfl (lv_at hl 2 rfl) ?_
      obtain ⟨r13, F13, B13, hc13, hf⟩ := gbind hf
      refine va_calli (va_runV (As := [.int (iI l1)]) (rest := []) ⟨hx, hb, hml, hown, hts⟩ (c_Parser_takeChord (l := l) hc13) (cwV 1 hts (gdV k_4_1 k_4_3 ks_17 k_1_4 k_4_4) rfl rfl rfl (by decide +kernel) ⟨Nat.le_of_ble_eq_true rfl, Nat.le_of_ble_eq_true rfl⟩) (zPV X hZ hS (ci := 3) g9.1 g9.2 (r := (RX3, TX3, 22)) rfl [.int (iI l1)]) rfl rfl hl.1 rfl (lv_room (Nat.le_of_ble_eq_true rfl)) d_5_23_62 ⟨Nat.le_of_ble_eq_true rfl, Nat.le_of_ble_eq_true rfl⟩) hS (fun q _ h => zAin X hS q h) (zAin X hS) (fun p13 u13 t13 H13 locs13 ht13 hv13 hw13 hB13 hz13 hk13 hS13 => ?_)
      have hZ13 := zBack X ht13 hB13
      subst hw13
      obtain ⟨g14, hf⟩ := gif hf
      refine z0ne (tgt := 70) hx hb g14 d_5_23_65 (by decide) (fun h15 => ?_) (fun h15 => ?_)
      · replace hf := gneg hf h15
        exact b_Parser_takeEvent_70 X hf hZ13 hS13 (lv_sub hl [0, 1, 2] rfl)
      · replace hf := gpos hf h15
        refine lv_iconst (v := iI 0) hx hb d_5_23_68 rfl ?_
        cases hf
        exact W.zret hx hb hr rfl (fun t ht hW => ⟨⟨_, (), rfl, rfl, by rw [ht]; exact hZ13, va_K.moved hW.alike hK⟩, hS13.F ht⟩) hS13.2.2 d_5_23_69 hlk
    · replace hf := gpos hf h12
      refine lv_aload_n hx hb d_5_23_52 rfl (lv_at hl 1 rfl) ?_
      refine lv_iload_n hx hb d_5_23_53 rfl (lv_at hl 2 rfl) ?_
      obtain ⟨r16, F16, B16, hc16, hf⟩ := gbind hf
      refine va_callv (va_runV (As := [.int (iI l1)]) (rest := []) ⟨hx, hb, hml, hown, hts⟩ (c_Parser_takePitch (l := l) hc16) (cwV 1 hts (gdV k_3_237 k_3_239 ks_16 k_1_4 k_4_0) rfl rfl rfl (by decide +kernel) ⟨Nat.le_of_ble_eq_true rfl, Nat.le_of_ble_eq_true rfl⟩) (zPV X hZ hS (ci := 3) g9.1 g9.2 (r := (RX3, TX3, 22)) rfl [.int (iI l1)]) rfl rfl hl.1 rfl (lv_room (Nat.le_of_ble_eq_true rfl)) d_5_23_54 ⟨Nat.le_of_ble_eq_true rfl, Nat.le_of_ble_eq_true rfl⟩) hS (fun q _ h => zAin X hS q h) (zAin X hS) (fun u16 t16 H16 locs16 ht16 hv16 hw16 hB16 hz16 hk16 hS16 => ?_)
      have hZ16 := zBack X ht16 hB16
      refine lv_goto (tgt := 70) hx hb d_5_23_57 (by decide) ?_
      exact b_Parser_takeEvent_70 X hf hZ16 hS16 (lv_sub hl [0, 1, 2] rfl)
  · replace hf := gneg hf h8
    refine lv_aload_n hx hb d_5_23_31 rfl (lv_at hl 1 rfl) ?_
    obtain ⟨g17, hf⟩ := gif hf
    refine zget (ci := 3) (C := RX3) (T := TX3) (v := va_rf (zrf ad 10 (F 3 l0 11))) (k := 11) hx hb hts inW_3 hown hK hZ g17.1 g17.2 rfl (by decide) k_1_128 rfl d_5_23_32 ?_
    obtain ⟨g18, hf⟩ := gif hf
    refine W.eq (g2 := F0 m 35 ls [.ref (ad 10 (F 3 l0 11) 0)]) (by rw [zrf_pos (ad := ad) (t := 10) g18.1]; try rfl) ?_
    obtain ⟨r19, F19, B19, hc19, hf⟩ := gbind hf
    refine va_callv (va_runV (As := []) (rest := []) ⟨hx, hb, hml, hown, hts⟩ (c_Tokens_advance (l := l) hc19) (cwV 0 hts (gdV k_3_180 k_3_152 k_3_153 k_1_5 k_3_154) rfl rfl rfl (by decide +kernel) ⟨Nat.le_of_ble_eq_true rfl, Nat.le_of_ble_eq_true rfl⟩) (zPV X hZ hS (ci := 10) g18.1 g18.2 (r := (RX10, TX10, 9)) rfl []) rfl rfl hl.1 rfl (lv_room (Nat.le_of_ble_eq_true rfl)) d_5_23_35 ⟨Nat.le_of_ble_eq_true rfl, Nat.le_of_ble_eq_true rfl⟩) hS (fun q _ h => zAin X hS q h) (zAin X hS) (fun u19 t19 H19 locs19 ht19 hv19 hw19 hB19 hz19 hk19 hS19 => ?_)
    have hZ19 := zBack X ht19 hB19
    refine lv_goto (tgt := 70) hx hb d_5_23_38 (by decide) ?_
    exact b_Parser_takeEvent_70 X hf hZ19 hS19 (lv_sub hl [0, 1, 2] rfl)

noncomputable def f_Parser_takeEvent (K : zK) (l0 : Int) (l1 : Int) (F : zF) (B : zB) : zO := if 0 ≤ l0 ∧ l0 < K.2 3 then if 0 ≤ l1 ∧ l1 < 3000 then if 0 ≤ (F 3 l0 11) ∧ (F 3 l0 11) < K.2 10 then if r32 (F 10 (F 3 l0 11) 0) then (if (F 10 (F 3 l0 11) 0) = 4 then f_Parser_takeEvent_26 K l0 l1 1 F (zup4 B 3 l0 3 l1 (F 3 l0 15)) else f_Parser_takeEvent_26 K l0 l1 0 F (zup4 B 3 l0 3 l1 (F 3 l0 15))) else none else none else none else none
set_option maxHeartbeats 4000000 in
set_option maxRecDepth 100000 in
theorem c_Parser_takeEvent {l : Launch} {D : va_G} {ca : Nat → ClassId} {ad : Nat → Int → Nat → Nat} {L : List Nat} {aS vS : Nat → Nat} {sz : Nat} {K : zK}  {l0 : Int} {l1 : Int} {F F9 : zF} {B B9 : zB} {r : Int} (hf : f_Parser_takeEvent K l0 l1 F B = some (r, F9, B9)) : Met l ({ cls := "StaveHouse$Parser", name := "takeEvent", desc := "(I)Z" } : Jvm.MethodName) (Cond.code ({ cls := "StaveHouse$Parser", name := "takeEvent", desc := "(I)Z" } : Jvm.MethodName) prog_5_method_23_code 3 (Option.some Jvm.ClassFile.FieldType.boolean) :: wAll) ({ frames := 5, cells := 0, slots := 0, locals := 114 } : Room) (va_Pc [.ref (ad 3 l0 0), .int (iI l1)] (zPre D ca ad lnC K.2 L aS vS F B sz)) (Q_Parser_takeEvent K D ca ad L r F9 B9 (zA L sz)) 0 0 (zA L sz) := by
  refine zMet (Qc := Q_Parser_takeEvent K D ca ad L r F9 B9) (lv := [(0, .ref (ad 3 l0 0)), (1, .int (iI l1))]) (by decide) (Nat.le_of_ble_eq_true rfl) rfl (fun A p e s m below meth c ls X hZ hS hl => ?_)
  obtain ⟨hx, hb, hr, hml, hown, hts, hlk, hK, hA, hL, hX⟩ := id X
  replace hf : (if 0 ≤ l0 ∧ l0 < K.2 3 then if 0 ≤ l1 ∧ l1 < 3000 then if 0 ≤ (F 3 l0 11) ∧ (F 3 l0 11) < K.2 10 then if r32 (F 10 (F 3 l0 11) 0) then (if (F 10 (F 3 l0 11) 0) = 4 then f_Parser_takeEvent_26 K l0 l1 1 F (zup4 B 3 l0 3 l1 (F 3 l0 15)) else f_Parser_takeEvent_26 K l0 l1 0 F (zup4 B 3 l0 3 l1 (F 3 l0 15))) else none else none else none else none) = some (r, F9, B9) := hf
  refine lv_aload_n hx hb d_5_23_0 rfl (lv_at hl 0 rfl) ?_
  obtain ⟨g1, hf⟩ := gif hf
  refine zget (ci := 3) (C := RX3) (T := TX3) (v := .ref (ad 3 l0 (3 + 1))) (k := 3) hx hb hts inW_3 hown hK hZ g1.1 g1.2 rfl (by decide) k_1_112 rfl d_5_23_1 ?_
  refine lv_iload_n hx hb d_5_23_4 rfl (lv_at hl 1 rfl) ?_
  refine lv_aload_n hx hb d_5_23_5 rfl (lv_at hl 0 rfl) ?_
  refine zget (ci := 3) (C := RX3) (T := TX3) (v := .int (iI (F 3 l0 15))) (k := 15) hx hb hts inW_3 hown hK hZ g1.1 g1.2 rfl (by decide) k_1_132 rfl d_5_23_6 ?_
  obtain ⟨g2, hf⟩ := gif hf
  refine zast (ci := 3) (k := 3) hx hb hK rfl hZ hS g1.1 g1.2 rfl (Nat.le_of_ble_eq_true rfl) g2.1 g2.2 d_5_23_9 (fun H3 locs3 hZ3 hS3 => ?_)
  refine lv_aload_n hx hb d_5_23_10 rfl (lv_at hl 0 rfl) ?_
  refine zget (ci := 3) (C := RX3) (T := TX3) (v := va_rf (zrf ad 10 (F 3 l0 11))) (k := 11) hx hb hts inW_3 hown hK hZ3 g1.1 g1.2 rfl (by decide) k_1_128 rfl d_5_23_11 ?_
  obtain ⟨g4, hf⟩ := gif hf
  refine zunrf g4.1 ?_
  refine zget (ci := 10) (C := RX10) (T := TX10) (v := .int (iI (F 10 (F 3 l0 11) 0))) (k := 0) hx hb hts inW_10 hown hK hZ3 g4.1 g4.2 rfl (by decide) k_1_72 rfl d_5_23_14 ?_
  refine lv_iconst (v := iI 4) hx hb d_5_23_17 rfl ?_
  obtain ⟨g5, hf⟩ := gif hf
  refine zne (tgt := 25) hx hb g5 (by decide) d_5_23_18 (by decide) (fun h6 => ?_) (fun h6 => ?_)
  · replace hf := gneg hf h6
    refine lv_iconst (v := iI 0) hx hb d_5_23_25 rfl ?_
    exact b_Parser_takeEvent_26 X hf hZ3 hS3 (lv_sub hl [0, 1] rfl)
  · replace hf := gpos hf h6
    refine lv_iconst (v := iI 1) hx hb d_5_23_21 rfl ?_
    refine lv_goto (tgt := 26) hx hb d_5_23_22 (by decide) ?_
    exact b_Parser_takeEvent_26 X hf hZ3 hS3 (lv_sub hl [0, 1] rfl)

noncomputable abbrev Q_Part_writeNotes (K : zK) (D : va_G) (ca : Nat → ClassId) (ad : Nat → Int → Nat → Nat) (L : List Nat) (r : Int) (F : zF) (B : zB) (A : Nat → Prop) : Array Value → State → Outcome → State → Prop := va_Qv (S := Unit) (fun _ => True) (fun _ => zPo D ca ad lnC K.2 L F B A) A
noncomputable def f_Part_writeNotes_136 (K : zK)  (F : zF) (B : zB) : zO := some (0, F, B)
set_option maxHeartbeats 4000000 in
set_option maxRecDepth 100000 in
theorem b_Part_writeNotes_136 {D : va_G} {ca : Nat → ClassId} {ad : Nat → Int → Nat → Nat} {L : List Nat} {aS vS : Nat → Nat} {A : Nat → Prop} {p : Program} {l : Launch} {e : Env} {s : State} {m : MethodId} {args : Array Value} {below : List Frame} {meth : Method} {c : Code} {K : zK} {r : Int} {F9 : zF} {B9 : zB} (X : zX D ca L aS vS A p s m args meth c prog_6_method_9_code 6 (Option.none : Option Jvm.ClassFile.FieldType) "StaveHouse$Part")  {F : zF} {B : zB} {H : Heap} {locs : List Loc} {ls : Array Slot} (hf : f_Part_writeNotes_136 K  F B = some (r, F9, B9)) (hZ : zH D ca ad lnC K.2 L F B A H) (hS : va_S A s.heap H locs) (hl : lv_has ls 6 []) : W p l e ({ frames := 5, cells := 0, slots := 0, locals := 143 } : Room) s m args below meth c H locs 0 0 (MQ below (Q_Part_writeNotes K D ca ad L r F9 B9 A) args s 0 0 A) (F0 m 136 ls []) := by
  obtain ⟨hx, hb, hr, hml, hown, hts, hlk, hK, hA, hL, hX⟩ := id X
  replace hf : (some (0, F, B)) = some (r, F9, B9) := hf
  cases hf
  exact W.vret hx hb hr (fun t ht hW => ⟨⟨(), rfl, trivial, by rw [ht]; exact hZ, va_K.moved hW.alike hK⟩, hS.F ht⟩) hS.2.2 d_6_9_136 hlk

noncomputable def f_Part_writeNotes_101 (K : zK) (l0 : Int) (l1 : Int) (F : zF) (B : zB) : zO := if 0 ≤ l0 ∧ l0 < K.2 4 then if r32 (F 4 l0 11) then (if (F 4 l0 11) = 0 then zbind (f_Part_hold K l0 F B) (fun r26 F26 B26 => if 0 ≤ l1 ∧ l1 < K.2 6 then zbind (f_Part_setAccidentals K l0 (F26 6 l1 2) F26 B26) (fun r28 F28 B28 => zbind (f_Part_setLedgers K l0 F28 B28) (fun r29 F29 B29 => zbind (f_Piece_beatLength K l1 F29 B29) (fun r30 F30 B30 => zbind (f_Part_group K l0 r30 F30 B30) (fun r31 F31 B31 => zbind (f_Part_setStems K l0 F31 B31) (fun r33 F33 B33 => f_Part_writeNotes_136 K F33 B33))))) else none) else f_Part_writeNotes_136 K F B) else none else none
set_option maxHeartbeats 4000000 in
set_option maxRecDepth 100000 in
theorem b_Part_writeNotes_101 {D : va_G} {ca : Nat → ClassId} {ad : Nat → Int → Nat → Nat} {L : List Nat} {aS vS : Nat → Nat} {A : Nat → Prop} {p : Program} {l : Launch} {e : Env} {s : State} {m : MethodId} {args : Array Value} {below : List Frame} {meth : Method} {c : Code} {K : zK} {r : Int} {F9 : zF} {B9 : zB} (X : zX D ca L aS vS A p s m args meth c prog_6_method_9_code 6 (Option.none : Option Jvm.ClassFile.FieldType) "StaveHouse$Part") {l0 : Int} {l1 : Int} {F : zF} {B : zB} {H : Heap} {locs : List Loc} {ls : Array Slot} (hf : f_Part_writeNotes_101 K l0 l1 F B = some (r, F9, B9)) (hZ : zH D ca ad lnC K.2 L F B A H) (hS : va_S A s.heap H locs) (hl : lv_has ls 6 [(0, .ref (ad 4 l0 0)), (1, .ref (ad 6 l1 0))]) : W p l e ({ frames := 5, cells := 0, slots := 0, locals := 143 } : Room) s m args below meth c H locs 0 0 (MQ below (Q_Part_writeNotes K D ca ad L r F9 B9 A) args s 0 0 A) (F0 m 101 ls []) := by
  obtain ⟨hx, hb, hr, hml, hown, hts, hlk, hK, hA, hL, hX⟩ := id X
  replace hf : (if 0 ≤ l0 ∧ l0 < K.2 4 then if r32 (F 4 l0 11) then (if (F 4 l0 11) = 0 then zbind (f_Part_hold K l0 F B) (fun r26 F26 B26 => if 0 ≤ l1 ∧ l1 < K.2 6 then zbind (f_Part_setAccidentals K l0 (F26 6 l1 2) F26 B26) (fun r28 F28 B28 => zbind (f_Part_setLedgers K l0 F28 B28) (fun r29 F29 B29 => zbind (f_Piece_beatLength K l1 F29 B29) (fun r30 F30 B30 => zbind (f_Part_group K l0 r30 F30 B30) (fun r31 F31 B31 => zbind (f_Part_setStems K l0 F31 B31) (fun r33 F33 B33 => f_Part_writeNotes_136 K F33 B33))))) else none) else f_Part_writeNotes_136 K F B) else none else none) = some (r, F9, B9) := hf
  refine lv_aload_n hx hb d_6_9_101 rfl (lv_at hl 0 rfl) ?_
  obtain ⟨g23, hf⟩ := gif hf
  refine zget (ci := 4) (C := RX4) (T := TX4) (v := .int (iI (F 4 l0 11))) (k := 11) hx hb hts inW_4 hown hK hZ g23.1 g23.2 rfl (by decide) k_4_151 rfl d_6_9_102 ?_
  obtain ⟨g24, hf⟩ := gif hf
  refine z0ne (tgt := 136) hx hb g24 d_6_9_105 (by decide) (fun h25 => ?_) (fun h25 => ?_)
  · replace hf := gneg hf h25
    exact b_Part_writeNotes_136 X hf hZ hS (lv_sub hl [] rfl)
  · replace hf := gpos hf h25
    refine lv_aload_n hx hb d_6_9_108 rfl (lv_at hl 0 rfl) ?_
    obtain ⟨r26, F26, B26, hc26, hf⟩ := gbind hf
    refine va_callv (va_runV (As := []) (rest := []) ⟨hx, hb, hml, hown, hts⟩ (c_Part_hold (l := l) hc26) (cwV 0 hts (gdV k_5_100 k_5_102 ks_53 k_1_18 k_5_103) rfl rfl rfl (by decide +kernel) ⟨Nat.le_of_ble_eq_true rfl, Nat.le_of_ble_eq_true rfl⟩) (zPV X hZ hS (ci := 4) g23.1 g23.2 (r := (RX4, TX4, 13)) rfl []) rfl rfl hl.1 rfl (lv_room (Nat.le_of_ble_eq_true rfl)) d_6_9_109 ⟨Nat.le_of_ble_eq_true rfl, Nat.le_of_ble_eq_true rfl⟩) hS (fun q _ h => zAin X hS q h) (zAin X hS) (fun u26 t26 H26 locs26 ht26 hv26 hw26 hB26 hz26 hk26 hS26 => ?_)
    have hZ26 := zBack X ht26 hB26
    refine lv_aload_n hx hb d_6_9_112 rfl (lv_at hl 0 rfl) ?_
    refine lv_aload_n hx hb d_6_9_113 rfl (lv_at hl 1 rfl) ?_
    obtain ⟨g27, hf⟩ := gif hf
    refine zget (ci := 6) (C := RX6) (T := TX6) (v := .int (iI (F26 6 l1 2))) (k := 2) hx hb hts inW_6 hown hK hZ26 g27.1 g27.2 rfl (by decide) k_2_198 rfl d_6_9_114 ?_
    obtain ⟨r28, F28, B28, hc28, hf⟩ := gbind hf
    refine va_callv (va_runV (As := [.int (iI (F26 6 l1 2))]) (rest := []) ⟨hx, hb, hml, hown, hts⟩ (c_Part_setAccidentals (l := l) hc28) (cwV 1 hts (gdV k_5_112 k_5_114 ks_56 k_1_18 k_5_115) rfl rfl rfl (by decide +kernel) ⟨Nat.le_of_ble_eq_true rfl, Nat.le_of_ble_eq_true rfl⟩) (zPV X hZ26 hS26 (ci := 4) g23.1 g23.2 (r := (RX4, TX4, 13)) rfl [.int (iI (F26 6 l1 2))]) rfl rfl hl.1 rfl (lv_room (Nat.le_of_ble_eq_true rfl)) d_6_9_117 ⟨Nat.le_of_ble_eq_true rfl, Nat.le_of_ble_eq_true rfl⟩) hS26 (fun q _ h => zAin X hS26 q h) (zAin X hS26) (fun u28 t28 H28 locs28 ht28 hv28 hw28 hB28 hz28 hk28 hS28 => ?_)
    have hZ28 := zBack X ht28 hB28
    refine lv_aload_n hx hb d_6_9_120 rfl (lv_at hl 0 rfl) ?_
    obtain ⟨r29, F29, B29, hc29, hf⟩ := gbind hf
    refine va_callv (va_runV (As := []) (rest := []) ⟨hx, hb, hml, hown, hts⟩ (c_Part_setLedgers (l := l) hc29) (cwV 0 hts (gdV k_5_130 k_5_132 ks_58 k_1_18 k_5_133) rfl rfl rfl (by decide +kernel) ⟨Nat.le_of_ble_eq_true rfl, Nat.le_of_ble_eq_true rfl⟩) (zPV X hZ28 hS28 (ci := 4) g23.1 g23.2 (r := (RX4, TX4, 13)) rfl []) rfl rfl hl.1 rfl (lv_room (Nat.le_of_ble_eq_true rfl)) d_6_9_121 ⟨Nat.le_of_ble_eq_true rfl, Nat.le_of_ble_eq_true rfl⟩) hS28 (fun q _ h => zAin X hS28 q h) (zAin X hS28) (fun u29 t29 H29 locs29 ht29 hv29 hw29 hB29 hz29 hk29 hS29 => ?_)
    have hZ29 := zBack X ht29 hB29
    refine lv_aload_n hx hb d_6_9_124 rfl (lv_at hl 0 rfl) ?_
    refine lv_aload_n hx hb d_6_9_125 rfl (lv_at hl 1 rfl) ?_
    obtain ⟨r30, F30, B30, hc30, hf⟩ := gbind hf
    refine va_calll (va_runV (As := []) (rest := [.ref (ad 4 l0 0)]) ⟨hx, hb, hml, hown, hts⟩ (c_Piece_beatLength (l := l) hc30) (cwV 0 hts (gdV k_5_144 k_5_145 k_5_146 k_1_15 k_5_147) rfl rfl rfl (by decide +kernel) ⟨Nat.le_of_ble_eq_true rfl, Nat.le_of_ble_eq_true rfl⟩) (zPV X hZ29 hS29 (ci := 6) g27.1 g27.2 (r := (RX6, TX6, 14)) rfl []) rfl rfl hl.1 rfl (lv_room (Nat.le_of_ble_eq_true rfl)) d_6_9_126 ⟨Nat.le_of_ble_eq_true rfl, Nat.le_of_ble_eq_true rfl⟩) hS29 (fun q _ h => zAin X hS29 q h) (zAin X hS29) (fun p30 u30 t30 H30 locs30 ht30 hv30 hw30 hB30 hz30 hk30 hS30 => ?_)
    have hZ30 := zBack X ht30 hB30
    subst hw30
    obtain ⟨r31, F31, B31, hc31, hf⟩ := gbind hf
    refine va_callv (va_runV (As := [.long (lI r30)]) (rest := []) ⟨hx, hb, hml, hown, hts⟩ (c_Part_group (l := l) hc31) (cwV 1 hts (gdV k_5_149 k_5_151 ks_61 k_1_18 k_5_152) rfl rfl rfl (by decide +kernel) ⟨Nat.le_of_ble_eq_true rfl, Nat.le_of_ble_eq_true rfl⟩) (zPV X hZ30 hS30 (ci := 4) g23.1 g23.2 (r := (RX4, TX4, 13)) rfl [.long (lI r30)]) rfl rfl hl.1 rfl (lv_room (Nat.le_of_ble_eq_true rfl)) d_6_9_129 ⟨Nat.le_of_ble_eq_true rfl, Nat.le_of_ble_eq_true rfl⟩) hS30 (fun q _ h => zAin X hS30 q h) (zAin X hS30) (fun u31 t31 H31 locs31 ht31 hv31 hw31 hB31 hz31 hk31 hS31 => ?_)
    have hZ31 := zBack X ht31 hB31
    refine lv_aload_n hx hb d_6_9_132 rfl (lv_at hl 0 rfl) ?_
    obtain ⟨r33, F33, B33, hc33, hf⟩ := gbind hf
    refine va_callv (va_runV (As := []) (rest := []) ⟨hx, hb, hml, hown, hts⟩ (c_Part_setStems (l := l) hc33) (cwV 0 hts (gdV k_5_162 k_5_164 ks_64 k_1_18 k_5_165) rfl rfl rfl (by decide +kernel) ⟨Nat.le_of_ble_eq_true rfl, Nat.le_of_ble_eq_true rfl⟩) (zPV X hZ31 hS31 (ci := 4) g23.1 g23.2 (r := (RX4, TX4, 13)) rfl []) rfl rfl hl.1 rfl (lv_room (Nat.le_of_ble_eq_true rfl)) d_6_9_133 ⟨Nat.le_of_ble_eq_true rfl, Nat.le_of_ble_eq_true rfl⟩) hS31 (fun q _ h => zAin X hS31 q h) (zAin X hS31) (fun u33 t33 H33 locs33 ht33 hv33 hw33 hB33 hz33 hk33 hS33 => ?_)
    have hZ33 := zBack X ht33 hB33
    exact b_Part_writeNotes_136 X hf hZ33 hS33 (lv_sub hl [] rfl)

noncomputable def f_Part_writeNotes_78 (K : zK) (l2 : Int) (l0 : Int) (l1 : Int) (s0 : Int) (F : zF) (B : zB) : zO := if r64 s0 then (if (zcmp s0 0) = 0 then f_Part_writeNotes_101 K l0 l1 F B else if 0 ≤ l0 ∧ l0 < K.2 4 then zbind (f_Part_cut K l0 l1 (-1) (F 4 l0 7) (l2 - s0) F B) (fun r22 F22 B22 => f_Part_writeNotes_101 K l0 l1 F22 B22) else none) else none
set_option maxHeartbeats 4000000 in
set_option maxRecDepth 100000 in
theorem b_Part_writeNotes_78 {D : va_G} {ca : Nat → ClassId} {ad : Nat → Int → Nat → Nat} {L : List Nat} {aS vS : Nat → Nat} {A : Nat → Prop} {p : Program} {l : Launch} {e : Env} {s : State} {m : MethodId} {args : Array Value} {below : List Frame} {meth : Method} {c : Code} {K : zK} {r : Int} {F9 : zF} {B9 : zB} (X : zX D ca L aS vS A p s m args meth c prog_6_method_9_code 6 (Option.none : Option Jvm.ClassFile.FieldType) "StaveHouse$Part") {l2 : Int} {l0 : Int} {l1 : Int} {s0 : Int} {F : zF} {B : zB} {H : Heap} {locs : List Loc} {ls : Array Slot} (hf : f_Part_writeNotes_78 K l2 l0 l1 s0 F B = some (r, F9, B9)) (hZ : zH D ca ad lnC K.2 L F B A H) (hS : va_S A s.heap H locs) (hl : lv_has ls 6 [(2, .long (lI l2)), (0, .ref (ad 4 l0 0)), (1, .ref (ad 6 l1 0))]) : W p l e ({ frames := 5, cells := 0, slots := 0, locals := 143 } : Room) s m args below meth c H locs 0 0 (MQ below (Q_Part_writeNotes K D ca ad L r F9 B9 A) args s 0 0 A) (F0 m 78 ls [.long (lI s0)]) := by
  obtain ⟨hx, hb, hr, hml, hown, hts, hlk, hK, hA, hL, hX⟩ := id X
  replace hf : (if r64 s0 then (if (zcmp s0 0) = 0 then f_Part_writeNotes_101 K l0 l1 F B else if 0 ≤ l0 ∧ l0 < K.2 4 then zbind (f_Part_cut K l0 l1 (-1) (F 4 l0 7) (l2 - s0) F B) (fun r22 F22 B22 => f_Part_writeNotes_101 K l0 l1 F22 B22) else none) else none) = some (r, F9, B9) := hf
  refine lv_lstore (lv' := [(4, .long (lI s0)), (2, .long (lI l2)), (0, .ref (ad 4 l0 0)), (1, .ref (ad 6 l1 0))]) hx hb d_6_9_78 hl (by decide) rfl (fun ls hl => ?_)
  refine lv_lload hx hb d_6_9_80 (lv_at hl 0 rfl) ?_
  refine lv_lconst (v := lI 0) hx hb d_6_9_82 (by decide) ?_
  obtain ⟨g19, hf⟩ := gif hf
  refine zcmp_r hx hb g19 (by decide) d_6_9_83 ?_
  refine z0eq (tgt := 101) hx hb zcmp_32 d_6_9_84 (by decide) (fun h20 => ?_) (fun h20 => ?_)
  · replace hf := gpos hf h20
    exact b_Part_writeNotes_101 X hf hZ hS (lv_sub hl [2, 3] rfl)
  · replace hf := gneg hf h20
    refine lv_aload_n hx hb d_6_9_87 rfl (lv_at hl 2 rfl) ?_
    refine lv_aload_n hx hb d_6_9_88 rfl (lv_at hl 3 rfl) ?_
    refine lv_iconst (v := iI (-1)) hx hb d_6_9_89 rfl ?_
    refine lv_aload_n hx hb d_6_9_90 rfl (lv_at hl 2 rfl) ?_
    obtain ⟨g21, hf⟩ := gif hf
    refine zget (ci := 4) (C := RX4) (T := TX4) (v := .long (lI (F 4 l0 7))) (k := 7) hx hb hts inW_4 hown hK hZ g21.1 g21.2 rfl (by decide) k_4_140 rfl d_6_9_91 ?_
    refine lv_lload_n hx hb d_6_9_94 rfl (lv_at hl 1 rfl) ?_
    refine lv_lload hx hb d_6_9_95 (lv_at hl 0 rfl) ?_
    refine zlsub hx hb d_6_9_97 ?_
    obtain ⟨r22, F22, B22, hc22, hf⟩ := gbind hf
    refine va_callv (va_runV (As := [.ref (ad 6 l1 0), .int (iI (-1)), .long (lI (F 4 l0 7)), .long (lI (l2 - s0))]) (rest := []) ⟨hx, hb, hml, hown, hts⟩ (c_Part_cut (l := l) hc22) (cwV 4 hts (gdV k_5_53 k_5_55 ks_49 k_1_18 k_5_56) rfl rfl rfl (by decide +kernel) ⟨Nat.le_of_ble_eq_true rfl, Nat.le_of_ble_eq_true rfl⟩) (zPV X hZ hS (ci := 4) g21.1 g21.2 (r := (RX4, TX4, 13)) rfl [.ref (ad 6 l1 0), .int (iI (-1)), .long (lI (F 4 l0 7)), .long (lI (l2 - s0))]) rfl rfl hl.1 rfl (lv_room (Nat.le_of_ble_eq_true rfl)) d_6_9_98 ⟨Nat.le_of_ble_eq_true rfl, Nat.le_of_ble_eq_true rfl⟩) hS (fun q _ h => zAin X hS q h) (zAin X hS) (fun u22 t22 H22 locs22 ht22 hv22 hw22 hB22 hz22 hk22 hS22 => ?_)
    have hZ22 := zBack X ht22 hB22
    exact b_Part_writeNotes_101 X hf hZ22 hS22 (lv_sub hl [2, 3] rfl)

noncomputable def f_Part_writeNotes_57 (K : zK) (l0 : Int) (l1 : Int) (F : zF) (B : zB) : zO := if 0 ≤ l1 ∧ l1 < K.2 6 then zbind (f_Piece_barLength K l1 F B) (fun r14 F14 B14 => if r64 r14 then (if (zcmp r14 0) ≤ 0 then f_Part_writeNotes_78 K r14 l0 l1 0 F14 B14 else if 0 ≤ l0 ∧ l0 < K.2 4 then if ¬ lI r14 = 0 then f_Part_writeNotes_78 K r14 l0 l1 (zlrm (F14 4 l0 7) r14) F14 B14 else none else none) else none) else none
set_option maxHeartbeats 4000000 in
set_option maxRecDepth 100000 in
theorem b_Part_writeNotes_57 {D : va_G} {ca : Nat → ClassId} {ad : Nat → Int → Nat → Nat} {L : List Nat} {aS vS : Nat → Nat} {A : Nat → Prop} {p : Program} {l : Launch} {e : Env} {s : State} {m : MethodId} {args : Array Value} {below : List Frame} {meth : Method} {c : Code} {K : zK} {r : Int} {F9 : zF} {B9 : zB} (X : zX D ca L aS vS A p s m args meth c prog_6_method_9_code 6 (Option.none : Option Jvm.ClassFile.FieldType) "StaveHouse$Part") {l0 : Int} {l1 : Int} {F : zF} {B : zB} {H : Heap} {locs : List Loc} {ls : Array Slot} (hf : f_Part_writeNotes_57 K l0 l1 F B = some (r, F9, B9)) (hZ : zH D ca ad lnC K.2 L F B A H) (hS : va_S A s.heap H locs) (hl : lv_has ls 6 [(0, .ref (ad 4 l0 0)), (1, .ref (ad 6 l1 0))]) : W p l e ({ frames := 5, cells := 0, slots := 0, locals := 143 } : Room) s m args below meth c H locs 0 0 (MQ below (Q_Part_writeNotes K D ca ad L r F9 B9 A) args s 0 0 A) (F0 m 57 ls []) := by
  obtain ⟨hx, hb, hr, hml, hown, hts, hlk, hK, hA, hL, hX⟩ := id X
  replace hf : (if 0 ≤ l1 ∧ l1 < K.2 6 then zbind (f_Piece_barLength K l1 F B) (fun r14 F14 B14 => if r64 r14 then (if (zcmp r14 0) ≤ 0 then f_Part_writeNotes_78 K r14 l0 l1 0 F14 B14 else if 0 ≤ l0 ∧ l0 < K.2 4 then if ¬ lI r14 = 0 then f_Part_writeNotes_78 K r14 l0 l1 (zlrm (F14 4 l0 7) r14) F14 B14 else none else none) else none) else none) = some (r, F9, B9) := hf
  refine lv_aload_n hx hb d_6_9_57 rfl (lv_at hl 1 rfl) ?_
  obtain ⟨g13, hf⟩ := gif hf
  obtain ⟨r14, F14, B14, hc14, hf⟩ := gbind hf
  refine va_calll (va_runV (As := []) (rest := []) ⟨hx, hb, hml, hown, hts⟩ (c_Piece_barLength (l := l) hc14) (cwV 0 hts (gdV k_5_31 k_4_190 k_4_191 k_1_15 k_4_192) rfl rfl rfl (by decide +kernel) ⟨Nat.le_of_ble_eq_true rfl, Nat.le_of_ble_eq_true rfl⟩) (zPV X hZ hS (ci := 6) g13.1 g13.2 (r := (RX6, TX6, 14)) rfl []) rfl rfl hl.1 rfl (lv_room (Nat.le_of_ble_eq_true rfl)) d_6_9_58 ⟨Nat.le_of_ble_eq_true rfl, Nat.le_of_ble_eq_true rfl⟩) hS (fun q _ h => zAin X hS q h) (zAin X hS) (fun p14 u14 t14 H14 locs14 ht14 hv14 hw14 hB14 hz14 hk14 hS14 => ?_)
  have hZ14 := zBack X ht14 hB14
  subst hw14
  refine lv_lstore_n (lv' := [(2, .long (lI r14)), (0, .ref (ad 4 l0 0)), (1, .ref (ad 6 l1 0))]) hx hb d_6_9_61 rfl hl (by decide) rfl (fun ls hl => ?_)
  refine lv_lload_n hx hb d_6_9_62 rfl (lv_at hl 0 rfl) ?_
  refine lv_lconst (v := lI 0) hx hb d_6_9_63 (by decide) ?_
  obtain ⟨g15, hf⟩ := gif hf
  refine zcmp_r hx hb g15 (by decide) d_6_9_64 ?_
  refine z0le (tgt := 77) hx hb zcmp_32 d_6_9_65 (by decide) (fun h16 => ?_) (fun h16 => ?_)
  · replace hf := gpos hf h16
    refine lv_lconst (v := lI 0) hx hb d_6_9_77 (by decide) ?_
    exact b_Part_writeNotes_78 X hf hZ14 hS14 (lv_sub hl [0, 1, 2] rfl)
  · replace hf := gneg hf h16
    refine lv_aload_n hx hb d_6_9_68 rfl (lv_at hl 1 rfl) ?_
    obtain ⟨g17, hf⟩ := gif hf
    refine zget (ci := 4) (C := RX4) (T := TX4) (v := .long (lI (F14 4 l0 7))) (k := 7) hx hb hts inW_4 hown hK hZ14 g17.1 g17.2 rfl (by decide) k_4_140 rfl d_6_9_69 ?_
    refine lv_lload_n hx hb d_6_9_72 rfl (lv_at hl 0 rfl) ?_
    obtain ⟨g18, hf⟩ := gif hf
    refine zlrm_r hx hb g18 d_6_9_73 ?_
    refine lv_goto (tgt := 78) hx hb d_6_9_74 (by decide) ?_
    exact b_Part_writeNotes_78 X hf hZ14 hS14 (lv_sub hl [0, 1, 2] rfl)

noncomputable def f_Part_writeNotes_12 (K : zK) : Nat → Int → Int → Int → zF → zB → zO
  | 0, _, _, _, _, _ => none
  | n + 1, l2, l0, l1, F, B => if 0 ≤ l0 ∧ l0 < K.2 4 then if r32 l2 then if r32 (F 4 l0 6) then (if (F 4 l0 6) ≤ l2 then f_Part_writeNotes_57 K l0 l1 F B else if r32 (F 4 l0 11) then (if (F 4 l0 11) = 0 then if 0 ≤ l2 ∧ l2 < 200 then if 0 ≤ (B 4 l0 5 l2) ∧ (B 4 l0 5 l2) < K.2 1 then zbind (f_Part_cut K l0 l1 l2 (F 1 (B 4 l0 5 l2) 0) (F 1 (B 4 l0 5 l2) 1) F B) (fun r12 F12 B12 => f_Part_writeNotes_12 K n (l2 + 1) l0 l1 F12 B12) else none else none else f_Part_writeNotes_57 K l0 l1 F B) else none) else none else none else none
set_option maxHeartbeats 4000000 in
set_option maxRecDepth 100000 in
theorem b_Part_writeNotes_12 {D : va_G} {ca : Nat → ClassId} {ad : Nat → Int → Nat → Nat} {L : List Nat} {aS vS : Nat → Nat} {A : Nat → Prop} {p : Program} {l : Launch} {e : Env} {s : State} {m : MethodId} {args : Array Value} {below : List Frame} {meth : Method} {c : Code} {K : zK} {r : Int} {F9 : zF} {B9 : zB} (X : zX D ca L aS vS A p s m args meth c prog_6_method_9_code 6 (Option.none : Option Jvm.ClassFile.FieldType) "StaveHouse$Part") : ∀ {n : Nat} {l2 : Int} {l0 : Int} {l1 : Int} {F : zF} {B : zB} {H : Heap} {locs : List Loc} {ls : Array Slot}, f_Part_writeNotes_12 K n l2 l0 l1 F B = some (r, F9, B9) → zH D ca ad lnC K.2 L F B A H → va_S A s.heap H locs → lv_has ls 6 [(2, .int (iI l2)), (0, .ref (ad 4 l0 0)), (1, .ref (ad 6 l1 0))] → W p l e ({ frames := 5, cells := 0, slots := 0, locals := 143 } : Room) s m args below meth c H locs 0 0 (MQ below (Q_Part_writeNotes K D ca ad L r F9 B9 A) args s 0 0 A) (F0 m 12 ls []) := by
  obtain ⟨hx, hb, hr, hml, hown, hts, hlk, hK, hA, hL, hX⟩ := id X
  intro n
  induction n with
  | zero =>
    intros
    rename_i hf _ _ _
    cases hf
  | succ n ih =>
    intro l2 l0 l1 F B H locs ls hf hZ hS hl
    replace hf : (if 0 ≤ l0 ∧ l0 < K.2 4 then if r32 l2 then if r32 (F 4 l0 6) then (if (F 4 l0 6) ≤ l2 then f_Part_writeNotes_57 K l0 l1 F B else if r32 (F 4 l0 11) then (if (F 4 l0 11) = 0 then if 0 ≤ l2 ∧ l2 < 200 then if 0 ≤ (B 4 l0 5 l2) ∧ (B 4 l0 5 l2) < K.2 1 then zbind (f_Part_cut K l0 l1 l2 (F 1 (B 4 l0 5 l2) 0) (F 1 (B 4 l0 5 l2) 1) F B) (fun r12 F12 B12 => f_Part_writeNotes_12 K n (l2 + 1) l0 l1 F12 B12) else none else none else f_Part_writeNotes_57 K l0 l1 F B) else none) else none else none else none) = some (r, F9, B9) := hf
    refine lv_iload_n hx hb d_6_9_12 rfl (lv_at hl 0 rfl) ?_
    refine lv_aload_n hx hb d_6_9_13 rfl (lv_at hl 1 rfl) ?_
    obtain ⟨g4, hf⟩ := gif hf
    refine zget (ci := 4) (C := RX4) (T := TX4) (v := .int (iI (F 4 l0 6))) (k := 6) hx hb hts inW_4 hown hK hZ g4.1 g4.2 rfl (by decide) k_4_135 rfl d_6_9_14 ?_
    obtain ⟨g5, hf⟩ := gif hf
    obtain ⟨g6, hf⟩ := gif hf
    refine zge (tgt := 57) hx hb g5 g6 d_6_9_17 (by decide) (fun h7 => ?_) (fun h7 => ?_)
    · replace hf := gpos hf h7
      exact b_Part_writeNotes_57 X hf hZ hS (lv_sub hl [1, 2] rfl)
    · replace hf := gneg hf h7
      refine lv_aload_n hx hb d_6_9_20 rfl (lv_at hl 1 rfl) ?_
      refine zget (ci := 4) (C := RX4) (T := TX4) (v := .int (iI (F 4 l0 11))) (k := 11) hx hb hts inW_4 hown hK hZ g4.1 g4.2 rfl (by decide) k_4_151 rfl d_6_9_21 ?_
      obtain ⟨g8, hf⟩ := gif hf
      refine z0ne (tgt := 57) hx hb g8 d_6_9_24 (by decide) (fun h9 => ?_) (fun h9 => ?_)
      · replace hf := gneg hf h9
        exact b_Part_writeNotes_57 X hf hZ hS (lv_sub hl [1, 2] rfl)
      · replace hf := gpos hf h9
        refine lv_aload_n hx hb d_6_9_27 rfl (lv_at hl 1 rfl) ?_
        refine lv_aload_n hx hb d_6_9_28 rfl (lv_at hl 2 rfl) ?_
        refine lv_iload_n hx hb d_6_9_29 rfl (lv_at hl 0 rfl) ?_
        refine lv_aload_n hx hb d_6_9_30 rfl (lv_at hl 1 rfl) ?_
        refine zget (ci := 4) (C := RX4) (T := TX4) (v := .ref (ad 4 l0 (5 + 1))) (k := 5) hx hb hts inW_4 hown hK hZ g4.1 g4.2 rfl (by decide) k_4_130 rfl d_6_9_31 ?_
        refine lv_iload_n hx hb d_6_9_34 rfl (lv_at hl 0 rfl) ?_
        obtain ⟨g10, hf⟩ := gif hf
        refine zaldR (t := 1) (x := 7) (ci := 4) (k := 5) hx hb hK rfl rfl hZ g4.1 g4.2 rfl (Nat.le_of_ble_eq_true rfl) g10.1 g10.2 d_6_9_35 ?_
        obtain ⟨g11, hf⟩ := gif hf
        refine zunrf g11.1 ?_
        refine zget (ci := 1) (C := RX1) (T := TX1) (v := .long (lI (F 1 (B 4 l0 5 l2) 0))) (k := 0) hx hb hts inW_1 hown hK hZ g11.1 g11.2 rfl (by decide) k_2_21 rfl d_6_9_36 ?_
        refine lv_aload_n hx hb d_6_9_39 rfl (lv_at hl 1 rfl) ?_
        refine zget (ci := 4) (C := RX4) (T := TX4) (v := .ref (ad 4 l0 (5 + 1))) (k := 5) hx hb hts inW_4 hown hK hZ g4.1 g4.2 rfl (by decide) k_4_130 rfl d_6_9_40 ?_
        refine lv_iload_n hx hb d_6_9_43 rfl (lv_at hl 0 rfl) ?_
        refine zaldR (t := 1) (x := 7) (ci := 4) (k := 5) hx hb hK rfl rfl hZ g4.1 g4.2 rfl (Nat.le_of_ble_eq_true rfl) g10.1 g10.2 d_6_9_44 ?_
        refine zunrf g11.1 ?_
        refine zget (ci := 1) (C := RX1) (T := TX1) (v := .long (lI (F 1 (B 4 l0 5 l2) 1))) (k := 1) hx hb hts inW_1 hown hK hZ g11.1 g11.2 rfl (by decide) k_2_24 rfl d_6_9_45 ?_
        obtain ⟨r12, F12, B12, hc12, hf⟩ := gbind hf
        refine va_callv (va_runV (As := [.ref (ad 6 l1 0), .int (iI l2), .long (lI (F 1 (B 4 l0 5 l2) 0)), .long (lI (F 1 (B 4 l0 5 l2) 1))]) (rest := []) ⟨hx, hb, hml, hown, hts⟩ (c_Part_cut (l := l) hc12) (cwV 4 hts (gdV k_5_53 k_5_55 ks_49 k_1_18 k_5_56) rfl rfl rfl (by decide +kernel) ⟨Nat.le_of_ble_eq_true rfl, Nat.le_of_ble_eq_true rfl⟩) (zPV X hZ hS (ci := 4) g4.1 g4.2 (r := (RX4, TX4, 13)) rfl [.ref (ad 6 l1 0), .int (iI l2), .long (lI (F 1 (B 4 l0 5 l2) 0)), .long (lI (F 1 (B 4 l0 5 l2) 1))]) rfl rfl hl.1 rfl (lv_room (Nat.le_of_ble_eq_true rfl)) d_6_9_48 ⟨Nat.le_of_ble_eq_true rfl, Nat.le_of_ble_eq_true rfl⟩) hS (fun q _ h => zAin X hS q h) (zAin X hS) (fun u12 t12 H12 locs12 ht12 hv12 hw12 hB12 hz12 hk12 hS12 => ?_)
        have hZ12 := zBack X ht12 hB12
        refine lv_iinc (v := iI (l2 + 1)) (lv' := [(2, .int (iI (l2 + 1))), (0, .ref (ad 4 l0 0)), (1, .ref (ad 6 l1 0))]) hx hb d_6_9_51 hl (k := 0) rfl (iI_add _ 1) (by decide) rfl (fun ls hl => ?_)
        refine lv_goto (tgt := 12) hx hb d_6_9_54 (by decide) ?_
        exact ih hf hZ12 hS12 (lv_sub hl [0, 1, 2] rfl)

noncomputable def f_Part_writeNotes (K : zK) (l0 : Int) (l1 : Int) (F : zF) (B : zB) : zO := if 0 ≤ l0 ∧ l0 < K.2 4 then f_Part_writeNotes_12 K K.1 0 l0 l1 (zup3 (zup3 F 4 l0 10 0) 4 l0 11 0) B else none
set_option maxHeartbeats 4000000 in
set_option maxRecDepth 100000 in
theorem c_Part_writeNotes {l : Launch} {D : va_G} {ca : Nat → ClassId} {ad : Nat → Int → Nat → Nat} {L : List Nat} {aS vS : Nat → Nat} {sz : Nat} {K : zK}  {l0 : Int} {l1 : Int} {F F9 : zF} {B B9 : zB} {r : Int} (hf : f_Part_writeNotes K l0 l1 F B = some (r, F9, B9)) : Met l ({ cls := "StaveHouse$Part", name := "writeNotes", desc := "(LStaveHouse$Piece;)V" } : Jvm.MethodName) (Cond.code ({ cls := "StaveHouse$Part", name := "writeNotes", desc := "(LStaveHouse$Piece;)V" } : Jvm.MethodName) prog_6_method_9_code 6 (Option.none : Option Jvm.ClassFile.FieldType) :: wAll) ({ frames := 5, cells := 0, slots := 0, locals := 143 } : Room) (va_Pc [.ref (ad 4 l0 0), .ref (ad 6 l1 0)] (zPre D ca ad lnC K.2 L aS vS F B sz)) (Q_Part_writeNotes K D ca ad L r F9 B9 (zA L sz)) 0 0 (zA L sz) := by
  refine zMet (Qc := Q_Part_writeNotes K D ca ad L r F9 B9) (lv := [(0, .ref (ad 4 l0 0)), (1, .ref (ad 6 l1 0))]) (by decide) (Nat.le_of_ble_eq_true rfl) rfl (fun A p e s m below meth c ls X hZ hS hl => ?_)
  obtain ⟨hx, hb, hr, hml, hown, hts, hlk, hK, hA, hL, hX⟩ := id X
  replace hf : (if 0 ≤ l0 ∧ l0 < K.2 4 then f_Part_writeNotes_12 K K.1 0 l0 l1 (zup3 (zup3 F 4 l0 10 0) 4 l0 11 0) B else none) = some (r, F9, B9) := hf
  refine lv_aload_n hx hb d_6_9_0 rfl (lv_at hl 0 rfl) ?_
  refine lv_iconst (v := iI 0) hx hb d_6_9_1 rfl ?_
  obtain ⟨g1, hf⟩ := gif hf
  refine zput (ci := 4) (C := RX4) (T := TX4) (k := 10) (v := 0) (w := .int (iI 0)) hx hb hts inW_4 tyX4 tyX4_ok nmX4 hown hK hZ hS g1.1 g1.2 rfl (by decide) k_4_148 rfl (fun G h => congrArg (fun q => Value.int (iI q)) h) rfl rfl (zno (by decide)) d_6_9_2 (fun H2 locs2 hZ2 hS2 => ?_)
  refine lv_aload_n hx hb d_6_9_5 rfl (lv_at hl 0 rfl) ?_
  refine lv_iconst (v := iI 0) hx hb d_6_9_6 rfl ?_
  refine zput (ci := 4) (C := RX4) (T := TX4) (k := 11) (v := 0) (w := .int (iI 0)) hx hb hts inW_4 tyX4 tyX4_ok nmX4 hown hK hZ2 hS2 g1.1 g1.2 rfl (by decide) k_4_151 rfl (fun G h => congrArg (fun q => Value.int (iI q)) h) rfl rfl (zno (by decide)) d_6_9_7 (fun H3 locs3 hZ3 hS3 => ?_)
  refine lv_iconst (v := iI 0) hx hb d_6_9_10 rfl ?_
  refine lv_istore_n (lv' := [(2, .int (iI 0)), (0, .ref (ad 4 l0 0)), (1, .ref (ad 6 l1 0))]) hx hb d_6_9_11 rfl hl (by decide) rfl (fun ls hl => ?_)
  exact b_Part_writeNotes_12 X hf hZ3 hS3 (lv_sub hl [0, 1, 2] rfl)


