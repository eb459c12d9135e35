set_option maxHeartbeats 4000000 in
set_option maxRecDepth 100000 in
theorem b_Event_sharedWith_4 {D : va_G} {ca : Nat → ClassId} {ad : Nat → Int → Nat → Nat} {L : List Nat} {aS vS : Nat → Nat} {A : Nat → Prop} {p : Program} {l : Launch} {e : Env} {s : State} {m : MethodId} {args : Array Value} {below : List Frame} {meth : Method} {c : Code} {K : zK} {r : Int} {F9 : zF} {B9 : zB} (X : zX D ca L aS vS A p s m args meth c prog_3_method_7_code 4 (Option.some Jvm.ClassFile.FieldType.int) "StaveHouse$Event") : ∀ {n : Nat} {l3 : Int} {l2 : Int} {l0 : Int} {l1 : Int} {F : zF} {B : zB} {H : Heap} {locs : List Loc} {ls : Array Slot}, f_Event_sharedWith_4 K n l3 l2 l0 l1 F B = some (r, F9, B9) → zH D ca ad lnC K.2 L F B A H → va_S A s.heap H locs → lv_has ls 4 [(3, .int (iI l3)), (2, .int (iI l2)), (0, .ref (ad 1 l0 0)), (1, .ref (ad 1 l1 0))] → W p l e ({ frames := 1, cells := 0, slots := 0, locals := 23 } : Room) s m args below meth c H locs 0 0 (MQ below (Q_Event_sharedWith K D ca ad L r F9 B9 A) args s 0 0 A) (F0 m 4 ls []) := by
  obtain ⟨hx, hb, hr, hml, hown, hts, hlk, hK, hA, hL, hX⟩ := id X
  intro n
  induction n with
  | zero =>
    intros
    rename_i hf _ _ _
    cases hf
  | succ n ih =>
    intro l3 l2 l0 l1 F B H locs ls hf hZ hS hl
    replace hf : (if 0 ≤ l0 ∧ l0 < K.2 1 then if r32 l3 then if r32 (F 1 l0 10) then (if (F 1 l0 10) ≤ l3 then some (l2, F, B) else if 0 ≤ l3 ∧ l3 < 6 then if 0 ≤ l1 ∧ l1 < K.2 1 then zbind (f_Event_hasPitch K l1 (B 1 l0 12 l3) (B 1 l0 13 l3) F B) (fun r7 F7 B7 => if r32 r7 then (if r7 = 0 then f_Event_sharedWith_39 (f_Event_sharedWith_4 K n) K l3 l0 l1 l2 0 F7 B7 else f_Event_sharedWith_39 (f_Event_sharedWith_4 K n) K l3 l0 l1 l2 (zshl 1 l3) F7 B7) else none) else none else none) else none else none else none) = some (r, F9, B9) := hf
    refine lv_iload_n hx hb d_3_7_4 rfl (lv_at hl 0 rfl) ?_
    refine lv_aload_n hx hb d_3_7_5 rfl (lv_at hl 2 rfl) ?_
    obtain ⟨g1, hf⟩ := gif hf
    refine zget (ci := 1) (C := RX1) (T := TX1) (v := .int (iI (F 1 l0 10))) (k := 10) hx hb hts inW_1 hown hK hZ g1.1 g1.2 rfl (by decide) k_2_48 rfl d_3_7_6 ?_
    obtain ⟨g2, hf⟩ := gif hf
    obtain ⟨g3, hf⟩ := gif hf
    refine zge (tgt := 47) hx hb g2 g3 d_3_7_9 (by decide) (fun h4 => ?_) (fun h4 => ?_)
    · replace hf := gpos hf h4
      refine lv_iload_n hx hb d_3_7_47 rfl (lv_at hl 1 rfl) ?_
      cases hf
      exact W.iret hx hb hr (fun t ht hW => ⟨⟨_, (), rfl, rfl, by rw [ht]; exact hZ, va_K.moved hW.alike hK⟩, hS.F ht⟩) hS.2.2 d_3_7_48 hlk
    · replace hf := gneg hf h4
      refine lv_iload_n hx hb d_3_7_12 rfl (lv_at hl 1 rfl) ?_
      refine lv_aload_n hx hb d_3_7_13 rfl (lv_at hl 3 rfl) ?_
      refine lv_aload_n hx hb d_3_7_14 rfl (lv_at hl 2 rfl) ?_
      refine zget (ci := 1) (C := RX1) (T := TX1) (v := .ref (ad 1 l0 (12 + 1))) (k := 12) hx hb hts inW_1 hown hK hZ g1.1 g1.2 rfl (by decide) k_2_57 rfl d_3_7_15 ?_
      refine lv_iload_n hx hb d_3_7_18 rfl (lv_at hl 0 rfl) ?_
      obtain ⟨g5, hf⟩ := gif hf
      refine zald (ci := 1) (k := 12) hx hb hK rfl hZ g1.1 g1.2 rfl (Nat.le_of_ble_eq_true rfl) g5.1 g5.2 d_3_7_19 ?_
      refine lv_aload_n hx hb d_3_7_20 rfl (lv_at hl 2 rfl) ?_
      refine zget (ci := 1) (C := RX1) (T := TX1) (v := .ref (ad 1 l0 (13 + 1))) (k := 13) hx hb hts inW_1 hown hK hZ g1.1 g1.2 rfl (by decide) k_2_63 rfl d_3_7_21 ?_
      refine lv_iload_n hx hb d_3_7_24 rfl (lv_at hl 0 rfl) ?_
      refine zald (ci := 1) (k := 13) hx hb hK rfl hZ g1.1 g1.2 rfl (Nat.le_of_ble_eq_true rfl) g5.1 g5.2 d_3_7_25 ?_
      obtain ⟨g6, hf⟩ := gif hf
      obtain ⟨r7, F7, B7, hc7, hf⟩ := gbind hf
      refine va_calli (va_runV (As := [.int (iI (B 1 l0 12 l3)), .int (iI (B 1 l0 13 l3))]) (rest := [.int (iI l2)]) ⟨hx, hb, hml, hown, hts⟩ (c_Event_hasPitch (l := l) hc7) (cwV 2 hts (gdV k_5_45 k_5_46 k_5_47 k_1_8 k_5_48) rfl rfl rfl (by decide +kernel) ⟨Nat.le_of_ble_eq_true rfl, Nat.le_of_ble_eq_true rfl⟩) (zPV X hZ hS (ci := 1) g6.1 g6.2 (r := (RX1, TX1, 14)) rfl [.int (iI (B 1 l0 12 l3)), .int (iI (B 1 l0 13 l3))]) rfl rfl hl.1 rfl (lv_room (Nat.le_of_ble_eq_true rfl)) d_3_7_26 ⟨Nat.le_of_ble_eq_true rfl, Nat.le_of_ble_eq_true rfl⟩) hS (fun q _ h => zAin X hS q h) (zAin X hS) (fun p7 u7 t7 H7 locs7 ht7 hv7 hw7 hB7 hz7 hk7 hS7 => ?_)
      have hZ7 := zBack X ht7 hB7
      subst hw7
      obtain ⟨g8, hf⟩ := gif hf
      refine z0eq (tgt := 38) hx hb g8 d_3_7_29 (by decide) (fun h9 => ?_) (fun h9 => ?_)
      · replace hf := gpos hf h9
        refine lv_iconst (v := iI 0) hx hb d_3_7_38 rfl ?_
        exact b_Event_sharedWith_39 X ih hf hZ7 hS7 (lv_sub hl [0, 2, 3] rfl)
      · replace hf := gneg hf h9
        refine lv_iconst (v := iI 1) hx hb d_3_7_32 rfl ?_
        refine lv_iload_n hx hb d_3_7_33 rfl (lv_at hl 0 rfl) ?_
        refine zshl_r hx hb d_3_7_34 ?_
        refine lv_goto (tgt := 39) hx hb d_3_7_35 (by decide) ?_
        exact b_Event_sharedWith_39 X ih hf hZ7 hS7 (lv_sub hl [0, 2, 3] rfl)

noncomputable def f_Event_sharedWith (K : zK) (l0 : Int) (l1 : Int) (F : zF) (B : zB) : zO := f_Event_sharedWith_4 K K.1 0 0 l0 l1 F B
set_option maxHeartbeats 4000000 in
set_option maxRecDepth 100000 in
theorem c_Event_sharedWith {l : Launch} {D : va_G} {ca : Nat → ClassId} {ad : Nat → Int → Nat → Nat} {L : List Nat} {aS vS : Nat → Nat} {sz : Nat} {K : zK}  {l0 : Int} {l1 : Int} {F F9 : zF} {B B9 : zB} {r : Int} (hf : f_Event_sharedWith K l0 l1 F B = some (r, F9, B9)) : Met l ({ cls := "StaveHouse$Event", name := "sharedWith", desc := "(LStaveHouse$Event;)I" } : Jvm.MethodName) (Cond.code ({ cls := "StaveHouse$Event", name := "sharedWith", desc := "(LStaveHouse$Event;)I" } : Jvm.MethodName) prog_3_method_7_code 4 (Option.some Jvm.ClassFile.FieldType.int) :: wAll) ({ frames := 1, cells := 0, slots := 0, locals := 23 } : Room) (va_Pc [.ref (ad 1 l0 0), .ref (ad 1 l1 0)] (zPre D ca ad lnC K.2 L aS vS F B sz)) (Q_Event_sharedWith K D ca ad L r F9 B9 (zA L sz)) 0 0 (zA L sz) := by
  refine zMet (Qc := Q_Event_sharedWith K D ca ad L r F9 B9) (lv := [(0, .ref (ad 1 l0 0)), (1, .ref (ad 1 l1 0))]) (by decide) (Nat.le_of_ble_eq_true rfl) rfl (fun A p e s m below meth c ls X hZ hS hl => ?_)
  obtain ⟨hx, hb, hr, hml, hown, hts, hlk, hK, hA, hL, hX⟩ := id X
  replace hf : (f_Event_sharedWith_4 K K.1 0 0 l0 l1 F B) = some (r, F9, B9) := hf
  refine lv_iconst (v := iI 0) hx hb d_3_7_0 rfl ?_
  refine lv_istore_n (lv' := [(2, .int (iI 0)), (0, .ref (ad 1 l0 0)), (1, .ref (ad 1 l1 0))]) hx hb d_3_7_1 rfl hl (by decide) rfl (fun ls hl => ?_)
  refine lv_iconst (v := iI 0) hx hb d_3_7_2 rfl ?_
  refine lv_istore_n (lv' := [(3, .int (iI 0)), (2, .int (iI 0)), (0, .ref (ad 1 l0 0)), (1, .ref (ad 1 l1 0))]) hx hb d_3_7_3 rfl hl (by decide) rfl (fun ls hl => ?_)
  exact b_Event_sharedWith_4 X hf hZ hS (lv_sub hl [0, 1, 2, 3] rfl)

noncomputable abbrev Q_S_greatestValue (K : zK) (D : va_G) (ca : Nat → ClassId) (ad : Nat → Int → Nat → Nat) (L : List Nat) (r : Int) (F : zF) (B : zB) (A : Nat → Prop) : Array Value → State → Outcome → State → Prop := va_Qi (S := Unit) (fun p _ => p = iI r) (fun _ => zPo D ca ad lnC K.2 L F B A) A
noncomputable def f_S_greatestValue_2 (K : zK) : Nat → Int → Int → zF → zB → zO
  | 0, _, _, _, _ => none
  | n + 1, l1, l0, F, B => if r32 l1 then (if 24 ≤ l1 then some (23, F, B) else zbind (f_S_fineValue K l1 F B) (fun r3 F3 B3 => if r32 r3 then if r32 l0 then (if l0 < r3 then f_S_greatestValue_2 K n (l1 + 1) l0 F3 B3 else some (l1, F3, B3)) else none else none)) else none
set_option maxHeartbeats 4000000 in
set_option maxRecDepth 100000 in
theorem b_S_greatestValue_2 {D : va_G} {ca : Nat → ClassId} {ad : Nat → Int → Nat → Nat} {L : List Nat} {aS vS : Nat → Nat} {A : Nat → Prop} {p : Program} {l : Launch} {e : Env} {s : State} {m : MethodId} {args : Array Value} {below : List Frame} {meth : Method} {c : Code} {K : zK} {r : Int} {F9 : zF} {B9 : zB} (X : zX D ca L aS vS A p s m args meth c prog_1_method_41_code 2 (Option.some Jvm.ClassFile.FieldType.int) "StaveHouse") : ∀ {n : Nat} {l1 : Int} {l0 : Int} {F : zF} {B : zB} {H : Heap} {locs : List Loc} {ls : Array Slot}, f_S_greatestValue_2 K n l1 l0 F B = some (r, F9, B9) → zH D ca ad lnC K.2 L F B A H → va_S A s.heap H locs → lv_has ls 2 [(1, .int (iI l1)), (0, .int (iI l0))] → W p l e ({ frames := 1, cells := 0, slots := 0, locals := 20 } : Room) s m args below meth c H locs 0 0 (MQ below (Q_S_greatestValue K D ca ad L r F9 B9 A) args s 0 0 A) (F0 m 2 ls []) := by
  obtain ⟨hx, hb, hr, hml, hown, hts, hlk, hK, hA, hL, hX⟩ := id X
  intro n
  induction n with
  | zero =>
    intros
    rename_i hf _ _ _
    cases hf
  | succ n ih =>
    intro l1 l0 F B H locs ls hf hZ hS hl
    replace hf : (if r32 l1 then (if 24 ≤ l1 then some (23, F, B) else zbind (f_S_fineValue K l1 F B) (fun r3 F3 B3 => if r32 r3 then if r32 l0 then (if l0 < r3 then f_S_greatestValue_2 K n (l1 + 1) l0 F3 B3 else some (l1, F3, B3)) else none else none)) else none) = some (r, F9, B9) := hf
    refine lv_iload_n hx hb d_1_41_2 rfl (lv_at hl 0 rfl) ?_
    refine lv_bipush (v := iI 24) hx hb d_1_41_3 (by decide) ?_
    obtain ⟨g1, hf⟩ := gif hf
    refine zge (tgt := 24) hx hb g1 (by decide) d_1_41_5 (by decide) (fun h2 => ?_) (fun h2 => ?_)
    · replace hf := gpos hf h2
      refine lv_bipush (v := iI 23) hx hb d_1_41_24 (by decide) ?_
      cases hf
      exact W.iret hx hb hr (fun t ht hW => ⟨⟨_, (), rfl, rfl, by rw [ht]; exact hZ, va_K.moved hW.alike hK⟩, hS.F ht⟩) hS.2.2 d_1_41_26 hlk
    · replace hf := gneg hf h2
      refine lv_iload_n hx hb d_1_41_8 rfl (lv_at hl 0 rfl) ?_
      obtain ⟨r3, F3, B3, hc3, hf⟩ := gbind hf
      refine va_calli (va_runS (As := [.int (iI l1)]) (rest := []) ⟨hx, hb, hml, hown, hts⟩ (c_S_fineValue (l := l) hc3) (va_cwS 1 hts (gdS k_5_67 k_5_68 k_1_1 k_5_69) rfl rfl rfl (by decide +kernel) ⟨Nat.le_of_ble_eq_true rfl, Nat.le_of_ble_eq_true rfl⟩) (zPS X hZ hS [.int (iI l1)]) rfl rfl hl.1 rfl (lv_room (Nat.le_of_ble_eq_true rfl)) d_1_41_9 ⟨Nat.le_of_ble_eq_true rfl, Nat.le_of_ble_eq_true rfl⟩) hS (fun q _ h => zAin X hS q h) (zAin X hS) (fun p3 u3 t3 H3 locs3 ht3 hv3 hw3 hB3 hz3 hk3 hS3 => ?_)
      have hZ3 := zBack X ht3 hB3
      subst hw3
      refine lv_iload_n hx hb d_1_41_12 rfl (lv_at hl 1 rfl) ?_
      obtain ⟨g4, hf⟩ := gif hf
      obtain ⟨g5, hf⟩ := gif hf
      refine zgt (tgt := 18) hx hb g4 g5 d_1_41_13 (by decide) (fun h6 => ?_) (fun h6 => ?_)
      · replace hf := gpos hf h6
        refine lv_iinc (v := iI (l1 + 1)) (lv' := [(1, .int (iI (l1 + 1))), (0, .int (iI l0))]) hx hb d_1_41_18 hl (k := 0) rfl (iI_add _ 1) (by decide) rfl (fun ls hl => ?_)
        refine lv_goto (tgt := 2) hx hb d_1_41_21 (by decide) ?_
        exact ih hf hZ3 hS3 (lv_sub hl [0, 1] rfl)
      · replace hf := gneg hf h6
        refine lv_iload_n hx hb d_1_41_16 rfl (lv_at hl 0 rfl) ?_
        cases hf
        exact W.iret hx hb hr (fun t ht hW => ⟨⟨_, (), rfl, rfl, by rw [ht]; exact hZ3, va_K.moved hW.alike hK⟩, hS3.F ht⟩) hS3.2.2 d_1_41_17 hlk

noncomputable def f_S_greatestValue (K : zK) (l0 : Int) (F : zF) (B : zB) : zO := f_S_greatestValue_2 K K.1 0 l0 F B
set_option maxHeartbeats 4000000 in
set_option maxRecDepth 100000 in
theorem c_S_greatestValue {l : Launch} {D : va_G} {ca : Nat → ClassId} {ad : Nat → Int → Nat → Nat} {L : List Nat} {aS vS : Nat → Nat} {sz : Nat} {K : zK}  {l0 : Int} {F F9 : zF} {B B9 : zB} {r : Int} (hf : f_S_greatestValue K l0 F B = some (r, F9, B9)) : Met l ({ cls := "StaveHouse", name := "greatestValue", desc := "(I)I" } : Jvm.MethodName) (Cond.code ({ cls := "StaveHouse", name := "greatestValue", desc := "(I)I" } : Jvm.MethodName) prog_1_method_41_code 2 (Option.some Jvm.ClassFile.FieldType.int) :: wAll) ({ frames := 1, cells := 0, slots := 0, locals := 20 } : Room) (va_Pc [.int (iI l0)] (zPre D ca ad lnC K.2 L aS vS F B sz)) (Q_S_greatestValue K D ca ad L r F9 B9 (zA L sz)) 0 0 (zA L sz) := by
  refine zMet (Qc := Q_S_greatestValue K D ca ad L r F9 B9) (lv := [(0, .int (iI l0))]) (by decide) (Nat.le_of_ble_eq_true rfl) rfl (fun A p e s m below meth c ls X hZ hS hl => ?_)
  obtain ⟨hx, hb, hr, hml, hown, hts, hlk, hK, hA, hL, hX⟩ := id X
  replace hf : (f_S_greatestValue_2 K K.1 0 l0 F B) = some (r, F9, B9) := hf
  refine lv_iconst (v := iI 0) hx hb d_1_41_0 rfl ?_
  refine lv_istore_n (lv' := [(1, .int (iI 0)), (0, .int (iI l0))]) hx hb d_1_41_1 rfl hl (by decide) rfl (fun ls hl => ?_)
  exact b_S_greatestValue_2 X hf hZ hS (lv_sub hl [0, 1] rfl)

noncomputable abbrev Q_S_nextValue (K : zK) (D : va_G) (ca : Nat → ClassId) (ad : Nat → Int → Nat → Nat) (L : List Nat) (r : Int) (F : zF) (B : zB) (A : Nat → Prop) : Array Value → State → Outcome → State → Prop := va_Qi (S := Unit) (fun p _ => p = iI r) (fun _ => zPo D ca ad lnC K.2 L F B A) A
noncomputable def f_S_nextValue_104 (rec42 : Int → Int → Int → Int → Int → Int → Int → zF → zB → zO) (K : zK) (l8 : Int) (l7 : Int) (l6 : Int) (l5 : Int) (l4 : Int) (l2 : Int) (l3 : Int) (F : zF) (B : zB) : zO := rec42 (l8 + 1) l7 l6 l5 l4 l2 l3 F B
set_option maxHeartbeats 4000000 in
set_option maxRecDepth 100000 in
theorem b_S_nextValue_104 {D : va_G} {ca : Nat → ClassId} {ad : Nat → Int → Nat → Nat} {L : List Nat} {aS vS : Nat → Nat} {A : Nat → Prop} {p : Program} {l : Launch} {e : Env} {s : State} {m : MethodId} {args : Array Value} {below : List Frame} {meth : Method} {c : Code} {K : zK} {r : Int} {F9 : zF} {B9 : zB} (X : zX D ca L aS vS A p s m args meth c prog_1_method_42_code 11 (Option.some Jvm.ClassFile.FieldType.int) "StaveHouse") {rec42 : Int → Int → Int → Int → Int → Int → Int → zF → zB → zO} (hrec42 : ∀ {l8 : Int} {l7 : Int} {l6 : Int} {l5 : Int} {l4 : Int} {l2 : Int} {l3 : Int} {F : zF} {B : zB} {H : Heap} {locs : List Loc} {ls : Array Slot}, rec42 l8 l7 l6 l5 l4 l2 l3 F B = some (r, F9, B9) → zH D ca ad lnC K.2 L F B A H → va_S A s.heap H locs → lv_has ls 11 [(8, .int (iI l8)), (7, .int (iI l7)), (6, .int (iI l6)), (5, .int (iI l5)), (4, .int (iI l4)), (2, .int (iI l2)), (3, .int (iI l3))] → W p l e ({ frames := 2, cells := 0, slots := 0, locals := 41 } : Room) s m args below meth c H locs 0 0 (MQ below (Q_S_nextValue K D ca ad L r F9 B9 A) args s 0 0 A) (F0 m 42 ls [])) {l8 : Int} {l7 : Int} {l6 : Int} {l5 : Int} {l4 : Int} {l2 : Int} {l3 : Int} {F : zF} {B : zB} {H : Heap} {locs : List Loc} {ls : Array Slot} (hf : f_S_nextValue_104 rec42 K l8 l7 l6 l5 l4 l2 l3 F B = some (r, F9, B9)) (hZ : zH D ca ad lnC K.2 L F B A H) (hS : va_S A s.heap H locs) (hl : lv_has ls 11 [(8, .int (iI l8)), (7, .int (iI l7)), (6, .int (iI l6)), (5, .int (iI l5)), (4, .int (iI l4)), (2, .int (iI l2)), (3, .int (iI l3))]) : W p l e ({ frames := 2, cells := 0, slots := 0, locals := 41 } : Room) s m args below meth c H locs 0 0 (MQ below (Q_S_nextValue K D ca ad L r F9 B9 A) args s 0 0 A) (F0 m 104 ls []) := by
  obtain ⟨hx, hb, hr, hml, hown, hts, hlk, hK, hA, hL, hX⟩ := id X
  replace hf : (rec42 (l8 + 1) l7 l6 l5 l4 l2 l3 F B) = some (r, F9, B9) := hf
  refine lv_iinc (v := iI (l8 + 1)) (lv' := [(8, .int (iI (l8 + 1))), (7, .int (iI l7)), (6, .int (iI l6)), (5, .int (iI l5)), (4, .int (iI l4)), (2, .int (iI l2)), (3, .int (iI l3))]) hx hb d_1_42_104 hl (k := 0) rfl (iI_add _ 1) (by decide) rfl (fun ls hl => ?_)
  refine lv_goto (tgt := 42) hx hb d_1_42_107 (by decide) ?_
  exact hrec42 hf hZ hS (lv_sub hl [0, 1, 2, 3, 4, 5, 6] rfl)

noncomputable def f_S_nextValue_42 (K : zK) : Nat → Int → Int → Int → Int → Int → Int → Int → zF → zB → zO
  | 0, _, _, _, _, _, _, _, _, _ => none
  | n + 1, l8, l7, l6, l5, l4, l2, l3, F, B => if r32 l8 then (if 24 ≤ l8 then zbind (f_S_greatestValue K l3 F B) (fun r7 F7 B7 => some (r7, F7, B7)) else zbind (f_S_fineValue K l8 F B) (fun r8 F8 B8 => if r32 (l2 + r8) then if r32 (l2 + l3) then (if (l2 + l3) < (l2 + r8) then f_S_nextValue_104 (f_S_nextValue_42 K n) K l8 l7 l6 l5 l4 l2 l3 F8 B8 else zbind (f_S_strength K l5 l6 l4 (l2 + r8) F8 B8) (fun r12 F12 B12 => if r32 l7 then if r32 r12 then zbind (f_S_strengthBetween K l5 l6 l4 l2 (l2 + r8) F12 B12) (fun r15 F15 B15 => if r32 r15 then if r32 (zmax l7 r12) then (if (zmax l7 r12) < r15 then f_S_nextValue_104 (f_S_nextValue_42 K n) K l8 l7 l6 l5 l4 l2 l3 F15 B15 else some (l8, F15, B15)) else none else none) else none else none)) else none else none)) else none
set_option maxHeartbeats 4000000 in
set_option maxRecDepth 100000 in
theorem b_S_nextValue_42 {D : va_G} {ca : Nat → ClassId} {ad : Nat → Int → Nat → Nat} {L : List Nat} {aS vS : Nat → Nat} {A : Nat → Prop} {p : Program} {l : Launch} {e : Env} {s : State} {m : MethodId} {args : Array Value} {below : List Frame} {meth : Method} {c : Code} {K : zK} {r : Int} {F9 : zF} {B9 : zB} (X : zX D ca L aS vS A p s m args meth c prog_1_method_42_code 11 (Option.some Jvm.ClassFile.FieldType.int) "StaveHouse") : ∀ {n : Nat} {l8 : Int} {l7 : Int} {l6 : Int} {l5 : Int} {l4 : Int} {l2 : Int} {l3 : Int} {F : zF} {B : zB} {H : Heap} {locs : List Loc} {ls : Array Slot}, f_S_nextValue_42 K n l8 l7 l6 l5 l4 l2 l3 F B = some (r, F9, B9) → zH D ca ad lnC K.2 L F B A H → va_S A s.heap H locs → lv_has ls 11 [(8, .int (iI l8)), (7, .int (iI l7)), (6, .int (iI l6)), (5, .int (iI l5)), (4, .int (iI l4)), (2, .int (iI l2)), (3, .int (iI l3))] → W p l e ({ frames := 2, cells := 0, slots := 0, locals := 41 } : Room) s m args below meth c H locs 0 0 (MQ below (Q_S_nextValue K D ca ad L r F9 B9 A) args s 0 0 A) (F0 m 42 ls []) := by
  obtain ⟨hx, hb, hr, hml, hown, hts, hlk, hK, hA, hL, hX⟩ := id X
  intro n
  induction n with
  | zero =>
    intros
    rename_i hf _ _ _
    cases hf
  | succ n ih =>
    intro l8 l7 l6 l5 l4 l2 l3 F B H locs ls hf hZ hS hl
    replace hf : (if r32 l8 then (if 24 ≤ l8 then zbind (f_S_greatestValue K l3 F B) (fun r7 F7 B7 => some (r7, F7, B7)) else zbind (f_S_fineValue K l8 F B) (fun r8 F8 B8 => if r32 (l2 + r8) then if r32 (l2 + l3) then (if (l2 + l3) < (l2 + r8) then f_S_nextValue_104 (f_S_nextValue_42 K n) K l8 l7 l6 l5 l4 l2 l3 F8 B8 else zbind (f_S_strength K l5 l6 l4 (l2 + r8) F8 B8) (fun r12 F12 B12 => if r32 l7 then if r32 r12 then zbind (f_S_strengthBetween K l5 l6 l4 l2 (l2 + r8) F12 B12) (fun r15 F15 B15 => if r32 r15 then if r32 (zmax l7 r12) then (if (zmax l7 r12) < r15 then f_S_nextValue_104 (f_S_nextValue_42 K n) K l8 l7 l6 l5 l4 l2 l3 F15 B15 else some (l8, F15, B15)) else none else none) else none else none)) else none else none)) else none) = some (r, F9, B9) := hf
    refine lv_iload hx hb d_1_42_42 (lv_at hl 0 rfl) ?_
    refine lv_bipush (v := iI 24) hx hb d_1_42_44 (by decide) ?_
    obtain ⟨g5, hf⟩ := gif hf
    refine zge (tgt := 110) hx hb g5 (by decide) d_1_42_46 (by decide) (fun h6 => ?_) (fun h6 => ?_)
    · replace hf := gpos hf h6
      refine lv_iload_n hx hb d_1_42_110 rfl (lv_at hl 6 rfl) ?_
      obtain ⟨r7, F7, B7, hc7, hf⟩ := gbind hf
      refine va_calli (va_runS (As := [.int (iI l3)]) (rest := []) ⟨hx, hb, hml, hown, hts⟩ (c_S_greatestValue (l := l) hc7) (va_cwS 1 hts (gdS k_5_99 k_5_65 k_1_1 k_5_66) rfl rfl rfl (by decide +kernel) ⟨Nat.le_of_ble_eq_true rfl, Nat.le_of_ble_eq_true rfl⟩) (zPS X hZ hS [.int (iI l3)]) rfl rfl hl.1 rfl (lv_room (Nat.le_of_ble_eq_true rfl)) d_1_42_111 ⟨Nat.le_of_ble_eq_true rfl, Nat.le_of_ble_eq_true rfl⟩) hS (fun q _ h => zAin X hS q h) (zAin X hS) (fun p7 u7 t7 H7 locs7 ht7 hv7 hw7 hB7 hz7 hk7 hS7 => ?_)
      have hZ7 := zBack X ht7 hB7
      subst hw7
      cases hf
      exact W.iret hx hb hr (fun t ht hW => ⟨⟨_, (), rfl, rfl, by rw [ht]; exact hZ7, va_K.moved hW.alike hK⟩, hS7.F ht⟩) hS7.2.2 d_1_42_114 hlk
    · replace hf := gneg hf h6
      refine lv_iload_n hx hb d_1_42_49 rfl (lv_at hl 5 rfl) ?_
      refine lv_iload hx hb d_1_42_50 (lv_at hl 0 rfl) ?_
      obtain ⟨r8, F8, B8, hc8, hf⟩ := gbind hf
      refine va_calli (va_runS (As := [.int (iI l8)]) (rest := [.int (iI l2)]) ⟨hx, hb, hml, hown, hts⟩ (c_S_fineValue (l := l) hc8) (va_cwS 1 hts (gdS k_5_67 k_5_68 k_1_1 k_5_69) rfl rfl rfl (by decide +kernel) ⟨Nat.le_of_ble_eq_true rfl, Nat.le_of_ble_eq_true rfl⟩) (zPS X hZ hS [.int (iI l8)]) rfl rfl hl.1 rfl (lv_room (Nat.le_of_ble_eq_true rfl)) d_1_42_52 ⟨Nat.le_of_ble_eq_true rfl, Nat.le_of_ble_eq_true rfl⟩) hS (fun q _ h => zAin X hS q h) (zAin X hS) (fun p8 u8 t8 H8 locs8 ht8 hv8 hw8 hB8 hz8 hk8 hS8 => ?_)
      have hZ8 := zBack X ht8 hB8
      subst hw8
      refine zadd hx hb d_1_42_55 ?_
      refine lv_istore (lv' := [(9, .int (iI (l2 + r8))), (8, .int (iI l8)), (7, .int (iI l7)), (6, .int (iI l6)), (5, .int (iI l5)), (4, .int (iI l4)), (2, .int (iI l2)), (3, .int (iI l3))]) hx hb d_1_42_56 hl (by decide) rfl (fun ls hl => ?_)
      refine lv_iload hx hb d_1_42_58 (lv_at hl 0 rfl) ?_
      refine lv_iload_n hx hb d_1_42_60 rfl (lv_at hl 6 rfl) ?_
      refine lv_iload_n hx hb d_1_42_61 rfl (lv_at hl 7 rfl) ?_
      refine zadd hx hb d_1_42_62 ?_
      obtain ⟨g9, hf⟩ := gif hf
      obtain ⟨g10, hf⟩ := gif hf
      refine zgt (tgt := 104) hx hb g9 g10 d_1_42_63 (by decide) (fun h11 => ?_) (fun h11 => ?_)
      · replace hf := gpos hf h11
        exact b_S_nextValue_104 X ih hf hZ8 hS8 (lv_sub hl [1, 2, 3, 4, 5, 6, 7] rfl)
      · replace hf := gneg hf h11
        refine lv_iload hx hb d_1_42_66 (lv_at hl 2 rfl) ?_
        refine lv_iload hx hb d_1_42_68 (lv_at hl 4 rfl) ?_
        refine lv_iload hx hb d_1_42_70 (lv_at hl 3 rfl) ?_
        refine lv_iload hx hb d_1_42_72 (lv_at hl 5 rfl) ?_
        refine lv_iload hx hb d_1_42_74 (lv_at hl 0 rfl) ?_
        obtain ⟨r12, F12, B12, hc12, hf⟩ := gbind hf
        refine va_calli (va_runS (As := [.int (iI l5), .int (iI l6), .int (iI l4), .int (iI (l2 + r8))]) (rest := [.int (iI l7)]) ⟨hx, hb, hml, hown, hts⟩ (c_S_strength (l := l) hc12) (va_cwS 4 hts (gdS k_5_93 k_5_94 k_1_1 k_5_95) rfl rfl rfl (by decide +kernel) ⟨Nat.le_of_ble_eq_true rfl, Nat.le_of_ble_eq_true rfl⟩) (zPS X hZ8 hS8 [.int (iI l5), .int (iI l6), .int (iI l4), .int (iI (l2 + r8))]) rfl rfl hl.1 rfl (lv_room (Nat.le_of_ble_eq_true rfl)) d_1_42_76 ⟨Nat.le_of_ble_eq_true rfl, Nat.le_of_ble_eq_true rfl⟩) hS8 (fun q _ h => zAin X hS8 q h) (zAin X hS8) (fun p12 u12 t12 H12 locs12 ht12 hv12 hw12 hB12 hz12 hk12 hS12 => ?_)
        have hZ12 := zBack X ht12 hB12
        subst hw12
        obtain ⟨g13, hf⟩ := gif hf
        obtain ⟨g14, hf⟩ := gif hf
        refine va_mmax hx hb (by rw [hml]; exact hl.1.symm) hown (hts _ k_5_89) (hts _ k_1_39) (hts _ k_1_3) (hts _ k_1_40) (Nat.le_of_ble_eq_true rfl) (Nat.le_of_ble_eq_true rfl) (Nat.le_of_ble_eq_true rfl) (Nat.le_of_ble_eq_true rfl) d_1_42_79 ?_
        rw [zmax_e g13 g14]
        refine lv_istore (lv' := [(10, .int (iI (zmax l7 r12))), (9, .int (iI (l2 + r8))), (8, .int (iI l8)), (7, .int (iI l7)), (6, .int (iI l6)), (5, .int (iI l5)), (4, .int (iI l4)), (2, .int (iI l2)), (3, .int (iI l3))]) hx hb d_1_42_82 hl (by decide) rfl (fun ls hl => ?_)
        refine lv_iload hx hb d_1_42_84 (lv_at hl 5 rfl) ?_
        refine lv_iload hx hb d_1_42_86 (lv_at hl 4 rfl) ?_
        refine lv_iload hx hb d_1_42_88 (lv_at hl 6 rfl) ?_
        refine lv_iload_n hx hb d_1_42_90 rfl (lv_at hl 7 rfl) ?_
        refine lv_iload hx hb d_1_42_91 (lv_at hl 1 rfl) ?_
        obtain ⟨r15, F15, B15, hc15, hf⟩ := gbind hf
        refine va_calli (va_runS (As := [.int (iI l5), .int (iI l6), .int (iI l4), .int (iI l2), .int (iI (l2 + r8))]) (rest := []) ⟨hx, hb, hml, hown, hts⟩ (c_S_strengthBetween (l := l) hc15) (va_cwS 5 hts (gdS k_5_96 k_5_97 k_1_1 k_5_98) rfl rfl rfl (by decide +kernel) ⟨Nat.le_of_ble_eq_true rfl, Nat.le_of_ble_eq_true rfl⟩) (zPS X hZ12 hS12 [.int (iI l5), .int (iI l6), .int (iI l4), .int (iI l2), .int (iI (l2 + r8))]) rfl rfl hl.1 rfl (lv_room (Nat.le_of_ble_eq_true rfl)) d_1_42_93 ⟨Nat.le_of_ble_eq_true rfl, Nat.le_of_ble_eq_true rfl⟩) hS12 (fun q _ h => zAin X hS12 q h) (zAin X hS12) (fun p15 u15 t15 H15 locs15 ht15 hv15 hw15 hB15 hz15 hk15 hS15 => ?_)
        have hZ15 := zBack X ht15 hB15
        subst hw15
        refine lv_iload hx hb d_1_42_96 (lv_at hl 0 rfl) ?_
        obtain ⟨g16, hf⟩ := gif hf
        obtain ⟨g17, hf⟩ := gif hf
        refine zgt (tgt := 104) hx hb g16 g17 d_1_42_98 (by decide) (fun h18 => ?_) (fun h18 => ?_)
        · replace hf := gpos hf h18
          exact b_S_nextValue_104 X ih hf hZ15 hS15 (lv_sub hl [2, 3, 4, 5, 6, 7, 8] rfl)
        · replace hf := gneg hf h18
          refine lv_iload hx hb d_1_42_101 (lv_at hl 2 rfl) ?_
          cases hf
          exact W.iret hx hb hr (fun t ht hW => ⟨⟨_, (), rfl, rfl, by rw [ht]; exact hZ15, va_K.moved hW.alike hK⟩, hS15.F ht⟩) hS15.2.2 d_1_42_103 hlk

noncomputable def f_S_nextValue (K : zK) (l0 : Int) (l1 : Int) (l2 : Int) (l3 : Int) (F : zF) (B : zB) : zO := if r32 l1 then if ¬ iI (zmax l1 1) = 0 then zbind (f_S_beatCount K l0 l1 F B) (fun r3 F3 B3 => zbind (f_S_strength K ((zdv 512 (zmax l1 1)) * l0) ((zdv 512 (zmax l1 1)) * r3) (zdv 512 (zmax l1 1)) l2 F3 B3) (fun r4 F4 B4 => f_S_nextValue_42 K K.1 0 r4 ((zdv 512 (zmax l1 1)) * r3) ((zdv 512 (zmax l1 1)) * l0) (zdv 512 (zmax l1 1)) l2 l3 F4 B4)) else none else none
set_option maxHeartbeats 4000000 in
set_option maxRecDepth 100000 in
theorem c_S_nextValue {l : Launch} {D : va_G} {ca : Nat → ClassId} {ad : Nat → Int → Nat → Nat} {L : List Nat} {aS vS : Nat → Nat} {sz : Nat} {K : zK}  {l0 : Int} {l1 : Int} {l2 : Int} {l3 : Int} {F F9 : zF} {B B9 : zB} {r : Int} (hf : f_S_nextValue K l0 l1 l2 l3 F B = some (r, F9, B9)) : Met l ({ cls := "StaveHouse", name := "nextValue", desc := "(IIII)I" } : Jvm.MethodName) (Cond.code ({ cls := "StaveHouse", name := "nextValue", desc := "(IIII)I" } : Jvm.MethodName) prog_1_method_42_code 11 (Option.some Jvm.ClassFile.FieldType.int) :: wAll) ({ frames := 2, cells := 0, slots := 0, locals := 41 } : Room) (va_Pc [.int (iI l0), .int (iI l1), .int (iI l2), .int (iI l3)] (zPre D ca ad lnC K.2 L aS vS F B sz)) (Q_S_nextValue K D ca ad L r F9 B9 (zA L sz)) 0 0 (zA L sz) := by
  refine zMet (Qc := Q_S_nextValue K D ca ad L r F9 B9) (lv := [(0, .int (iI l0)), (1, .int (iI l1)), (2, .int (iI l2)), (3, .int (iI l3))]) (by decide) (Nat.le_of_ble_eq_true rfl) rfl (fun A p e s m below meth c ls X hZ hS hl => ?_)
  obtain ⟨hx, hb, hr, hml, hown, hts, hlk, hK, hA, hL, hX⟩ := id X
  replace hf : (if r32 l1 then if ¬ iI (zmax l1 1) = 0 then zbind (f_S_beatCount K l0 l1 F B) (fun r3 F3 B3 => zbind (f_S_strength K ((zdv 512 (zmax l1 1)) * l0) ((zdv 512 (zmax l1 1)) * r3) (zdv 512 (zmax l1 1)) l2 F3 B3) (fun r4 F4 B4 => f_S_nextValue_42 K K.1 0 r4 ((zdv 512 (zmax l1 1)) * r3) ((zdv 512 (zmax l1 1)) * l0) (zdv 512 (zmax l1 1)) l2 l3 F4 B4)) else none else none) = some (r, F9, B9) := hf
  refine lv_sipush (v := iI 512) hx hb d_1_42_0 (by decide) ?_
  refine lv_iload_n hx hb d_1_42_3 rfl (lv_at hl 1 rfl) ?_
  refine lv_iconst (v := iI 1) hx hb d_1_42_4 rfl ?_
  obtain ⟨g1, hf⟩ := gif hf
  refine va_mmax hx hb (by rw [hml]; exact hl.1.symm) hown (hts _ k_5_89) (hts _ k_1_39) (hts _ k_1_3) (hts _ k_1_40) (Nat.le_of_ble_eq_true rfl) (Nat.le_of_ble_eq_true rfl) (Nat.le_of_ble_eq_true rfl) (Nat.le_of_ble_eq_true rfl) d_1_42_5 ?_
  rw [zmax_e g1 (by decide)]
  obtain ⟨g2, hf⟩ := gif hf
  refine zdv_r hx hb g2 d_1_42_8 ?_
  refine lv_istore (lv' := [(4, .int (iI (zdv 512 (zmax l1 1)))), (0, .int (iI l0)), (1, .int (iI l1)), (2, .int (iI l2)), (3, .int (iI l3))]) hx hb d_1_42_9 hl (by decide) rfl (fun ls hl => ?_)
  refine lv_iload hx hb d_1_42_11 (lv_at hl 0 rfl) ?_
  refine lv_iload_n hx hb d_1_42_13 rfl (lv_at hl 1 rfl) ?_
  refine zmul hx hb d_1_42_14 ?_
  refine lv_istore (lv' := [(5, .int (iI ((zdv 512 (zmax l1 1)) * l0))), (4, .int (iI (zdv 512 (zmax l1 1)))), (0, .int (iI l0)), (1, .int (iI l1)), (2, .int (iI l2)), (3, .int (iI l3))]) hx hb d_1_42_15 hl (by decide) rfl (fun ls hl => ?_)
  refine lv_iload hx hb d_1_42_17 (lv_at hl 1 rfl) ?_
  refine lv_iload_n hx hb d_1_42_19 rfl (lv_at hl 2 rfl) ?_
  refine lv_iload_n hx hb d_1_42_20 rfl (lv_at hl 3 rfl) ?_
  obtain ⟨r3, F3, B3, hc3, hf⟩ := gbind hf
  refine va_calli (va_runS (As := [.int (iI l0), .int (iI l1)]) (rest := [.int (iI (zdv 512 (zmax l1 1)))]) ⟨hx, hb, hml, hown, hts⟩ (c_S_beatCount (l := l) hc3) (va_cwS 2 hts (gdS k_5_90 k_5_91 k_1_1 k_5_92) rfl rfl rfl (by decide +kernel) ⟨Nat.le_of_ble_eq_true rfl, Nat.le_of_ble_eq_true rfl⟩) (zPS X hZ hS [.int (iI l0), .int (iI l1)]) rfl rfl hl.1 rfl (lv_room (Nat.le_of_ble_eq_true rfl)) d_1_42_21 ⟨Nat.le_of_ble_eq_true rfl, Nat.le_of_ble_eq_true rfl⟩) hS (fun q _ h => zAin X hS q h) (zAin X hS) (fun p3 u3 t3 H3 locs3 ht3 hv3 hw3 hB3 hz3 hk3 hS3 => ?_)
  have hZ3 := zBack X ht3 hB3
  subst hw3
  refine zmul hx hb d_1_42_24 ?_
  refine lv_istore (lv' := [(6, .int (iI ((zdv 512 (zmax l1 1)) * r3))), (5, .int (iI ((zdv 512 (zmax l1 1)) * l0))), (4, .int (iI (zdv 512 (zmax l1 1)))), (0, .int (iI l0)), (1, .int (iI l1)), (2, .int (iI l2)), (3, .int (iI l3))]) hx hb d_1_42_25 hl (by decide) rfl (fun ls hl => ?_)
  refine lv_iload hx hb d_1_42_27 (lv_at hl 1 rfl) ?_
  refine lv_iload hx hb d_1_42_29 (lv_at hl 0 rfl) ?_
  refine lv_iload hx hb d_1_42_31 (lv_at hl 2 rfl) ?_
  refine lv_iload_n hx hb d_1_42_33 rfl (lv_at hl 5 rfl) ?_
  obtain ⟨r4, F4, B4, hc4, hf⟩ := gbind hf
  refine va_calli (va_runS (As := [.int (iI ((zdv 512 (zmax l1 1)) * l0)), .int (iI ((zdv 512 (zmax l1 1)) * r3)), .int (iI (zdv 512 (zmax l1 1))), .int (iI l2)]) (rest := []) ⟨hx, hb, hml, hown, hts⟩ (c_S_strength (l := l) hc4) (va_cwS 4 hts (gdS k_5_93 k_5_94 k_1_1 k_5_95) rfl rfl rfl (by decide +kernel) ⟨Nat.le_of_ble_eq_true rfl, Nat.le_of_ble_eq_true rfl⟩) (zPS X hZ3 hS3 [.int (iI ((zdv 512 (zmax l1 1)) * l0)), .int (iI ((zdv 512 (zmax l1 1)) * r3)), .int (iI (zdv 512 (zmax l1 1))), .int (iI l2)]) rfl rfl hl.1 rfl (lv_room (Nat.le_of_ble_eq_true rfl)) d_1_42_34 ⟨Nat.le_of_ble_eq_true rfl, Nat.le_of_ble_eq_true rfl⟩) hS3 (fun q _ h => zAin X hS3 q h) (zAin X hS3) (fun p4 u4 t4 H4 locs4 ht4 hv4 hw4 hB4 hz4 hk4 hS4 => ?_)
  have hZ4 := zBack X ht4 hB4
  subst hw4
  refine lv_istore (lv' := [(7, .int (iI r4)), (6, .int (iI ((zdv 512 (zmax l1 1)) * r3))), (5, .int (iI ((zdv 512 (zmax l1 1)) * l0))), (4, .int (iI (zdv 512 (zmax l1 1)))), (0, .int (iI l0)), (1, .int (iI l1)), (2, .int (iI l2)), (3, .int (iI l3))]) hx hb d_1_42_37 hl (by decide) rfl (fun ls hl => ?_)
  refine lv_iconst (v := iI 0) hx hb d_1_42_39 rfl ?_
  refine lv_istore (lv' := [(8, .int (iI 0)), (7, .int (iI r4)), (6, .int (iI ((zdv 512 (zmax l1 1)) * r3))), (5, .int (iI ((zdv 512 (zmax l1 1)) * l0))), (4, .int (iI (zdv 512 (zmax l1 1)))), (0, .int (iI l0)), (1, .int (iI l1)), (2, .int (iI l2)), (3, .int (iI l3))]) hx hb d_1_42_40 hl (by decide) rfl (fun ls hl => ?_)
  exact b_S_nextValue_42 X hf hZ4 hS4 (lv_sub hl [0, 1, 2, 3, 4, 7, 8] rfl)

noncomputable abbrev Q_Part_accidentalsOf (K : zK) (D : va_G) (ca : Nat → ClassId) (ad : Nat → Int → Nat → Nat) (L : List Nat) (r : Int) (F : zF) (B : zB) (A : Nat → Prop) : Array Value → State → Outcome → State → Prop := va_Qi (S := Unit) (fun p _ => p = iI r) (fun _ => zPo D ca ad lnC K.2 L F B A) A
noncomputable def f_Part_accidentalsOf_78 (rec12 : Int → Int → Int → Int → Int → zF → zB → zO) (K : zK) (l4 : Int) (l3 : Int) (l2 : Int) (l0 : Int) (l1 : Int) (F : zF) (B : zB) : zO := rec12 (l4 + 1) l3 l2 l0 l1 F B
set_option maxHeartbeats 4000000 in
set_option maxRecDepth 100000 in
theorem b_Part_accidentalsOf_78 {D : va_G} {ca : Nat → ClassId} {ad : Nat → Int → Nat → Nat} {L : List Nat} {aS vS : Nat → Nat} {A : Nat → Prop} {p : Program} {l : Launch} {e : Env} {s : State} {m : MethodId} {args : Array Value} {below : List Frame} {meth : Method} {c : Code} {K : zK} {r : Int} {F9 : zF} {B9 : zB} (X : zX D ca L aS vS A p s m args meth c prog_6_method_18_code 6 (Option.some Jvm.ClassFile.FieldType.int) "StaveHouse$Part") {rec12 : Int → Int → Int → Int → Int → zF → zB → zO} (hrec12 : ∀ {l4 : Int} {l3 : Int} {l2 : Int} {l0 : Int} {l1 : Int} {F : zF} {B : zB} {H : Heap} {locs : List Loc} {ls : Array Slot}, rec12 l4 l3 l2 l0 l1 F B = some (r, F9, B9) → zH D ca ad lnC K.2 L F B A H → va_S A s.heap H locs → lv_has ls 6 [(4, .int (iI l4)), (3, .int (iI l3)), (2, va_rf (zrf ad 1 l2)), (0, .ref (ad 4 l0 0)), (1, .int (iI l1))] → W p l e ({ frames := 2, cells := 0, slots := 0, locals := 46 } : Room) s m args below meth c H locs 0 0 (MQ below (Q_Part_accidentalsOf K D ca ad L r F9 B9 A) args s 0 0 A) (F0 m 12 ls [])) {l4 : Int} {l3 : Int} {l2 : Int} {l0 : Int} {l1 : Int} {F : zF} {B : zB} {H : Heap} {locs : List Loc} {ls : Array Slot} (hf : f_Part_accidentalsOf_78 rec12 K l4 l3 l2 l0 l1 F B = some (r, F9, B9)) (hZ : zH D ca ad lnC K.2 L F B A H) (hS : va_S A s.heap H locs) (hl : lv_has ls 6 [(4, .int (iI l4)), (3, .int (iI l3)), (2, va_rf (zrf ad 1 l2)), (0, .ref (ad 4 l0 0)), (1, .int (iI l1))]) : W p l e ({ frames := 2, cells := 0, slots := 0, locals := 46 } : Room) s m args below meth c H locs 0 0 (MQ below (Q_Part_accidentalsOf K D ca ad L r F9 B9 A) args s 0 0 A) (F0 m 78 ls []) := by
  obtain ⟨hx, hb, hr, hml, hown, hts, hlk, hK, hA, hL, hX⟩ := id X
  replace hf : (rec12 (l4 + 1) l3 l2 l0 l1 F B) = some (r, F9, B9) := hf
  refine lv_iinc (v := iI (l4 + 1)) (lv' := [(4, .int (iI (l4 + 1))), (3, .int (iI l3)), (2, va_rf (zrf ad 1 l2)), (0, .ref (ad 4 l0 0)), (1, .int (iI l1))]) hx hb d_6_18_78 hl (k := 0) rfl (iI_add _ 1) (by decide) rfl (fun ls hl => ?_)
  refine lv_goto (tgt := 12) hx hb d_6_18_81 (by decide) ?_
  exact hrec12 hf hZ hS (lv_sub hl [0, 1, 2, 3, 4] rfl)

noncomputable def f_Part_accidentalsOf_12 (K : zK) : Nat → Int → Int → Int → Int → Int → zF → zB → zO
  | 0, _, _, _, _, _, _, _ => none
  | n + 1, l4, l3, l2, l0, l1, F, B => if 0 ≤ l2 ∧ l2 < K.2 1 then if r32 l4 then if r32 (F 1 l2 10) then (if (F 1 l2 10) ≤ l4 then some (l3, F, B) else if 0 ≤ l4 ∧ l4 < 6 then if 0 ≤ l0 ∧ l0 < K.2 4 then zbind (f_Part_isTiedFrom K l0 l1 l4 F B) (fun r9 F9 B9 => if r32 r9 then (if r9 = 0 then if 0 ≤ (B 1 l2 12 l4) ∧ (B 1 l2 12 l4) < 63 then if r32 (B9 4 l0 12 (B 1 l2 12 l4)) then if r32 (B9 1 l2 13 l4) then (if (B9 4 l0 12 (B 1 l2 12 l4)) = (B9 1 l2 13 l4) then f_Part_accidentalsOf_78 (f_Part_accidentalsOf_12 K n) K l4 l3 l2 l0 l1 F9 B9 else f_Part_accidentalsOf_78 (f_Part_accidentalsOf_12 K n) K l4 (zor l3 (zshl 1 l4)) l2 l0 l1 F9 (zup4 B9 4 l0 12 (B 1 l2 12 l4) (B9 1 l2 13 l4))) else none else none else none else f_Part_accidentalsOf_78 (f_Part_accidentalsOf_12 K n) K l4 l3 l2 l0 l1 F9 B9) else none) else none else none) else none else none else none
set_option maxHeartbeats 4000000 in
set_option maxRecDepth 100000 in
theorem b_Part_accidentalsOf_12 {D : va_G} {ca : Nat → ClassId} {ad : Nat → Int → Nat → Nat} {L : List Nat} {aS vS : Nat → Nat} {A : Nat → Prop} {p : Program} {l : Launch} {e : Env} {s : State} {m : MethodId} {args : Array Value} {below : List Frame} {meth : Method} {c : Code} {K : zK} {r : Int} {F9 : zF} {B9 : zB} (X : zX D ca L aS vS A p s m args meth c prog_6_method_18_code 6 (Option.some Jvm.ClassFile.FieldType.int) "StaveHouse$Part") : ∀ {n : Nat} {l4 : Int} {l3 : Int} {l2 : Int} {l0 : Int} {l1 : Int} {F : zF} {B : zB} {H : Heap} {locs : List Loc} {ls : Array Slot}, f_Part_accidentalsOf_12 K n l4 l3 l2 l0 l1 F B = some (r, F9, B9) → zH D ca ad lnC K.2 L F B A H → va_S A s.heap H locs → lv_has ls 6 [(4, .int (iI l4)), (3, .int (iI l3)), (2, va_rf (zrf ad 1 l2)), (0, .ref (ad 4 l0 0)), (1, .int (iI l1))] → W p l e ({ frames := 2, cells := 0, slots := 0, locals := 46 } : Room) s m args below meth c H locs 0 0 (MQ below (Q_Part_accidentalsOf K D ca ad L r F9 B9 A) args s 0 0 A) (F0 m 12 ls []) := by
  obtain ⟨hx, hb, hr, hml, hown, hts, hlk, hK, hA, hL, hX⟩ := id X
  intro n
  induction n with
  | zero =>
    intros
    rename_i hf _ _ _
    cases hf
  | succ n ih =>
    intro l4 l3 l2 l0 l1 F B H locs ls hf hZ hS hl
    replace hf : (if 0 ≤ l2 ∧ l2 < K.2 1 then if r32 l4 then if r32 (F 1 l2 10) then (if (F 1 l2 10) ≤ l4 then some (l3, F, B) else if 0 ≤ l4 ∧ l4 < 6 then if 0 ≤ l0 ∧ l0 < K.2 4 then zbind (f_Part_isTiedFrom K l0 l1 l4 F B) (fun r9 F9 B9 => if r32 r9 then (if r9 = 0 then if 0 ≤ (B 1 l2 12 l4) ∧ (B 1 l2 12 l4) < 63 then if r32 (B9 4 l0 12 (B 1 l2 12 l4)) then if r32 (B9 1 l2 13 l4) then (if (B9 4 l0 12 (B 1 l2 12 l4)) = (B9 1 l2 13 l4) then f_Part_accidentalsOf_78 (f_Part_accidentalsOf_12 K n) K l4 l3 l2 l0 l1 F9 B9 else f_Part_accidentalsOf_78 (f_Part_accidentalsOf_12 K n) K l4 (zor l3 (zshl 1 l4)) l2 l0 l1 F9 (zup4 B9 4 l0 12 (B 1 l2 12 l4) (B9 1 l2 13 l4))) else none else none else none else f_Part_accidentalsOf_78 (f_Part_accidentalsOf_12 K n) K l4 l3 l2 l0 l1 F9 B9) else none) else none else none) else none else none else none) = some (r, F9, B9) := hf
    refine lv_iload hx hb d_6_18_12 (lv_at hl 0 rfl) ?_
    refine zaload_n hx hb d_6_18_14 rfl (lv_at hl 2 rfl) ?_
    obtain ⟨g3, hf⟩ := gif hf
    refine zunrf g3.1 ?_
    refine zget (ci := 1) (C := RX1) (T := TX1) (v := .int (iI (F 1 l2 10))) (k := 10) hx hb hts inW_1 hown hK hZ g3.1 g3.2 rfl (by decide) k_2_54 rfl d_6_18_15 ?_
    obtain ⟨g4, hf⟩ := gif hf
    obtain ⟨g5, hf⟩ := gif hf
    refine zge (tgt := 84) hx hb g4 g5 d_6_18_18 (by decide) (fun h6 => ?_) (fun h6 => ?_)
    · replace hf := gpos hf h6
      refine lv_iload_n hx hb d_6_18_84 rfl (lv_at hl 1 rfl) ?_
      cases hf
      exact W.iret hx hb hr (fun t ht hW => ⟨⟨_, (), rfl, rfl, by rw [ht]; exact hZ, va_K.moved hW.alike hK⟩, hS.F ht⟩) hS.2.2 d_6_18_85 hlk
    · replace hf := gneg hf h6
      refine zaload_n hx hb d_6_18_21 rfl (lv_at hl 2 rfl) ?_
      refine zunrf g3.1 ?_
      refine zget (ci := 1) (C := RX1) (T := TX1) (v := .ref (ad 1 l2 (12 + 1))) (k := 12) hx hb hts inW_1 hown hK hZ g3.1 g3.2 rfl (by decide) k_2_60 rfl d_6_18_22 ?_
      refine lv_iload hx hb d_6_18_25 (lv_at hl 0 rfl) ?_
      obtain ⟨g7, hf⟩ := gif hf
      refine zald (ci := 1) (k := 12) hx hb hK rfl hZ g3.1 g3.2 rfl (Nat.le_of_ble_eq_true rfl) g7.1 g7.2 d_6_18_27 ?_
      refine lv_istore (lv' := [(5, .int (iI (B 1 l2 12 l4))), (4, .int (iI l4)), (3, .int (iI l3)), (2, va_rf (zrf ad 1 l2)), (0, .ref (ad 4 l0 0)), (1, .int (iI l1))]) hx hb d_6_18_28 hl (by decide) rfl (fun ls hl => ?_)
      refine lv_aload_n hx hb d_6_18_30 rfl (lv_at hl 4 rfl) ?_
      refine lv_iload_n hx hb d_6_18_31 rfl (lv_at hl 5 rfl) ?_
      refine lv_iload hx hb d_6_18_32 (lv_at hl 1 rfl) ?_
      obtain ⟨g8, hf⟩ := gif hf
      obtain ⟨r9, F9, B9, hc9, hf⟩ := gbind hf
      refine va_calli (va_runV (As := [.int (iI l1), .int (iI l4)]) (rest := []) ⟨hx, hb, hml, hown, hts⟩ (c_Part_isTiedFrom (l := l) hc9) (cwV 2 hts (gdV k_5_125 k_5_126 k_5_127 k_1_18 k_5_128) rfl rfl rfl (by decide +kernel) ⟨Nat.le_of_ble_eq_true rfl, Nat.le_of_ble_eq_true rfl⟩) (zPV X hZ hS (ci := 4) g8.1 g8.2 (r := (RX4, TX4, 13)) rfl [.int (iI l1), .int (iI l4)]) rfl rfl hl.1 rfl (lv_room (Nat.le_of_ble_eq_true rfl)) d_6_18_34 ⟨Nat.le_of_ble_eq_true rfl, Nat.le_of_ble_eq_true rfl⟩) hS (fun q _ h => zAin X hS q h) (zAin X hS) (fun p9 u9 t9 H9 locs9 ht9 hv9 hw9 hB9 hz9 hk9 hS9 => ?_)
      have hZ9 := zBack X ht9 hB9
      subst hw9
      obtain ⟨g10, hf⟩ := gif hf
      refine z0ne (tgt := 78) hx hb g10 d_6_18_37 (by decide) (fun h11 => ?_) (fun h11 => ?_)
      · replace hf := gneg hf h11
        exact b_Part_accidentalsOf_78 X ih hf hZ9 hS9 (lv_sub hl [1, 2, 3, 4, 5] rfl)
      · replace hf := gpos hf h11
        refine lv_aload_n hx hb d_6_18_40 rfl (lv_at hl 4 rfl) ?_
        refine zget (ci := 4) (C := RX4) (T := TX4) (v := .ref (ad 4 l0 (12 + 1))) (k := 12) hx hb hts inW_4 hown hK hZ9 g8.1 g8.2 rfl (by decide) k_4_152 rfl d_6_18_41 ?_
        refine lv_iload hx hb d_6_18_44 (lv_at hl 0 rfl) ?_
        obtain ⟨g12, hf⟩ := gif hf
        refine zald (ci := 4) (k := 12) hx hb hK rfl hZ9 g8.1 g8.2 rfl (Nat.le_of_ble_eq_true rfl) g12.1 g12.2 d_6_18_46 ?_
        refine zaload_n hx hb d_6_18_47 rfl (lv_at hl 3 rfl) ?_
        refine zunrf g3.1 ?_
        refine zget (ci := 1) (C := RX1) (T := TX1) (v := .ref (ad 1 l2 (13 + 1))) (k := 13) hx hb hts inW_1 hown hK hZ9 g3.1 g3.2 rfl (by decide) k_2_65 rfl d_6_18_48 ?_
        refine lv_iload hx hb d_6_18_51 (lv_at hl 1 rfl) ?_
        refine zald (ci := 1) (k := 13) hx hb hK rfl hZ9 g3.1 g3.2 rfl (Nat.le_of_ble_eq_true rfl) g7.1 g7.2 d_6_18_53 ?_
        obtain ⟨g13, hf⟩ := gif hf
        obtain ⟨g14, hf⟩ := gif hf
        refine zeq (tgt := 78) hx hb g13 g14 d_6_18_54 (by decide) (fun h15 => ?_) (fun h15 => ?_)
        · replace hf := gpos hf h15
          exact b_Part_accidentalsOf_78 X ih hf hZ9 hS9 (lv_sub hl [1, 2, 3, 4, 5] rfl)
        · replace hf := gneg hf h15
          refine lv_iload_n hx hb d_6_18_57 rfl (lv_at hl 2 rfl) ?_
          refine lv_iconst (v := iI 1) hx hb d_6_18_58 rfl ?_
          refine lv_iload hx hb d_6_18_59 (lv_at hl 1 rfl) ?_
          refine zshl_r hx hb d_6_18_61 ?_
          refine zor_r hx hb d_6_18_62 ?_
          refine lv_istore_n (lv' := [(3, .int (iI (zor l3 (zshl 1 l4)))), (5, .int (iI (B 1 l2 12 l4))), (4, .int (iI l4)), (2, va_rf (zrf ad 1 l2)), (0, .ref (ad 4 l0 0)), (1, .int (iI l1))]) hx hb d_6_18_63 rfl hl (by decide) (by cases zrf ad 1 l2 <;> rfl) (fun ls hl => ?_)
          refine lv_aload_n hx hb d_6_18_64 rfl (lv_at hl 4 rfl) ?_
          refine zget (ci := 4) (C := RX4) (T := TX4) (v := .ref (ad 4 l0 (12 + 1))) (k := 12) hx hb hts inW_4 hown hK hZ9 g8.1 g8.2 rfl (by decide) k_4_152 rfl d_6_18_65 ?_
          refine lv_iload hx hb d_6_18_68 (lv_at hl 1 rfl) ?_
          refine zaload_n hx hb d_6_18_70 rfl (lv_at hl 3 rfl) ?_
          refine zunrf g3.1 ?_
          refine zget (ci := 1) (C := RX1) (T := TX1) (v := .ref (ad 1 l2 (13 + 1))) (k := 13) hx hb hts inW_1 hown hK hZ9 g3.1 g3.2 rfl (by decide) k_2_65 rfl d_6_18_71 ?_
          refine lv_iload hx hb d_6_18_74 (lv_at hl 2 rfl) ?_
          refine zald (ci := 1) (k := 13) hx hb hK rfl hZ9 g3.1 g3.2 rfl (Nat.le_of_ble_eq_true rfl) g7.1 g7.2 d_6_18_76 ?_
          refine zast (ci := 4) (k := 12) hx hb hK rfl hZ9 hS9 g8.1 g8.2 rfl (Nat.le_of_ble_eq_true rfl) g12.1 g12.2 d_6_18_77 (fun H16 locs16 hZ16 hS16 => ?_)
          exact b_Part_accidentalsOf_78 X ih hf hZ16 hS16 (lv_sub hl [2, 0, 3, 4, 5] rfl)

noncomputable def f_Part_accidentalsOf (K : zK) (l0 : Int) (l1 : Int) (F : zF) (B : zB) : zO := if 0 ≤ l0 ∧ l0 < K.2 4 then if 0 ≤ l1 ∧ l1 < 200 then f_Part_accidentalsOf_12 K K.1 0 0 (B 4 l0 5 l1) l0 l1 F B else none else none
set_option maxHeartbeats 4000000 in
set_option maxRecDepth 100000 in
theorem c_Part_accidentalsOf {l : Launch} {D : va_G} {ca : Nat → ClassId} {ad : Nat → Int → Nat → Nat} {L : List Nat} {aS vS : Nat → Nat} {sz : Nat} {K : zK}  {l0 : Int} {l1 : Int} {F F9 : zF} {B B9 : zB} {r : Int} (hf : f_Part_accidentalsOf K l0 l1 F B = some (r, F9, B9)) : Met l ({ cls := "StaveHouse$Part", name := "accidentalsOf", desc := "(I)I" } : Jvm.MethodName) (Cond.code ({ cls := "StaveHouse$Part", name := "accidentalsOf", desc := "(I)I" } : Jvm.MethodName) prog_6_method_18_code 6 (Option.some Jvm.ClassFile.FieldType.int) :: wAll) ({ frames := 2, cells := 0, slots := 0, locals := 46 } : Room) (va_Pc [.ref (ad 4 l0 0), .int (iI l1)] (zPre D ca ad lnC K.2 L aS vS F B sz)) (Q_Part_accidentalsOf K D ca ad L r F9 B9 (zA L sz)) 0 0 (zA L sz) := by
  refine zMet (Qc := Q_Part_accidentalsOf K D ca ad L r F9 B9) (lv := [(0, .ref (ad 4 l0 0)), (1, .int (iI l1))]) (by decide) (Nat.le_of_ble_eq_true rfl) rfl (fun A p e s m below meth c ls X hZ hS hl => ?_)
  obtain ⟨hx, hb, hr, hml, hown, hts, hlk, hK, hA, hL, hX⟩ := id X
  replace hf : (if 0 ≤ l0 ∧ l0 < K.2 4 then if 0 ≤ l1 ∧ l1 < 200 then f_Part_accidentalsOf_12 K K.1 0 0 (B 4 l0 5 l1) l0 l1 F B else none else none) = some (r, F9, B9) := hf
  refine lv_aload_n hx hb d_6_18_0 rfl (lv_at hl 0 rfl) ?_
  obtain ⟨g1, hf⟩ := gif hf
  refine zget (ci := 4) (C := RX4) (T := TX4) (v := .ref (ad 4 l0 (5 + 1))) (k := 5) hx hb hts inW_4 hown hK hZ g1.1 g1.2 rfl (by decide) k_4_130 rfl d_6_18_1 ?_
  refine lv_iload_n hx hb d_6_18_4 rfl (lv_at hl 1 rfl) ?_
  obtain ⟨g2, hf⟩ := gif hf
  refine zaldR (t := 1) (x := 7) (ci := 4) (k := 5) hx hb hK rfl rfl hZ g1.1 g1.2 rfl (Nat.le_of_ble_eq_true rfl) g2.1 g2.2 d_6_18_5 ?_
  refine zastore_n (lv' := [(0, .ref (ad 4 l0 0)), (1, .int (iI l1))]) hx hb d_6_18_6 rfl hl (by decide) (fun _ _ => rfl) (fun ls hl => ?_)
  refine lv_iconst (v := iI 0) hx hb d_6_18_7 rfl ?_
  refine lv_istore_n (lv' := [(3, .int (iI 0)), (2, va_rf (zrf ad 1 (B 4 l0 5 l1))), (0, .ref (ad 4 l0 0)), (1, .int (iI l1))]) hx hb d_6_18_8 rfl hl (by decide) (by cases zrf ad 1 (B 4 l0 5 l1) <;> rfl) (fun ls hl => ?_)
  refine lv_iconst (v := iI 0) hx hb d_6_18_9 rfl ?_
  refine lv_istore (lv' := [(4, .int (iI 0)), (3, .int (iI 0)), (2, va_rf (zrf ad 1 (B 4 l0 5 l1))), (0, .ref (ad 4 l0 0)), (1, .int (iI l1))]) hx hb d_6_18_10 hl (by decide) rfl (fun ls hl => ?_)
  exact b_Part_accidentalsOf_12 X hf hZ hS (lv_sub hl [0, 1, 2, 3, 4] rfl)

noncomputable abbrev Q_Part_setLedgers (K : zK) (D : va_G) (ca : Nat → ClassId) (ad : Nat → Int → Nat → Nat) (L : List Nat) (r : Int) (F : zF) (B : zB) (A : Nat → Prop) : Array Value → State → Outcome → State → Prop := va_Qv (S := Unit) (fun _ => True) (fun _ => zPo D ca ad lnC K.2 L F B A) A
noncomputable def f_Part_setLedgers_52 (rec2 : Int → Int → zF → zB → zO) (K : zK) (l2 : Int) (l1 : Int) (l0 : Int) (F : zF) (B : zB) : zO := if 0 ≤ l0 ∧ l0 < K.2 4 then if 0 ≤ l1 ∧ l1 < 800 then rec2 (l1 + 1) l0 F (zup4 B 4 l0 368 l1 l2) else none else none
set_option maxHeartbeats 4000000 in
set_option maxRecDepth 100000 in
theorem b_Part_setLedgers_52 {D : va_G} {ca : Nat → ClassId} {ad : Nat → Int → Nat → Nat} {L : List Nat} {aS vS : Nat → Nat} {A : Nat → Prop} {p : Program} {l : Launch} {e : Env} {s : State} {m : MethodId} {args : Array Value} {below : List Frame} {meth : Method} {c : Code} {K : zK} {r : Int} {F9 : zF} {B9 : zB} (X : zX D ca L aS vS A p s m args meth c prog_6_method_21_code 3 (Option.none : Option Jvm.ClassFile.FieldType) "StaveHouse$Part") {rec2 : Int → Int → zF → zB → zO} (hrec2 : ∀ {l1 : Int} {l0 : Int} {F : zF} {B : zB} {H : Heap} {locs : List Loc} {ls : Array Slot}, rec2 l1 l0 F B = some (r, F9, B9) → zH D ca ad lnC K.2 L F B A H → va_S A s.heap H locs → lv_has ls 3 [(1, .int (iI l1)), (0, .ref (ad 4 l0 0))] → W p l e ({ frames := 2, cells := 0, slots := 0, locals := 36 } : Room) s m args below meth c H locs 0 0 (MQ below (Q_Part_setLedgers K D ca ad L r F9 B9 A) args s 0 0 A) (F0 m 2 ls [])) {l2 : Int} {l1 : Int} {l0 : Int} {F : zF} {B : zB} {H : Heap} {locs : List Loc} {ls : Array Slot} (hf : f_Part_setLedgers_52 rec2 K l2 l1 l0 F B = some (r, F9, B9)) (hZ : zH D ca ad lnC K.2 L F B A H) (hS : va_S A s.heap H locs) (hl : lv_has ls 3 [(2, .int (iI l2)), (1, .int (iI l1)), (0, .ref (ad 4 l0 0))]) : W p l e ({ frames := 2, cells := 0, slots := 0, locals := 36 } : Room) s m args below meth c H locs 0 0 (MQ below (Q_Part_setLedgers K D ca ad L r F9 B9 A) args s 0 0 A) (F0 m 52 ls []) := by
  obtain ⟨hx, hb, hr, hml, hown, hts, hlk, hK, hA, hL, hX⟩ := id X
  replace hf : (if 0 ≤ l0 ∧ l0 < K.2 4 then if 0 ≤ l1 ∧ l1 < 800 then rec2 (l1 + 1) l0 F (zup4 B 4 l0 368 l1 l2) else none else none) = some (r, F9, B9) := hf
  refine lv_aload_n hx hb d_6_21_52 rfl (lv_at hl 2 rfl) ?_
  obtain ⟨g12, hf⟩ := gif hf
  refine zget (ci := 4) (C := RX4) (T := TX4) (v := .ref (ad 4 l0 (8 + 1))) (k := 8) hx hb hts inW_4 hown hK hZ g12.1 g12.2 rfl (by decide) k_4_142 rfl d_6_21_53 ?_
  refine lv_bipush (v := iI 8) hx hb d_6_21_56 (by decide) ?_
  refine zaldQ (t := 0) (ci := 4) (k := 8) hx hb hK rfl hZ g12.1 g12.2 rfl (Nat.le_of_ble_eq_true rfl) (by decide) (by decide) d_6_21_58 ?_
  refine W.eq (g2 := F0 m 59 ls [.ref (ad 4 l0 (368 + 1))]) rfl ?_
  refine lv_iload_n hx hb d_6_21_59 rfl (lv_at hl 1 rfl) ?_
  refine lv_iload_n hx hb d_6_21_60 rfl (lv_at hl 0 rfl) ?_
  obtain ⟨g13, hf⟩ := gif hf
  refine zast (ci := 4) (k := 368) hx hb hK rfl hZ hS g12.1 g12.2 rfl (Nat.le_of_ble_eq_true rfl) g13.1 g13.2 d_6_21_61 (fun H14 locs14 hZ14 hS14 => ?_)
  refine lv_iinc (v := iI (l1 + 1)) (lv' := [(1, .int (iI (l1 + 1))), (2, .int (iI l2)), (0, .ref (ad 4 l0 0))]) hx hb d_6_21_62 hl (k := 1) rfl (iI_add _ 1) (by decide) rfl (fun ls hl => ?_)
  refine lv_goto (tgt := 2) hx hb d_6_21_65 (by decide) ?_
  exact hrec2 hf hZ14 hS14 (lv_sub hl [0, 2] rfl)

noncomputable def f_Part_setLedgers_2 (K : zK) : Nat → Int → Int → zF → zB → zO
  | 0, _, _, _, _ => none
  | n + 1, l1, l0, F, B => if 0 ≤ l0 ∧ l0 < K.2 4 then if r32 l1 then if r32 (F 4 l0 10) then (if (F 4 l0 10) ≤ l1 then some (0, F, B) else zbind (f_Part_isRestNote K l0 l1 F B) (fun r5 F5 B5 => if r32 r5 then (if r5 = 0 then zbind (f_Part_greatestHeight K l0 l1 F5 B5) (fun r8 F8 B8 => if r32 (r8 - 8) then zbind (f_Part_leastHeight K l0 l1 F8 B8) (fun r10 F10 B10 => if r32 (-r10) then f_Part_setLedgers_52 (f_Part_setLedgers_2 K n) K ((0 + (zdv (zmax (r8 - 8) 0) 2)) + (zdv (zmax (-r10) 0) 2)) l1 l0 F10 B10 else none) else none) else f_Part_setLedgers_52 (f_Part_setLedgers_2 K n) K 0 l1 l0 F5 B5) else none)) else none else none else none
set_option maxHeartbeats 4000000 in
set_option maxRecDepth 100000 in
theorem b_Part_setLedgers_2 {D : va_G} {ca : Nat → ClassId} {ad : Nat → Int → Nat → Nat} {L : List Nat} {aS vS : Nat → Nat} {A : Nat → Prop} {p : Program} {l : Launch} {e : Env} {s : State} {m : MethodId} {args : Array Value} {below : List Frame} {meth : Method} {c : Code} {K : zK} {r : Int} {F9 : zF} {B9 : zB} (X : zX D ca L aS vS A p s m args meth c prog_6_method_21_code 3 (Option.none : Option Jvm.ClassFile.FieldType) "StaveHouse$Part") : ∀ {n : Nat} {l1 : Int} {l0 : Int} {F : zF} {B : zB} {H : Heap} {locs : List Loc} {ls : Array Slot}, f_Part_setLedgers_2 K n l1 l0 F B = some (r, F9, B9) → zH D ca ad lnC K.2 L F B A H → va_S A s.heap H locs → lv_has ls 3 [(1, .int (iI l1)), (0, .ref (ad 4 l0 0))] → W p l e ({ frames := 2, cells := 0, slots := 0, locals := 36 } : Room) s m args below meth c H locs 0 0 (MQ below (Q_Part_setLedgers K D ca ad L r F9 B9 A) args s 0 0 A) (F0 m 2 ls []) := by
  obtain ⟨hx, hb, hr, hml, hown, hts, hlk, hK, hA, hL, hX⟩ := id X
  intro n
  induction n with
  | zero =>
    intros
    rename_i hf _ _ _
    cases hf
  | succ n ih =>
    intro l1 l0 F B H locs ls hf hZ hS hl
    replace hf : (if 0 ≤ l0 ∧ l0 < K.2 4 then if r32 l1 then if r32 (F 4 l0 10) then (if (F 4 l0 10) ≤ l1 then some (0, F, B) else zbind (f_Part_isRestNote K l0 l1 F B) (fun r5 F5 B5 => if r32 r5 then (if r5 = 0 then zbind (f_Part_greatestHeight K l0 l1 F5 B5) (fun r8 F8 B8 => if r32 (r8 - 8) then zbind (f_Part_leastHeight K l0 l1 F8 B8) (fun r10 F10 B10 => if r32 (-r10) then f_Part_setLedgers_52 (f_Part_setLedgers_2 K n) K ((0 + (zdv (zmax (r8 - 8) 0) 2)) + (zdv (zmax (-r10) 0) 2)) l1 l0 F10 B10 else none) else none) else f_Part_setLedgers_52 (f_Part_setLedgers_2 K n) K 0 l1 l0 F5 B5) else none)) else none else none else none) = some (r, F9, B9) := hf
    refine lv_iload_n hx hb d_6_21_2 rfl (lv_at hl 0 rfl) ?_
    refine lv_aload_n hx hb d_6_21_3 rfl (lv_at hl 1 rfl) ?_
    obtain ⟨g1, hf⟩ := gif hf
    refine zget (ci := 4) (C := RX4) (T := TX4) (v := .int (iI (F 4 l0 10))) (k := 10) hx hb hts inW_4 hown hK hZ g1.1 g1.2 rfl (by decide) k_4_148 rfl d_6_21_4 ?_
    obtain ⟨g2, hf⟩ := gif hf
    obtain ⟨g3, hf⟩ := gif hf
    refine zge (tgt := 68) hx hb g2 g3 d_6_21_7 (by decide) (fun h4 => ?_) (fun h4 => ?_)
    · replace hf := gpos hf h4
      cases hf
      exact W.vret hx hb hr (fun t ht hW => ⟨⟨(), rfl, trivial, by rw [ht]; exact hZ, va_K.moved hW.alike hK⟩, hS.F ht⟩) hS.2.2 d_6_21_68 hlk
    · replace hf := gneg hf h4
      refine lv_iconst (v := iI 0) hx hb d_6_21_10 rfl ?_
      refine lv_istore_n (lv' := [(2, .int (iI 0)), (1, .int (iI l1)), (0, .ref (ad 4 l0 0))]) hx hb d_6_21_11 rfl hl (by decide) rfl (fun ls hl => ?_)
      refine lv_aload_n hx hb d_6_21_12 rfl (lv_at hl 2 rfl) ?_
      refine lv_iload_n hx hb d_6_21_13 rfl (lv_at hl 1 rfl) ?_
      obtain ⟨r5, F5, B5, hc5, hf⟩ := gbind hf
      refine va_calli (va_runV (As := [.int (iI l1)]) (rest := []) ⟨hx, hb, hml, hown, hts⟩ (c_Part_isRestNote (l := l) hc5) (cwV 1 hts (gdV k_5_104 k_5_106 ks_54 k_1_18 k_5_107) rfl rfl rfl (by decide +kernel) ⟨Nat.le_of_ble_eq_true rfl, Nat.le_of_ble_eq_true rfl⟩) (zPV X hZ hS (ci := 4) g1.1 g1.2 (r := (RX4, TX4, 13)) rfl [.int (iI l1)]) rfl rfl hl.1 rfl (lv_room (Nat.le_of_ble_eq_true rfl)) d_6_21_14 ⟨Nat.le_of_ble_eq_true rfl, Nat.le_of_ble_eq_true rfl⟩) hS (fun q _ h => zAin X hS q h) (zAin X hS) (fun p5 u5 t5 H5 locs5 ht5 hv5 hw5 hB5 hz5 hk5 hS5 => ?_)
      have hZ5 := zBack X ht5 hB5
      subst hw5
      obtain ⟨g6, hf⟩ := gif hf
      refine z0ne (tgt := 52) hx hb g6 d_6_21_17 (by decide) (fun h7 => ?_) (fun h7 => ?_)
      · replace hf := gneg hf h7
        exact b_Part_setLedgers_52 X ih hf hZ5 hS5 (lv_sub hl [0, 1, 2] rfl)
      · replace hf := gpos hf h7
        refine lv_iload_n hx hb d_6_21_20 rfl (lv_at hl 0 rfl) ?_
        refine lv_aload_n hx hb d_6_21_21 rfl (lv_at hl 2 rfl) ?_
        refine lv_iload_n hx hb d_6_21_22 rfl (lv_at hl 1 rfl) ?_
        obtain ⟨r8, F8, B8, hc8, hf⟩ := gbind hf
        refine va_calli (va_runV (As := [.int (iI l1)]) (rest := [.int (iI 0)]) ⟨hx, hb, hml, hown, hts⟩ (c_Part_greatestHeight (l := l) hc8) (cwV 1 hts (gdV k_5_134 k_5_136 ks_59 k_1_18 k_5_137) rfl rfl rfl (by decide +kernel) ⟨Nat.le_of_ble_eq_true rfl, Nat.le_of_ble_eq_true rfl⟩) (zPV X hZ5 hS5 (ci := 4) g1.1 g1.2 (r := (RX4, TX4, 13)) rfl [.int (iI l1)]) rfl rfl hl.1 rfl (lv_room (Nat.le_of_ble_eq_true rfl)) d_6_21_23 ⟨Nat.le_of_ble_eq_true rfl, Nat.le_of_ble_eq_true rfl⟩) hS5 (fun q _ h => zAin X hS5 q h) (zAin X hS5) (fun p8 u8 t8 H8 locs8 ht8 hv8 hw8 hB8 hz8 hk8 hS8 => ?_)
        have hZ8 := zBack X ht8 hB8
        subst hw8
        refine lv_bipush (v := iI 8) hx hb d_6_21_26 (by decide) ?_
        refine zsub hx hb d_6_21_28 ?_
        refine lv_iconst (v := iI 0) hx hb d_6_21_29 rfl ?_
        obtain ⟨g9, hf⟩ := gif hf
        refine va_mmax hx hb (by rw [hml]; exact hl.1.symm) hown (hts _ k_5_77) (hts _ k_1_39) (hts _ k_1_3) (hts _ k_1_40) (Nat.le_of_ble_eq_true rfl) (Nat.le_of_ble_eq_true rfl) (Nat.le_of_ble_eq_true rfl) (Nat.le_of_ble_eq_true rfl) d_6_21_30 ?_
        rw [zmax_e g9 (by decide)]
        refine lv_iconst (v := iI 2) hx hb d_6_21_33 rfl ?_
        refine zdv_r hx hb (by decide) d_6_21_34 ?_
        refine zadd hx hb d_6_21_35 ?_
        refine lv_istore_n (lv' := [(2, .int (iI (0 + (zdv (zmax (r8 - 8) 0) 2)))), (1, .int (iI l1)), (0, .ref (ad 4 l0 0))]) hx hb d_6_21_36 rfl hl (by decide) rfl (fun ls hl => ?_)
        refine lv_iload_n hx hb d_6_21_37 rfl (lv_at hl 0 rfl) ?_
        refine lv_aload_n hx hb d_6_21_38 rfl (lv_at hl 2 rfl) ?_
        refine lv_iload_n hx hb d_6_21_39 rfl (lv_at hl 1 rfl) ?_
        obtain ⟨r10, F10, B10, hc10, hf⟩ := gbind hf
        refine va_calli (va_runV (As := [.int (iI l1)]) (rest := [.int (iI (0 + (zdv (zmax (r8 - 8) 0) 2)))]) ⟨hx, hb, hml, hown, hts⟩ (c_Part_leastHeight (l := l) hc10) (cwV 1 hts (gdV k_5_140 k_5_142 ks_60 k_1_18 k_5_143) rfl rfl rfl (by decide +kernel) ⟨Nat.le_of_ble_eq_true rfl, Nat.le_of_ble_eq_true rfl⟩) (zPV X hZ8 hS8 (ci := 4) g1.1 g1.2 (r := (RX4, TX4, 13)) rfl [.int (iI l1)]) rfl rfl hl.1 rfl (lv_room (Nat.le_of_ble_eq_true rfl)) d_6_21_40 ⟨Nat.le_of_ble_eq_true rfl, Nat.le_of_ble_eq_true rfl⟩) hS8 (fun q _ h => zAin X hS8 q h) (zAin X hS8) (fun p10 u10 t10 H10 locs10 ht10 hv10 hw10 hB10 hz10 hk10 hS10 => ?_)
        have hZ10 := zBack X ht10 hB10
        subst hw10
        refine zneg hx hb d_6_21_43 ?_
        refine lv_iconst (v := iI 0) hx hb d_6_21_44 rfl ?_
        obtain ⟨g11, hf⟩ := gif hf
        refine va_mmax hx hb (by rw [hml]; exact hl.1.symm) hown (hts _ k_5_77) (hts _ k_1_39) (hts _ k_1_3) (hts _ k_1_40) (Nat.le_of_ble_eq_true rfl) (Nat.le_of_ble_eq_true rfl) (Nat.le_of_ble_eq_true rfl) (Nat.le_of_ble_eq_true rfl) d_6_21_45 ?_
        rw [zmax_e g11 (by decide)]
        refine lv_iconst (v := iI 2) hx hb d_6_21_48 rfl ?_
        refine zdv_r hx hb (by decide) d_6_21_49 ?_
        refine zadd hx hb d_6_21_50 ?_
        refine lv_istore_n (lv' := [(2, .int (iI ((0 + (zdv (zmax (r8 - 8) 0) 2)) + (zdv (zmax (-r10) 0) 2)))), (1, .int (iI l1)), (0, .ref (ad 4 l0 0))]) hx hb d_6_21_51 rfl hl (by decide) rfl (fun ls hl => ?_)
        exact b_Part_setLedgers_52 X ih hf hZ10 hS10 (lv_sub hl [0, 1, 2] rfl)

noncomputable def f_Part_setLedgers (K : zK) (l0 : Int) (F : zF) (B : zB) : zO := f_Part_setLedgers_2 K K.1 0 l0 F B
set_option maxHeartbeats 4000000 in
set_option maxRecDepth 100000 in
theorem c_Part_setLedgers {l : Launch} {D : va_G} {ca : Nat → ClassId} {ad : Nat → Int → Nat → Nat} {L : List Nat} {aS vS : Nat → Nat} {sz : Nat} {K : zK}  {l0 : Int} {F F9 : zF} {B B9 : zB} {r : Int} (hf : f_Part_setLedgers K l0 F B = some (r, F9, B9)) : Met l ({ cls := "StaveHouse$Part", name := "setLedgers", desc := "()V" } : Jvm.MethodName) (Cond.code ({ cls := "StaveHouse$Part", name := "setLedgers", desc := "()V" } : Jvm.MethodName) prog_6_method_21_code 3 (Option.none : Option Jvm.ClassFile.FieldType) :: wAll) ({ frames := 2, cells := 0, slots := 0, locals := 36 } : Room) (va_Pc [.ref (ad 4 l0 0)] (zPre D ca ad lnC K.2 L aS vS F B sz)) (Q_Part_setLedgers K D ca ad L r F9 B9 (zA L sz)) 0 0 (zA L sz) := by
  refine zMet (Qc := Q_Part_setLedgers K D ca ad L r F9 B9) (lv := [(0, .ref (ad 4 l0 0))]) (by decide) (Nat.le_of_ble_eq_true rfl) rfl (fun A p e s m below meth c ls X hZ hS hl => ?_)
  obtain ⟨hx, hb, hr, hml, hown, hts, hlk, hK, hA, hL, hX⟩ := id X
  replace hf : (f_Part_setLedgers_2 K K.1 0 l0 F B) = some (r, F9, B9) := hf
  refine lv_iconst (v := iI 0) hx hb d_6_21_0 rfl ?_
  refine lv_istore_n (lv' := [(1, .int (iI 0)), (0, .ref (ad 4 l0 0))]) hx hb d_6_21_1 rfl hl (by decide) rfl (fun ls hl => ?_)
  exact b_Part_setLedgers_2 X hf hZ hS (lv_sub hl [0, 1] rfl)

noncomputable abbrev Q_Part_group (K : zK) (D : va_G) (ca : Nat → ClassId) (ad : Nat → Int → Nat → Nat) (L : List Nat) (r : Int) (F : zF) (B : zB) (A : Nat → Prop) : Array Value → State → Outcome → State → Prop := va_Qv (S := Unit) (fun _ => True) (fun _ => zPo D ca ad lnC K.2 L F B A) A
noncomputable def f_Part_group_207 (K : zK)  (F : zF) (B : zB) : zO := some (0, F, B)
set_option maxHeartbeats 4000000 in
set_option maxRecDepth 100000 in
theorem b_Part_group_207 {D : va_G} {ca : Nat → ClassId} {ad : Nat → Int → Nat → Nat} {L : List Nat} {aS vS : Nat → Nat} {A : Nat → Prop} {p : Program} {l : Launch} {e : Env} {s : State} {m : MethodId} {args : Array Value} {below : List Frame} {meth : Method} {c : Code} {K : zK} {r : Int} {F9 : zF} {B9 : zB} (X : zX D ca L aS vS A p s m args meth c prog_6_method_24_code 9 (Option.none : Option Jvm.ClassFile.FieldType) "StaveHouse$Part")  {F : zF} {B : zB} {H : Heap} {locs : List Loc} {ls : Array Slot} (hf : f_Part_group_207 K  F B = some (r, F9, B9)) (hZ : zH D ca ad lnC K.2 L F B A H) (hS : va_S A s.heap H locs) (hl : lv_has ls 9 []) : W p l e ({ frames := 3, cells := 0, slots := 0, locals := 67 } : Room) s m args below meth c H locs 0 0 (MQ below (Q_Part_group K D ca ad L r F9 B9 A) args s 0 0 A) (F0 m 207 ls []) := by
  obtain ⟨hx, hb, hr, hml, hown, hts, hlk, hK, hA, hL, hX⟩ := id X
  replace hf : (some (0, F, B)) = some (r, F9, B9) := hf
  cases hf
  exact W.vret hx hb hr (fun t ht hW => ⟨⟨(), rfl, trivial, by rw [ht]; exact hZ, va_K.moved hW.alike hK⟩, hS.F ht⟩) hS.2.2 d_6_24_207 hlk

noncomputable def f_Part_group_192 (rec8 : Int → Int → Int → Int → Int → zF → zB → zO) (K : zK) (l6 : Int) (l5 : Int) (l4 : Int) (l0 : Int) (l1 : Int) (s0 : Int) (s1 : Int) (F : zF) (B : zB) : zO := rec8 (l5 + 1) (l4 + l6) (s0 + s1) l0 l1 F B
