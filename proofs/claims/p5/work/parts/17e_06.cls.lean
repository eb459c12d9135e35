set_option maxHeartbeats 4000000 in
set_option maxRecDepth 100000 in
theorem b_Parser_takeNumber_48 {D : va_G} {ca : Nat → ClassId} {ad : Nat → Int → Nat → Nat} {L : List Nat} {aS vS : Nat → Nat} {A : Nat → Prop} {p : Program} {l : Launch} {e : Env} {s : State} {m : MethodId} {args : Array Value} {below : List Frame} {meth : Method} {c : Code} {K : zK} {r : Int} {F9 : zF} {B9 : zB} (X : zX D ca L aS vS A p s m args meth c prog_5_method_15_code 5 (Option.some Jvm.ClassFile.FieldType.boolean) "StaveHouse$Parser") {l0 : Int} {l3 : Int} {s0 : Int} {F : zF} {B : zB} {H : Heap} {locs : List Loc} {ls : Array Slot} (hf : f_Parser_takeNumber_48 K l0 l3 s0 F B = some (r, F9, B9)) (hZ : zH D ca ad lnC K.2 L F B A H) (hS : va_S A s.heap H locs) (hl : lv_has ls 5 [(0, .ref (ad 3 l0 0)), (3, .int (iI l3))]) : W p l e ({ frames := 1, cells := 0, slots := 0, locals := 21 } : Room) s m args below meth c H locs 0 0 (MQ below (Q_Parser_takeNumber K D ca ad L r F9 B9 A) args s 0 0 A) (F0 m 48 ls [.int (iI s0)]) := by
  obtain ⟨hx, hb, hr, hml, hown, hts, hlk, hK, hA, hL, hX⟩ := id X
  replace hf : (if r32 s0 then (if s0 = 0 then f_Parser_takeNumber_73 K l0 F B else if r32 l3 then (if l3 = 0 then f_Parser_takeNumber_79 K l0 F B else if 0 ≤ l0 ∧ l0 < K.2 3 then if 0 ≤ (F 3 l0 11) ∧ (F 3 l0 11) < K.2 10 then zbind (f_Long_bitCount K (F 10 (F 3 l0 11) 2) F B) (fun r20 F20 B20 => if r32 r20 then (if r20 = 1 then f_Parser_takeNumber_79 K l0 F20 B20 else f_Parser_takeNumber_73 K l0 F20 B20) else none) else none else none) else none) else none) = some (r, F9, B9) := hf
  refine lv_istore (lv' := [(4, .int (iI s0)), (0, .ref (ad 3 l0 0)), (3, .int (iI l3))]) hx hb d_5_15_48 hl (by decide) rfl (fun ls hl => ?_)
  refine lv_iload hx hb d_5_15_50 (lv_at hl 0 rfl) ?_
  obtain ⟨g14, hf⟩ := gif hf
  refine z0eq (tgt := 73) hx hb g14 d_5_15_52 (by decide) (fun h15 => ?_) (fun h15 => ?_)
  · replace hf := gpos hf h15
    exact b_Parser_takeNumber_73 X hf hZ hS (lv_sub hl [1] rfl)
  · replace hf := gneg hf h15
    refine lv_iload_n hx hb d_5_15_55 rfl (lv_at hl 2 rfl) ?_
    obtain ⟨g16, hf⟩ := gif hf
    refine z0eq (tgt := 79) hx hb g16 d_5_15_56 (by decide) (fun h17 => ?_) (fun h17 => ?_)
    · replace hf := gpos hf h17
      exact b_Parser_takeNumber_79 X hf hZ hS (lv_sub hl [1] rfl)
    · replace hf := gneg hf h17
      refine lv_aload_n hx hb d_5_15_59 rfl (lv_at hl 1 rfl) ?_
      obtain ⟨g18, hf⟩ := gif hf
      refine zget (ci := 3) (C := RX3) (T := TX3) (v := va_rf (zrf ad 10 (F 3 l0 11))) (k := 11) hx hb hts inW_3 hown hK hZ g18.1 g18.2 rfl (by decide) k_1_128 rfl d_5_15_60 ?_
      obtain ⟨g19, hf⟩ := gif hf
      refine zunrf g19.1 ?_
      refine zget (ci := 10) (C := RX10) (T := TX10) (v := .long (lI (F 10 (F 3 l0 11) 2))) (k := 2) hx hb hts inW_10 hown hK hZ g19.1 g19.2 rfl (by decide) k_1_77 rfl d_5_15_63 ?_
      obtain ⟨r20, F20, B20, hc20, hf⟩ := gbind hf
      refine va_calli (va_runS (As := [.long (lI (F 10 (F 3 l0 11) 2))]) (rest := []) ⟨hx, hb, hml, hown, hts⟩ (c_Long_bitCount (l := l) hc20) (va_cwS 1 hts (gdS k_4_13 k_4_14 k_1_17 k_4_15) rfl rfl rfl (by decide +kernel) ⟨Nat.le_of_ble_eq_true rfl, Nat.le_of_ble_eq_true rfl⟩) (zPS X hZ hS [.long (lI (F 10 (F 3 l0 11) 2))]) rfl rfl hl.1 rfl (lv_room (Nat.le_of_ble_eq_true rfl)) d_5_15_66 ⟨Nat.le_of_ble_eq_true rfl, Nat.le_of_ble_eq_true rfl⟩) hS (fun q _ h => zAin X hS q h) (zAin X hS) (fun p20 u20 t20 H20 locs20 ht20 hv20 hw20 hB20 hz20 hk20 hS20 => ?_)
      have hZ20 := zBack X ht20 hB20
      subst hw20
      refine lv_iconst (v := iI 1) hx hb d_5_15_69 rfl ?_
      obtain ⟨g21, hf⟩ := gif hf
      refine zeq (tgt := 79) hx hb g21 (by decide) d_5_15_70 (by decide) (fun h22 => ?_) (fun h22 => ?_)
      · replace hf := gpos hf h22
        exact b_Parser_takeNumber_79 X hf hZ20 hS20 (lv_sub hl [1] rfl)
      · replace hf := gneg hf h22
        exact b_Parser_takeNumber_73 X hf hZ20 hS20 (lv_sub hl [1] rfl)

noncomputable def f_Parser_takeNumber_47 (K : zK) (l0 : Int) (l3 : Int) (F : zF) (B : zB) : zO := f_Parser_takeNumber_48 K l0 l3 0 F B
set_option maxHeartbeats 4000000 in
set_option maxRecDepth 100000 in
theorem b_Parser_takeNumber_47 {D : va_G} {ca : Nat → ClassId} {ad : Nat → Int → Nat → Nat} {L : List Nat} {aS vS : Nat → Nat} {A : Nat → Prop} {p : Program} {l : Launch} {e : Env} {s : State} {m : MethodId} {args : Array Value} {below : List Frame} {meth : Method} {c : Code} {K : zK} {r : Int} {F9 : zF} {B9 : zB} (X : zX D ca L aS vS A p s m args meth c prog_5_method_15_code 5 (Option.some Jvm.ClassFile.FieldType.boolean) "StaveHouse$Parser") {l0 : Int} {l3 : Int} {F : zF} {B : zB} {H : Heap} {locs : List Loc} {ls : Array Slot} (hf : f_Parser_takeNumber_47 K l0 l3 F B = some (r, F9, B9)) (hZ : zH D ca ad lnC K.2 L F B A H) (hS : va_S A s.heap H locs) (hl : lv_has ls 5 [(0, .ref (ad 3 l0 0)), (3, .int (iI l3))]) : W p l e ({ frames := 1, cells := 0, slots := 0, locals := 21 } : Room) s m args below meth c H locs 0 0 (MQ below (Q_Parser_takeNumber K D ca ad L r F9 B9 A) args s 0 0 A) (F0 m 47 ls []) := by
  obtain ⟨hx, hb, hr, hml, hown, hts, hlk, hK, hA, hL, hX⟩ := id X
  replace hf : (f_Parser_takeNumber_48 K l0 l3 0 F B) = some (r, F9, B9) := hf
  refine lv_iconst (v := iI 0) hx hb d_5_15_47 rfl ?_
  exact b_Parser_takeNumber_48 X hf hZ hS (lv_sub hl [0, 1] rfl)

noncomputable def f_Parser_takeNumber (K : zK) (l0 : Int) (l1 : Int) (l2 : Int) (l3 : Int) (F : zF) (B : zB) : zO := if 0 ≤ l0 ∧ l0 < K.2 3 then if 0 ≤ (F 3 l0 11) ∧ (F 3 l0 11) < K.2 10 then if r32 (F 10 (F 3 l0 11) 0) then (if (F 10 (F 3 l0 11) 0) = 3 then if r32 l1 then if r64 (F 10 (F 3 l0 11) 2) then if r64 l1 then (if (zcmp (F 10 (F 3 l0 11) 2) l1) < 0 then f_Parser_takeNumber_47 K l0 l3 F B else if r32 l2 then if r64 l2 then (if 0 < (zcmp (F 10 (F 3 l0 11) 2) l2) then f_Parser_takeNumber_47 K l0 l3 F B else f_Parser_takeNumber_48 K l0 l3 1 F B) else none else none) else none else none else none else zbind (f_Parser_refuse K l0 2 F B) (fun r12 F12 B12 => if (r12 = 0 ∨ r12 = 1) then some (r12, F12, B12) else none)) else none else none else none
set_option maxHeartbeats 4000000 in
set_option maxRecDepth 100000 in
theorem c_Parser_takeNumber {l : Launch} {D : va_G} {ca : Nat → ClassId} {ad : Nat → Int → Nat → Nat} {L : List Nat} {aS vS : Nat → Nat} {sz : Nat} {K : zK}  {l0 : Int} {l1 : Int} {l2 : Int} {l3 : Int} {F F9 : zF} {B B9 : zB} {r : Int} (hf : f_Parser_takeNumber K l0 l1 l2 l3 F B = some (r, F9, B9)) : Met l ({ cls := "StaveHouse$Parser", name := "takeNumber", desc := "(IIZ)Z" } : Jvm.MethodName) (Cond.code ({ cls := "StaveHouse$Parser", name := "takeNumber", desc := "(IIZ)Z" } : Jvm.MethodName) prog_5_method_15_code 5 (Option.some Jvm.ClassFile.FieldType.boolean) :: wAll) ({ frames := 1, cells := 0, slots := 0, locals := 21 } : Room) (va_Pc [.ref (ad 3 l0 0), .int (iI l1), .int (iI l2), .int (iI l3)] (zPre D ca ad lnC K.2 L aS vS F B sz)) (Q_Parser_takeNumber K D ca ad L r F9 B9 (zA L sz)) 0 0 (zA L sz) := by
  refine zMet (Qc := Q_Parser_takeNumber K D ca ad L r F9 B9) (lv := [(0, .ref (ad 3 l0 0)), (1, .int (iI l1)), (2, .int (iI l2)), (3, .int (iI l3))]) (by decide) (Nat.le_of_ble_eq_true rfl) rfl (fun A p e s m below meth c ls X hZ hS hl => ?_)
  obtain ⟨hx, hb, hr, hml, hown, hts, hlk, hK, hA, hL, hX⟩ := id X
  replace hf : (if 0 ≤ l0 ∧ l0 < K.2 3 then if 0 ≤ (F 3 l0 11) ∧ (F 3 l0 11) < K.2 10 then if r32 (F 10 (F 3 l0 11) 0) then (if (F 10 (F 3 l0 11) 0) = 3 then if r32 l1 then if r64 (F 10 (F 3 l0 11) 2) then if r64 l1 then (if (zcmp (F 10 (F 3 l0 11) 2) l1) < 0 then f_Parser_takeNumber_47 K l0 l3 F B else if r32 l2 then if r64 l2 then (if 0 < (zcmp (F 10 (F 3 l0 11) 2) l2) then f_Parser_takeNumber_47 K l0 l3 F B else f_Parser_takeNumber_48 K l0 l3 1 F B) else none else none) else none else none else none else zbind (f_Parser_refuse K l0 2 F B) (fun r12 F12 B12 => if (r12 = 0 ∨ r12 = 1) then some (r12, F12, B12) else none)) else none else none else none) = some (r, F9, B9) := hf
  refine lv_aload_n hx hb d_5_15_0 rfl (lv_at hl 0 rfl) ?_
  obtain ⟨g1, hf⟩ := gif hf
  refine zget (ci := 3) (C := RX3) (T := TX3) (v := va_rf (zrf ad 10 (F 3 l0 11))) (k := 11) hx hb hts inW_3 hown hK hZ g1.1 g1.2 rfl (by decide) k_1_128 rfl d_5_15_1 ?_
  obtain ⟨g2, hf⟩ := gif hf
  refine zunrf g2.1 ?_
  refine zget (ci := 10) (C := RX10) (T := TX10) (v := .int (iI (F 10 (F 3 l0 11) 0))) (k := 0) hx hb hts inW_10 hown hK hZ g2.1 g2.2 rfl (by decide) k_1_72 rfl d_5_15_4 ?_
  refine lv_iconst (v := iI 3) hx hb d_5_15_7 rfl ?_
  obtain ⟨g3, hf⟩ := gif hf
  refine zeq (tgt := 17) hx hb g3 (by decide) d_5_15_8 (by decide) (fun h4 => ?_) (fun h4 => ?_)
  · replace hf := gpos hf h4
    refine lv_aload_n hx hb d_5_15_17 rfl (lv_at hl 0 rfl) ?_
    refine zget (ci := 3) (C := RX3) (T := TX3) (v := va_rf (zrf ad 10 (F 3 l0 11))) (k := 11) hx hb hts inW_3 hown hK hZ g1.1 g1.2 rfl (by decide) k_1_128 rfl d_5_15_18 ?_
    refine zunrf g2.1 ?_
    refine zget (ci := 10) (C := RX10) (T := TX10) (v := .long (lI (F 10 (F 3 l0 11) 2))) (k := 2) hx hb hts inW_10 hown hK hZ g2.1 g2.2 rfl (by decide) k_1_77 rfl d_5_15_21 ?_
    refine lv_iload_n hx hb d_5_15_24 rfl (lv_at hl 1 rfl) ?_
    obtain ⟨g5, hf⟩ := gif hf
    refine zi2l hx hb g5 d_5_15_25 ?_
    obtain ⟨g6, hf⟩ := gif hf
    obtain ⟨g7, hf⟩ := gif hf
    refine zcmp_r hx hb g6 g7 d_5_15_26 ?_
    refine z0lt (tgt := 47) hx hb zcmp_32 d_5_15_27 (by decide) (fun h8 => ?_) (fun h8 => ?_)
    · replace hf := gpos hf h8
      exact b_Parser_takeNumber_47 X hf hZ hS (lv_sub hl [0, 3] rfl)
    · replace hf := gneg hf h8
      refine lv_aload_n hx hb d_5_15_30 rfl (lv_at hl 0 rfl) ?_
      refine zget (ci := 3) (C := RX3) (T := TX3) (v := va_rf (zrf ad 10 (F 3 l0 11))) (k := 11) hx hb hts inW_3 hown hK hZ g1.1 g1.2 rfl (by decide) k_1_128 rfl d_5_15_31 ?_
      refine zunrf g2.1 ?_
      refine zget (ci := 10) (C := RX10) (T := TX10) (v := .long (lI (F 10 (F 3 l0 11) 2))) (k := 2) hx hb hts inW_10 hown hK hZ g2.1 g2.2 rfl (by decide) k_1_77 rfl d_5_15_34 ?_
      refine lv_iload_n hx hb d_5_15_37 rfl (lv_at hl 2 rfl) ?_
      obtain ⟨g9, hf⟩ := gif hf
      refine zi2l hx hb g9 d_5_15_38 ?_
      obtain ⟨g10, hf⟩ := gif hf
      refine zcmp_r hx hb g6 g10 d_5_15_39 ?_
      refine z0gt (tgt := 47) hx hb zcmp_32 d_5_15_40 (by decide) (fun h11 => ?_) (fun h11 => ?_)
      · replace hf := gpos hf h11
        exact b_Parser_takeNumber_47 X hf hZ hS (lv_sub hl [0, 3] rfl)
      · replace hf := gneg hf h11
        refine lv_iconst (v := iI 1) hx hb d_5_15_43 rfl ?_
        refine lv_goto (tgt := 48) hx hb d_5_15_44 (by decide) ?_
        exact b_Parser_takeNumber_48 X hf hZ hS (lv_sub hl [0, 3] rfl)
  · replace hf := gneg hf h4
    refine lv_aload_n hx hb d_5_15_11 rfl (lv_at hl 0 rfl) ?_
    refine lv_iconst (v := iI 2) hx hb d_5_15_12 rfl ?_
    obtain ⟨r12, F12, B12, hc12, hf⟩ := gbind hf
    refine va_calli (va_runV (As := [.int (iI 2)]) (rest := []) ⟨hx, hb, hml, hown, hts⟩ (c_Parser_refuse (l := l) hc12) (cwV 1 hts (gdV k_3_196 k_3_198 ks_7 k_1_4 k_3_199) rfl rfl rfl (by decide +kernel) ⟨Nat.le_of_ble_eq_true rfl, Nat.le_of_ble_eq_true rfl⟩) (zPV X hZ hS (ci := 3) g1.1 g1.2 (r := (RX3, TX3, 22)) rfl [.int (iI 2)]) rfl rfl hl.1 rfl (lv_room (Nat.le_of_ble_eq_true rfl)) d_5_15_13 ⟨Nat.le_of_ble_eq_true rfl, Nat.le_of_ble_eq_true rfl⟩) hS (fun q _ h => zAin X hS q h) (zAin X hS) (fun p12 u12 t12 H12 locs12 ht12 hv12 hw12 hB12 hz12 hk12 hS12 => ?_)
    have hZ12 := zBack X ht12 hB12
    subst hw12
    obtain ⟨g13, hf⟩ := gif hf
    cases hf
    exact W.zret hx hb hr (zbool g13) (fun t ht hW => ⟨⟨_, (), rfl, rfl, by rw [ht]; exact hZ12, va_K.moved hW.alike hK⟩, hS12.F ht⟩) hS12.2.2 d_5_15_16 hlk

noncomputable abbrev Q_Parser_takeFraction (K : zK) (D : va_G) (ca : Nat → ClassId) (ad : Nat → Int → Nat → Nat) (L : List Nat) (r : Int) (F : zF) (B : zB) (A : Nat → Prop) : Array Value → State → Outcome → State → Prop := va_Qi (S := Unit) (fun p _ => p = iI r) (fun _ => zPo D ca ad lnC K.2 L F B A) A
noncomputable def f_Parser_takeFraction_41 (K : zK)  (F : zF) (B : zB) : zO := some (0, F, B)
set_option maxHeartbeats 4000000 in
set_option maxRecDepth 100000 in
theorem b_Parser_takeFraction_41 {D : va_G} {ca : Nat → ClassId} {ad : Nat → Int → Nat → Nat} {L : List Nat} {aS vS : Nat → Nat} {A : Nat → Prop} {p : Program} {l : Launch} {e : Env} {s : State} {m : MethodId} {args : Array Value} {below : List Frame} {meth : Method} {c : Code} {K : zK} {r : Int} {F9 : zF} {B9 : zB} (X : zX D ca L aS vS A p s m args meth c prog_5_method_29_code 4 (Option.some Jvm.ClassFile.FieldType.boolean) "StaveHouse$Parser")  {F : zF} {B : zB} {H : Heap} {locs : List Loc} {ls : Array Slot} (hf : f_Parser_takeFraction_41 K  F B = some (r, F9, B9)) (hZ : zH D ca ad lnC K.2 L F B A H) (hS : va_S A s.heap H locs) (hl : lv_has ls 4 []) : W p l e ({ frames := 2, cells := 0, slots := 0, locals := 45 } : Room) s m args below meth c H locs 0 0 (MQ below (Q_Parser_takeFraction K D ca ad L r F9 B9 A) args s 0 0 A) (F0 m 41 ls []) := by
  obtain ⟨hx, hb, hr, hml, hown, hts, hlk, hK, hA, hL, hX⟩ := id X
  replace hf : (some (0, F, B)) = some (r, F9, B9) := hf
  refine lv_iconst (v := iI 0) hx hb d_5_29_41 rfl ?_
  cases hf
  exact W.zret hx hb hr rfl (fun t ht hW => ⟨⟨_, (), rfl, rfl, by rw [ht]; exact hZ, va_K.moved hW.alike hK⟩, hS.F ht⟩) hS.2.2 d_5_29_42 hlk

noncomputable def f_Parser_takeFraction (K : zK) (l0 : Int) (l1 : Int) (l2 : Int) (l3 : Int) (F : zF) (B : zB) : zO := if 0 ≤ l0 ∧ l0 < K.2 3 then zbind (f_Parser_takeNumber K l0 l2 l3 0 F B) (fun r2 F2 B2 => if r32 r2 then (if r2 = 0 then some (0, F2, B2) else if 0 ≤ l1 ∧ l1 < 3000 then zbind (f_Parser_takeSign K l0 47 F2 (zup4 B2 3 l0 2 l1 (F2 3 l0 19))) (fun r7 F7 B7 => if r32 r7 then (if r7 = 0 then f_Parser_takeFraction_41 K F7 B7 else zbind (f_Parser_takeNumber K l0 1 l3 0 F7 B7) (fun r10 F10 B10 => if r32 r10 then (if r10 = 0 then f_Parser_takeFraction_41 K F10 B10 else some (1, F10, (zup4 B10 3 l0 3 l1 (F10 3 l0 19)))) else none)) else none) else none) else none) else none
set_option maxHeartbeats 4000000 in
set_option maxRecDepth 100000 in
theorem c_Parser_takeFraction {l : Launch} {D : va_G} {ca : Nat → ClassId} {ad : Nat → Int → Nat → Nat} {L : List Nat} {aS vS : Nat → Nat} {sz : Nat} {K : zK}  {l0 : Int} {l1 : Int} {l2 : Int} {l3 : Int} {F F9 : zF} {B B9 : zB} {r : Int} (hf : f_Parser_takeFraction K l0 l1 l2 l3 F B = some (r, F9, B9)) : Met l ({ cls := "StaveHouse$Parser", name := "takeFraction", desc := "(III)Z" } : Jvm.MethodName) (Cond.code ({ cls := "StaveHouse$Parser", name := "takeFraction", desc := "(III)Z" } : Jvm.MethodName) prog_5_method_29_code 4 (Option.some Jvm.ClassFile.FieldType.boolean) :: wAll) ({ frames := 2, cells := 0, slots := 0, locals := 45 } : Room) (va_Pc [.ref (ad 3 l0 0), .int (iI l1), .int (iI l2), .int (iI l3)] (zPre D ca ad lnC K.2 L aS vS F B sz)) (Q_Parser_takeFraction K D ca ad L r F9 B9 (zA L sz)) 0 0 (zA L sz) := by
  refine zMet (Qc := Q_Parser_takeFraction K D ca ad L r F9 B9) (lv := [(0, .ref (ad 3 l0 0)), (1, .int (iI l1)), (2, .int (iI l2)), (3, .int (iI l3))]) (by decide) (Nat.le_of_ble_eq_true rfl) rfl (fun A p e s m below meth c ls X hZ hS hl => ?_)
  obtain ⟨hx, hb, hr, hml, hown, hts, hlk, hK, hA, hL, hX⟩ := id X
  replace hf : (if 0 ≤ l0 ∧ l0 < K.2 3 then zbind (f_Parser_takeNumber K l0 l2 l3 0 F B) (fun r2 F2 B2 => if r32 r2 then (if r2 = 0 then some (0, F2, B2) else if 0 ≤ l1 ∧ l1 < 3000 then zbind (f_Parser_takeSign K l0 47 F2 (zup4 B2 3 l0 2 l1 (F2 3 l0 19))) (fun r7 F7 B7 => if r32 r7 then (if r7 = 0 then f_Parser_takeFraction_41 K F7 B7 else zbind (f_Parser_takeNumber K l0 1 l3 0 F7 B7) (fun r10 F10 B10 => if r32 r10 then (if r10 = 0 then f_Parser_takeFraction_41 K F10 B10 else some (1, F10, (zup4 B10 3 l0 3 l1 (F10 3 l0 19)))) else none)) else none) else none) else none) else none) = some (r, F9, B9) := hf
  refine lv_aload_n hx hb d_5_29_0 rfl (lv_at hl 0 rfl) ?_
  refine lv_iload_n hx hb d_5_29_1 rfl (lv_at hl 2 rfl) ?_
  refine lv_iload_n hx hb d_5_29_2 rfl (lv_at hl 3 rfl) ?_
  refine lv_iconst (v := iI 0) hx hb d_5_29_3 rfl ?_
  obtain ⟨g1, hf⟩ := gif hf
  obtain ⟨r2, F2, B2, hc2, hf⟩ := gbind hf
  refine va_calli (va_runV (As := [.int (iI l2), .int (iI l3), .int (iI 0)]) (rest := []) ⟨hx, hb, hml, hown, hts⟩ (c_Parser_takeNumber (l := l) hc2) (cwV 3 hts (gdV k_4_9 k_4_11 ks_19 k_1_4 k_4_12) rfl rfl rfl (by decide +kernel) ⟨Nat.le_of_ble_eq_true rfl, Nat.le_of_ble_eq_true rfl⟩) (zPV X hZ hS (ci := 3) g1.1 g1.2 (r := (RX3, TX3, 22)) rfl [.int (iI l2), .int (iI l3), .int (iI 0)]) rfl rfl hl.1 rfl (lv_room (Nat.le_of_ble_eq_true rfl)) d_5_29_4 ⟨Nat.le_of_ble_eq_true rfl, Nat.le_of_ble_eq_true rfl⟩) hS (fun q _ h => zAin X hS q h) (zAin X hS) (fun p2 u2 t2 H2 locs2 ht2 hv2 hw2 hB2 hz2 hk2 hS2 => ?_)
  have hZ2 := zBack X ht2 hB2
  subst hw2
  obtain ⟨g3, hf⟩ := gif hf
  refine z0ne (tgt := 12) hx hb g3 d_5_29_7 (by decide) (fun h4 => ?_) (fun h4 => ?_)
  · replace hf := gneg hf h4
    refine lv_aload_n hx hb d_5_29_12 rfl (lv_at hl 0 rfl) ?_
    refine zget (ci := 3) (C := RX3) (T := TX3) (v := .ref (ad 3 l0 (2 + 1))) (k := 2) hx hb hts inW_3 hown hK hZ2 g1.1 g1.2 rfl (by decide) k_1_110 rfl d_5_29_13 ?_
    refine lv_iload_n hx hb d_5_29_16 rfl (lv_at hl 1 rfl) ?_
    refine lv_aload_n hx hb d_5_29_17 rfl (lv_at hl 0 rfl) ?_
    refine zget (ci := 3) (C := RX3) (T := TX3) (v := .int (iI (F2 3 l0 19))) (k := 19) hx hb hts inW_3 hown hK hZ2 g1.1 g1.2 rfl (by decide) k_1_136 rfl d_5_29_18 ?_
    obtain ⟨g5, hf⟩ := gif hf
    refine zast (ci := 3) (k := 2) hx hb hK rfl hZ2 hS2 g1.1 g1.2 rfl (Nat.le_of_ble_eq_true rfl) g5.1 g5.2 d_5_29_21 (fun H6 locs6 hZ6 hS6 => ?_)
    refine lv_aload_n hx hb d_5_29_22 rfl (lv_at hl 0 rfl) ?_
    refine lv_bipush (v := iI 47) hx hb d_5_29_23 (by decide) ?_
    obtain ⟨r7, F7, B7, hc7, hf⟩ := gbind hf
    refine va_calli (va_runV (As := [.int (iI 47)]) (rest := []) ⟨hx, hb, hml, hown, hts⟩ (c_Parser_takeSign (l := l) hc7) (cwV 1 hts (gdV k_3_204 k_3_206 ks_9 k_1_4 k_3_207) rfl rfl rfl (by decide +kernel) ⟨Nat.le_of_ble_eq_true rfl, Nat.le_of_ble_eq_true rfl⟩) (zPV X hZ6 hS6 (ci := 3) g1.1 g1.2 (r := (RX3, TX3, 22)) rfl [.int (iI 47)]) rfl rfl hl.1 rfl (lv_room (Nat.le_of_ble_eq_true rfl)) d_5_29_25 ⟨Nat.le_of_ble_eq_true rfl, Nat.le_of_ble_eq_true rfl⟩) hS6 (fun q _ h => zAin X hS6 q h) (zAin X hS6) (fun p7 u7 t7 H7 locs7 ht7 hv7 hw7 hB7 hz7 hk7 hS7 => ?_)
    have hZ7 := zBack X ht7 hB7
    subst hw7
    obtain ⟨g8, hf⟩ := gif hf
    refine z0eq (tgt := 41) hx hb g8 d_5_29_28 (by decide) (fun h9 => ?_) (fun h9 => ?_)
    · replace hf := gpos hf h9
      exact b_Parser_takeFraction_41 X hf hZ7 hS7 (lv_sub hl [] rfl)
    · replace hf := gneg hf h9
      refine lv_aload_n hx hb d_5_29_31 rfl (lv_at hl 0 rfl) ?_
      refine lv_iconst (v := iI 1) hx hb d_5_29_32 rfl ?_
      refine lv_iload_n hx hb d_5_29_33 rfl (lv_at hl 3 rfl) ?_
      refine lv_iconst (v := iI 0) hx hb d_5_29_34 rfl ?_
      obtain ⟨r10, F10, B10, hc10, hf⟩ := gbind hf
      refine va_calli (va_runV (As := [.int (iI 1), .int (iI l3), .int (iI 0)]) (rest := []) ⟨hx, hb, hml, hown, hts⟩ (c_Parser_takeNumber (l := l) hc10) (cwV 3 hts (gdV k_4_9 k_4_11 ks_19 k_1_4 k_4_12) rfl rfl rfl (by decide +kernel) ⟨Nat.le_of_ble_eq_true rfl, Nat.le_of_ble_eq_true rfl⟩) (zPV X hZ7 hS7 (ci := 3) g1.1 g1.2 (r := (RX3, TX3, 22)) rfl [.int (iI 1), .int (iI l3), .int (iI 0)]) rfl rfl hl.1 rfl (lv_room (Nat.le_of_ble_eq_true rfl)) d_5_29_35 ⟨Nat.le_of_ble_eq_true rfl, Nat.le_of_ble_eq_true rfl⟩) hS7 (fun q _ h => zAin X hS7 q h) (zAin X hS7) (fun p10 u10 t10 H10 locs10 ht10 hv10 hw10 hB10 hz10 hk10 hS10 => ?_)
      have hZ10 := zBack X ht10 hB10
      subst hw10
      obtain ⟨g11, hf⟩ := gif hf
      refine z0ne (tgt := 43) hx hb g11 d_5_29_38 (by decide) (fun h12 => ?_) (fun h12 => ?_)
      · replace hf := gneg hf h12
        refine lv_aload_n hx hb d_5_29_43 rfl (lv_at hl 0 rfl) ?_
        refine zget (ci := 3) (C := RX3) (T := TX3) (v := .ref (ad 3 l0 (3 + 1))) (k := 3) hx hb hts inW_3 hown hK hZ10 g1.1 g1.2 rfl (by decide) k_1_112 rfl d_5_29_44 ?_
        refine lv_iload_n hx hb d_5_29_47 rfl (lv_at hl 1 rfl) ?_
        refine lv_aload_n hx hb d_5_29_48 rfl (lv_at hl 0 rfl) ?_
        refine zget (ci := 3) (C := RX3) (T := TX3) (v := .int (iI (F10 3 l0 19))) (k := 19) hx hb hts inW_3 hown hK hZ10 g1.1 g1.2 rfl (by decide) k_1_136 rfl d_5_29_49 ?_
        refine zast (ci := 3) (k := 3) hx hb hK rfl hZ10 hS10 g1.1 g1.2 rfl (Nat.le_of_ble_eq_true rfl) g5.1 g5.2 d_5_29_52 (fun H13 locs13 hZ13 hS13 => ?_)
        refine lv_iconst (v := iI 1) hx hb d_5_29_53 rfl ?_
        cases hf
        exact W.zret hx hb hr rfl (fun t ht hW => ⟨⟨_, (), rfl, rfl, by rw [ht]; exact hZ13, va_K.moved hW.alike hK⟩, hS13.F ht⟩) hS13.2.2 d_5_29_54 hlk
      · replace hf := gpos hf h12
        exact b_Parser_takeFraction_41 X hf hZ10 hS10 (lv_sub hl [] rfl)
  · replace hf := gpos hf h4
    refine lv_iconst (v := iI 0) hx hb d_5_29_10 rfl ?_
    cases hf
    exact W.zret hx hb hr rfl (fun t ht hW => ⟨⟨_, (), rfl, rfl, by rw [ht]; exact hZ2, va_K.moved hW.alike hK⟩, hS2.F ht⟩) hS2.2.2 d_5_29_11 hlk


