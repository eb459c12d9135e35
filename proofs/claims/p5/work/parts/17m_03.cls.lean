set_option maxHeartbeats 4000000 in
set_option maxRecDepth 100000 in
theorem b_S_down_50 {D : va_G} {ca : Nat → ClassId} {ad : Nat → Int → Nat → Nat} {L : List Nat} {aS vS : Nat → Nat} {A : Nat → Prop} {p : Program} {l : Launch} {e : Env} {s : State} {m : MethodId} {args : Array Value} {below : List Frame} {meth : Method} {c : Code} {K : zK} {r : Int} {F9 : zF} {B9 : zB} (X : zX D ca L aS vS A p s m args meth c prog_1_method_27_code 3 (Option.some Jvm.ClassFile.FieldType.int) "StaveHouse")  {F : zF} {B : zB} {H : Heap} {locs : List Loc} {ls : Array Slot} (hf : f_S_down_50 K  F B = some (r, F9, B9)) (hZ : zH D ca ad lnC K.2 L F B A H) (hS : va_S A s.heap H locs) (hl : lv_has ls 3 []) : W p l e ({ frames := 10, cells := 0, slots := 0, locals := 236 } : Room) s m args below meth c H locs 0 0 (MQ below (Q_S_down K D ca ad L r F9 B9 A) args s 0 0 A) (F0 m 50 ls []) := by
  obtain ⟨hx, hb, hr, hml, hown, hts, hlk, hK, hA, hL, hX⟩ := id X
  replace hf : (some ((-1), F, B)) = some (r, F9, B9) := hf
  refine lv_iconst (v := iI (-1)) hx hb d_1_27_50 rfl ?_
  cases hf
  exact W.iret hx hb hr (fun t ht hW => ⟨⟨_, (), rfl, rfl, by rw [ht]; exact hZ, va_K.moved hW.alike hK⟩, hS.F ht⟩) hS.2.2 d_1_27_51 hlk

noncomputable def f_S_down_28 (K : zK) (l0 : Int) (l1 : Int) (s0 : Int) (F : zF) (B : zB) : zO := if 0 ≤ l0 ∧ l0 < K.2 12 then (if (F 12 l0 8) < 0 then f_S_down_50 K F B else if 0 ≤ (F 12 l0 8) ∧ (F 12 l0 8) < K.2 8 then if r32 (F 8 (F 12 l0 8) 2) then (if (F 8 (F 12 l0 8) 2) = 0 then f_S_down_50 K F B else if r32 s0 then (if s0 = 0 then f_S_down_50 K F B else if 0 ≤ (F 12 l0 6) ∧ (F 12 l0 6) < K.2 7 then if 0 ≤ (F 12 l0 2) ∧ (F 12 l0 2) < K.2 0 then zbind (f_Scribe_writeDown K (F 12 l0 6) (F 12 l0 8) l1 (F 12 l0 2) F B) (fun r15 F15 B15 => some (r15, F15, B15)) else none else none) else none) else none else none) else none
set_option maxHeartbeats 4000000 in
set_option maxRecDepth 100000 in
theorem b_S_down_28 {D : va_G} {ca : Nat → ClassId} {ad : Nat → Int → Nat → Nat} {L : List Nat} {aS vS : Nat → Nat} {A : Nat → Prop} {p : Program} {l : Launch} {e : Env} {s : State} {m : MethodId} {args : Array Value} {below : List Frame} {meth : Method} {c : Code} {K : zK} {r : Int} {F9 : zF} {B9 : zB} (X : zX D ca L aS vS A p s m args meth c prog_1_method_27_code 3 (Option.some Jvm.ClassFile.FieldType.int) "StaveHouse") {l0 : Int} {l1 : Int} {s0 : Int} {F : zF} {B : zB} {H : Heap} {locs : List Loc} {ls : Array Slot} (hf : f_S_down_28 K l0 l1 s0 F B = some (r, F9, B9)) (hZ : zH D ca ad lnC K.2 L F B A H) (hS : va_S A s.heap H locs) (hl : lv_has ls 3 [(0, .ref (ad 12 l0 0)), (1, .int (iI l1))]) : W p l e ({ frames := 10, cells := 0, slots := 0, locals := 236 } : Room) s m args below meth c H locs 0 0 (MQ below (Q_S_down K D ca ad L r F9 B9 A) args s 0 0 A) (F0 m 28 ls [.int (iI s0)]) := by
  obtain ⟨hx, hb, hr, hml, hown, hts, hlk, hK, hA, hL, hX⟩ := id X
  replace hf : (if 0 ≤ l0 ∧ l0 < K.2 12 then (if (F 12 l0 8) < 0 then f_S_down_50 K F B else if 0 ≤ (F 12 l0 8) ∧ (F 12 l0 8) < K.2 8 then if r32 (F 8 (F 12 l0 8) 2) then (if (F 8 (F 12 l0 8) 2) = 0 then f_S_down_50 K F B else if r32 s0 then (if s0 = 0 then f_S_down_50 K F B else if 0 ≤ (F 12 l0 6) ∧ (F 12 l0 6) < K.2 7 then if 0 ≤ (F 12 l0 2) ∧ (F 12 l0 2) < K.2 0 then zbind (f_Scribe_writeDown K (F 12 l0 6) (F 12 l0 8) l1 (F 12 l0 2) F B) (fun r15 F15 B15 => some (r15, F15, B15)) else none else none) else none) else none else none) else none) = some (r, F9, B9) := hf
  refine lv_istore_n (lv' := [(2, .int (iI s0)), (0, .ref (ad 12 l0 0)), (1, .int (iI l1))]) hx hb d_1_27_28 rfl hl (by decide) rfl (fun ls hl => ?_)
  refine lv_aload_n hx hb d_1_27_29 rfl (lv_at hl 1 rfl) ?_
  obtain ⟨g6, hf⟩ := gif hf
  refine zget (ci := 12) (C := RX12) (T := TX12) (v := va_rf (zrf ad 8 (F 12 l0 8))) (k := 8) hx hb hts inW_12 hown hK hZ g6.1 g6.2 rfl (by decide) k_2_135 rfl d_1_27_30 ?_
  refine zifnull (tgt := 50) hx hb d_1_27_33 (by decide) (fun h7 => ?_) (fun h7 => ?_)
  · replace hf := gpos hf h7
    exact b_S_down_50 X hf hZ hS (lv_sub hl [] rfl)
  · replace hf := gneg hf h7
    refine lv_aload_n hx hb d_1_27_36 rfl (lv_at hl 1 rfl) ?_
    refine zget (ci := 12) (C := RX12) (T := TX12) (v := va_rf (zrf ad 8 (F 12 l0 8))) (k := 8) hx hb hts inW_12 hown hK hZ g6.1 g6.2 rfl (by decide) k_2_135 rfl d_1_27_37 ?_
    obtain ⟨g8, hf⟩ := gif hf
    refine zunrf g8.1 ?_
    refine zget (ci := 8) (C := RX8) (T := TX8) (v := .int (iI (F 8 (F 12 l0 8) 2))) (k := 2) hx hb hts inW_8 hown hK hZ g8.1 g8.2 rfl (by decide) k_7_225 rfl d_1_27_40 ?_
    obtain ⟨g9, hf⟩ := gif hf
    refine z0eq (tgt := 50) hx hb g9 d_1_27_43 (by decide) (fun h10 => ?_) (fun h10 => ?_)
    · replace hf := gpos hf h10
      exact b_S_down_50 X hf hZ hS (lv_sub hl [] rfl)
    · replace hf := gneg hf h10
      refine lv_iload_n hx hb d_1_27_46 rfl (lv_at hl 0 rfl) ?_
      obtain ⟨g11, hf⟩ := gif hf
      refine z0ne (tgt := 52) hx hb g11 d_1_27_47 (by decide) (fun h12 => ?_) (fun h12 => ?_)
      · replace hf := gneg hf h12
        refine lv_aload_n hx hb d_1_27_52 rfl (lv_at hl 1 rfl) ?_
        refine zget (ci := 12) (C := RX12) (T := TX12) (v := va_rf (zrf ad 7 (F 12 l0 6))) (k := 6) hx hb hts inW_12 hown hK hZ g6.1 g6.2 rfl (by decide) k_2_133 rfl d_1_27_53 ?_
        refine lv_aload_n hx hb d_1_27_56 rfl (lv_at hl 1 rfl) ?_
        refine zget (ci := 12) (C := RX12) (T := TX12) (v := va_rf (zrf ad 8 (F 12 l0 8))) (k := 8) hx hb hts inW_12 hown hK hZ g6.1 g6.2 rfl (by decide) k_2_135 rfl d_1_27_57 ?_
        refine lv_iload_n hx hb d_1_27_60 rfl (lv_at hl 2 rfl) ?_
        refine lv_aload_n hx hb d_1_27_61 rfl (lv_at hl 1 rfl) ?_
        refine zget (ci := 12) (C := RX12) (T := TX12) (v := va_rf (zrf ad 0 (F 12 l0 2))) (k := 2) hx hb hts inW_12 hown hK hZ g6.1 g6.2 rfl (by decide) k_2_129 rfl d_1_27_62 ?_
        obtain ⟨g13, hf⟩ := gif hf
        refine W.eq (g2 := F0 m 65 ls [va_rf (zrf ad 0 (F 12 l0 2)), .int (iI l1), va_rf (zrf ad 8 (F 12 l0 8)), .ref (ad 7 (F 12 l0 6) 0)]) (by rw [zrf_pos (ad := ad) (t := 7) g13.1]; try rfl) ?_
        refine W.eq (g2 := F0 m 65 ls [va_rf (zrf ad 0 (F 12 l0 2)), .int (iI l1), .ref (ad 8 (F 12 l0 8) 0), .ref (ad 7 (F 12 l0 6) 0)]) (by rw [zrf_pos (ad := ad) (t := 8) g8.1]; try rfl) ?_
        obtain ⟨g14, hf⟩ := gif hf
        refine W.eq (g2 := F0 m 65 ls [.ref (ad 0 (F 12 l0 2) 0), .int (iI l1), .ref (ad 8 (F 12 l0 8) 0), .ref (ad 7 (F 12 l0 6) 0)]) (by rw [zrf_pos (ad := ad) (t := 0) g14.1]; try rfl) ?_
        obtain ⟨r15, F15, B15, hc15, hf⟩ := gbind hf
        refine va_calli (va_runV (As := [.ref (ad 8 (F 12 l0 8) 0), .int (iI l1), .ref (ad 0 (F 12 l0 2) 0)]) (rest := []) ⟨hx, hb, hml, hown, hts⟩ (c_Scribe_writeDown (l := l) hc15) (cwV 3 hts (gdV k_8_138 k_8_139 k_8_140 k_1_7 k_8_141) rfl rfl rfl (by decide +kernel) ⟨Nat.le_of_ble_eq_true rfl, Nat.le_of_ble_eq_true rfl⟩) (zPV X hZ hS (ci := 7) g13.1 g13.2 (r := (RX7, TX7, 9)) rfl [.ref (ad 8 (F 12 l0 8) 0), .int (iI l1), .ref (ad 0 (F 12 l0 2) 0)]) rfl rfl hl.1 rfl (lv_room (Nat.le_of_ble_eq_true rfl)) d_1_27_65 ⟨Nat.le_of_ble_eq_true rfl, Nat.le_of_ble_eq_true rfl⟩) hS (fun q _ h => zAin X hS q h) (zAin X hS) (fun p15 u15 t15 H15 locs15 ht15 hv15 hw15 hB15 hz15 hk15 hS15 => ?_)
        have hZ15 := zBack X ht15 hB15
        subst hw15
        cases hf
        exact W.iret hx hb hr (fun t ht hW => ⟨⟨_, (), rfl, rfl, by rw [ht]; exact hZ15, va_K.moved hW.alike hK⟩, hS15.F ht⟩) hS15.2.2 d_1_27_68 hlk
      · replace hf := gpos hf h12
        exact b_S_down_50 X hf hZ hS (lv_sub hl [] rfl)

noncomputable def f_S_down_23 (K : zK) (l0 : Int) (l1 : Int) (F : zF) (B : zB) : zO := f_S_down_28 K l0 l1 1 F B
set_option maxHeartbeats 4000000 in
set_option maxRecDepth 100000 in
theorem b_S_down_23 {D : va_G} {ca : Nat → ClassId} {ad : Nat → Int → Nat → Nat} {L : List Nat} {aS vS : Nat → Nat} {A : Nat → Prop} {p : Program} {l : Launch} {e : Env} {s : State} {m : MethodId} {args : Array Value} {below : List Frame} {meth : Method} {c : Code} {K : zK} {r : Int} {F9 : zF} {B9 : zB} (X : zX D ca L aS vS A p s m args meth c prog_1_method_27_code 3 (Option.some Jvm.ClassFile.FieldType.int) "StaveHouse") {l0 : Int} {l1 : Int} {F : zF} {B : zB} {H : Heap} {locs : List Loc} {ls : Array Slot} (hf : f_S_down_23 K l0 l1 F B = some (r, F9, B9)) (hZ : zH D ca ad lnC K.2 L F B A H) (hS : va_S A s.heap H locs) (hl : lv_has ls 3 [(0, .ref (ad 12 l0 0)), (1, .int (iI l1))]) : W p l e ({ frames := 10, cells := 0, slots := 0, locals := 236 } : Room) s m args below meth c H locs 0 0 (MQ below (Q_S_down K D ca ad L r F9 B9 A) args s 0 0 A) (F0 m 23 ls []) := by
  obtain ⟨hx, hb, hr, hml, hown, hts, hlk, hK, hA, hL, hX⟩ := id X
  replace hf : (f_S_down_28 K l0 l1 1 F B) = some (r, F9, B9) := hf
  refine lv_iconst (v := iI 1) hx hb d_1_27_23 rfl ?_
  refine lv_goto (tgt := 28) hx hb d_1_27_24 (by decide) ?_
  exact b_S_down_28 X hf hZ hS (lv_sub hl [0, 1] rfl)

noncomputable def f_S_down (K : zK) (l0 : Int) (l1 : Int) (F : zF) (B : zB) : zO := if r32 l1 then (if l1 = 4 then f_S_down_23 K l0 l1 F B else (if l1 = 8 then f_S_down_23 K l0 l1 F B else (if l1 = 16 then f_S_down_23 K l0 l1 F B else (if l1 = 32 then f_S_down_23 K l0 l1 F B else f_S_down_28 K l0 l1 0 F B)))) else none
set_option maxHeartbeats 4000000 in
set_option maxRecDepth 100000 in
theorem c_S_down {l : Launch} {D : va_G} {ca : Nat → ClassId} {ad : Nat → Int → Nat → Nat} {L : List Nat} {aS vS : Nat → Nat} {sz : Nat} {K : zK}  {l0 : Int} {l1 : Int} {F F9 : zF} {B B9 : zB} {r : Int} (hf : f_S_down K l0 l1 F B = some (r, F9, B9)) : Met l ({ cls := "StaveHouse", name := "down", desc := "(I)I" } : Jvm.MethodName) (Cond.code ({ cls := "StaveHouse", name := "down", desc := "(I)I" } : Jvm.MethodName) prog_1_method_27_code 3 (Option.some Jvm.ClassFile.FieldType.int) :: wAll) ({ frames := 10, cells := 0, slots := 0, locals := 236 } : Room) (va_Pc [.ref (ad 12 l0 0), .int (iI l1)] (zPre D ca ad lnC K.2 L aS vS F B sz)) (Q_S_down K D ca ad L r F9 B9 (zA L sz)) 0 0 (zA L sz) := by
  refine zMet (Qc := Q_S_down K D ca ad L r F9 B9) (lv := [(0, .ref (ad 12 l0 0)), (1, .int (iI l1))]) (by decide) (Nat.le_of_ble_eq_true rfl) rfl (fun A p e s m below meth c ls X hZ hS hl => ?_)
  obtain ⟨hx, hb, hr, hml, hown, hts, hlk, hK, hA, hL, hX⟩ := id X
  replace hf : (if r32 l1 then (if l1 = 4 then f_S_down_23 K l0 l1 F B else (if l1 = 8 then f_S_down_23 K l0 l1 F B else (if l1 = 16 then f_S_down_23 K l0 l1 F B else (if l1 = 32 then f_S_down_23 K l0 l1 F B else f_S_down_28 K l0 l1 0 F B)))) else none) = some (r, F9, B9) := hf
  refine lv_iload_n hx hb d_1_27_0 rfl (lv_at hl 1 rfl) ?_
  refine lv_iconst (v := iI 4) hx hb d_1_27_1 rfl ?_
  obtain ⟨g1, hf⟩ := gif hf
  refine zeq (tgt := 23) hx hb g1 (by decide) d_1_27_2 (by decide) (fun h2 => ?_) (fun h2 => ?_)
  · replace hf := gpos hf h2
    exact b_S_down_23 X hf hZ hS (lv_sub hl [0, 1] rfl)
  · replace hf := gneg hf h2
    refine lv_iload_n hx hb d_1_27_5 rfl (lv_at hl 1 rfl) ?_
    refine lv_bipush (v := iI 8) hx hb d_1_27_6 (by decide) ?_
    refine zeq (tgt := 23) hx hb g1 (by decide) d_1_27_8 (by decide) (fun h3 => ?_) (fun h3 => ?_)
    · replace hf := gpos hf h3
      exact b_S_down_23 X hf hZ hS (lv_sub hl [0, 1] rfl)
    · replace hf := gneg hf h3
      refine lv_iload_n hx hb d_1_27_11 rfl (lv_at hl 1 rfl) ?_
      refine lv_bipush (v := iI 16) hx hb d_1_27_12 (by decide) ?_
      refine zeq (tgt := 23) hx hb g1 (by decide) d_1_27_14 (by decide) (fun h4 => ?_) (fun h4 => ?_)
      · replace hf := gpos hf h4
        exact b_S_down_23 X hf hZ hS (lv_sub hl [0, 1] rfl)
      · replace hf := gneg hf h4
        refine lv_iload_n hx hb d_1_27_17 rfl (lv_at hl 1 rfl) ?_
        refine lv_bipush (v := iI 32) hx hb d_1_27_18 (by decide) ?_
        refine zne (tgt := 27) hx hb g1 (by decide) d_1_27_20 (by decide) (fun h5 => ?_) (fun h5 => ?_)
        · replace hf := gneg hf h5
          refine lv_iconst (v := iI 0) hx hb d_1_27_27 rfl ?_
          exact b_S_down_28 X hf hZ hS (lv_sub hl [0, 1] rfl)
        · replace hf := gpos hf h5
          exact b_S_down_23 X hf hZ hS (lv_sub hl [0, 1] rfl)

noncomputable abbrev Q_Parser_takeBlock (K : zK) (D : va_G) (ca : Nat → ClassId) (ad : Nat → Int → Nat → Nat) (L : List Nat) (r : Int) (F : zF) (B : zB) (A : Nat → Prop) : Array Value → State → Outcome → State → Prop := va_Qi (S := Unit) (fun p _ => p = iI r) (fun _ => zPo D ca ad lnC K.2 L F B A) A
noncomputable abbrev Q_Parser_takeMusic (K : zK) (D : va_G) (ca : Nat → ClassId) (ad : Nat → Int → Nat → Nat) (L : List Nat) (r : Int) (F : zF) (B : zB) (A : Nat → Prop) : Array Value → State → Outcome → State → Prop := va_Qi (S := Unit) (fun p _ => p = iI r) (fun _ => zPo D ca ad lnC K.2 L F B A) A
noncomputable abbrev Q_Parser_takeItem (K : zK) (D : va_G) (ca : Nat → ClassId) (ad : Nat → Int → Nat → Nat) (L : List Nat) (r : Int) (F : zF) (B : zB) (A : Nat → Prop) : Array Value → State → Outcome → State → Prop := va_Qi (S := Unit) (fun p _ => p = iI r) (fun _ => zPo D ca ad lnC K.2 L F B A) A
noncomputable abbrev Q_Parser_takeBracket (K : zK) (D : va_G) (ca : Nat → ClassId) (ad : Nat → Int → Nat → Nat) (L : List Nat) (r : Int) (F : zF) (B : zB) (A : Nat → Prop) : Array Value → State → Outcome → State → Prop := va_Qi (S := Unit) (fun p _ => p = iI r) (fun _ => zPo D ca ad lnC K.2 L F B A) A
noncomputable abbrev Q_Parser_takeRepeat (K : zK) (D : va_G) (ca : Nat → ClassId) (ad : Nat → Int → Nat → Nat) (L : List Nat) (r : Int) (F : zF) (B : zB) (A : Nat → Prop) : Array Value → State → Outcome → State → Prop := va_Qi (S := Unit) (fun p _ => p = iI r) (fun _ => zPo D ca ad lnC K.2 L F B A) A
noncomputable abbrev Q_Parser_takeAlternatives (K : zK) (D : va_G) (ca : Nat → ClassId) (ad : Nat → Int → Nat → Nat) (L : List Nat) (r : Int) (F : zF) (B : zB) (A : Nat → Prop) : Array Value → State → Outcome → State → Prop := va_Qi (S := Unit) (fun p _ => p = iI r) (fun _ => zPo D ca ad lnC K.2 L F B A) A
noncomputable abbrev Q_Parser_takeMove (K : zK) (D : va_G) (ca : Nat → ClassId) (ad : Nat → Int → Nat → Nat) (L : List Nat) (r : Int) (F : zF) (B : zB) (A : Nat → Prop) : Array Value → State → Outcome → State → Prop := va_Qi (S := Unit) (fun p _ => p = iI r) (fun _ => zPo D ca ad lnC K.2 L F B A) A
noncomputable abbrev Q_Parser_takeMirror (K : zK) (D : va_G) (ca : Nat → ClassId) (ad : Nat → Int → Nat → Nat) (L : List Nat) (r : Int) (F : zF) (B : zB) (A : Nat → Prop) : Array Value → State → Outcome → State → Prop := va_Qi (S := Unit) (fun p _ => p = iI r) (fun _ => zPo D ca ad lnC K.2 L F B A) A
noncomputable abbrev oT_CP : Type := (Int → Int → zF → zB → zO) × (Int → Int → zF → zB → zO) × (Int → Int → zF → zB → zO) × (Int → Int → zF → zB → zO) × (Int → Int → zF → zB → zO) × (Int → Int → zF → zB → zO) × (Int → Int → zF → zB → zO) × (Int → Int → zF → zB → zO)
noncomputable def oH_CP (K : zK) (l : Launch) (D : va_G) (ca : Nat → ClassId) (ad : Nat → Int → Nat → Nat) (L : List Nat) (aS vS : Nat → Nat) (d : Nat) (o : oT_CP) : Prop := (∀ {sz : Nat} {l0 : Int} {l1 : Int} {F F9 : zF} {B B9 : zB} {r : Int}, o.1 l0 l1 F B = some (r, F9, B9) → Met l ({ cls := "StaveHouse$Parser", name := "takeBlock", desc := "(I)Z" } : Jvm.MethodName) (Cond.code ({ cls := "StaveHouse$Parser", name := "takeBlock", desc := "(I)Z" } : Jvm.MethodName) prog_5_method_19_code 2 (Option.some Jvm.ClassFile.FieldType.boolean) :: wAll) ({ frames := d + 7, cells := 0, slots := 0, locals := 25 * d + 136 } : Room) (va_Pc [.ref (ad 3 l0 0), .int (iI l1)] (zPre D ca ad lnC K.2 L aS vS F B sz)) (Q_Parser_takeBlock K D ca ad L r F9 B9 (zA L sz)) 0 0 (zA L sz)) ∧ (∀ {sz : Nat} {l0 : Int} {l1 : Int} {F F9 : zF} {B B9 : zB} {r : Int}, o.2.1 l0 l1 F B = some (r, F9, B9) → Met l ({ cls := "StaveHouse$Parser", name := "takeMusic", desc := "(I)Z" } : Jvm.MethodName) (Cond.code ({ cls := "StaveHouse$Parser", name := "takeMusic", desc := "(I)Z" } : Jvm.MethodName) prog_5_method_20_code 6 (Option.some Jvm.ClassFile.FieldType.boolean) :: wAll) ({ frames := d + 7, cells := 0, slots := 0, locals := 25 * d + 136 } : Room) (va_Pc [.ref (ad 3 l0 0), .int (iI l1)] (zPre D ca ad lnC K.2 L aS vS F B sz)) (Q_Parser_takeMusic K D ca ad L r F9 B9 (zA L sz)) 0 0 (zA L sz)) ∧ (∀ {sz : Nat} {l0 : Int} {l1 : Int} {F F9 : zF} {B B9 : zB} {r : Int}, o.2.2.1 l0 l1 F B = some (r, F9, B9) → Met l ({ cls := "StaveHouse$Parser", name := "takeItem", desc := "(I)Z" } : Jvm.MethodName) (Cond.code ({ cls := "StaveHouse$Parser", name := "takeItem", desc := "(I)Z" } : Jvm.MethodName) prog_5_method_22_code 2 (Option.some Jvm.ClassFile.FieldType.boolean) :: wAll) ({ frames := d + 7, cells := 0, slots := 0, locals := 25 * d + 136 } : Room) (va_Pc [.ref (ad 3 l0 0), .int (iI l1)] (zPre D ca ad lnC K.2 L aS vS F B sz)) (Q_Parser_takeItem K D ca ad L r F9 B9 (zA L sz)) 0 0 (zA L sz)) ∧ (∀ {sz : Nat} {l0 : Int} {l1 : Int} {F F9 : zF} {B B9 : zB} {r : Int}, o.2.2.2.1 l0 l1 F B = some (r, F9, B9) → Met l ({ cls := "StaveHouse$Parser", name := "takeBracket", desc := "(I)Z" } : Jvm.MethodName) (Cond.code ({ cls := "StaveHouse$Parser", name := "takeBracket", desc := "(I)Z" } : Jvm.MethodName) prog_5_method_30_code 2 (Option.some Jvm.ClassFile.FieldType.boolean) :: wAll) ({ frames := d + 7, cells := 0, slots := 0, locals := 25 * d + 136 } : Room) (va_Pc [.ref (ad 3 l0 0), .int (iI l1)] (zPre D ca ad lnC K.2 L aS vS F B sz)) (Q_Parser_takeBracket K D ca ad L r F9 B9 (zA L sz)) 0 0 (zA L sz)) ∧ (∀ {sz : Nat} {l0 : Int} {l1 : Int} {F F9 : zF} {B B9 : zB} {r : Int}, o.2.2.2.2.1 l0 l1 F B = some (r, F9, B9) → Met l ({ cls := "StaveHouse$Parser", name := "takeRepeat", desc := "(I)Z" } : Jvm.MethodName) (Cond.code ({ cls := "StaveHouse$Parser", name := "takeRepeat", desc := "(I)Z" } : Jvm.MethodName) prog_5_method_31_code 2 (Option.some Jvm.ClassFile.FieldType.boolean) :: wAll) ({ frames := d + 7, cells := 0, slots := 0, locals := 25 * d + 136 } : Room) (va_Pc [.ref (ad 3 l0 0), .int (iI l1)] (zPre D ca ad lnC K.2 L aS vS F B sz)) (Q_Parser_takeRepeat K D ca ad L r F9 B9 (zA L sz)) 0 0 (zA L sz)) ∧ (∀ {sz : Nat} {l0 : Int} {l1 : Int} {F F9 : zF} {B B9 : zB} {r : Int}, o.2.2.2.2.2.1 l0 l1 F B = some (r, F9, B9) → Met l ({ cls := "StaveHouse$Parser", name := "takeAlternatives", desc := "(I)Z" } : Jvm.MethodName) (Cond.code ({ cls := "StaveHouse$Parser", name := "takeAlternatives", desc := "(I)Z" } : Jvm.MethodName) prog_5_method_32_code 5 (Option.some Jvm.ClassFile.FieldType.boolean) :: wAll) ({ frames := d + 7, cells := 0, slots := 0, locals := 25 * d + 136 } : Room) (va_Pc [.ref (ad 3 l0 0), .int (iI l1)] (zPre D ca ad lnC K.2 L aS vS F B sz)) (Q_Parser_takeAlternatives K D ca ad L r F9 B9 (zA L sz)) 0 0 (zA L sz)) ∧ (∀ {sz : Nat} {l0 : Int} {l1 : Int} {F F9 : zF} {B B9 : zB} {r : Int}, o.2.2.2.2.2.2.1 l0 l1 F B = some (r, F9, B9) → Met l ({ cls := "StaveHouse$Parser", name := "takeMove", desc := "(I)Z" } : Jvm.MethodName) (Cond.code ({ cls := "StaveHouse$Parser", name := "takeMove", desc := "(I)Z" } : Jvm.MethodName) prog_5_method_34_code 4 (Option.some Jvm.ClassFile.FieldType.boolean) :: wAll) ({ frames := d + 7, cells := 0, slots := 0, locals := 25 * d + 136 } : Room) (va_Pc [.ref (ad 3 l0 0), .int (iI l1)] (zPre D ca ad lnC K.2 L aS vS F B sz)) (Q_Parser_takeMove K D ca ad L r F9 B9 (zA L sz)) 0 0 (zA L sz)) ∧ (∀ {sz : Nat} {l0 : Int} {l1 : Int} {F F9 : zF} {B B9 : zB} {r : Int}, o.2.2.2.2.2.2.2 l0 l1 F B = some (r, F9, B9) → Met l ({ cls := "StaveHouse$Parser", name := "takeMirror", desc := "(I)Z" } : Jvm.MethodName) (Cond.code ({ cls := "StaveHouse$Parser", name := "takeMirror", desc := "(I)Z" } : Jvm.MethodName) prog_5_method_35_code 2 (Option.some Jvm.ClassFile.FieldType.boolean) :: wAll) ({ frames := d + 7, cells := 0, slots := 0, locals := 25 * d + 136 } : Room) (va_Pc [.ref (ad 3 l0 0), .int (iI l1)] (zPre D ca ad lnC K.2 L aS vS F B sz)) (Q_Parser_takeMirror K D ca ad L r F9 B9 (zA L sz)) 0 0 (zA L sz))
noncomputable def f_Parser_takeBlock_31 (o : oT_CP) (K : zK) (s0 : Int) (F : zF) (B : zB) : zO := if (s0 = 0 ∨ s0 = 1) then some (s0, F, B) else none
set_option maxHeartbeats 4000000 in
set_option maxRecDepth 100000 in
theorem b_Parser_takeBlock_31 {D : va_G} {ca : Nat → ClassId} {ad : Nat → Int → Nat → Nat} {L : List Nat} {aS vS : Nat → Nat} {A : Nat → Prop} {p : Program} {l : Launch} {e : Env} {s : State} {m : MethodId} {args : Array Value} {below : List Frame} {meth : Method} {c : Code} {K : zK} {r : Int} {F9 : zF} {B9 : zB} {d : Nat} {o : oT_CP} (X : zX D ca L aS vS A p s m args meth c prog_5_method_19_code 2 (Option.some Jvm.ClassFile.FieldType.boolean) "StaveHouse$Parser") (ho : oH_CP K l D ca ad L aS vS d o) {s0 : Int} {F : zF} {B : zB} {H : Heap} {locs : List Loc} {ls : Array Slot} (hf : f_Parser_takeBlock_31 o K s0 F B = some (r, F9, B9)) (hZ : zH D ca ad lnC K.2 L F B A H) (hS : va_S A s.heap H locs) (hl : lv_has ls 2 []) : W p l e ({ frames := d + 1 + 7, cells := 0, slots := 0, locals := 25 * (d + 1) + 136 } : Room) s m args below meth c H locs 0 0 (MQ below (Q_Parser_takeBlock K D ca ad L r F9 B9 A) args s 0 0 A) (F0 m 31 ls [.int (iI s0)]) := by
  obtain ⟨hx, hb, hr, hml, hown, hts, hlk, hK, hA, hL, hX⟩ := id X
  replace hf : (if (s0 = 0 ∨ s0 = 1) then some (s0, F, B) else none) = some (r, F9, B9) := hf
  obtain ⟨g11, hf⟩ := gif hf
  cases hf
  exact W.zret hx hb hr (zbool g11) (fun t ht hW => ⟨⟨_, (), rfl, rfl, by rw [ht]; exact hZ, va_K.moved hW.alike hK⟩, hS.F ht⟩) hS.2.2 d_5_19_31 hlk

noncomputable def f_Parser_takeBlock_30 (o : oT_CP) (K : zK)  (F : zF) (B : zB) : zO := f_Parser_takeBlock_31 o K 0 F B
set_option maxHeartbeats 4000000 in
set_option maxRecDepth 100000 in
theorem b_Parser_takeBlock_30 {D : va_G} {ca : Nat → ClassId} {ad : Nat → Int → Nat → Nat} {L : List Nat} {aS vS : Nat → Nat} {A : Nat → Prop} {p : Program} {l : Launch} {e : Env} {s : State} {m : MethodId} {args : Array Value} {below : List Frame} {meth : Method} {c : Code} {K : zK} {r : Int} {F9 : zF} {B9 : zB} {d : Nat} {o : oT_CP} (X : zX D ca L aS vS A p s m args meth c prog_5_method_19_code 2 (Option.some Jvm.ClassFile.FieldType.boolean) "StaveHouse$Parser") (ho : oH_CP K l D ca ad L aS vS d o)  {F : zF} {B : zB} {H : Heap} {locs : List Loc} {ls : Array Slot} (hf : f_Parser_takeBlock_30 o K  F B = some (r, F9, B9)) (hZ : zH D ca ad lnC K.2 L F B A H) (hS : va_S A s.heap H locs) (hl : lv_has ls 2 []) : W p l e ({ frames := d + 1 + 7, cells := 0, slots := 0, locals := 25 * (d + 1) + 136 } : Room) s m args below meth c H locs 0 0 (MQ below (Q_Parser_takeBlock K D ca ad L r F9 B9 A) args s 0 0 A) (F0 m 30 ls []) := by
  obtain ⟨hx, hb, hr, hml, hown, hts, hlk, hK, hA, hL, hX⟩ := id X
  replace hf : (f_Parser_takeBlock_31 o K 0 F B) = some (r, F9, B9) := hf
  refine lv_iconst (v := iI 0) hx hb d_5_19_30 rfl ?_
  exact b_Parser_takeBlock_31 X ho hf hZ hS (lv_sub hl [] rfl)

noncomputable def fb_Parser_takeBlock (o : oT_CP) (K : zK) (l0 : Int) (l1 : Int) (F : zF) (B : zB) : zO := if 0 ≤ l0 ∧ l0 < K.2 3 then zbind (f_Parser_takeOpening K l0 123 F B) (fun r2 F2 B2 => if r32 r2 then (if r2 = 0 then f_Parser_takeBlock_30 o K F2 B2 else zbind (o.2.1 l0 l1 F2 B2) (fun r5 F5 B5 => if r32 r5 then (if r5 = 0 then f_Parser_takeBlock_30 o K F5 B5 else zbind (f_Parser_takeClosing K l0 125 F5 B5) (fun r8 F8 B8 => if r32 r8 then (if r8 = 0 then f_Parser_takeBlock_30 o K F8 B8 else f_Parser_takeBlock_31 o K 1 F8 B8) else none)) else none)) else none) else none
set_option maxHeartbeats 4000000 in
set_option maxRecDepth 100000 in
theorem cb_Parser_takeBlock {l : Launch} {D : va_G} {ca : Nat → ClassId} {ad : Nat → Int → Nat → Nat} {L : List Nat} {aS vS : Nat → Nat} {sz : Nat} {K : zK} {d : Nat} {o : oT_CP} (ho : oH_CP K l D ca ad L aS vS d o)  {l0 : Int} {l1 : Int} {F F9 : zF} {B B9 : zB} {r : Int} (hf : fb_Parser_takeBlock o K l0 l1 F B = some (r, F9, B9)) : Met l ({ cls := "StaveHouse$Parser", name := "takeBlock", desc := "(I)Z" } : Jvm.MethodName) (Cond.code ({ cls := "StaveHouse$Parser", name := "takeBlock", desc := "(I)Z" } : Jvm.MethodName) prog_5_method_19_code 2 (Option.some Jvm.ClassFile.FieldType.boolean) :: wAll) ({ frames := d + 1 + 7, cells := 0, slots := 0, locals := 25 * (d + 1) + 136 } : Room) (va_Pc [.ref (ad 3 l0 0), .int (iI l1)] (zPre D ca ad lnC K.2 L aS vS F B sz)) (Q_Parser_takeBlock K D ca ad L r F9 B9 (zA L sz)) 0 0 (zA L sz) := by
  refine zMet (Qc := Q_Parser_takeBlock K D ca ad L r F9 B9) (lv := [(0, .ref (ad 3 l0 0)), (1, .int (iI l1))]) (by decide) (Nat.le_of_ble_eq_true rfl) rfl (fun A p e s m below meth c ls X hZ hS hl => ?_)
  obtain ⟨hx, hb, hr, hml, hown, hts, hlk, hK, hA, hL, hX⟩ := id X
  replace hf : (if 0 ≤ l0 ∧ l0 < K.2 3 then zbind (f_Parser_takeOpening K l0 123 F B) (fun r2 F2 B2 => if r32 r2 then (if r2 = 0 then f_Parser_takeBlock_30 o K F2 B2 else zbind (o.2.1 l0 l1 F2 B2) (fun r5 F5 B5 => if r32 r5 then (if r5 = 0 then f_Parser_takeBlock_30 o K F5 B5 else zbind (f_Parser_takeClosing K l0 125 F5 B5) (fun r8 F8 B8 => if r32 r8 then (if r8 = 0 then f_Parser_takeBlock_30 o K F8 B8 else f_Parser_takeBlock_31 o K 1 F8 B8) else none)) else none)) else none) else none) = some (r, F9, B9) := hf
  refine lv_aload_n hx hb d_5_19_0 rfl (lv_at hl 0 rfl) ?_
  refine lv_bipush (v := iI 123) hx hb d_5_19_1 (by decide) ?_
  obtain ⟨g1, hf⟩ := gif hf
  obtain ⟨r2, F2, B2, hc2, hf⟩ := gbind hf
  refine va_calli (va_runV (As := [.int (iI 123)]) (rest := []) ⟨hx, hb, hml, hown, hts⟩ (c_Parser_takeOpening (l := l) hc2) (cwV 1 hts (gdV k_3_216 k_3_218 ks_11 k_1_4 k_3_219) rfl rfl rfl (by decide +kernel) ⟨by dsimp only; omega, by dsimp only; omega⟩) (zPV X hZ hS (ci := 3) g1.1 g1.2 (r := (RX3, TX3, 22)) rfl [.int (iI 123)]) rfl rfl hl.1 rfl (lv_room (Nat.le_of_ble_eq_true rfl)) d_5_19_3 ⟨Nat.le_of_ble_eq_true rfl, Nat.le_of_ble_eq_true rfl⟩) hS (fun q _ h => zAin X hS q h) (zAin X hS) (fun p2 u2 t2 H2 locs2 ht2 hv2 hw2 hB2 hz2 hk2 hS2 => ?_)
  have hZ2 := zBack X ht2 hB2
  subst hw2
  obtain ⟨g3, hf⟩ := gif hf
  refine z0eq (tgt := 30) hx hb g3 d_5_19_6 (by decide) (fun h4 => ?_) (fun h4 => ?_)
  · replace hf := gpos hf h4
    exact b_Parser_takeBlock_30 X ho hf hZ2 hS2 (lv_sub hl [] rfl)
  · replace hf := gneg hf h4
    refine lv_aload_n hx hb d_5_19_9 rfl (lv_at hl 0 rfl) ?_
    refine lv_iload_n hx hb d_5_19_10 rfl (lv_at hl 1 rfl) ?_
    obtain ⟨r5, F5, B5, hc5, hf⟩ := gbind hf
    refine va_calli (va_runV (As := [.int (iI l1)]) (rest := []) ⟨hx, hb, hml, hown, hts⟩ (ho.2.1 hc5) (cwV 1 hts (gdV k_3_220 k_3_222 ks_12 k_1_4 k_3_223) rfl rfl rfl (by decide +kernel) ⟨by dsimp only; omega, by dsimp only; omega⟩) (zPV X hZ2 hS2 (ci := 3) g1.1 g1.2 (r := (RX3, TX3, 22)) rfl [.int (iI l1)]) rfl rfl hl.1 rfl (lv_room (Nat.le_of_ble_eq_true rfl)) d_5_19_11 ⟨Nat.le_of_ble_eq_true rfl, Nat.le_of_ble_eq_true rfl⟩) hS2 (fun q _ h => zAin X hS2 q h) (zAin X hS2) (fun p5 u5 t5 H5 locs5 ht5 hv5 hw5 hB5 hz5 hk5 hS5 => ?_)
    have hZ5 := zBack X ht5 hB5
    subst hw5
    obtain ⟨g6, hf⟩ := gif hf
    refine z0eq (tgt := 30) hx hb g6 d_5_19_14 (by decide) (fun h7 => ?_) (fun h7 => ?_)
    · replace hf := gpos hf h7
      exact b_Parser_takeBlock_30 X ho hf hZ5 hS5 (lv_sub hl [] rfl)
    · replace hf := gneg hf h7
      refine lv_aload_n hx hb d_5_19_17 rfl (lv_at hl 0 rfl) ?_
      refine lv_bipush (v := iI 125) hx hb d_5_19_18 (by decide) ?_
      obtain ⟨r8, F8, B8, hc8, hf⟩ := gbind hf
      refine va_calli (va_runV (As := [.int (iI 125)]) (rest := []) ⟨hx, hb, hml, hown, hts⟩ (c_Parser_takeClosing (l := l) hc8) (cwV 1 hts (gdV k_4_37 k_4_39 ks_23 k_1_4 k_4_40) rfl rfl rfl (by decide +kernel) ⟨by dsimp only; omega, by dsimp only; omega⟩) (zPV X hZ5 hS5 (ci := 3) g1.1 g1.2 (r := (RX3, TX3, 22)) rfl [.int (iI 125)]) rfl rfl hl.1 rfl (lv_room (Nat.le_of_ble_eq_true rfl)) d_5_19_20 ⟨Nat.le_of_ble_eq_true rfl, Nat.le_of_ble_eq_true rfl⟩) hS5 (fun q _ h => zAin X hS5 q h) (zAin X hS5) (fun p8 u8 t8 H8 locs8 ht8 hv8 hw8 hB8 hz8 hk8 hS8 => ?_)
      have hZ8 := zBack X ht8 hB8
      subst hw8
      obtain ⟨g9, hf⟩ := gif hf
      refine z0eq (tgt := 30) hx hb g9 d_5_19_23 (by decide) (fun h10 => ?_) (fun h10 => ?_)
      · replace hf := gpos hf h10
        exact b_Parser_takeBlock_30 X ho hf hZ8 hS8 (lv_sub hl [] rfl)
      · replace hf := gneg hf h10
        refine lv_iconst (v := iI 1) hx hb d_5_19_26 rfl ?_
        refine lv_goto (tgt := 31) hx hb d_5_19_27 (by decide) ?_
        exact b_Parser_takeBlock_31 X ho hf hZ8 hS8 (lv_sub hl [] rfl)

noncomputable def f_Parser_takeMusic_57 (o : oT_CP) (rec4 : Int → Int → Int → Int → zF → zB → zO) (K : zK) (l5 : Int) (l3 : Int) (l0 : Int) (l1 : Int) (F : zF) (B : zB) : zO := if 0 ≤ l0 ∧ l0 < K.2 3 then zbind (o.2.2.1 l0 l5 F B) (fun r15 F15 B15 => if r32 r15 then (if r15 = 0 then some (0, F15, B15) else rec4 (l3 + 1) l5 l0 l1 F15 B15) else none) else none
set_option maxHeartbeats 4000000 in
set_option maxRecDepth 100000 in
theorem b_Parser_takeMusic_57 {D : va_G} {ca : Nat → ClassId} {ad : Nat → Int → Nat → Nat} {L : List Nat} {aS vS : Nat → Nat} {A : Nat → Prop} {p : Program} {l : Launch} {e : Env} {s : State} {m : MethodId} {args : Array Value} {below : List Frame} {meth : Method} {c : Code} {K : zK} {r : Int} {F9 : zF} {B9 : zB} {d : Nat} {o : oT_CP} (X : zX D ca L aS vS A p s m args meth c prog_5_method_20_code 6 (Option.some Jvm.ClassFile.FieldType.boolean) "StaveHouse$Parser") (ho : oH_CP K l D ca ad L aS vS d o) {rec4 : Int → Int → Int → Int → zF → zB → zO} (hrec4 : ∀ {l3 : Int} {l2 : Int} {l0 : Int} {l1 : Int} {F : zF} {B : zB} {H : Heap} {locs : List Loc} {ls : Array Slot}, rec4 l3 l2 l0 l1 F B = some (r, F9, B9) → zH D ca ad lnC K.2 L F B A H → va_S A s.heap H locs → lv_has ls 6 [(3, .int (iI l3)), (2, .int (iI l2)), (0, .ref (ad 3 l0 0)), (1, .int (iI l1))] → W p l e ({ frames := d + 1 + 7, cells := 0, slots := 0, locals := 25 * (d + 1) + 136 } : Room) s m args below meth c H locs 0 0 (MQ below (Q_Parser_takeMusic K D ca ad L r F9 B9 A) args s 0 0 A) (F0 m 4 ls [])) {l5 : Int} {l3 : Int} {l0 : Int} {l1 : Int} {F : zF} {B : zB} {H : Heap} {locs : List Loc} {ls : Array Slot} (hf : f_Parser_takeMusic_57 o rec4 K l5 l3 l0 l1 F B = some (r, F9, B9)) (hZ : zH D ca ad lnC K.2 L F B A H) (hS : va_S A s.heap H locs) (hl : lv_has ls 6 [(5, .int (iI l5)), (3, .int (iI l3)), (0, .ref (ad 3 l0 0)), (1, .int (iI l1))]) : W p l e ({ frames := d + 1 + 7, cells := 0, slots := 0, locals := 25 * (d + 1) + 136 } : Room) s m args below meth c H locs 0 0 (MQ below (Q_Parser_takeMusic K D ca ad L r F9 B9 A) args s 0 0 A) (F0 m 57 ls []) := by
  obtain ⟨hx, hb, hr, hml, hown, hts, hlk, hK, hA, hL, hX⟩ := id X
  replace hf : (if 0 ≤ l0 ∧ l0 < K.2 3 then zbind (o.2.2.1 l0 l5 F B) (fun r15 F15 B15 => if r32 r15 then (if r15 = 0 then some (0, F15, B15) else rec4 (l3 + 1) l5 l0 l1 F15 B15) else none) else none) = some (r, F9, B9) := hf
  refine lv_iload hx hb d_5_20_57 (lv_at hl 0 rfl) ?_
  refine lv_istore_n (lv' := [(2, .int (iI l5)), (5, .int (iI l5)), (3, .int (iI l3)), (0, .ref (ad 3 l0 0)), (1, .int (iI l1))]) hx hb d_5_20_59 rfl hl (by decide) rfl (fun ls hl => ?_)
  refine lv_aload_n hx hb d_5_20_60 rfl (lv_at hl 3 rfl) ?_
  refine lv_iload hx hb d_5_20_61 (lv_at hl 1 rfl) ?_
  obtain ⟨g14, hf⟩ := gif hf
  obtain ⟨r15, F15, B15, hc15, hf⟩ := gbind hf
  refine va_calli (va_runV (As := [.int (iI l5)]) (rest := []) ⟨hx, hb, hml, hown, hts⟩ (ho.2.2.1 hc15) (cwV 1 hts (gdV k_3_229 k_3_231 ks_14 k_1_4 k_3_232) rfl rfl rfl (by decide +kernel) ⟨by dsimp only; omega, by dsimp only; omega⟩) (zPV X hZ hS (ci := 3) g14.1 g14.2 (r := (RX3, TX3, 22)) rfl [.int (iI l5)]) rfl rfl hl.1 rfl (lv_room (Nat.le_of_ble_eq_true rfl)) d_5_20_63 ⟨Nat.le_of_ble_eq_true rfl, Nat.le_of_ble_eq_true rfl⟩) hS (fun q _ h => zAin X hS q h) (zAin X hS) (fun p15 u15 t15 H15 locs15 ht15 hv15 hw15 hB15 hz15 hk15 hS15 => ?_)
  have hZ15 := zBack X ht15 hB15
  subst hw15
  obtain ⟨g16, hf⟩ := gif hf
  refine z0ne (tgt := 71) hx hb g16 d_5_20_66 (by decide) (fun h17 => ?_) (fun h17 => ?_)
  · replace hf := gneg hf h17
    refine lv_iinc (v := iI (l3 + 1)) (lv' := [(3, .int (iI (l3 + 1))), (2, .int (iI l5)), (5, .int (iI l5)), (0, .ref (ad 3 l0 0)), (1, .int (iI l1))]) hx hb d_5_20_71 hl (k := 2) rfl (iI_add _ 1) (by decide) rfl (fun ls hl => ?_)
    refine lv_goto (tgt := 4) hx hb d_5_20_74 (by decide) ?_
    exact hrec4 hf hZ15 hS15 (lv_sub hl [0, 1, 3, 4] rfl)
  · replace hf := gpos hf h17
    refine lv_iconst (v := iI 0) hx hb d_5_20_69 rfl ?_
    cases hf
    exact W.zret hx hb hr rfl (fun t ht hW => ⟨⟨_, (), rfl, rfl, by rw [ht]; exact hZ15, va_K.moved hW.alike hK⟩, hS15.F ht⟩) hS15.2.2 d_5_20_70 hlk

noncomputable def f_Parser_takeMusic_4 (o : oT_CP) (K : zK) : Nat → Int → Int → Int → Int → zF → zB → zO
  | 0, _, _, _, _, _, _ => none
  | n + 1, l3, l2, l0, l1, F, B => if r32 l3 then (if 3000 ≤ l3 then some (1, F, B) else if 0 ≤ l0 ∧ l0 < K.2 3 then zbind (f_Parser_itemSort K l0 F B) (fun r4 F4 B4 => if r32 r4 then (if r4 = (-1) then some (1, F4, B4) else zbind (f_Parser_newItem K l0 r4 F4 B4) (fun r7 F7 B7 => if r32 l2 then (if l2 = (-1) then if 0 ≤ l1 ∧ l1 < 3000 then f_Parser_takeMusic_57 o (f_Parser_takeMusic_4 o K n) K r7 l3 l0 l1 F7 (zup4 B7 3 l0 4 l1 r7) else none else if 0 ≤ l2 ∧ l2 < 3000 then f_Parser_takeMusic_57 o (f_Parser_takeMusic_4 o K n) K r7 l3 l0 l1 F7 (zup4 B7 3 l0 5 l2 r7) else none) else none)) else none) else none) else none
set_option maxHeartbeats 4000000 in
set_option maxRecDepth 100000 in
theorem b_Parser_takeMusic_4 {D : va_G} {ca : Nat → ClassId} {ad : Nat → Int → Nat → Nat} {L : List Nat} {aS vS : Nat → Nat} {A : Nat → Prop} {p : Program} {l : Launch} {e : Env} {s : State} {m : MethodId} {args : Array Value} {below : List Frame} {meth : Method} {c : Code} {K : zK} {r : Int} {F9 : zF} {B9 : zB} {d : Nat} {o : oT_CP} (X : zX D ca L aS vS A p s m args meth c prog_5_method_20_code 6 (Option.some Jvm.ClassFile.FieldType.boolean) "StaveHouse$Parser") (ho : oH_CP K l D ca ad L aS vS d o) : ∀ {n : Nat} {l3 : Int} {l2 : Int} {l0 : Int} {l1 : Int} {F : zF} {B : zB} {H : Heap} {locs : List Loc} {ls : Array Slot}, f_Parser_takeMusic_4 o K n l3 l2 l0 l1 F B = some (r, F9, B9) → zH D ca ad lnC K.2 L F B A H → va_S A s.heap H locs → lv_has ls 6 [(3, .int (iI l3)), (2, .int (iI l2)), (0, .ref (ad 3 l0 0)), (1, .int (iI l1))] → W p l e ({ frames := d + 1 + 7, cells := 0, slots := 0, locals := 25 * (d + 1) + 136 } : Room) s m args below meth c H locs 0 0 (MQ below (Q_Parser_takeMusic K D ca ad L r F9 B9 A) args s 0 0 A) (F0 m 4 ls []) := by
  obtain ⟨hx, hb, hr, hml, hown, hts, hlk, hK, hA, hL, hX⟩ := id X
  intro n
  induction n with
  | zero =>
    intros
    rename_i hf _ _ _
    cases hf
  | succ n ih =>
    intro l3 l2 l0 l1 F B H locs ls hf hZ hS hl
    replace hf : (if r32 l3 then (if 3000 ≤ l3 then some (1, F, B) else if 0 ≤ l0 ∧ l0 < K.2 3 then zbind (f_Parser_itemSort K l0 F B) (fun r4 F4 B4 => if r32 r4 then (if r4 = (-1) then some (1, F4, B4) else zbind (f_Parser_newItem K l0 r4 F4 B4) (fun r7 F7 B7 => if r32 l2 then (if l2 = (-1) then if 0 ≤ l1 ∧ l1 < 3000 then f_Parser_takeMusic_57 o (f_Parser_takeMusic_4 o K n) K r7 l3 l0 l1 F7 (zup4 B7 3 l0 4 l1 r7) else none else if 0 ≤ l2 ∧ l2 < 3000 then f_Parser_takeMusic_57 o (f_Parser_takeMusic_4 o K n) K r7 l3 l0 l1 F7 (zup4 B7 3 l0 5 l2 r7) else none) else none)) else none) else none) else none) = some (r, F9, B9) := hf
    refine lv_iload_n hx hb d_5_20_4 rfl (lv_at hl 0 rfl) ?_
    refine lv_sipush (v := iI 3000) hx hb d_5_20_5 (by decide) ?_
    obtain ⟨g1, hf⟩ := gif hf
    refine zge (tgt := 77) hx hb g1 (by decide) d_5_20_8 (by decide) (fun h2 => ?_) (fun h2 => ?_)
    · replace hf := gpos hf h2
      refine lv_iconst (v := iI 1) hx hb d_5_20_77 rfl ?_
      cases hf
      exact W.zret hx hb hr rfl (fun t ht hW => ⟨⟨_, (), rfl, rfl, by rw [ht]; exact hZ, va_K.moved hW.alike hK⟩, hS.F ht⟩) hS.2.2 d_5_20_78 hlk
    · replace hf := gneg hf h2
      refine lv_aload_n hx hb d_5_20_11 rfl (lv_at hl 2 rfl) ?_
      obtain ⟨g3, hf⟩ := gif hf
      obtain ⟨r4, F4, B4, hc4, hf⟩ := gbind hf
      refine va_calli (va_runV (As := []) (rest := []) ⟨hx, hb, hml, hown, hts⟩ (c_Parser_itemSort (l := l) hc4) (cwV 0 hts (gdV k_3_224 k_3_226 ks_13 k_1_4 k_3_227) rfl rfl rfl (by decide +kernel) ⟨by dsimp only; omega, by dsimp only; omega⟩) (zPV X hZ hS (ci := 3) g3.1 g3.2 (r := (RX3, TX3, 22)) rfl []) rfl rfl hl.1 rfl (lv_room (Nat.le_of_ble_eq_true rfl)) d_5_20_12 ⟨Nat.le_of_ble_eq_true rfl, Nat.le_of_ble_eq_true rfl⟩) hS (fun q _ h => zAin X hS q h) (zAin X hS) (fun p4 u4 t4 H4 locs4 ht4 hv4 hw4 hB4 hz4 hk4 hS4 => ?_)
      have hZ4 := zBack X ht4 hB4
      subst hw4
      refine lv_istore (lv' := [(4, .int (iI r4)), (3, .int (iI l3)), (2, .int (iI l2)), (0, .ref (ad 3 l0 0)), (1, .int (iI l1))]) hx hb d_5_20_15 hl (by decide) rfl (fun ls hl => ?_)
      refine lv_iload hx hb d_5_20_17 (lv_at hl 0 rfl) ?_
      refine lv_iconst (v := iI (-1)) hx hb d_5_20_19 rfl ?_
      obtain ⟨g5, hf⟩ := gif hf
      refine zne (tgt := 25) hx hb g5 (by decide) d_5_20_20 (by decide) (fun h6 => ?_) (fun h6 => ?_)
      · replace hf := gneg hf h6
        refine lv_aload_n hx hb d_5_20_25 rfl (lv_at hl 3 rfl) ?_
        refine lv_iload hx hb d_5_20_26 (lv_at hl 0 rfl) ?_
        obtain ⟨r7, F7, B7, hc7, hf⟩ := gbind hf
        refine va_calli (va_runV (As := [.int (iI r4)]) (rest := []) ⟨hx, hb, hml, hown, hts⟩ (c_Parser_newItem (l := l) hc7) (cwV 1 hts (gdV k_3_175 k_3_177 ks_5 k_1_4 k_3_178) rfl rfl rfl (by decide +kernel) ⟨by dsimp only; omega, by dsimp only; omega⟩) (zPV X hZ4 hS4 (ci := 3) g3.1 g3.2 (r := (RX3, TX3, 22)) rfl [.int (iI r4)]) rfl rfl hl.1 rfl (lv_room (Nat.le_of_ble_eq_true rfl)) d_5_20_28 ⟨Nat.le_of_ble_eq_true rfl, Nat.le_of_ble_eq_true rfl⟩) hS4 (fun q _ h => zAin X hS4 q h) (zAin X hS4) (fun p7 u7 t7 H7 locs7 ht7 hv7 hw7 hB7 hz7 hk7 hS7 => ?_)
        have hZ7 := zBack X ht7 hB7
        subst hw7
        refine lv_istore (lv' := [(5, .int (iI r7)), (4, .int (iI r4)), (3, .int (iI l3)), (2, .int (iI l2)), (0, .ref (ad 3 l0 0)), (1, .int (iI l1))]) hx hb d_5_20_31 hl (by decide) rfl (fun ls hl => ?_)
        refine lv_iload_n hx hb d_5_20_33 rfl (lv_at hl 3 rfl) ?_
        refine lv_iconst (v := iI (-1)) hx hb d_5_20_34 rfl ?_
        obtain ⟨g8, hf⟩ := gif hf
        refine zne (tgt := 49) hx hb g8 (by decide) d_5_20_35 (by decide) (fun h9 => ?_) (fun h9 => ?_)
        · replace hf := gneg hf h9
          refine lv_aload_n hx hb d_5_20_49 rfl (lv_at hl 4 rfl) ?_
          refine zget (ci := 3) (C := RX3) (T := TX3) (v := .ref (ad 3 l0 (5 + 1))) (k := 5) hx hb hts inW_3 hown hK hZ7 g3.1 g3.2 rfl (by decide) k_1_116 rfl d_5_20_50 ?_
          refine lv_iload_n hx hb d_5_20_53 rfl (lv_at hl 3 rfl) ?_
          refine lv_iload hx hb d_5_20_54 (lv_at hl 0 rfl) ?_
          obtain ⟨g10, hf⟩ := gif hf
          refine zast (ci := 3) (k := 5) hx hb hK rfl hZ7 hS7 g3.1 g3.2 rfl (Nat.le_of_ble_eq_true rfl) g10.1 g10.2 d_5_20_56 (fun H11 locs11 hZ11 hS11 => ?_)
          exact b_Parser_takeMusic_57 X ho ih hf hZ11 hS11 (lv_sub hl [0, 2, 4, 5] rfl)
        · replace hf := gpos hf h9
          refine lv_aload_n hx hb d_5_20_38 rfl (lv_at hl 4 rfl) ?_
          refine zget (ci := 3) (C := RX3) (T := TX3) (v := .ref (ad 3 l0 (4 + 1))) (k := 4) hx hb hts inW_3 hown hK hZ7 g3.1 g3.2 rfl (by decide) k_1_114 rfl d_5_20_39 ?_
          refine lv_iload_n hx hb d_5_20_42 rfl (lv_at hl 5 rfl) ?_
          refine lv_iload hx hb d_5_20_43 (lv_at hl 0 rfl) ?_
          obtain ⟨g12, hf⟩ := gif hf
          refine zast (ci := 3) (k := 4) hx hb hK rfl hZ7 hS7 g3.1 g3.2 rfl (Nat.le_of_ble_eq_true rfl) g12.1 g12.2 d_5_20_45 (fun H13 locs13 hZ13 hS13 => ?_)
          refine lv_goto (tgt := 57) hx hb d_5_20_46 (by decide) ?_
          exact b_Parser_takeMusic_57 X ho ih hf hZ13 hS13 (lv_sub hl [0, 2, 4, 5] rfl)
      · replace hf := gpos hf h6
        refine lv_iconst (v := iI 1) hx hb d_5_20_23 rfl ?_
        cases hf
        exact W.zret hx hb hr rfl (fun t ht hW => ⟨⟨_, (), rfl, rfl, by rw [ht]; exact hZ4, va_K.moved hW.alike hK⟩, hS4.F ht⟩) hS4.2.2 d_5_20_24 hlk

noncomputable def fb_Parser_takeMusic (o : oT_CP) (K : zK) (l0 : Int) (l1 : Int) (F : zF) (B : zB) : zO := f_Parser_takeMusic_4 o K K.1 0 (-1) l0 l1 F B
set_option maxHeartbeats 4000000 in
set_option maxRecDepth 100000 in
theorem cb_Parser_takeMusic {l : Launch} {D : va_G} {ca : Nat → ClassId} {ad : Nat → Int → Nat → Nat} {L : List Nat} {aS vS : Nat → Nat} {sz : Nat} {K : zK} {d : Nat} {o : oT_CP} (ho : oH_CP K l D ca ad L aS vS d o)  {l0 : Int} {l1 : Int} {F F9 : zF} {B B9 : zB} {r : Int} (hf : fb_Parser_takeMusic o K l0 l1 F B = some (r, F9, B9)) : Met l ({ cls := "StaveHouse$Parser", name := "takeMusic", desc := "(I)Z" } : Jvm.MethodName) (Cond.code ({ cls := "StaveHouse$Parser", name := "takeMusic", desc := "(I)Z" } : Jvm.MethodName) prog_5_method_20_code 6 (Option.some Jvm.ClassFile.FieldType.boolean) :: wAll) ({ frames := d + 1 + 7, cells := 0, slots := 0, locals := 25 * (d + 1) + 136 } : Room) (va_Pc [.ref (ad 3 l0 0), .int (iI l1)] (zPre D ca ad lnC K.2 L aS vS F B sz)) (Q_Parser_takeMusic K D ca ad L r F9 B9 (zA L sz)) 0 0 (zA L sz) := by
  refine zMet (Qc := Q_Parser_takeMusic K D ca ad L r F9 B9) (lv := [(0, .ref (ad 3 l0 0)), (1, .int (iI l1))]) (by decide) (Nat.le_of_ble_eq_true rfl) rfl (fun A p e s m below meth c ls X hZ hS hl => ?_)
  obtain ⟨hx, hb, hr, hml, hown, hts, hlk, hK, hA, hL, hX⟩ := id X
  replace hf : (f_Parser_takeMusic_4 o K K.1 0 (-1) l0 l1 F B) = some (r, F9, B9) := hf
  refine lv_iconst (v := iI (-1)) hx hb d_5_20_0 rfl ?_
  refine lv_istore_n (lv' := [(2, .int (iI (-1))), (0, .ref (ad 3 l0 0)), (1, .int (iI l1))]) hx hb d_5_20_1 rfl hl (by decide) rfl (fun ls hl => ?_)
  refine lv_iconst (v := iI 0) hx hb d_5_20_2 rfl ?_
  refine lv_istore_n (lv' := [(3, .int (iI 0)), (2, .int (iI (-1))), (0, .ref (ad 3 l0 0)), (1, .int (iI l1))]) hx hb d_5_20_3 rfl hl (by decide) rfl (fun ls hl => ?_)
  exact b_Parser_takeMusic_4 X ho hf hZ hS (lv_sub hl [0, 1, 2, 3] rfl)

noncomputable def f_Parser_takeItem_152 (o : oT_CP) (K : zK) (s0 : Int) (F : zF) (B : zB) : zO := if (s0 = 0 ∨ s0 = 1) then some (s0, F, B) else none
set_option maxHeartbeats 4000000 in
set_option maxRecDepth 100000 in
theorem b_Parser_takeItem_152 {D : va_G} {ca : Nat → ClassId} {ad : Nat → Int → Nat → Nat} {L : List Nat} {aS vS : Nat → Nat} {A : Nat → Prop} {p : Program} {l : Launch} {e : Env} {s : State} {m : MethodId} {args : Array Value} {below : List Frame} {meth : Method} {c : Code} {K : zK} {r : Int} {F9 : zF} {B9 : zB} {d : Nat} {o : oT_CP} (X : zX D ca L aS vS A p s m args meth c prog_5_method_22_code 2 (Option.some Jvm.ClassFile.FieldType.boolean) "StaveHouse$Parser") (ho : oH_CP K l D ca ad L aS vS d o) {s0 : Int} {F : zF} {B : zB} {H : Heap} {locs : List Loc} {ls : Array Slot} (hf : f_Parser_takeItem_152 o K s0 F B = some (r, F9, B9)) (hZ : zH D ca ad lnC K.2 L F B A H) (hS : va_S A s.heap H locs) (hl : lv_has ls 2 []) : W p l e ({ frames := d + 1 + 7, cells := 0, slots := 0, locals := 25 * (d + 1) + 136 } : Room) s m args below meth c H locs 0 0 (MQ below (Q_Parser_takeItem K D ca ad L r F9 B9 A) args s 0 0 A) (F0 m 152 ls [.int (iI s0)]) := by
  obtain ⟨hx, hb, hr, hml, hown, hts, hlk, hK, hA, hL, hX⟩ := id X
  replace hf : (if (s0 = 0 ∨ s0 = 1) then some (s0, F, B) else none) = some (r, F9, B9) := hf
  obtain ⟨g40, hf⟩ := gif hf
  cases hf
  exact W.zret hx hb hr (zbool g40) (fun t ht hW => ⟨⟨_, (), rfl, rfl, by rw [ht]; exact hZ, va_K.moved hW.alike hK⟩, hS.F ht⟩) hS.2.2 d_5_22_152 hlk

noncomputable def f_Parser_takeItem_151 (o : oT_CP) (K : zK)  (F : zF) (B : zB) : zO := f_Parser_takeItem_152 o K 0 F B
set_option maxHeartbeats 4000000 in
set_option maxRecDepth 100000 in
theorem b_Parser_takeItem_151 {D : va_G} {ca : Nat → ClassId} {ad : Nat → Int → Nat → Nat} {L : List Nat} {aS vS : Nat → Nat} {A : Nat → Prop} {p : Program} {l : Launch} {e : Env} {s : State} {m : MethodId} {args : Array Value} {below : List Frame} {meth : Method} {c : Code} {K : zK} {r : Int} {F9 : zF} {B9 : zB} {d : Nat} {o : oT_CP} (X : zX D ca L aS vS A p s m args meth c prog_5_method_22_code 2 (Option.some Jvm.ClassFile.FieldType.boolean) "StaveHouse$Parser") (ho : oH_CP K l D ca ad L aS vS d o)  {F : zF} {B : zB} {H : Heap} {locs : List Loc} {ls : Array Slot} (hf : f_Parser_takeItem_151 o K  F B = some (r, F9, B9)) (hZ : zH D ca ad lnC K.2 L F B A H) (hS : va_S A s.heap H locs) (hl : lv_has ls 2 []) : W p l e ({ frames := d + 1 + 7, cells := 0, slots := 0, locals := 25 * (d + 1) + 136 } : Room) s m args below meth c H locs 0 0 (MQ below (Q_Parser_takeItem K D ca ad L r F9 B9 A) args s 0 0 A) (F0 m 151 ls []) := by
  obtain ⟨hx, hb, hr, hml, hown, hts, hlk, hK, hA, hL, hX⟩ := id X
  replace hf : (f_Parser_takeItem_152 o K 0 F B) = some (r, F9, B9) := hf
  refine lv_iconst (v := iI 0) hx hb d_5_22_151 rfl ?_
  exact b_Parser_takeItem_152 X ho hf hZ hS (lv_sub hl [] rfl)

noncomputable def fb_Parser_takeItem (o : oT_CP) (K : zK) (l0 : Int) (l1 : Int) (F : zF) (B : zB) : zO := if 0 ≤ l0 ∧ l0 < K.2 3 then if 0 ≤ l1 ∧ l1 < 3000 then if r32 (B 3 l0 0 l1) then (if (B 3 l0 0 l1) = 0 then zbind (f_Parser_takeEvent K l0 l1 F B) (fun r38 F38 B38 => if (r38 = 0 ∨ r38 = 1) then some (r38, F38, B38) else none) else (if (B 3 l0 0 l1) = 3 then zbind (o.2.2.2.1 l0 l1 F B) (fun r36 F36 B36 => if (r36 = 0 ∨ r36 = 1) then some (r36, F36, B36) else none) else if 0 ≤ (F 3 l0 11) ∧ (F 3 l0 11) < K.2 10 then zbind (f_Tokens_advance K (F 3 l0 11) F B) (fun r7 F7 B7 => if r32 (B7 3 l0 0 l1) then (if (B7 3 l0 0 l1) = 2 then zbind (f_Parser_takeLoud K l0 l1 F7 B7) (fun r10 F10 B10 => if (r10 = 0 ∨ r10 = 1) then some (r10, F10, B10) else none) else (if (B7 3 l0 0 l1) = 3 then some (1, F7, B7) else (if (B7 3 l0 0 l1) = 4 then zbind (o.2.2.2.2.1 l0 l1 F7 B7) (fun r14 F14 B14 => if (r14 = 0 ∨ r14 = 1) then some (r14, F14, B14) else none) else (if (B7 3 l0 0 l1) = 5 then zbind (f_Parser_takeUse K l0 l1 F7 B7) (fun r17 F17 B17 => if (r17 = 0 ∨ r17 = 1) then some (r17, F17, B17) else none) else (if (B7 3 l0 0 l1) = 6 then zbind (o.2.2.2.2.2.2.1 l0 l1 F7 B7) (fun r20 F20 B20 => if (r20 = 0 ∨ r20 = 1) then some (r20, F20, B20) else none) else (if (B7 3 l0 0 l1) = 7 then zbind (o.2.2.2.2.2.2.2 l0 l1 F7 B7) (fun r23 F23 B23 => if (r23 = 0 ∨ r23 = 1) then some (r23, F23, B23) else none) else (if (B7 3 l0 0 l1) = 8 then zbind (o.1 l0 l1 F7 B7) (fun r26 F26 B26 => if (r26 = 0 ∨ r26 = 1) then some (r26, F26, B26) else none) else (if (B7 3 l0 0 l1) = 9 then zbind (f_Parser_takeFraction K l0 l1 1 8 F7 B7) (fun r29 F29 B29 => if r32 r29 then (if r29 = 0 then f_Parser_takeItem_151 o K F29 B29 else zbind (o.1 l0 l1 F29 B29) (fun r33 F33 B33 => if r32 r33 then (if r33 = 0 then f_Parser_takeItem_151 o K F33 B33 else f_Parser_takeItem_152 o K 1 F33 B33) else none)) else none) else some (1, F7, B7))))))))) else none) else none)) else none else none else none
