set_option maxHeartbeats 4000000 in
set_option maxRecDepth 100000 in
theorem c_S_pitch {l : Launch} {D : va_G} {ca : Nat → ClassId} {ad : Nat → Int → Nat → Nat} {L : List Nat} {aS vS : Nat → Nat} {sz : Nat} {K : zK}  {l0 : Int} {l1 : Int} {l2 : Int} {l3 : Int} {l4 : Int} {l5 : Int} {F F9 : zF} {B B9 : zB} {r : Int} (hf : f_S_pitch K l0 l1 l2 l3 l4 l5 F B = some (r, F9, B9)) : Met l ({ cls := "StaveHouse", name := "pitch", desc := "(IIIII)I" } : Jvm.MethodName) (Cond.code ({ cls := "StaveHouse", name := "pitch", desc := "(IIIII)I" } : Jvm.MethodName) prog_1_method_14_code 7 (Option.some Jvm.ClassFile.FieldType.int) :: wAll) ({ frames := 3, cells := 0, slots := 0, locals := 68 } : Room) (va_Pc [.ref (ad 12 l0 0), .int (iI l1), .int (iI l2), .int (iI l3), .int (iI l4), .int (iI l5)] (zPre D ca ad lnC K.2 L aS vS F B sz)) (Q_S_pitch K D ca ad L r F9 B9 (zA L sz)) 0 0 (zA L sz) := by
  refine zMet (Qc := Q_S_pitch K D ca ad L r F9 B9) (lv := [(0, .ref (ad 12 l0 0)), (1, .int (iI l1)), (2, .int (iI l2)), (3, .int (iI l3)), (4, .int (iI l4)), (5, .int (iI l5))]) (by decide) (Nat.le_of_ble_eq_true rfl) rfl (fun A p e s m below meth c ls X hZ hS hl => ?_)
  obtain ⟨hx, hb, hr, hml, hown, hts, hlk, hK, hA, hL, hX⟩ := id X
  replace hf : (if 0 ≤ l0 ∧ l0 < K.2 12 then zbind (f_S_eventAt K l0 l1 l2 l3 F B) (fun r2 F2 B2 => (if r2 < 0 then f_S_pitch_29 K F2 B2 else if r32 l4 then (if l4 < 0 then f_S_pitch_29 K F2 B2 else if 0 ≤ r2 ∧ r2 < K.2 1 then if r32 (F2 1 r2 10) then (if l4 < (F2 1 r2 10) then if r32 l5 then (if l5 = 0 then if 0 ≤ l4 ∧ l4 < 6 then some (B2 1 r2 12 l4, F2, B2) else none else (if l5 = 1 then if 0 ≤ l4 ∧ l4 < 6 then some (B2 1 r2 13 l4, F2, B2) else none else (if l5 = 2 then zbind (f_Event_tone K r2 l4 F2 B2) (fun r15 F15 B15 => some (r15, F15, B15)) else some ((-2147483648), F2, B2)))) else none else f_S_pitch_29 K F2 B2) else none else none) else none)) else none) = some (r, F9, B9) := hf
  refine lv_aload_n hx hb d_1_14_0 rfl (lv_at hl 0 rfl) ?_
  refine lv_iload_n hx hb d_1_14_1 rfl (lv_at hl 1 rfl) ?_
  refine lv_iload_n hx hb d_1_14_2 rfl (lv_at hl 2 rfl) ?_
  refine lv_iload_n hx hb d_1_14_3 rfl (lv_at hl 3 rfl) ?_
  obtain ⟨g1, hf⟩ := gif hf
  obtain ⟨r2, F2, B2, hc2, hf⟩ := gbind hf
  refine va_callq (va_runV (As := [.int (iI l1), .int (iI l2), .int (iI l3)]) (rest := []) ⟨hx, hb, hml, hown, hts⟩ (c_S_eventAt (l := l) hc2) (cwV 3 hts (gdV k_6_180 k_6_182 ks_78 k_1_1 k_6_183) rfl rfl rfl (by decide +kernel) ⟨Nat.le_of_ble_eq_true rfl, Nat.le_of_ble_eq_true rfl⟩) (zPV X hZ hS (ci := 12) g1.1 g1.2 (r := (RX12, TX12, 10)) rfl [.int (iI l1), .int (iI l2), .int (iI l3)]) rfl rfl hl.1 rfl (lv_room (Nat.le_of_ble_eq_true rfl)) d_1_14_4 ⟨Nat.le_of_ble_eq_true rfl, Nat.le_of_ble_eq_true rfl⟩) hS (fun q _ h => zAin X hS q h) (zAin X hS) (fun p2 u2 t2 H2 locs2 ht2 hv2 hw2 hB2 hz2 hk2 hS2 => ?_)
  have hZ2 := zBack X ht2 hB2
  subst hw2
  refine zastore (lv' := [(0, .ref (ad 12 l0 0)), (1, .int (iI l1)), (2, .int (iI l2)), (3, .int (iI l3)), (4, .int (iI l4)), (5, .int (iI l5))]) hx hb d_1_14_7 hl (by decide) (fun _ _ => rfl) (fun ls hl => ?_)
  refine zaload hx hb d_1_14_9 (lv_at hl 0 rfl) ?_
  refine zifnull (tgt := 29) hx hb d_1_14_11 (by decide) (fun h3 => ?_) (fun h3 => ?_)
  · replace hf := gpos hf h3
    exact b_S_pitch_29 X hf hZ2 hS2 (lv_sub hl [] rfl)
  · replace hf := gneg hf h3
    refine lv_iload hx hb d_1_14_14 (lv_at hl 5 rfl) ?_
    obtain ⟨g4, hf⟩ := gif hf
    refine z0lt (tgt := 29) hx hb g4 d_1_14_16 (by decide) (fun h5 => ?_) (fun h5 => ?_)
    · replace hf := gpos hf h5
      exact b_S_pitch_29 X hf hZ2 hS2 (lv_sub hl [] rfl)
    · replace hf := gneg hf h5
      refine lv_iload hx hb d_1_14_19 (lv_at hl 5 rfl) ?_
      refine zaload hx hb d_1_14_21 (lv_at hl 0 rfl) ?_
      obtain ⟨g6, hf⟩ := gif hf
      refine zunrf g6.1 ?_
      refine zget (ci := 1) (C := RX1) (T := TX1) (v := .int (iI (F2 1 r2 10))) (k := 10) hx hb hts inW_1 hown hK hZ2 g6.1 g6.2 rfl (by decide) k_2_52 rfl d_1_14_23 ?_
      obtain ⟨g7, hf⟩ := gif hf
      refine zlt (tgt := 32) hx hb g4 g7 d_1_14_26 (by decide) (fun h8 => ?_) (fun h8 => ?_)
      · replace hf := gpos hf h8
        refine lv_iload hx hb d_1_14_32 (lv_at hl 6 rfl) ?_
        obtain ⟨g9, hf⟩ := gif hf
        by_cases h10 : l5 = 0
        · replace hf := gpos hf h10
          refine lv_tableIn (off := 26) (tgt := 60) hx hb d_1_14_34 (by rw [iI_to g9, h10]; decide) (by rw [iI_to g9, h10]; decide) (by rw [iI_to g9, h10]; rfl) (by decide) ?_
          refine zaload hx hb d_1_14_60 (lv_at hl 0 rfl) ?_
          refine zunrf g6.1 ?_
          refine zget (ci := 1) (C := RX1) (T := TX1) (v := .ref (ad 1 r2 (12 + 1))) (k := 12) hx hb hts inW_1 hown hK hZ2 g6.1 g6.2 rfl (by decide) k_2_62 rfl d_1_14_62 ?_
          refine lv_iload hx hb d_1_14_65 (lv_at hl 5 rfl) ?_
          obtain ⟨g11, hf⟩ := gif hf
          refine zald (ci := 1) (k := 12) hx hb hK rfl hZ2 g6.1 g6.2 rfl (Nat.le_of_ble_eq_true rfl) g11.1 g11.2 d_1_14_67 ?_
          cases hf
          exact W.iret hx hb hr (fun t ht hW => ⟨⟨_, (), rfl, rfl, by rw [ht]; exact hZ2, va_K.moved hW.alike hK⟩, hS2.F ht⟩) hS2.2.2 d_1_14_68 hlk
        replace hf := gneg hf h10
        by_cases h12 : l5 = 1
        · replace hf := gpos hf h12
          refine lv_tableIn (off := 35) (tgt := 69) hx hb d_1_14_34 (by rw [iI_to g9, h12]; decide) (by rw [iI_to g9, h12]; decide) (by rw [iI_to g9, h12]; rfl) (by decide) ?_
          refine zaload hx hb d_1_14_69 (lv_at hl 0 rfl) ?_
          refine zunrf g6.1 ?_
          refine zget (ci := 1) (C := RX1) (T := TX1) (v := .ref (ad 1 r2 (13 + 1))) (k := 13) hx hb hts inW_1 hown hK hZ2 g6.1 g6.2 rfl (by decide) k_2_68 rfl d_1_14_71 ?_
          refine lv_iload hx hb d_1_14_74 (lv_at hl 5 rfl) ?_
          obtain ⟨g13, hf⟩ := gif hf
          refine zald (ci := 1) (k := 13) hx hb hK rfl hZ2 g6.1 g6.2 rfl (Nat.le_of_ble_eq_true rfl) g13.1 g13.2 d_1_14_76 ?_
          cases hf
          exact W.iret hx hb hr (fun t ht hW => ⟨⟨_, (), rfl, rfl, by rw [ht]; exact hZ2, va_K.moved hW.alike hK⟩, hS2.F ht⟩) hS2.2.2 d_1_14_77 hlk
        replace hf := gneg hf h12
        by_cases h14 : l5 = 2
        · replace hf := gpos hf h14
          refine lv_tableIn (off := 44) (tgt := 78) hx hb d_1_14_34 (by rw [iI_to g9, h14]; decide) (by rw [iI_to g9, h14]; decide) (by rw [iI_to g9, h14]; rfl) (by decide) ?_
          refine zaload hx hb d_1_14_78 (lv_at hl 0 rfl) ?_
          refine lv_iload hx hb d_1_14_80 (lv_at hl 5 rfl) ?_
          refine W.eq (g2 := F0 m 82 ls [.int (iI l4), .ref (ad 1 r2 0)]) (by rw [zrf_pos (ad := ad) (t := 1) g6.1]; try rfl) ?_
          obtain ⟨r15, F15, B15, hc15, hf⟩ := gbind hf
          refine va_calli (va_runV (As := [.int (iI l4)]) (rest := []) ⟨hx, hb, hml, hown, hts⟩ (c_Event_tone (l := l) hc15) (cwV 1 hts (gdV k_6_200 k_6_22 k_6_23 k_1_8 k_6_24) rfl rfl rfl (by decide +kernel) ⟨Nat.le_of_ble_eq_true rfl, Nat.le_of_ble_eq_true rfl⟩) (zPV X hZ2 hS2 (ci := 1) g6.1 g6.2 (r := (RX1, TX1, 14)) rfl [.int (iI l4)]) rfl rfl hl.1 rfl (lv_room (Nat.le_of_ble_eq_true rfl)) d_1_14_82 ⟨Nat.le_of_ble_eq_true rfl, Nat.le_of_ble_eq_true rfl⟩) hS2 (fun q _ h => zAin X hS2 q h) (zAin X hS2) (fun p15 u15 t15 H15 locs15 ht15 hv15 hw15 hB15 hz15 hk15 hS15 => ?_)
          have hZ15 := zBack X ht15 hB15
          subst hw15
          cases hf
          exact W.iret hx hb hr (fun t ht hW => ⟨⟨_, (), rfl, rfl, by rw [ht]; exact hZ15, va_K.moved hW.alike hK⟩, hS15.F ht⟩) hS15.2.2 d_1_14_85 hlk
        replace hf := gneg hf h14
        refine lv_tableOut (tgt := 86) hx hb d_1_14_34 (by rw [iI_to g9]; omega) (by decide) ?_
        refine lv_ldc hx hb hown (hts _ k_6_199) d_1_14_86 ?_
        refine W.eq (g2 := F0 m 88 ls [.int (iI (-2147483648))]) rfl ?_
        cases hf
        exact W.iret hx hb hr (fun t ht hW => ⟨⟨_, (), rfl, rfl, by rw [ht]; exact hZ2, va_K.moved hW.alike hK⟩, hS2.F ht⟩) hS2.2.2 d_1_14_88 hlk
      · replace hf := gneg hf h8
        exact b_S_pitch_29 X hf hZ2 hS2 (lv_sub hl [] rfl)

noncomputable abbrev Q_S_note (K : zK) (D : va_G) (ca : Nat → ClassId) (ad : Nat → Int → Nat → Nat) (L : List Nat) (r : Int) (F : zF) (B : zB) (A : Nat → Prop) : Array Value → State → Outcome → State → Prop := va_Ql (S := Unit) (fun p _ => p = lI r) (fun _ => zPo D ca ad lnC K.2 L F B A) A
noncomputable def f_S_note_89 (K : zK) (s0 : Int) (F : zF) (B : zB) : zO := some (s0, F, B)
set_option maxHeartbeats 4000000 in
set_option maxRecDepth 100000 in
theorem b_S_note_89 {D : va_G} {ca : Nat → ClassId} {ad : Nat → Int → Nat → Nat} {L : List Nat} {aS vS : Nat → Nat} {A : Nat → Prop} {p : Program} {l : Launch} {e : Env} {s : State} {m : MethodId} {args : Array Value} {below : List Frame} {meth : Method} {c : Code} {K : zK} {r : Int} {F9 : zF} {B9 : zB} (X : zX D ca L aS vS A p s m args meth c prog_1_method_15_code 6 (Option.some Jvm.ClassFile.FieldType.long) "StaveHouse") {s0 : Int} {F : zF} {B : zB} {H : Heap} {locs : List Loc} {ls : Array Slot} (hf : f_S_note_89 K s0 F B = some (r, F9, B9)) (hZ : zH D ca ad lnC K.2 L F B A H) (hS : va_S A s.heap H locs) (hl : lv_has ls 6 []) : W p l e ({ frames := 2, cells := 0, slots := 0, locals := 53 } : Room) s m args below meth c H locs 0 0 (MQ below (Q_S_note K D ca ad L r F9 B9 A) args s 0 0 A) (F0 m 89 ls [.long (lI s0)]) := by
  obtain ⟨hx, hb, hr, hml, hown, hts, hlk, hK, hA, hL, hX⟩ := id X
  replace hf : (some (s0, F, B)) = some (r, F9, B9) := hf
  cases hf
  exact W.lret hx hb hr (fun t ht hW => ⟨⟨_, (), rfl, rfl, by rw [ht]; exact hZ, va_K.moved hW.alike hK⟩, hS.F ht⟩) hS.2.2 d_1_15_89 hlk

noncomputable def f_S_note_38 (K : zK)  (F : zF) (B : zB) : zO := some ((-1), F, B)
set_option maxHeartbeats 4000000 in
set_option maxRecDepth 100000 in
theorem b_S_note_38 {D : va_G} {ca : Nat → ClassId} {ad : Nat → Int → Nat → Nat} {L : List Nat} {aS vS : Nat → Nat} {A : Nat → Prop} {p : Program} {l : Launch} {e : Env} {s : State} {m : MethodId} {args : Array Value} {below : List Frame} {meth : Method} {c : Code} {K : zK} {r : Int} {F9 : zF} {B9 : zB} (X : zX D ca L aS vS A p s m args meth c prog_1_method_15_code 6 (Option.some Jvm.ClassFile.FieldType.long) "StaveHouse")  {F : zF} {B : zB} {H : Heap} {locs : List Loc} {ls : Array Slot} (hf : f_S_note_38 K  F B = some (r, F9, B9)) (hZ : zH D ca ad lnC K.2 L F B A H) (hS : va_S A s.heap H locs) (hl : lv_has ls 6 []) : W p l e ({ frames := 2, cells := 0, slots := 0, locals := 53 } : Room) s m args below meth c H locs 0 0 (MQ below (Q_S_note K D ca ad L r F9 B9 A) args s 0 0 A) (F0 m 38 ls []) := by
  obtain ⟨hx, hb, hr, hml, hown, hts, hlk, hK, hA, hL, hX⟩ := id X
  replace hf : (some ((-1), F, B)) = some (r, F9, B9) := hf
  refine lv_ldc2 hx hb hown (hts _ k_6_184) d_1_15_38 ?_
  refine W.eq (g2 := F0 m 41 ls [.long (lI (-1))]) rfl ?_
  cases hf
  exact W.lret hx hb hr (fun t ht hW => ⟨⟨_, (), rfl, rfl, by rw [ht]; exact hZ, va_K.moved hW.alike hK⟩, hS.F ht⟩) hS.2.2 d_1_15_41 hlk

noncomputable def f_S_note (K : zK) (l0 : Int) (l1 : Int) (l2 : Int) (l3 : Int) (l4 : Int) (F : zF) (B : zB) : zO := if 0 ≤ l0 ∧ l0 < K.2 12 then zbind (f_S_partAt K l0 l1 l2 F B) (fun r2 F2 B2 => (if r2 < 0 then f_S_note_38 K F2 B2 else if r32 l3 then (if l3 < 0 then f_S_note_38 K F2 B2 else if 0 ≤ r2 ∧ r2 < K.2 4 then if r32 (F2 4 r2 10) then (if (F2 4 r2 10) ≤ l3 then f_S_note_38 K F2 B2 else if r32 l4 then (if l4 < 0 then f_S_note_38 K F2 B2 else (if l4 < 12 then (if l4 = 2 then if 0 ≤ l3 ∧ l3 < 800 then zbind (f_S_above K (B2 4 r2 9 l3) F2 B2) (fun r20 F20 B20 => some (r20, F20, B20)) else none else (if l4 = 3 then if 0 ≤ l3 ∧ l3 < 800 then zbind (f_S_below K (B2 4 r2 9 l3) F2 B2) (fun r18 F18 B18 => f_S_note_89 K r18 F18 B18) else none else if 0 ≤ l4 ∧ l4 < 12 then if 0 ≤ l3 ∧ l3 < 800 then if r32 (B2 4 r2 (360 + l4.toNat) l3) then f_S_note_89 K (B2 4 r2 (360 + l4.toNat) l3) F2 B2 else none else none else none)) else f_S_note_38 K F2 B2)) else none) else none else none) else none)) else none
set_option maxHeartbeats 4000000 in
set_option maxRecDepth 100000 in
theorem c_S_note {l : Launch} {D : va_G} {ca : Nat → ClassId} {ad : Nat → Int → Nat → Nat} {L : List Nat} {aS vS : Nat → Nat} {sz : Nat} {K : zK}  {l0 : Int} {l1 : Int} {l2 : Int} {l3 : Int} {l4 : Int} {F F9 : zF} {B B9 : zB} {r : Int} (hf : f_S_note K l0 l1 l2 l3 l4 F B = some (r, F9, B9)) : Met l ({ cls := "StaveHouse", name := "note", desc := "(IIII)J" } : Jvm.MethodName) (Cond.code ({ cls := "StaveHouse", name := "note", desc := "(IIII)J" } : Jvm.MethodName) prog_1_method_15_code 6 (Option.some Jvm.ClassFile.FieldType.long) :: wAll) ({ frames := 2, cells := 0, slots := 0, locals := 53 } : Room) (va_Pc [.ref (ad 12 l0 0), .int (iI l1), .int (iI l2), .int (iI l3), .int (iI l4)] (zPre D ca ad lnC K.2 L aS vS F B sz)) (Q_S_note K D ca ad L r F9 B9 (zA L sz)) 0 0 (zA L sz) := by
  refine zMet (Qc := Q_S_note K D ca ad L r F9 B9) (lv := [(0, .ref (ad 12 l0 0)), (1, .int (iI l1)), (2, .int (iI l2)), (3, .int (iI l3)), (4, .int (iI l4))]) (by decide) (Nat.le_of_ble_eq_true rfl) rfl (fun A p e s m below meth c ls X hZ hS hl => ?_)
  obtain ⟨hx, hb, hr, hml, hown, hts, hlk, hK, hA, hL, hX⟩ := id X
  replace hf : (if 0 ≤ l0 ∧ l0 < K.2 12 then zbind (f_S_partAt K l0 l1 l2 F B) (fun r2 F2 B2 => (if r2 < 0 then f_S_note_38 K F2 B2 else if r32 l3 then (if l3 < 0 then f_S_note_38 K F2 B2 else if 0 ≤ r2 ∧ r2 < K.2 4 then if r32 (F2 4 r2 10) then (if (F2 4 r2 10) ≤ l3 then f_S_note_38 K F2 B2 else if r32 l4 then (if l4 < 0 then f_S_note_38 K F2 B2 else (if l4 < 12 then (if l4 = 2 then if 0 ≤ l3 ∧ l3 < 800 then zbind (f_S_above K (B2 4 r2 9 l3) F2 B2) (fun r20 F20 B20 => some (r20, F20, B20)) else none else (if l4 = 3 then if 0 ≤ l3 ∧ l3 < 800 then zbind (f_S_below K (B2 4 r2 9 l3) F2 B2) (fun r18 F18 B18 => f_S_note_89 K r18 F18 B18) else none else if 0 ≤ l4 ∧ l4 < 12 then if 0 ≤ l3 ∧ l3 < 800 then if r32 (B2 4 r2 (360 + l4.toNat) l3) then f_S_note_89 K (B2 4 r2 (360 + l4.toNat) l3) F2 B2 else none else none else none)) else f_S_note_38 K F2 B2)) else none) else none else none) else none)) else none) = some (r, F9, B9) := hf
  refine lv_aload_n hx hb d_1_15_0 rfl (lv_at hl 0 rfl) ?_
  refine lv_iload_n hx hb d_1_15_1 rfl (lv_at hl 1 rfl) ?_
  refine lv_iload_n hx hb d_1_15_2 rfl (lv_at hl 2 rfl) ?_
  obtain ⟨g1, hf⟩ := gif hf
  obtain ⟨r2, F2, B2, hc2, hf⟩ := gbind hf
  refine va_callq (va_runV (As := [.int (iI l1), .int (iI l2)]) (rest := []) ⟨hx, hb, hml, hown, hts⟩ (c_S_partAt (l := l) hc2) (cwV 2 hts (gdV k_6_168 k_6_170 ks_77 k_1_1 k_6_171) rfl rfl rfl (by decide +kernel) ⟨Nat.le_of_ble_eq_true rfl, Nat.le_of_ble_eq_true rfl⟩) (zPV X hZ hS (ci := 12) g1.1 g1.2 (r := (RX12, TX12, 10)) rfl [.int (iI l1), .int (iI l2)]) rfl rfl hl.1 rfl (lv_room (Nat.le_of_ble_eq_true rfl)) d_1_15_3 ⟨Nat.le_of_ble_eq_true rfl, Nat.le_of_ble_eq_true rfl⟩) hS (fun q _ h => zAin X hS q h) (zAin X hS) (fun p2 u2 t2 H2 locs2 ht2 hv2 hw2 hB2 hz2 hk2 hS2 => ?_)
  have hZ2 := zBack X ht2 hB2
  subst hw2
  refine zastore (lv' := [(0, .ref (ad 12 l0 0)), (1, .int (iI l1)), (2, .int (iI l2)), (3, .int (iI l3)), (4, .int (iI l4))]) hx hb d_1_15_6 hl (by decide) (fun _ _ => rfl) (fun ls hl => ?_)
  refine zaload hx hb d_1_15_8 (lv_at hl 0 rfl) ?_
  refine zifnull (tgt := 38) hx hb d_1_15_10 (by decide) (fun h3 => ?_) (fun h3 => ?_)
  · replace hf := gpos hf h3
    exact b_S_note_38 X hf hZ2 hS2 (lv_sub hl [] rfl)
  · replace hf := gneg hf h3
    refine lv_iload_n hx hb d_1_15_13 rfl (lv_at hl 4 rfl) ?_
    obtain ⟨g4, hf⟩ := gif hf
    refine z0lt (tgt := 38) hx hb g4 d_1_15_14 (by decide) (fun h5 => ?_) (fun h5 => ?_)
    · replace hf := gpos hf h5
      exact b_S_note_38 X hf hZ2 hS2 (lv_sub hl [] rfl)
    · replace hf := gneg hf h5
      refine lv_iload_n hx hb d_1_15_17 rfl (lv_at hl 4 rfl) ?_
      refine zaload hx hb d_1_15_18 (lv_at hl 0 rfl) ?_
      obtain ⟨g6, hf⟩ := gif hf
      refine zunrf g6.1 ?_
      refine zget (ci := 4) (C := RX4) (T := TX4) (v := .int (iI (F2 4 r2 10))) (k := 10) hx hb hts inW_4 hown hK hZ2 g6.1 g6.2 rfl (by decide) k_4_150 rfl d_1_15_20 ?_
      obtain ⟨g7, hf⟩ := gif hf
      refine zge (tgt := 38) hx hb g4 g7 d_1_15_23 (by decide) (fun h8 => ?_) (fun h8 => ?_)
      · replace hf := gpos hf h8
        exact b_S_note_38 X hf hZ2 hS2 (lv_sub hl [] rfl)
      · replace hf := gneg hf h8
        refine lv_iload hx hb d_1_15_26 (lv_at hl 5 rfl) ?_
        obtain ⟨g9, hf⟩ := gif hf
        refine z0lt (tgt := 38) hx hb g9 d_1_15_28 (by decide) (fun h10 => ?_) (fun h10 => ?_)
        · replace hf := gpos hf h10
          exact b_S_note_38 X hf hZ2 hS2 (lv_sub hl [] rfl)
        · replace hf := gneg hf h10
          refine lv_iload hx hb d_1_15_31 (lv_at hl 5 rfl) ?_
          refine lv_bipush (v := iI 12) hx hb d_1_15_33 (by decide) ?_
          refine zlt (tgt := 42) hx hb g9 (by decide) d_1_15_35 (by decide) (fun h11 => ?_) (fun h11 => ?_)
          · replace hf := gpos hf h11
            refine lv_iload hx hb d_1_15_42 (lv_at hl 5 rfl) ?_
            refine lv_iconst (v := iI 2) hx hb d_1_15_44 rfl ?_
            refine zne (tgt := 59) hx hb g9 (by decide) d_1_15_45 (by decide) (fun h12 => ?_) (fun h12 => ?_)
            · replace hf := gneg hf h12
              refine lv_iload hx hb d_1_15_59 (lv_at hl 5 rfl) ?_
              refine lv_iconst (v := iI 3) hx hb d_1_15_61 rfl ?_
              refine zne (tgt := 78) hx hb g9 (by decide) d_1_15_62 (by decide) (fun h13 => ?_) (fun h13 => ?_)
              · replace hf := gneg hf h13
                refine zaload hx hb d_1_15_78 (lv_at hl 0 rfl) ?_
                refine zunrf g6.1 ?_
                refine zget (ci := 4) (C := RX4) (T := TX4) (v := .ref (ad 4 r2 (8 + 1))) (k := 8) hx hb hts inW_4 hown hK hZ2 g6.1 g6.2 rfl (by decide) k_4_144 rfl d_1_15_80 ?_
                refine lv_iload hx hb d_1_15_83 (lv_at hl 5 rfl) ?_
                obtain ⟨g14, hf⟩ := gif hf
                refine zaldQ (t := 0) (ci := 4) (k := 8) hx hb hK rfl hZ2 g6.1 g6.2 rfl (Nat.le_of_ble_eq_true rfl) g14.1 g14.2 d_1_15_85 ?_
                refine W.eq (g2 := F0 m 86 ls [.ref (ad 4 r2 (360 + l4.toNat + 1))]) rfl ?_
                refine lv_iload_n hx hb d_1_15_86 rfl (lv_at hl 4 rfl) ?_
                obtain ⟨g15, hf⟩ := gif hf
                refine zald (ci := 4) (k := (360 + l4.toNat)) hx hb hK rfl hZ2 g6.1 g6.2 (zkq (c := 4) (b := 360) (n := 12) (t := 0) (by decide) g14.1 g14.2) (lnq_le (c := 4) (b := 360) (n := 12) (m := 800) (by decide) (by decide) (by decide) g14.1 g14.2) g15.1 (lnq_lt (c := 4) (b := 360) (n := 12) (m := 800) (by decide) (by decide) g14.1 g14.2 g15.2) d_1_15_87 ?_
                obtain ⟨g16, hf⟩ := gif hf
                refine zi2l hx hb g16 d_1_15_88 ?_
                exact b_S_note_89 X hf hZ2 hS2 (lv_sub hl [] rfl)
              · replace hf := gpos hf h13
                refine zaload hx hb d_1_15_65 (lv_at hl 0 rfl) ?_
                refine zunrf g6.1 ?_
                refine zget (ci := 4) (C := RX4) (T := TX4) (v := .ref (ad 4 r2 (9 + 1))) (k := 9) hx hb hts inW_4 hown hK hZ2 g6.1 g6.2 rfl (by decide) k_4_147 rfl d_1_15_67 ?_
                refine lv_iload_n hx hb d_1_15_70 rfl (lv_at hl 4 rfl) ?_
                obtain ⟨g17, hf⟩ := gif hf
                refine zlald (ci := 4) (k := 9) hx hb hK rfl hZ2 g6.1 g6.2 rfl (Nat.le_of_ble_eq_true rfl) g17.1 g17.2 d_1_15_71 ?_
                obtain ⟨r18, F18, B18, hc18, hf⟩ := gbind hf
                refine va_calll (va_runS (As := [.long (lI (B2 4 r2 9 l3))]) (rest := []) ⟨hx, hb, hml, hown, hts⟩ (c_S_below (l := l) hc18) (va_cwS 1 hts (gdS k_6_192 k_6_193 k_1_1 k_6_194) rfl rfl rfl (by decide +kernel) ⟨Nat.le_of_ble_eq_true rfl, Nat.le_of_ble_eq_true rfl⟩) (zPS X hZ2 hS2 [.long (lI (B2 4 r2 9 l3))]) rfl rfl hl.1 rfl (lv_room (Nat.le_of_ble_eq_true rfl)) d_1_15_72 ⟨Nat.le_of_ble_eq_true rfl, Nat.le_of_ble_eq_true rfl⟩) hS2 (fun q _ h => zAin X hS2 q h) (zAin X hS2) (fun p18 u18 t18 H18 locs18 ht18 hv18 hw18 hB18 hz18 hk18 hS18 => ?_)
                have hZ18 := zBack X ht18 hB18
                subst hw18
                refine lv_goto (tgt := 89) hx hb d_1_15_75 (by decide) ?_
                exact b_S_note_89 X hf hZ18 hS18 (lv_sub hl [] rfl)
            · replace hf := gpos hf h12
              refine zaload hx hb d_1_15_48 (lv_at hl 0 rfl) ?_
              refine zunrf g6.1 ?_
              refine zget (ci := 4) (C := RX4) (T := TX4) (v := .ref (ad 4 r2 (9 + 1))) (k := 9) hx hb hts inW_4 hown hK hZ2 g6.1 g6.2 rfl (by decide) k_4_147 rfl d_1_15_50 ?_
              refine lv_iload_n hx hb d_1_15_53 rfl (lv_at hl 4 rfl) ?_
              obtain ⟨g19, hf⟩ := gif hf
              refine zlald (ci := 4) (k := 9) hx hb hK rfl hZ2 g6.1 g6.2 rfl (Nat.le_of_ble_eq_true rfl) g19.1 g19.2 d_1_15_54 ?_
              obtain ⟨r20, F20, B20, hc20, hf⟩ := gbind hf
              refine va_calll (va_runS (As := [.long (lI (B2 4 r2 9 l3))]) (rest := []) ⟨hx, hb, hml, hown, hts⟩ (c_S_above (l := l) hc20) (va_cwS 1 hts (gdS k_6_185 k_6_186 k_1_1 k_6_187) rfl rfl rfl (by decide +kernel) ⟨Nat.le_of_ble_eq_true rfl, Nat.le_of_ble_eq_true rfl⟩) (zPS X hZ2 hS2 [.long (lI (B2 4 r2 9 l3))]) rfl rfl hl.1 rfl (lv_room (Nat.le_of_ble_eq_true rfl)) d_1_15_55 ⟨Nat.le_of_ble_eq_true rfl, Nat.le_of_ble_eq_true rfl⟩) hS2 (fun q _ h => zAin X hS2 q h) (zAin X hS2) (fun p20 u20 t20 H20 locs20 ht20 hv20 hw20 hB20 hz20 hk20 hS20 => ?_)
              have hZ20 := zBack X ht20 hB20
              subst hw20
              cases hf
              exact W.lret hx hb hr (fun t ht hW => ⟨⟨_, (), rfl, rfl, by rw [ht]; exact hZ20, va_K.moved hW.alike hK⟩, hS20.F ht⟩) hS20.2.2 d_1_15_58 hlk
          · replace hf := gneg hf h11
            exact b_S_note_38 X hf hZ2 hS2 (lv_sub hl [] rfl)

noncomputable abbrev Q_Layout_nextPlace (K : zK) (D : va_G) (ca : Nat → ClassId) (ad : Nat → Int → Nat → Nat) (L : List Nat) (r : Int) (F : zF) (B : zB) (A : Nat → Prop) : Array Value → State → Outcome → State → Prop := va_Ql (S := Unit) (fun p _ => p = lI r) (fun _ => zPo D ca ad lnC K.2 L F B A) A
noncomputable def f_Layout_nextPlace_79 (rec7 : Int → Int → Int → Int → Int → zF → zB → zO) (K : zK) (l5 : Int) (l3 : Int) (l0 : Int) (l1 : Int) (l2 : Int) (F : zF) (B : zB) : zO := rec7 (l5 + 1) l3 l0 l1 l2 F B
set_option maxHeartbeats 4000000 in
set_option maxRecDepth 100000 in
theorem b_Layout_nextPlace_79 {D : va_G} {ca : Nat → ClassId} {ad : Nat → Int → Nat → Nat} {L : List Nat} {aS vS : Nat → Nat} {A : Nat → Prop} {p : Program} {l : Launch} {e : Env} {s : State} {m : MethodId} {args : Array Value} {below : List Frame} {meth : Method} {c : Code} {K : zK} {r : Int} {F9 : zF} {B9 : zB} (X : zX D ca L aS vS A p s m args meth c prog_4_method_5_code 7 (Option.some Jvm.ClassFile.FieldType.long) "StaveHouse$Layout") {rec7 : Int → Int → Int → Int → Int → zF → zB → zO} (hrec7 : ∀ {l5 : Int} {l3 : Int} {l0 : Int} {l1 : Int} {l2 : Int} {F : zF} {B : zB} {H : Heap} {locs : List Loc} {ls : Array Slot}, rec7 l5 l3 l0 l1 l2 F B = some (r, F9, B9) → zH D ca ad lnC K.2 L F B A H → va_S A s.heap H locs → lv_has ls 7 [(5, .int (iI l5)), (3, .long (lI l3)), (0, .ref (ad 2 l0 0)), (1, .ref (ad 6 l1 0)), (2, .int (iI l2))] → W p l e ({ frames := 1, cells := 0, slots := 0, locals := 22 } : Room) s m args below meth c H locs 0 0 (MQ below (Q_Layout_nextPlace K D ca ad L r F9 B9 A) args s 0 0 A) (F0 m 7 ls [])) {l5 : Int} {l3 : Int} {l0 : Int} {l1 : Int} {l2 : Int} {F : zF} {B : zB} {H : Heap} {locs : List Loc} {ls : Array Slot} (hf : f_Layout_nextPlace_79 rec7 K l5 l3 l0 l1 l2 F B = some (r, F9, B9)) (hZ : zH D ca ad lnC K.2 L F B A H) (hS : va_S A s.heap H locs) (hl : lv_has ls 7 [(5, .int (iI l5)), (3, .long (lI l3)), (0, .ref (ad 2 l0 0)), (1, .ref (ad 6 l1 0)), (2, .int (iI l2))]) : W p l e ({ frames := 1, cells := 0, slots := 0, locals := 22 } : Room) s m args below meth c H locs 0 0 (MQ below (Q_Layout_nextPlace K D ca ad L r F9 B9 A) args s 0 0 A) (F0 m 79 ls []) := by
  obtain ⟨hx, hb, hr, hml, hown, hts, hlk, hK, hA, hL, hX⟩ := id X
  replace hf : (rec7 (l5 + 1) l3 l0 l1 l2 F B) = some (r, F9, B9) := hf
  refine lv_iinc (v := iI (l5 + 1)) (lv' := [(5, .int (iI (l5 + 1))), (3, .long (lI l3)), (0, .ref (ad 2 l0 0)), (1, .ref (ad 6 l1 0)), (2, .int (iI l2))]) hx hb d_4_5_79 hl (k := 0) rfl (iI_add _ 1) (by decide) rfl (fun ls hl => ?_)
  refine lv_goto (tgt := 7) hx hb d_4_5_82 (by decide) ?_
  exact hrec7 hf hZ hS (lv_sub hl [0, 1, 2, 3, 4] rfl)

noncomputable def f_Layout_nextPlace_65 (rec7 : Int → Int → Int → Int → Int → zF → zB → zO) (K : zK) (l6 : Int) (l5 : Int) (l0 : Int) (l1 : Int) (l2 : Int) (F : zF) (B : zB) : zO := if 0 ≤ l6 ∧ l6 < K.2 4 then if 0 ≤ l0 ∧ l0 < K.2 2 then if 0 ≤ l5 ∧ l5 < 4 then if 0 ≤ (B 2 l0 12 l5) ∧ (B 2 l0 12 l5) < 800 then f_Layout_nextPlace_79 rec7 K l5 (B 4 l6 9 (B 2 l0 12 l5)) l0 l1 l2 F B else none else none else none else none
set_option maxHeartbeats 4000000 in
set_option maxRecDepth 100000 in
theorem b_Layout_nextPlace_65 {D : va_G} {ca : Nat → ClassId} {ad : Nat → Int → Nat → Nat} {L : List Nat} {aS vS : Nat → Nat} {A : Nat → Prop} {p : Program} {l : Launch} {e : Env} {s : State} {m : MethodId} {args : Array Value} {below : List Frame} {meth : Method} {c : Code} {K : zK} {r : Int} {F9 : zF} {B9 : zB} (X : zX D ca L aS vS A p s m args meth c prog_4_method_5_code 7 (Option.some Jvm.ClassFile.FieldType.long) "StaveHouse$Layout") {rec7 : Int → Int → Int → Int → Int → zF → zB → zO} (hrec7 : ∀ {l5 : Int} {l3 : Int} {l0 : Int} {l1 : Int} {l2 : Int} {F : zF} {B : zB} {H : Heap} {locs : List Loc} {ls : Array Slot}, rec7 l5 l3 l0 l1 l2 F B = some (r, F9, B9) → zH D ca ad lnC K.2 L F B A H → va_S A s.heap H locs → lv_has ls 7 [(5, .int (iI l5)), (3, .long (lI l3)), (0, .ref (ad 2 l0 0)), (1, .ref (ad 6 l1 0)), (2, .int (iI l2))] → W p l e ({ frames := 1, cells := 0, slots := 0, locals := 22 } : Room) s m args below meth c H locs 0 0 (MQ below (Q_Layout_nextPlace K D ca ad L r F9 B9 A) args s 0 0 A) (F0 m 7 ls [])) {l6 : Int} {l5 : Int} {l0 : Int} {l1 : Int} {l2 : Int} {F : zF} {B : zB} {H : Heap} {locs : List Loc} {ls : Array Slot} (hf : f_Layout_nextPlace_65 rec7 K l6 l5 l0 l1 l2 F B = some (r, F9, B9)) (hZ : zH D ca ad lnC K.2 L F B A H) (hS : va_S A s.heap H locs) (hl : lv_has ls 7 [(6, va_rf (zrf ad 4 l6)), (5, .int (iI l5)), (0, .ref (ad 2 l0 0)), (1, .ref (ad 6 l1 0)), (2, .int (iI l2))]) : W p l e ({ frames := 1, cells := 0, slots := 0, locals := 22 } : Room) s m args below meth c H locs 0 0 (MQ below (Q_Layout_nextPlace K D ca ad L r F9 B9 A) args s 0 0 A) (F0 m 65 ls []) := by
  obtain ⟨hx, hb, hr, hml, hown, hts, hlk, hK, hA, hL, hX⟩ := id X
  replace hf : (if 0 ≤ l6 ∧ l6 < K.2 4 then if 0 ≤ l0 ∧ l0 < K.2 2 then if 0 ≤ l5 ∧ l5 < 4 then if 0 ≤ (B 2 l0 12 l5) ∧ (B 2 l0 12 l5) < 800 then f_Layout_nextPlace_79 rec7 K l5 (B 4 l6 9 (B 2 l0 12 l5)) l0 l1 l2 F B else none else none else none else none) = some (r, F9, B9) := hf
  refine zaload hx hb d_4_5_65 (lv_at hl 0 rfl) ?_
  obtain ⟨g16, hf⟩ := gif hf
  refine zunrf g16.1 ?_
  refine zget (ci := 4) (C := RX4) (T := TX4) (v := .ref (ad 4 l6 (9 + 1))) (k := 9) hx hb hts inW_4 hown hK hZ g16.1 g16.2 rfl (by decide) k_4_146 rfl d_4_5_67 ?_
  refine lv_aload_n hx hb d_4_5_70 rfl (lv_at hl 2 rfl) ?_
  obtain ⟨g17, hf⟩ := gif hf
  refine zget (ci := 2) (C := RX2) (T := TX2) (v := .ref (ad 2 l0 (12 + 1))) (k := 12) hx hb hts inW_2 hown hK hZ g17.1 g17.2 rfl (by decide) k_6_229 rfl d_4_5_71 ?_
  refine lv_iload hx hb d_4_5_74 (lv_at hl 1 rfl) ?_
  obtain ⟨g18, hf⟩ := gif hf
  refine zald (ci := 2) (k := 12) hx hb hK rfl hZ g17.1 g17.2 rfl (Nat.le_of_ble_eq_true rfl) g18.1 g18.2 d_4_5_76 ?_
  obtain ⟨g19, hf⟩ := gif hf
  refine zlald (ci := 4) (k := 9) hx hb hK rfl hZ g16.1 g16.2 rfl (Nat.le_of_ble_eq_true rfl) g19.1 g19.2 d_4_5_77 ?_
  refine lv_lstore_n (lv' := [(3, .long (lI (B 4 l6 9 (B 2 l0 12 l5)))), (6, va_rf (zrf ad 4 l6)), (5, .int (iI l5)), (0, .ref (ad 2 l0 0)), (1, .ref (ad 6 l1 0)), (2, .int (iI l2))]) hx hb d_4_5_78 rfl hl (by decide) rfl (fun ls hl => ?_)
  exact b_Layout_nextPlace_79 X hrec7 hf hZ hS (lv_sub hl [2, 0, 3, 4, 5] rfl)

noncomputable def f_Layout_nextPlace_7 (K : zK) : Nat → Int → Int → Int → Int → Int → zF → zB → zO
  | 0, _, _, _, _, _, _, _ => none
  | n + 1, l5, l3, l0, l1, l2, F, B => if 0 ≤ l1 ∧ l1 < K.2 6 then if r32 l5 then if r32 (F 6 l1 1) then (if (F 6 l1 1) ≤ l5 then some (l3, F, B) else if 0 ≤ l5 ∧ l5 < 4 then if 0 ≤ l0 ∧ l0 < K.2 2 then if 0 ≤ (B 6 l1 0 l5) ∧ (B 6 l1 0 l5) < K.2 4 then zbind (f_Layout_beginsIn K (B 6 l1 0 l5) (B 2 l0 12 l5) l2 F B) (fun r8 F8 B8 => if r32 r8 then (if r8 = 0 then f_Layout_nextPlace_79 (f_Layout_nextPlace_7 K n) K l5 l3 l0 l1 l2 F8 B8 else if r64 l3 then (if (zcmp l3 0) < 0 then f_Layout_nextPlace_65 (f_Layout_nextPlace_7 K n) K (B 6 l1 0 l5) l5 l0 l1 l2 F8 B8 else if 0 ≤ (B8 2 l0 12 l5) ∧ (B8 2 l0 12 l5) < 800 then if r64 (B8 4 (B 6 l1 0 l5) 9 (B8 2 l0 12 l5)) then (if 0 ≤ (zcmp (B8 4 (B 6 l1 0 l5) 9 (B8 2 l0 12 l5)) l3) then f_Layout_nextPlace_79 (f_Layout_nextPlace_7 K n) K l5 l3 l0 l1 l2 F8 B8 else f_Layout_nextPlace_65 (f_Layout_nextPlace_7 K n) K (B 6 l1 0 l5) l5 l0 l1 l2 F8 B8) else none else none) else none) else none) else none else none else none) else none else none else none
set_option maxHeartbeats 4000000 in
set_option maxRecDepth 100000 in
theorem b_Layout_nextPlace_7 {D : va_G} {ca : Nat → ClassId} {ad : Nat → Int → Nat → Nat} {L : List Nat} {aS vS : Nat → Nat} {A : Nat → Prop} {p : Program} {l : Launch} {e : Env} {s : State} {m : MethodId} {args : Array Value} {below : List Frame} {meth : Method} {c : Code} {K : zK} {r : Int} {F9 : zF} {B9 : zB} (X : zX D ca L aS vS A p s m args meth c prog_4_method_5_code 7 (Option.some Jvm.ClassFile.FieldType.long) "StaveHouse$Layout") : ∀ {n : Nat} {l5 : Int} {l3 : Int} {l0 : Int} {l1 : Int} {l2 : Int} {F : zF} {B : zB} {H : Heap} {locs : List Loc} {ls : Array Slot}, f_Layout_nextPlace_7 K n l5 l3 l0 l1 l2 F B = some (r, F9, B9) → zH D ca ad lnC K.2 L F B A H → va_S A s.heap H locs → lv_has ls 7 [(5, .int (iI l5)), (3, .long (lI l3)), (0, .ref (ad 2 l0 0)), (1, .ref (ad 6 l1 0)), (2, .int (iI l2))] → W p l e ({ frames := 1, cells := 0, slots := 0, locals := 22 } : Room) s m args below meth c H locs 0 0 (MQ below (Q_Layout_nextPlace K D ca ad L r F9 B9 A) args s 0 0 A) (F0 m 7 ls []) := by
  obtain ⟨hx, hb, hr, hml, hown, hts, hlk, hK, hA, hL, hX⟩ := id X
  intro n
  induction n with
  | zero =>
    intros
    rename_i hf _ _ _
    cases hf
  | succ n ih =>
    intro l5 l3 l0 l1 l2 F B H locs ls hf hZ hS hl
    replace hf : (if 0 ≤ l1 ∧ l1 < K.2 6 then if r32 l5 then if r32 (F 6 l1 1) then (if (F 6 l1 1) ≤ l5 then some (l3, F, B) else if 0 ≤ l5 ∧ l5 < 4 then if 0 ≤ l0 ∧ l0 < K.2 2 then if 0 ≤ (B 6 l1 0 l5) ∧ (B 6 l1 0 l5) < K.2 4 then zbind (f_Layout_beginsIn K (B 6 l1 0 l5) (B 2 l0 12 l5) l2 F B) (fun r8 F8 B8 => if r32 r8 then (if r8 = 0 then f_Layout_nextPlace_79 (f_Layout_nextPlace_7 K n) K l5 l3 l0 l1 l2 F8 B8 else if r64 l3 then (if (zcmp l3 0) < 0 then f_Layout_nextPlace_65 (f_Layout_nextPlace_7 K n) K (B 6 l1 0 l5) l5 l0 l1 l2 F8 B8 else if 0 ≤ (B8 2 l0 12 l5) ∧ (B8 2 l0 12 l5) < 800 then if r64 (B8 4 (B 6 l1 0 l5) 9 (B8 2 l0 12 l5)) then (if 0 ≤ (zcmp (B8 4 (B 6 l1 0 l5) 9 (B8 2 l0 12 l5)) l3) then f_Layout_nextPlace_79 (f_Layout_nextPlace_7 K n) K l5 l3 l0 l1 l2 F8 B8 else f_Layout_nextPlace_65 (f_Layout_nextPlace_7 K n) K (B 6 l1 0 l5) l5 l0 l1 l2 F8 B8) else none else none) else none) else none) else none else none else none) else none else none else none) = some (r, F9, B9) := hf
    refine lv_iload hx hb d_4_5_7 (lv_at hl 0 rfl) ?_
    refine lv_aload_n hx hb d_4_5_9 rfl (lv_at hl 3 rfl) ?_
    obtain ⟨g1, hf⟩ := gif hf
    refine zget (ci := 6) (C := RX6) (T := TX6) (v := .int (iI (F 6 l1 1))) (k := 1) hx hb hts inW_6 hown hK hZ g1.1 g1.2 rfl (by decide) k_2_193 rfl d_4_5_10 ?_
    obtain ⟨g2, hf⟩ := gif hf
    obtain ⟨g3, hf⟩ := gif hf
    refine zge (tgt := 85) hx hb g2 g3 d_4_5_13 (by decide) (fun h4 => ?_) (fun h4 => ?_)
    · replace hf := gpos hf h4
      refine lv_lload_n hx hb d_4_5_85 rfl (lv_at hl 1 rfl) ?_
      cases hf
      exact W.lret hx hb hr (fun t ht hW => ⟨⟨_, (), rfl, rfl, by rw [ht]; exact hZ, va_K.moved hW.alike hK⟩, hS.F ht⟩) hS.2.2 d_4_5_86 hlk
    · replace hf := gneg hf h4
      refine lv_aload_n hx hb d_4_5_16 rfl (lv_at hl 3 rfl) ?_
      refine zget (ci := 6) (C := RX6) (T := TX6) (v := .ref (ad 6 l1 (0 + 1))) (k := 0) hx hb hts inW_6 hown hK hZ g1.1 g1.2 rfl (by decide) k_2_188 rfl d_4_5_17 ?_
      refine lv_iload hx hb d_4_5_20 (lv_at hl 0 rfl) ?_
      obtain ⟨g5, hf⟩ := gif hf
      refine zaldR (t := 4) (x := 6) (ci := 6) (k := 0) hx hb hK rfl rfl hZ g1.1 g1.2 rfl (Nat.le_of_ble_eq_true rfl) g5.1 g5.2 d_4_5_22 ?_
      refine zastore (lv' := [(5, .int (iI l5)), (3, .long (lI l3)), (0, .ref (ad 2 l0 0)), (1, .ref (ad 6 l1 0)), (2, .int (iI l2))]) hx hb d_4_5_23 hl (by decide) (fun _ _ => rfl) (fun ls hl => ?_)
      refine zaload hx hb d_4_5_25 (lv_at hl 0 rfl) ?_
      refine lv_aload_n hx hb d_4_5_27 rfl (lv_at hl 3 rfl) ?_
      obtain ⟨g6, hf⟩ := gif hf
      refine zget (ci := 2) (C := RX2) (T := TX2) (v := .ref (ad 2 l0 (12 + 1))) (k := 12) hx hb hts inW_2 hown hK hZ g6.1 g6.2 rfl (by decide) k_6_229 rfl d_4_5_28 ?_
      refine lv_iload hx hb d_4_5_31 (lv_at hl 1 rfl) ?_
      refine zald (ci := 2) (k := 12) hx hb hK rfl hZ g6.1 g6.2 rfl (Nat.le_of_ble_eq_true rfl) g5.1 g5.2 d_4_5_33 ?_
      refine lv_iload_n hx hb d_4_5_34 rfl (lv_at hl 5 rfl) ?_
      obtain ⟨g7, hf⟩ := gif hf
      refine W.eq (g2 := F0 m 35 ls [.int (iI l2), .int (iI (B 2 l0 12 l5)), .ref (ad 4 (B 6 l1 0 l5) 0)]) (by rw [zrf_pos (ad := ad) (t := 4) g7.1]; try rfl) ?_
      obtain ⟨r8, F8, B8, hc8, hf⟩ := gbind hf
      refine va_calli (va_runS (As := [.ref (ad 4 (B 6 l1 0 l5) 0), .int (iI (B 2 l0 12 l5)), .int (iI l2)]) (rest := []) ⟨hx, hb, hml, hown, hts⟩ (c_Layout_beginsIn (l := l) hc8) (va_cwS 3 hts (gdS k_7_35 k_7_36 k_1_21 k_7_37) rfl rfl rfl (by decide +kernel) ⟨Nat.le_of_ble_eq_true rfl, Nat.le_of_ble_eq_true rfl⟩) (zPS X hZ hS [.ref (ad 4 (B 6 l1 0 l5) 0), .int (iI (B 2 l0 12 l5)), .int (iI l2)]) rfl rfl hl.1 rfl (lv_room (Nat.le_of_ble_eq_true rfl)) d_4_5_35 ⟨Nat.le_of_ble_eq_true rfl, Nat.le_of_ble_eq_true rfl⟩) hS (fun q _ h => zAin X hS q h) (zAin X hS) (fun p8 u8 t8 H8 locs8 ht8 hv8 hw8 hB8 hz8 hk8 hS8 => ?_)
      have hZ8 := zBack X ht8 hB8
      subst hw8
      obtain ⟨g9, hf⟩ := gif hf
      refine z0eq (tgt := 79) hx hb g9 d_4_5_38 (by decide) (fun h10 => ?_) (fun h10 => ?_)
      · replace hf := gpos hf h10
        exact b_Layout_nextPlace_79 X ih hf hZ8 hS8 (lv_sub hl [1, 2, 3, 4, 5] rfl)
      · replace hf := gneg hf h10
        refine lv_lload_n hx hb d_4_5_41 rfl (lv_at hl 2 rfl) ?_
        refine lv_lconst (v := lI 0) hx hb d_4_5_42 (by decide) ?_
        obtain ⟨g11, hf⟩ := gif hf
        refine zcmp_r hx hb g11 (by decide) d_4_5_43 ?_
        refine z0lt (tgt := 65) hx hb zcmp_32 d_4_5_44 (by decide) (fun h12 => ?_) (fun h12 => ?_)
        · replace hf := gpos hf h12
          exact b_Layout_nextPlace_65 X ih hf hZ8 hS8 (lv_sub hl [0, 1, 3, 4, 5] rfl)
        · replace hf := gneg hf h12
          refine zaload hx hb d_4_5_47 (lv_at hl 0 rfl) ?_
          refine zunrf g7.1 ?_
          refine zget (ci := 4) (C := RX4) (T := TX4) (v := .ref (ad 4 (B 6 l1 0 l5) (9 + 1))) (k := 9) hx hb hts inW_4 hown hK hZ8 g7.1 g7.2 rfl (by decide) k_4_146 rfl d_4_5_49 ?_
          refine lv_aload_n hx hb d_4_5_52 rfl (lv_at hl 3 rfl) ?_
          refine zget (ci := 2) (C := RX2) (T := TX2) (v := .ref (ad 2 l0 (12 + 1))) (k := 12) hx hb hts inW_2 hown hK hZ8 g6.1 g6.2 rfl (by decide) k_6_229 rfl d_4_5_53 ?_
          refine lv_iload hx hb d_4_5_56 (lv_at hl 1 rfl) ?_
          refine zald (ci := 2) (k := 12) hx hb hK rfl hZ8 g6.1 g6.2 rfl (Nat.le_of_ble_eq_true rfl) g5.1 g5.2 d_4_5_58 ?_
          obtain ⟨g13, hf⟩ := gif hf
          refine zlald (ci := 4) (k := 9) hx hb hK rfl hZ8 g7.1 g7.2 rfl (Nat.le_of_ble_eq_true rfl) g13.1 g13.2 d_4_5_59 ?_
          refine lv_lload_n hx hb d_4_5_60 rfl (lv_at hl 2 rfl) ?_
          obtain ⟨g14, hf⟩ := gif hf
          refine zcmp_r hx hb g14 g11 d_4_5_61 ?_
          refine z0ge (tgt := 79) hx hb zcmp_32 d_4_5_62 (by decide) (fun h15 => ?_) (fun h15 => ?_)
          · replace hf := gpos hf h15
            exact b_Layout_nextPlace_79 X ih hf hZ8 hS8 (lv_sub hl [1, 2, 3, 4, 5] rfl)
          · replace hf := gneg hf h15
            exact b_Layout_nextPlace_65 X ih hf hZ8 hS8 (lv_sub hl [0, 1, 3, 4, 5] rfl)

noncomputable def f_Layout_nextPlace (K : zK) (l0 : Int) (l1 : Int) (l2 : Int) (F : zF) (B : zB) : zO := f_Layout_nextPlace_7 K K.1 0 (-1) l0 l1 l2 F B
set_option maxHeartbeats 4000000 in
set_option maxRecDepth 100000 in
theorem c_Layout_nextPlace {l : Launch} {D : va_G} {ca : Nat → ClassId} {ad : Nat → Int → Nat → Nat} {L : List Nat} {aS vS : Nat → Nat} {sz : Nat} {K : zK}  {l0 : Int} {l1 : Int} {l2 : Int} {F F9 : zF} {B B9 : zB} {r : Int} (hf : f_Layout_nextPlace K l0 l1 l2 F B = some (r, F9, B9)) : Met l ({ cls := "StaveHouse$Layout", name := "nextPlace", desc := "(LStaveHouse$Piece;I)J" } : Jvm.MethodName) (Cond.code ({ cls := "StaveHouse$Layout", name := "nextPlace", desc := "(LStaveHouse$Piece;I)J" } : Jvm.MethodName) prog_4_method_5_code 7 (Option.some Jvm.ClassFile.FieldType.long) :: wAll) ({ frames := 1, cells := 0, slots := 0, locals := 22 } : Room) (va_Pc [.ref (ad 2 l0 0), .ref (ad 6 l1 0), .int (iI l2)] (zPre D ca ad lnC K.2 L aS vS F B sz)) (Q_Layout_nextPlace K D ca ad L r F9 B9 (zA L sz)) 0 0 (zA L sz) := by
  refine zMet (Qc := Q_Layout_nextPlace K D ca ad L r F9 B9) (lv := [(0, .ref (ad 2 l0 0)), (1, .ref (ad 6 l1 0)), (2, .int (iI l2))]) (by decide) (Nat.le_of_ble_eq_true rfl) rfl (fun A p e s m below meth c ls X hZ hS hl => ?_)
  obtain ⟨hx, hb, hr, hml, hown, hts, hlk, hK, hA, hL, hX⟩ := id X
  replace hf : (f_Layout_nextPlace_7 K K.1 0 (-1) l0 l1 l2 F B) = some (r, F9, B9) := hf
  refine lv_ldc2 hx hb hown (hts _ k_7_34) d_4_5_0 ?_
  refine W.eq (g2 := F0 m 3 ls [.long (lI (-1))]) rfl ?_
  refine lv_lstore_n (lv' := [(3, .long (lI (-1))), (0, .ref (ad 2 l0 0)), (1, .ref (ad 6 l1 0)), (2, .int (iI l2))]) hx hb d_4_5_3 rfl hl (by decide) rfl (fun ls hl => ?_)
  refine lv_iconst (v := iI 0) hx hb d_4_5_4 rfl ?_
  refine lv_istore (lv' := [(5, .int (iI 0)), (3, .long (lI (-1))), (0, .ref (ad 2 l0 0)), (1, .ref (ad 6 l1 0)), (2, .int (iI l2))]) hx hb d_4_5_5 hl (by decide) rfl (fun ls hl => ?_)
  exact b_Layout_nextPlace_7 X hf hZ hS (lv_sub hl [0, 1, 2, 3, 4] rfl)

noncomputable abbrev Q_Layout_choose (K : zK) (D : va_G) (ca : Nat → ClassId) (ad : Nat → Int → Nat → Nat) (L : List Nat) (r : Int) (F : zF) (B : zB) (A : Nat → Prop) : Array Value → State → Outcome → State → Prop := va_Qv (S := Unit) (fun _ => True) (fun _ => zPo D ca ad lnC K.2 L F B A) A
noncomputable def f_Layout_choose_145 (rec12 : Int → Int → Int → Int → Int → zF → zB → zO) (K : zK) (l4 : Int) (l0 : Int) (l1 : Int) (l2 : Int) (l3 : Int) (F : zF) (B : zB) : zO := rec12 (l4 - 1) l0 l1 l2 l3 F B
set_option maxHeartbeats 4000000 in
set_option maxRecDepth 100000 in
theorem b_Layout_choose_145 {D : va_G} {ca : Nat → ClassId} {ad : Nat → Int → Nat → Nat} {L : List Nat} {aS vS : Nat → Nat} {A : Nat → Prop} {p : Program} {l : Launch} {e : Env} {s : State} {m : MethodId} {args : Array Value} {below : List Frame} {meth : Method} {c : Code} {K : zK} {r : Int} {F9 : zF} {B9 : zB} (X : zX D ca L aS vS A p s m args meth c prog_4_method_10_code 9 (Option.none : Option Jvm.ClassFile.FieldType) "StaveHouse$Layout") {rec12 : Int → Int → Int → Int → Int → zF → zB → zO} (hrec12 : ∀ {l4 : Int} {l0 : Int} {l1 : Int} {l2 : Int} {l3 : Int} {F : zF} {B : zB} {H : Heap} {locs : List Loc} {ls : Array Slot}, rec12 l4 l0 l1 l2 l3 F B = some (r, F9, B9) → zH D ca ad lnC K.2 L F B A H → va_S A s.heap H locs → lv_has ls 9 [(4, .int (iI l4)), (0, .ref (ad 2 l0 0)), (1, .ref (ad 6 l1 0)), (2, .int (iI l2)), (3, .int (iI l3))] → W p l e ({ frames := 2, cells := 0, slots := 0, locals := 36 } : Room) s m args below meth c H locs 0 0 (MQ below (Q_Layout_choose K D ca ad L r F9 B9 A) args s 0 0 A) (F0 m 12 ls [])) {l4 : Int} {l0 : Int} {l1 : Int} {l2 : Int} {l3 : Int} {F : zF} {B : zB} {H : Heap} {locs : List Loc} {ls : Array Slot} (hf : f_Layout_choose_145 rec12 K l4 l0 l1 l2 l3 F B = some (r, F9, B9)) (hZ : zH D ca ad lnC K.2 L F B A H) (hS : va_S A s.heap H locs) (hl : lv_has ls 9 [(4, .int (iI l4)), (0, .ref (ad 2 l0 0)), (1, .ref (ad 6 l1 0)), (2, .int (iI l2)), (3, .int (iI l3))]) : W p l e ({ frames := 2, cells := 0, slots := 0, locals := 36 } : Room) s m args below meth c H locs 0 0 (MQ below (Q_Layout_choose K D ca ad L r F9 B9 A) args s 0 0 A) (F0 m 145 ls []) := by
  obtain ⟨hx, hb, hr, hml, hown, hts, hlk, hK, hA, hL, hX⟩ := id X
  replace hf : (rec12 (l4 - 1) l0 l1 l2 l3 F B) = some (r, F9, B9) := hf
  refine lv_iinc (v := iI (l4 - 1)) (lv' := [(4, .int (iI (l4 - 1))), (0, .ref (ad 2 l0 0)), (1, .ref (ad 6 l1 0)), (2, .int (iI l2)), (3, .int (iI l3))]) hx hb d_4_10_145 hl (k := 0) rfl (by rw [show Int32.ofInt (-1) = iI (-1) from rfl, iI_add]; congr 1) (by decide) rfl (fun ls hl => ?_)
  refine lv_goto (tgt := 12) hx hb d_4_10_148 (by decide) ?_
  exact hrec12 hf hZ hS (lv_sub hl [0, 1, 2, 3, 4] rfl)

noncomputable def f_Layout_choose_139 (rec12 : Int → Int → Int → Int → Int → zF → zB → zO) (rec41 : Int → Int → Int → Int → Int → Int → Int → zF → zB → zO) (K : zK) (l5 : Int) (l6 : Int) (l4 : Int) (l0 : Int) (l1 : Int) (l2 : Int) (l3 : Int) (F : zF) (B : zB) : zO := rec41 (l6 + 1) l5 l4 l0 l1 l2 l3 F B
set_option maxHeartbeats 4000000 in
set_option maxRecDepth 100000 in
theorem b_Layout_choose_139 {D : va_G} {ca : Nat → ClassId} {ad : Nat → Int → Nat → Nat} {L : List Nat} {aS vS : Nat → Nat} {A : Nat → Prop} {p : Program} {l : Launch} {e : Env} {s : State} {m : MethodId} {args : Array Value} {below : List Frame} {meth : Method} {c : Code} {K : zK} {r : Int} {F9 : zF} {B9 : zB} (X : zX D ca L aS vS A p s m args meth c prog_4_method_10_code 9 (Option.none : Option Jvm.ClassFile.FieldType) "StaveHouse$Layout") {rec12 : Int → Int → Int → Int → Int → zF → zB → zO} {rec41 : Int → Int → Int → Int → Int → Int → Int → zF → zB → zO} (hrec12 : ∀ {l4 : Int} {l0 : Int} {l1 : Int} {l2 : Int} {l3 : Int} {F : zF} {B : zB} {H : Heap} {locs : List Loc} {ls : Array Slot}, rec12 l4 l0 l1 l2 l3 F B = some (r, F9, B9) → zH D ca ad lnC K.2 L F B A H → va_S A s.heap H locs → lv_has ls 9 [(4, .int (iI l4)), (0, .ref (ad 2 l0 0)), (1, .ref (ad 6 l1 0)), (2, .int (iI l2)), (3, .int (iI l3))] → W p l e ({ frames := 2, cells := 0, slots := 0, locals := 36 } : Room) s m args below meth c H locs 0 0 (MQ below (Q_Layout_choose K D ca ad L r F9 B9 A) args s 0 0 A) (F0 m 12 ls [])) (hrec41 : ∀ {l6 : Int} {l5 : Int} {l4 : Int} {l0 : Int} {l1 : Int} {l2 : Int} {l3 : Int} {F : zF} {B : zB} {H : Heap} {locs : List Loc} {ls : Array Slot}, rec41 l6 l5 l4 l0 l1 l2 l3 F B = some (r, F9, B9) → zH D ca ad lnC K.2 L F B A H → va_S A s.heap H locs → lv_has ls 9 [(6, .int (iI l6)), (5, .int (iI l5)), (4, .int (iI l4)), (0, .ref (ad 2 l0 0)), (1, .ref (ad 6 l1 0)), (2, .int (iI l2)), (3, .int (iI l3))] → W p l e ({ frames := 2, cells := 0, slots := 0, locals := 36 } : Room) s m args below meth c H locs 0 0 (MQ below (Q_Layout_choose K D ca ad L r F9 B9 A) args s 0 0 A) (F0 m 41 ls [])) {l5 : Int} {l6 : Int} {l4 : Int} {l0 : Int} {l1 : Int} {l2 : Int} {l3 : Int} {F : zF} {B : zB} {H : Heap} {locs : List Loc} {ls : Array Slot} (hf : f_Layout_choose_139 rec12 rec41 K l5 l6 l4 l0 l1 l2 l3 F B = some (r, F9, B9)) (hZ : zH D ca ad lnC K.2 L F B A H) (hS : va_S A s.heap H locs) (hl : lv_has ls 9 [(5, .int (iI l5)), (6, .int (iI l6)), (4, .int (iI l4)), (0, .ref (ad 2 l0 0)), (1, .ref (ad 6 l1 0)), (2, .int (iI l2)), (3, .int (iI l3))]) : W p l e ({ frames := 2, cells := 0, slots := 0, locals := 36 } : Room) s m args below meth c H locs 0 0 (MQ below (Q_Layout_choose K D ca ad L r F9 B9 A) args s 0 0 A) (F0 m 139 ls []) := by
  obtain ⟨hx, hb, hr, hml, hown, hts, hlk, hK, hA, hL, hX⟩ := id X
  replace hf : (rec41 (l6 + 1) l5 l4 l0 l1 l2 l3 F B) = some (r, F9, B9) := hf
  refine lv_iinc (v := iI (l6 + 1)) (lv' := [(6, .int (iI (l6 + 1))), (5, .int (iI l5)), (4, .int (iI l4)), (0, .ref (ad 2 l0 0)), (1, .ref (ad 6 l1 0)), (2, .int (iI l2)), (3, .int (iI l3))]) hx hb d_4_10_139 hl (k := 1) rfl (iI_add _ 1) (by decide) rfl (fun ls hl => ?_)
  refine lv_goto (tgt := 41) hx hb d_4_10_142 (by decide) ?_
  exact hrec41 hf hZ hS (lv_sub hl [0, 1, 2, 3, 4, 5, 6] rfl)

noncomputable def f_Layout_choose_95 (rec12 : Int → Int → Int → Int → Int → zF → zB → zO) (rec41 : Int → Int → Int → Int → Int → Int → Int → zF → zB → zO) (K : zK) (l5 : Int) (l6 : Int) (l4 : Int) (l0 : Int) (l1 : Int) (l2 : Int) (l3 : Int) (s0 : Int) (s1 : Int) (s2 : Int) (F : zF) (B : zB) : zO := zbind (f_Layout_price K s0 s1 s2 F B) (fun r25 F25 B25 => if 0 ≤ l0 ∧ l0 < K.2 2 then if 0 ≤ l6 ∧ l6 < 101 then if 0 ≤ l4 ∧ l4 < 101 then if r64 (r25 + (B25 2 l0 10 l6)) then if r64 (B25 2 l0 10 l4) then (if 0 < (zcmp (r25 + (B25 2 l0 10 l6)) (B25 2 l0 10 l4)) then f_Layout_choose_139 rec12 rec41 K l5 l6 l4 l0 l1 l2 l3 F25 B25 else f_Layout_choose_139 rec12 rec41 K l5 l6 l4 l0 l1 l2 l3 F25 (zup4 (zup4 B25 2 l0 10 l4 (r25 + (B25 2 l0 10 l6))) 2 l0 11 l4 l6)) else none else none else none else none else none)
set_option maxHeartbeats 4000000 in
set_option maxRecDepth 100000 in
theorem b_Layout_choose_95 {D : va_G} {ca : Nat → ClassId} {ad : Nat → Int → Nat → Nat} {L : List Nat} {aS vS : Nat → Nat} {A : Nat → Prop} {p : Program} {l : Launch} {e : Env} {s : State} {m : MethodId} {args : Array Value} {below : List Frame} {meth : Method} {c : Code} {K : zK} {r : Int} {F9 : zF} {B9 : zB} (X : zX D ca L aS vS A p s m args meth c prog_4_method_10_code 9 (Option.none : Option Jvm.ClassFile.FieldType) "StaveHouse$Layout") {rec12 : Int → Int → Int → Int → Int → zF → zB → zO} {rec41 : Int → Int → Int → Int → Int → Int → Int → zF → zB → zO} (hrec12 : ∀ {l4 : Int} {l0 : Int} {l1 : Int} {l2 : Int} {l3 : Int} {F : zF} {B : zB} {H : Heap} {locs : List Loc} {ls : Array Slot}, rec12 l4 l0 l1 l2 l3 F B = some (r, F9, B9) → zH D ca ad lnC K.2 L F B A H → va_S A s.heap H locs → lv_has ls 9 [(4, .int (iI l4)), (0, .ref (ad 2 l0 0)), (1, .ref (ad 6 l1 0)), (2, .int (iI l2)), (3, .int (iI l3))] → W p l e ({ frames := 2, cells := 0, slots := 0, locals := 36 } : Room) s m args below meth c H locs 0 0 (MQ below (Q_Layout_choose K D ca ad L r F9 B9 A) args s 0 0 A) (F0 m 12 ls [])) (hrec41 : ∀ {l6 : Int} {l5 : Int} {l4 : Int} {l0 : Int} {l1 : Int} {l2 : Int} {l3 : Int} {F : zF} {B : zB} {H : Heap} {locs : List Loc} {ls : Array Slot}, rec41 l6 l5 l4 l0 l1 l2 l3 F B = some (r, F9, B9) → zH D ca ad lnC K.2 L F B A H → va_S A s.heap H locs → lv_has ls 9 [(6, .int (iI l6)), (5, .int (iI l5)), (4, .int (iI l4)), (0, .ref (ad 2 l0 0)), (1, .ref (ad 6 l1 0)), (2, .int (iI l2)), (3, .int (iI l3))] → W p l e ({ frames := 2, cells := 0, slots := 0, locals := 36 } : Room) s m args below meth c H locs 0 0 (MQ below (Q_Layout_choose K D ca ad L r F9 B9 A) args s 0 0 A) (F0 m 41 ls [])) {l5 : Int} {l6 : Int} {l4 : Int} {l0 : Int} {l1 : Int} {l2 : Int} {l3 : Int} {s0 : Int} {s1 : Int} {s2 : Int} {F : zF} {B : zB} {H : Heap} {locs : List Loc} {ls : Array Slot} (hf : f_Layout_choose_95 rec12 rec41 K l5 l6 l4 l0 l1 l2 l3 s0 s1 s2 F B = some (r, F9, B9)) (hZ : zH D ca ad lnC K.2 L F B A H) (hS : va_S A s.heap H locs) (hl : lv_has ls 9 [(5, .int (iI l5)), (6, .int (iI l6)), (4, .int (iI l4)), (0, .ref (ad 2 l0 0)), (1, .ref (ad 6 l1 0)), (2, .int (iI l2)), (3, .int (iI l3))]) : W p l e ({ frames := 2, cells := 0, slots := 0, locals := 36 } : Room) s m args below meth c H locs 0 0 (MQ below (Q_Layout_choose K D ca ad L r F9 B9 A) args s 0 0 A) (F0 m 95 ls [.int (iI s2), .long (lI s1), .long (lI s0)]) := by
  obtain ⟨hx, hb, hr, hml, hown, hts, hlk, hK, hA, hL, hX⟩ := id X
  replace hf : (zbind (f_Layout_price K s0 s1 s2 F B) (fun r25 F25 B25 => if 0 ≤ l0 ∧ l0 < K.2 2 then if 0 ≤ l6 ∧ l6 < 101 then if 0 ≤ l4 ∧ l4 < 101 then if r64 (r25 + (B25 2 l0 10 l6)) then if r64 (B25 2 l0 10 l4) then (if 0 < (zcmp (r25 + (B25 2 l0 10 l6)) (B25 2 l0 10 l4)) then f_Layout_choose_139 rec12 rec41 K l5 l6 l4 l0 l1 l2 l3 F25 B25 else f_Layout_choose_139 rec12 rec41 K l5 l6 l4 l0 l1 l2 l3 F25 (zup4 (zup4 B25 2 l0 10 l4 (r25 + (B25 2 l0 10 l6))) 2 l0 11 l4 l6)) else none else none else none else none else none)) = some (r, F9, B9) := hf
  obtain ⟨r25, F25, B25, hc25, hf⟩ := gbind hf
  refine va_calll (va_runS (As := [.long (lI s0), .long (lI s1), .int (iI s2)]) (rest := []) ⟨hx, hb, hml, hown, hts⟩ (c_Layout_price (l := l) hc25) (va_cwS 3 hts (gdS k_7_55 k_7_56 k_1_21 k_7_57) rfl rfl rfl (by decide +kernel) ⟨Nat.le_of_ble_eq_true rfl, Nat.le_of_ble_eq_true rfl⟩) (zPS X hZ hS [.long (lI s0), .long (lI s1), .int (iI s2)]) rfl rfl hl.1 rfl (lv_room (Nat.le_of_ble_eq_true rfl)) d_4_10_95 ⟨Nat.le_of_ble_eq_true rfl, Nat.le_of_ble_eq_true rfl⟩) hS (fun q _ h => zAin X hS q h) (zAin X hS) (fun p25 u25 t25 H25 locs25 ht25 hv25 hw25 hB25 hz25 hk25 hS25 => ?_)
  have hZ25 := zBack X ht25 hB25
  subst hw25
  refine lv_aload_n hx hb d_4_10_98 rfl (lv_at hl 3 rfl) ?_
  obtain ⟨g26, hf⟩ := gif hf
  refine zget (ci := 2) (C := RX2) (T := TX2) (v := .ref (ad 2 l0 (10 + 1))) (k := 10) hx hb hts inW_2 hown hK hZ25 g26.1 g26.2 rfl (by decide) k_6_227 rfl d_4_10_99 ?_
  refine lv_iload hx hb d_4_10_102 (lv_at hl 1 rfl) ?_
  obtain ⟨g27, hf⟩ := gif hf
  refine zlald (ci := 2) (k := 10) hx hb hK rfl hZ25 g26.1 g26.2 rfl (Nat.le_of_ble_eq_true rfl) g27.1 g27.2 d_4_10_104 ?_
  refine zladd hx hb d_4_10_105 ?_
  refine lv_lstore (lv' := [(7, .long (lI (r25 + (B25 2 l0 10 l6)))), (5, .int (iI l5)), (6, .int (iI l6)), (4, .int (iI l4)), (0, .ref (ad 2 l0 0)), (1, .ref (ad 6 l1 0)), (2, .int (iI l2)), (3, .int (iI l3))]) hx hb d_4_10_106 hl (by decide) rfl (fun ls hl => ?_)
  refine lv_lload hx hb d_4_10_108 (lv_at hl 0 rfl) ?_
  refine lv_aload_n hx hb d_4_10_110 rfl (lv_at hl 4 rfl) ?_
  refine zget (ci := 2) (C := RX2) (T := TX2) (v := .ref (ad 2 l0 (10 + 1))) (k := 10) hx hb hts inW_2 hown hK hZ25 g26.1 g26.2 rfl (by decide) k_6_227 rfl d_4_10_111 ?_
  refine lv_iload hx hb d_4_10_114 (lv_at hl 3 rfl) ?_
  obtain ⟨g28, hf⟩ := gif hf
  refine zlald (ci := 2) (k := 10) hx hb hK rfl hZ25 g26.1 g26.2 rfl (Nat.le_of_ble_eq_true rfl) g28.1 g28.2 d_4_10_116 ?_
  obtain ⟨g29, hf⟩ := gif hf
  obtain ⟨g30, hf⟩ := gif hf
  refine zcmp_r hx hb g29 g30 d_4_10_117 ?_
  refine z0gt (tgt := 139) hx hb zcmp_32 d_4_10_118 (by decide) (fun h31 => ?_) (fun h31 => ?_)
  · replace hf := gpos hf h31
    exact b_Layout_choose_139 X hrec12 hrec41 hf hZ25 hS25 (lv_sub hl [1, 2, 3, 4, 5, 6, 7] rfl)
  · replace hf := gneg hf h31
    refine lv_aload_n hx hb d_4_10_121 rfl (lv_at hl 4 rfl) ?_
    refine zget (ci := 2) (C := RX2) (T := TX2) (v := .ref (ad 2 l0 (10 + 1))) (k := 10) hx hb hts inW_2 hown hK hZ25 g26.1 g26.2 rfl (by decide) k_6_227 rfl d_4_10_122 ?_
    refine lv_iload hx hb d_4_10_125 (lv_at hl 3 rfl) ?_
    refine lv_lload hx hb d_4_10_127 (lv_at hl 0 rfl) ?_
    refine zlast (ci := 2) (k := 10) hx hb hK rfl hZ25 hS25 g26.1 g26.2 rfl (Nat.le_of_ble_eq_true rfl) g28.1 g28.2 d_4_10_129 (fun H33 locs33 hZ33 hS33 => ?_)
    refine lv_aload_n hx hb d_4_10_130 rfl (lv_at hl 4 rfl) ?_
    refine zget (ci := 2) (C := RX2) (T := TX2) (v := .ref (ad 2 l0 (11 + 1))) (k := 11) hx hb hts inW_2 hown hK hZ33 g26.1 g26.2 rfl (by decide) k_6_228 rfl d_4_10_131 ?_
    refine lv_iload hx hb d_4_10_134 (lv_at hl 3 rfl) ?_
    refine lv_iload hx hb d_4_10_136 (lv_at hl 2 rfl) ?_
    refine zast (ci := 2) (k := 11) hx hb hK rfl hZ33 hS33 g26.1 g26.2 rfl (Nat.le_of_ble_eq_true rfl) g28.1 g28.2 d_4_10_138 (fun H34 locs34 hZ34 hS34 => ?_)
    exact b_Layout_choose_139 X hrec12 hrec41 hf hZ34 hS34 (lv_sub hl [1, 2, 3, 4, 5, 6, 7] rfl)

noncomputable def f_Layout_choose_79 (rec12 : Int → Int → Int → Int → Int → zF → zB → zO) (rec41 : Int → Int → Int → Int → Int → Int → Int → zF → zB → zO) (K : zK) (l5 : Int) (l6 : Int) (l4 : Int) (l0 : Int) (l1 : Int) (l2 : Int) (l3 : Int) (F : zF) (B : zB) : zO := if r32 l3 then if r32 l5 then if r32 l6 then if r32 l2 then (if l6 = l2 then f_Layout_choose_95 rec12 rec41 K l5 l6 l4 l0 l1 l2 l3 l3 l5 1 F B else f_Layout_choose_95 rec12 rec41 K l5 l6 l4 l0 l1 l2 l3 l3 l5 0 F B) else none else none else none else none
set_option maxHeartbeats 4000000 in
set_option maxRecDepth 100000 in
theorem b_Layout_choose_79 {D : va_G} {ca : Nat → ClassId} {ad : Nat → Int → Nat → Nat} {L : List Nat} {aS vS : Nat → Nat} {A : Nat → Prop} {p : Program} {l : Launch} {e : Env} {s : State} {m : MethodId} {args : Array Value} {below : List Frame} {meth : Method} {c : Code} {K : zK} {r : Int} {F9 : zF} {B9 : zB} (X : zX D ca L aS vS A p s m args meth c prog_4_method_10_code 9 (Option.none : Option Jvm.ClassFile.FieldType) "StaveHouse$Layout") {rec12 : Int → Int → Int → Int → Int → zF → zB → zO} {rec41 : Int → Int → Int → Int → Int → Int → Int → zF → zB → zO} (hrec12 : ∀ {l4 : Int} {l0 : Int} {l1 : Int} {l2 : Int} {l3 : Int} {F : zF} {B : zB} {H : Heap} {locs : List Loc} {ls : Array Slot}, rec12 l4 l0 l1 l2 l3 F B = some (r, F9, B9) → zH D ca ad lnC K.2 L F B A H → va_S A s.heap H locs → lv_has ls 9 [(4, .int (iI l4)), (0, .ref (ad 2 l0 0)), (1, .ref (ad 6 l1 0)), (2, .int (iI l2)), (3, .int (iI l3))] → W p l e ({ frames := 2, cells := 0, slots := 0, locals := 36 } : Room) s m args below meth c H locs 0 0 (MQ below (Q_Layout_choose K D ca ad L r F9 B9 A) args s 0 0 A) (F0 m 12 ls [])) (hrec41 : ∀ {l6 : Int} {l5 : Int} {l4 : Int} {l0 : Int} {l1 : Int} {l2 : Int} {l3 : Int} {F : zF} {B : zB} {H : Heap} {locs : List Loc} {ls : Array Slot}, rec41 l6 l5 l4 l0 l1 l2 l3 F B = some (r, F9, B9) → zH D ca ad lnC K.2 L F B A H → va_S A s.heap H locs → lv_has ls 9 [(6, .int (iI l6)), (5, .int (iI l5)), (4, .int (iI l4)), (0, .ref (ad 2 l0 0)), (1, .ref (ad 6 l1 0)), (2, .int (iI l2)), (3, .int (iI l3))] → W p l e ({ frames := 2, cells := 0, slots := 0, locals := 36 } : Room) s m args below meth c H locs 0 0 (MQ below (Q_Layout_choose K D ca ad L r F9 B9 A) args s 0 0 A) (F0 m 41 ls [])) {l5 : Int} {l6 : Int} {l4 : Int} {l0 : Int} {l1 : Int} {l2 : Int} {l3 : Int} {F : zF} {B : zB} {H : Heap} {locs : List Loc} {ls : Array Slot} (hf : f_Layout_choose_79 rec12 rec41 K l5 l6 l4 l0 l1 l2 l3 F B = some (r, F9, B9)) (hZ : zH D ca ad lnC K.2 L F B A H) (hS : va_S A s.heap H locs) (hl : lv_has ls 9 [(5, .int (iI l5)), (6, .int (iI l6)), (4, .int (iI l4)), (0, .ref (ad 2 l0 0)), (1, .ref (ad 6 l1 0)), (2, .int (iI l2)), (3, .int (iI l3))]) : W p l e ({ frames := 2, cells := 0, slots := 0, locals := 36 } : Room) s m args below meth c H locs 0 0 (MQ below (Q_Layout_choose K D ca ad L r F9 B9 A) args s 0 0 A) (F0 m 79 ls []) := by
  obtain ⟨hx, hb, hr, hml, hown, hts, hlk, hK, hA, hL, hX⟩ := id X
  replace hf : (if r32 l3 then if r32 l5 then if r32 l6 then if r32 l2 then (if l6 = l2 then f_Layout_choose_95 rec12 rec41 K l5 l6 l4 l0 l1 l2 l3 l3 l5 1 F B else f_Layout_choose_95 rec12 rec41 K l5 l6 l4 l0 l1 l2 l3 l3 l5 0 F B) else none else none else none else none) = some (r, F9, B9) := hf
  refine lv_iload_n hx hb d_4_10_79 rfl (lv_at hl 6 rfl) ?_
  obtain ⟨g20, hf⟩ := gif hf
  refine zi2l hx hb g20 d_4_10_80 ?_
  refine lv_iload hx hb d_4_10_81 (lv_at hl 0 rfl) ?_
  obtain ⟨g21, hf⟩ := gif hf
  refine zi2l hx hb g21 d_4_10_83 ?_
  refine lv_iload hx hb d_4_10_84 (lv_at hl 1 rfl) ?_
  refine lv_iload_n hx hb d_4_10_86 rfl (lv_at hl 5 rfl) ?_
  obtain ⟨g22, hf⟩ := gif hf
  obtain ⟨g23, hf⟩ := gif hf
  refine zne (tgt := 94) hx hb g22 g23 d_4_10_87 (by decide) (fun h24 => ?_) (fun h24 => ?_)
  · replace hf := gneg hf h24
    refine lv_iconst (v := iI 0) hx hb d_4_10_94 rfl ?_
    exact b_Layout_choose_95 X hrec12 hrec41 hf hZ hS (lv_sub hl [0, 1, 2, 3, 4, 5, 6] rfl)
  · replace hf := gpos hf h24
    refine lv_iconst (v := iI 1) hx hb d_4_10_90 rfl ?_
    refine lv_goto (tgt := 95) hx hb d_4_10_91 (by decide) ?_
    exact b_Layout_choose_95 X hrec12 hrec41 hf hZ hS (lv_sub hl [0, 1, 2, 3, 4, 5, 6] rfl)

noncomputable def f_Layout_choose_41 (rec12 : Int → Int → Int → Int → Int → zF → zB → zO) (K : zK) : Nat → Int → Int → Int → Int → Int → Int → Int → zF → zB → zO
  | 0, _, _, _, _, _, _, _, _, _ => none
  | n + 1, l6, l5, l4, l0, l1, l2, l3, F, B => if r32 l6 then if r32 l2 then (if l2 < l6 then f_Layout_choose_145 rec12 K l4 l0 l1 l2 l3 F B else if 0 ≤ l0 ∧ l0 < K.2 2 then if 0 ≤ (l6 - 1) ∧ (l6 - 1) < 100 then if r32 (l5 + (B 2 l0 6 (l6 - 1))) then if r32 l3 then (if (l5 + (B 2 l0 6 (l6 - 1))) ≤ l3 then f_Layout_choose_79 rec12 (f_Layout_choose_41 rec12 K n) K (l5 + (B 2 l0 6 (l6 - 1))) l6 l4 l0 l1 l2 l3 F B else if r32 (l4 + 1) then (if l6 ≤ (l4 + 1) then f_Layout_choose_79 rec12 (f_Layout_choose_41 rec12 K n) K (l5 + (B 2 l0 6 (l6 - 1))) l6 l4 l0 l1 l2 l3 F B else f_Layout_choose_145 rec12 K l4 l0 l1 l2 l3 F B) else none) else none else none else none else none) else none else none
