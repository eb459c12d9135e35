set_option maxHeartbeats 4000000 in
set_option maxRecDepth 100000 in
theorem c_S_event {l : Launch} {D : va_G} {ca : Nat → ClassId} {ad : Nat → Int → Nat → Nat} {L : List Nat} {aS vS : Nat → Nat} {sz : Nat} {K : zK}  {l0 : Int} {l1 : Int} {l2 : Int} {l3 : Int} {l4 : Int} {F F9 : zF} {B B9 : zB} {r : Int} (hf : f_S_event K l0 l1 l2 l3 l4 F B = some (r, F9, B9)) : Met l ({ cls := "StaveHouse", name := "event", desc := "(IIII)J" } : Jvm.MethodName) (Cond.code ({ cls := "StaveHouse", name := "event", desc := "(IIII)J" } : Jvm.MethodName) prog_1_method_13_code 6 (Option.some Jvm.ClassFile.FieldType.long) :: wAll) ({ frames := 3, cells := 0, slots := 0, locals := 68 } : Room) (va_Pc [.ref (ad 12 l0 0), .int (iI l1), .int (iI l2), .int (iI l3), .int (iI l4)] (zPre D ca ad lnC K.2 L aS vS F B sz)) (Q_S_event K D ca ad L r F9 B9 (zA L sz)) 0 0 (zA L sz) := by
  refine zMet (Qc := Q_S_event K D ca ad L r F9 B9) (lv := [(0, .ref (ad 12 l0 0)), (1, .int (iI l1)), (2, .int (iI l2)), (3, .int (iI l3)), (4, .int (iI l4))]) (by decide) (Nat.le_of_ble_eq_true rfl) rfl (fun A p e s m below meth c ls X hZ hS hl => ?_)
  obtain ⟨hx, hb, hr, hml, hown, hts, hlk, hK, hA, hL, hX⟩ := id X
  replace hf : (if 0 ≤ l0 ∧ l0 < K.2 12 then zbind (f_S_eventAt K l0 l1 l2 l3 F B) (fun r2 F2 B2 => (if r2 < 0 then some ((-1), F2, B2) else if r32 l4 then (if l4 = 0 then if 0 ≤ r2 ∧ r2 < K.2 1 then zbind (f_S_above K (F2 1 r2 0) F2 B2) (fun r7 F7 B7 => some (r7, F7, B7)) else none else (if l4 = 1 then if 0 ≤ r2 ∧ r2 < K.2 1 then zbind (f_S_below K (F2 1 r2 0) F2 B2) (fun r10 F10 B10 => some (r10, F10, B10)) else none else (if l4 = 2 then if 0 ≤ r2 ∧ r2 < K.2 1 then zbind (f_S_above K (F2 1 r2 1) F2 B2) (fun r13 F13 B13 => some (r13, F13, B13)) else none else (if l4 = 3 then if 0 ≤ r2 ∧ r2 < K.2 1 then zbind (f_S_below K (F2 1 r2 1) F2 B2) (fun r16 F16 B16 => some (r16, F16, B16)) else none else (if l4 = 4 then if 0 ≤ r2 ∧ r2 < K.2 1 then if r32 (F2 1 r2 10) then some (F2 1 r2 10, F2, B2) else none else none else (if l4 = 5 then if 0 ≤ r2 ∧ r2 < K.2 1 then if r32 (F2 1 r2 7) then some (F2 1 r2 7, F2, B2) else none else none else (if l4 = 6 then if 0 ≤ r2 ∧ r2 < K.2 1 then if r32 (F2 1 r2 8) then some (F2 1 r2 8, F2, B2) else none else none else (if l4 = 7 then if 0 ≤ r2 ∧ r2 < K.2 1 then if r32 (F2 1 r2 9) then some (F2 1 r2 9, F2, B2) else none else none else some ((-1), F2, B2))))))))) else none)) else none) = some (r, F9, B9) := hf
  refine lv_aload_n hx hb d_1_13_0 rfl (lv_at hl 0 rfl) ?_
  refine lv_iload_n hx hb d_1_13_1 rfl (lv_at hl 1 rfl) ?_
  refine lv_iload_n hx hb d_1_13_2 rfl (lv_at hl 2 rfl) ?_
  refine lv_iload_n hx hb d_1_13_3 rfl (lv_at hl 3 rfl) ?_
  obtain ⟨g1, hf⟩ := gif hf
  obtain ⟨r2, F2, B2, hc2, hf⟩ := gbind hf
  refine va_callq (va_runV (As := [.int (iI l1), .int (iI l2), .int (iI l3)]) (rest := []) ⟨hx, hb, hml, hown, hts⟩ (c_S_eventAt (l := l) hc2) (cwV 3 hts (gdV k_6_180 k_6_182 ks_78 k_1_1 k_6_183) rfl rfl rfl (by decide +kernel) ⟨Nat.le_of_ble_eq_true rfl, Nat.le_of_ble_eq_true rfl⟩) (zPV X hZ hS (ci := 12) g1.1 g1.2 (r := (RX12, TX12, 10)) rfl [.int (iI l1), .int (iI l2), .int (iI l3)]) rfl rfl hl.1 rfl (lv_room (Nat.le_of_ble_eq_true rfl)) d_1_13_4 ⟨Nat.le_of_ble_eq_true rfl, Nat.le_of_ble_eq_true rfl⟩) hS (fun q _ h => zAin X hS q h) (zAin X hS) (fun p2 u2 t2 H2 locs2 ht2 hv2 hw2 hB2 hz2 hk2 hS2 => ?_)
  have hZ2 := zBack X ht2 hB2
  subst hw2
  refine zastore (lv' := [(0, .ref (ad 12 l0 0)), (1, .int (iI l1)), (2, .int (iI l2)), (3, .int (iI l3)), (4, .int (iI l4))]) hx hb d_1_13_7 hl (by decide) (fun _ _ => rfl) (fun ls hl => ?_)
  refine zaload hx hb d_1_13_9 (lv_at hl 0 rfl) ?_
  refine zifnonnull (tgt := 18) hx hb d_1_13_11 (by decide) (fun h3 => ?_) (fun h3 => ?_)
  · replace hf := gneg hf h3
    refine lv_iload hx hb d_1_13_18 (lv_at hl 5 rfl) ?_
    obtain ⟨g4, hf⟩ := gif hf
    by_cases h5 : l4 = 0
    · replace hf := gpos hf h5
      refine lv_tableIn (off := 48) (tgt := 68) hx hb d_1_13_20 (by rw [iI_to g4, h5]; decide) (by rw [iI_to g4, h5]; decide) (by rw [iI_to g4, h5]; rfl) (by decide) ?_
      refine zaload hx hb d_1_13_68 (lv_at hl 0 rfl) ?_
      obtain ⟨g6, hf⟩ := gif hf
      refine zunrf g6.1 ?_
      refine zget (ci := 1) (C := RX1) (T := TX1) (v := .long (lI (F2 1 r2 0))) (k := 0) hx hb hts inW_1 hown hK hZ2 g6.1 g6.2 rfl (by decide) k_2_23 rfl d_1_13_70 ?_
      obtain ⟨r7, F7, B7, hc7, hf⟩ := gbind hf
      refine va_calll (va_runS (As := [.long (lI (F2 1 r2 0))]) (rest := []) ⟨hx, hb, hml, hown, hts⟩ (c_S_above (l := l) hc7) (va_cwS 1 hts (gdS k_6_185 k_6_186 k_1_1 k_6_187) rfl rfl rfl (by decide +kernel) ⟨Nat.le_of_ble_eq_true rfl, Nat.le_of_ble_eq_true rfl⟩) (zPS X hZ2 hS2 [.long (lI (F2 1 r2 0))]) rfl rfl hl.1 rfl (lv_room (Nat.le_of_ble_eq_true rfl)) d_1_13_73 ⟨Nat.le_of_ble_eq_true rfl, Nat.le_of_ble_eq_true rfl⟩) hS2 (fun q _ h => zAin X hS2 q h) (zAin X hS2) (fun p7 u7 t7 H7 locs7 ht7 hv7 hw7 hB7 hz7 hk7 hS7 => ?_)
      have hZ7 := zBack X ht7 hB7
      subst hw7
      cases hf
      exact W.lret hx hb hr (fun t ht hW => ⟨⟨_, (), rfl, rfl, by rw [ht]; exact hZ7, va_K.moved hW.alike hK⟩, hS7.F ht⟩) hS7.2.2 d_1_13_76 hlk
    replace hf := gneg hf h5
    by_cases h8 : l4 = 1
    · replace hf := gpos hf h8
      refine lv_tableIn (off := 57) (tgt := 77) hx hb d_1_13_20 (by rw [iI_to g4, h8]; decide) (by rw [iI_to g4, h8]; decide) (by rw [iI_to g4, h8]; rfl) (by decide) ?_
      refine zaload hx hb d_1_13_77 (lv_at hl 0 rfl) ?_
      obtain ⟨g9, hf⟩ := gif hf
      refine zunrf g9.1 ?_
      refine zget (ci := 1) (C := RX1) (T := TX1) (v := .long (lI (F2 1 r2 0))) (k := 0) hx hb hts inW_1 hown hK hZ2 g9.1 g9.2 rfl (by decide) k_2_23 rfl d_1_13_79 ?_
      obtain ⟨r10, F10, B10, hc10, hf⟩ := gbind hf
      refine va_calll (va_runS (As := [.long (lI (F2 1 r2 0))]) (rest := []) ⟨hx, hb, hml, hown, hts⟩ (c_S_below (l := l) hc10) (va_cwS 1 hts (gdS k_6_192 k_6_193 k_1_1 k_6_194) rfl rfl rfl (by decide +kernel) ⟨Nat.le_of_ble_eq_true rfl, Nat.le_of_ble_eq_true rfl⟩) (zPS X hZ2 hS2 [.long (lI (F2 1 r2 0))]) rfl rfl hl.1 rfl (lv_room (Nat.le_of_ble_eq_true rfl)) d_1_13_82 ⟨Nat.le_of_ble_eq_true rfl, Nat.le_of_ble_eq_true rfl⟩) hS2 (fun q _ h => zAin X hS2 q h) (zAin X hS2) (fun p10 u10 t10 H10 locs10 ht10 hv10 hw10 hB10 hz10 hk10 hS10 => ?_)
      have hZ10 := zBack X ht10 hB10
      subst hw10
      cases hf
      exact W.lret hx hb hr (fun t ht hW => ⟨⟨_, (), rfl, rfl, by rw [ht]; exact hZ10, va_K.moved hW.alike hK⟩, hS10.F ht⟩) hS10.2.2 d_1_13_85 hlk
    replace hf := gneg hf h8
    by_cases h11 : l4 = 2
    · replace hf := gpos hf h11
      refine lv_tableIn (off := 66) (tgt := 86) hx hb d_1_13_20 (by rw [iI_to g4, h11]; decide) (by rw [iI_to g4, h11]; decide) (by rw [iI_to g4, h11]; rfl) (by decide) ?_
      refine zaload hx hb d_1_13_86 (lv_at hl 0 rfl) ?_
      obtain ⟨g12, hf⟩ := gif hf
      refine zunrf g12.1 ?_
      refine zget (ci := 1) (C := RX1) (T := TX1) (v := .long (lI (F2 1 r2 1))) (k := 1) hx hb hts inW_1 hown hK hZ2 g12.1 g12.2 rfl (by decide) k_2_26 rfl d_1_13_88 ?_
      obtain ⟨r13, F13, B13, hc13, hf⟩ := gbind hf
      refine va_calll (va_runS (As := [.long (lI (F2 1 r2 1))]) (rest := []) ⟨hx, hb, hml, hown, hts⟩ (c_S_above (l := l) hc13) (va_cwS 1 hts (gdS k_6_185 k_6_186 k_1_1 k_6_187) rfl rfl rfl (by decide +kernel) ⟨Nat.le_of_ble_eq_true rfl, Nat.le_of_ble_eq_true rfl⟩) (zPS X hZ2 hS2 [.long (lI (F2 1 r2 1))]) rfl rfl hl.1 rfl (lv_room (Nat.le_of_ble_eq_true rfl)) d_1_13_91 ⟨Nat.le_of_ble_eq_true rfl, Nat.le_of_ble_eq_true rfl⟩) hS2 (fun q _ h => zAin X hS2 q h) (zAin X hS2) (fun p13 u13 t13 H13 locs13 ht13 hv13 hw13 hB13 hz13 hk13 hS13 => ?_)
      have hZ13 := zBack X ht13 hB13
      subst hw13
      cases hf
      exact W.lret hx hb hr (fun t ht hW => ⟨⟨_, (), rfl, rfl, by rw [ht]; exact hZ13, va_K.moved hW.alike hK⟩, hS13.F ht⟩) hS13.2.2 d_1_13_94 hlk
    replace hf := gneg hf h11
    by_cases h14 : l4 = 3
    · replace hf := gpos hf h14
      refine lv_tableIn (off := 75) (tgt := 95) hx hb d_1_13_20 (by rw [iI_to g4, h14]; decide) (by rw [iI_to g4, h14]; decide) (by rw [iI_to g4, h14]; rfl) (by decide) ?_
      refine zaload hx hb d_1_13_95 (lv_at hl 0 rfl) ?_
      obtain ⟨g15, hf⟩ := gif hf
      refine zunrf g15.1 ?_
      refine zget (ci := 1) (C := RX1) (T := TX1) (v := .long (lI (F2 1 r2 1))) (k := 1) hx hb hts inW_1 hown hK hZ2 g15.1 g15.2 rfl (by decide) k_2_26 rfl d_1_13_97 ?_
      obtain ⟨r16, F16, B16, hc16, hf⟩ := gbind hf
      refine va_calll (va_runS (As := [.long (lI (F2 1 r2 1))]) (rest := []) ⟨hx, hb, hml, hown, hts⟩ (c_S_below (l := l) hc16) (va_cwS 1 hts (gdS k_6_192 k_6_193 k_1_1 k_6_194) rfl rfl rfl (by decide +kernel) ⟨Nat.le_of_ble_eq_true rfl, Nat.le_of_ble_eq_true rfl⟩) (zPS X hZ2 hS2 [.long (lI (F2 1 r2 1))]) rfl rfl hl.1 rfl (lv_room (Nat.le_of_ble_eq_true rfl)) d_1_13_100 ⟨Nat.le_of_ble_eq_true rfl, Nat.le_of_ble_eq_true rfl⟩) hS2 (fun q _ h => zAin X hS2 q h) (zAin X hS2) (fun p16 u16 t16 H16 locs16 ht16 hv16 hw16 hB16 hz16 hk16 hS16 => ?_)
      have hZ16 := zBack X ht16 hB16
      subst hw16
      cases hf
      exact W.lret hx hb hr (fun t ht hW => ⟨⟨_, (), rfl, rfl, by rw [ht]; exact hZ16, va_K.moved hW.alike hK⟩, hS16.F ht⟩) hS16.2.2 d_1_13_103 hlk
    replace hf := gneg hf h14
    by_cases h17 : l4 = 4
    · replace hf := gpos hf h17
      refine lv_tableIn (off := 84) (tgt := 104) hx hb d_1_13_20 (by rw [iI_to g4, h17]; decide) (by rw [iI_to g4, h17]; decide) (by rw [iI_to g4, h17]; rfl) (by decide) ?_
      refine zaload hx hb d_1_13_104 (lv_at hl 0 rfl) ?_
      obtain ⟨g18, hf⟩ := gif hf
      refine zunrf g18.1 ?_
      refine zget (ci := 1) (C := RX1) (T := TX1) (v := .int (iI (F2 1 r2 10))) (k := 10) hx hb hts inW_1 hown hK hZ2 g18.1 g18.2 rfl (by decide) k_2_52 rfl d_1_13_106 ?_
      obtain ⟨g19, hf⟩ := gif hf
      refine zi2l hx hb g19 d_1_13_109 ?_
      cases hf
      exact W.lret hx hb hr (fun t ht hW => ⟨⟨_, (), rfl, rfl, by rw [ht]; exact hZ2, va_K.moved hW.alike hK⟩, hS2.F ht⟩) hS2.2.2 d_1_13_110 hlk
    replace hf := gneg hf h17
    by_cases h20 : l4 = 5
    · replace hf := gpos hf h20
      refine lv_tableIn (off := 91) (tgt := 111) hx hb d_1_13_20 (by rw [iI_to g4, h20]; decide) (by rw [iI_to g4, h20]; decide) (by rw [iI_to g4, h20]; rfl) (by decide) ?_
      refine zaload hx hb d_1_13_111 (lv_at hl 0 rfl) ?_
      obtain ⟨g21, hf⟩ := gif hf
      refine zunrf g21.1 ?_
      refine zget (ci := 1) (C := RX1) (T := TX1) (v := .int (iI (F2 1 r2 7))) (k := 7) hx hb hts inW_1 hown hK hZ2 g21.1 g21.2 rfl (by decide) k_2_40 rfl d_1_13_113 ?_
      obtain ⟨g22, hf⟩ := gif hf
      refine zi2l hx hb g22 d_1_13_116 ?_
      cases hf
      exact W.lret hx hb hr (fun t ht hW => ⟨⟨_, (), rfl, rfl, by rw [ht]; exact hZ2, va_K.moved hW.alike hK⟩, hS2.F ht⟩) hS2.2.2 d_1_13_117 hlk
    replace hf := gneg hf h20
    by_cases h23 : l4 = 6
    · replace hf := gpos hf h23
      refine lv_tableIn (off := 98) (tgt := 118) hx hb d_1_13_20 (by rw [iI_to g4, h23]; decide) (by rw [iI_to g4, h23]; decide) (by rw [iI_to g4, h23]; rfl) (by decide) ?_
      refine zaload hx hb d_1_13_118 (lv_at hl 0 rfl) ?_
      obtain ⟨g24, hf⟩ := gif hf
      refine zunrf g24.1 ?_
      refine zget (ci := 1) (C := RX1) (T := TX1) (v := .int (iI (F2 1 r2 8))) (k := 8) hx hb hts inW_1 hown hK hZ2 g24.1 g24.2 rfl (by decide) k_2_43 rfl d_1_13_120 ?_
      obtain ⟨g25, hf⟩ := gif hf
      refine zi2l hx hb g25 d_1_13_123 ?_
      cases hf
      exact W.lret hx hb hr (fun t ht hW => ⟨⟨_, (), rfl, rfl, by rw [ht]; exact hZ2, va_K.moved hW.alike hK⟩, hS2.F ht⟩) hS2.2.2 d_1_13_124 hlk
    replace hf := gneg hf h23
    by_cases h26 : l4 = 7
    · replace hf := gpos hf h26
      refine lv_tableIn (off := 105) (tgt := 125) hx hb d_1_13_20 (by rw [iI_to g4, h26]; decide) (by rw [iI_to g4, h26]; decide) (by rw [iI_to g4, h26]; rfl) (by decide) ?_
      refine zaload hx hb d_1_13_125 (lv_at hl 0 rfl) ?_
      obtain ⟨g27, hf⟩ := gif hf
      refine zunrf g27.1 ?_
      refine zget (ci := 1) (C := RX1) (T := TX1) (v := .int (iI (F2 1 r2 9))) (k := 9) hx hb hts inW_1 hown hK hZ2 g27.1 g27.2 rfl (by decide) k_2_46 rfl d_1_13_127 ?_
      obtain ⟨g28, hf⟩ := gif hf
      refine zi2l hx hb g28 d_1_13_130 ?_
      cases hf
      exact W.lret hx hb hr (fun t ht hW => ⟨⟨_, (), rfl, rfl, by rw [ht]; exact hZ2, va_K.moved hW.alike hK⟩, hS2.F ht⟩) hS2.2.2 d_1_13_131 hlk
    replace hf := gneg hf h26
    refine lv_tableOut (tgt := 132) hx hb d_1_13_20 (by rw [iI_to g4]; omega) (by decide) ?_
    refine lv_ldc2 hx hb hown (hts _ k_6_184) d_1_13_132 ?_
    refine W.eq (g2 := F0 m 135 ls [.long (lI (-1))]) rfl ?_
    cases hf
    exact W.lret hx hb hr (fun t ht hW => ⟨⟨_, (), rfl, rfl, by rw [ht]; exact hZ2, va_K.moved hW.alike hK⟩, hS2.F ht⟩) hS2.2.2 d_1_13_135 hlk
  · replace hf := gpos hf h3
    refine lv_ldc2 hx hb hown (hts _ k_6_184) d_1_13_14 ?_
    refine W.eq (g2 := F0 m 17 ls [.long (lI (-1))]) rfl ?_
    cases hf
    exact W.lret hx hb hr (fun t ht hW => ⟨⟨_, (), rfl, rfl, by rw [ht]; exact hZ2, va_K.moved hW.alike hK⟩, hS2.F ht⟩) hS2.2.2 d_1_13_17 hlk

noncomputable abbrev Q_Layout_addColumn (K : zK) (D : va_G) (ca : Nat → ClassId) (ad : Nat → Int → Nat → Nat) (L : List Nat) (r : Int) (F : zF) (B : zB) (A : Nat → Prop) : Array Value → State → Outcome → State → Prop := va_Qi (S := Unit) (fun p _ => p = iI r) (fun _ => zPo D ca ad lnC K.2 L F B A) A
noncomputable def f_Layout_addColumn_136 (rec34 : Int → Int → Int → Int → Int → Int → Int → zF → zB → zO) (K : zK) (l7 : Int) (l6 : Int) (l5 : Int) (l3 : Int) (l0 : Int) (l1 : Int) (l2 : Int) (F : zF) (B : zB) : zO := rec34 (l7 + 1) l6 l5 l3 l0 l1 l2 F B
set_option maxHeartbeats 4000000 in
set_option maxRecDepth 100000 in
theorem b_Layout_addColumn_136 {D : va_G} {ca : Nat → ClassId} {ad : Nat → Int → Nat → Nat} {L : List Nat} {aS vS : Nat → Nat} {A : Nat → Prop} {p : Program} {l : Launch} {e : Env} {s : State} {m : MethodId} {args : Array Value} {below : List Frame} {meth : Method} {c : Code} {K : zK} {r : Int} {F9 : zF} {B9 : zB} (X : zX D ca L aS vS A p s m args meth c prog_4_method_4_code 10 (Option.some Jvm.ClassFile.FieldType.boolean) "StaveHouse$Layout") {rec34 : Int → Int → Int → Int → Int → Int → Int → zF → zB → zO} (hrec34 : ∀ {l7 : Int} {l6 : Int} {l5 : Int} {l3 : Int} {l0 : Int} {l1 : Int} {l2 : Int} {F : zF} {B : zB} {H : Heap} {locs : List Loc} {ls : Array Slot}, rec34 l7 l6 l5 l3 l0 l1 l2 F B = some (r, F9, B9) → zH D ca ad lnC K.2 L F B A H → va_S A s.heap H locs → lv_has ls 10 [(7, .int (iI l7)), (6, .int (iI l6)), (5, .int (iI l5)), (3, .long (lI l3)), (0, .ref (ad 2 l0 0)), (1, .ref (ad 6 l1 0)), (2, .int (iI l2))] → W p l e ({ frames := 2, cells := 0, slots := 0, locals := 48 } : Room) s m args below meth c H locs 0 0 (MQ below (Q_Layout_addColumn K D ca ad L r F9 B9 A) args s 0 0 A) (F0 m 34 ls [])) {l7 : Int} {l6 : Int} {l5 : Int} {l3 : Int} {l0 : Int} {l1 : Int} {l2 : Int} {F : zF} {B : zB} {H : Heap} {locs : List Loc} {ls : Array Slot} (hf : f_Layout_addColumn_136 rec34 K l7 l6 l5 l3 l0 l1 l2 F B = some (r, F9, B9)) (hZ : zH D ca ad lnC K.2 L F B A H) (hS : va_S A s.heap H locs) (hl : lv_has ls 10 [(7, .int (iI l7)), (6, .int (iI l6)), (5, .int (iI l5)), (3, .long (lI l3)), (0, .ref (ad 2 l0 0)), (1, .ref (ad 6 l1 0)), (2, .int (iI l2))]) : W p l e ({ frames := 2, cells := 0, slots := 0, locals := 48 } : Room) s m args below meth c H locs 0 0 (MQ below (Q_Layout_addColumn K D ca ad L r F9 B9 A) args s 0 0 A) (F0 m 136 ls []) := by
  obtain ⟨hx, hb, hr, hml, hown, hts, hlk, hK, hA, hL, hX⟩ := id X
  replace hf : (rec34 (l7 + 1) l6 l5 l3 l0 l1 l2 F B) = some (r, F9, B9) := hf
  refine lv_iinc (v := iI (l7 + 1)) (lv' := [(7, .int (iI (l7 + 1))), (6, .int (iI l6)), (5, .int (iI l5)), (3, .long (lI l3)), (0, .ref (ad 2 l0 0)), (1, .ref (ad 6 l1 0)), (2, .int (iI l2))]) hx hb d_4_4_136 hl (k := 0) rfl (iI_add _ 1) (by decide) rfl (fun ls hl => ?_)
  refine lv_goto (tgt := 34) hx hb d_4_4_139 (by decide) ?_
  exact hrec34 hf hZ hS (lv_sub hl [0, 1, 2, 3, 4, 5, 6] rfl)

noncomputable def f_Layout_addColumn_106 (rec34 : Int → Int → Int → Int → Int → Int → Int → zF → zB → zO) (K : zK) (l9 : Int) (l8 : Int) (l7 : Int) (l6 : Int) (l3 : Int) (l0 : Int) (l1 : Int) (l2 : Int) (s0 : Int) (F : zF) (B : zB) : zO := if 0 ≤ l8 ∧ l8 < K.2 4 then if 0 ≤ l9 ∧ l9 < 800 then if r32 l6 then if r32 (B 4 l8 365 l9) then if 0 ≤ l0 ∧ l0 < K.2 2 then if 0 ≤ l7 ∧ l7 < 4 then f_Layout_addColumn_136 rec34 K l7 (zmax l6 (B 4 l8 365 l9)) s0 l3 l0 l1 l2 F (zup4 B 2 l0 12 l7 ((B 2 l0 12 l7) + 1)) else none else none else none else none else none else none
set_option maxHeartbeats 4000000 in
set_option maxRecDepth 100000 in
theorem b_Layout_addColumn_106 {D : va_G} {ca : Nat → ClassId} {ad : Nat → Int → Nat → Nat} {L : List Nat} {aS vS : Nat → Nat} {A : Nat → Prop} {p : Program} {l : Launch} {e : Env} {s : State} {m : MethodId} {args : Array Value} {below : List Frame} {meth : Method} {c : Code} {K : zK} {r : Int} {F9 : zF} {B9 : zB} (X : zX D ca L aS vS A p s m args meth c prog_4_method_4_code 10 (Option.some Jvm.ClassFile.FieldType.boolean) "StaveHouse$Layout") {rec34 : Int → Int → Int → Int → Int → Int → Int → zF → zB → zO} (hrec34 : ∀ {l7 : Int} {l6 : Int} {l5 : Int} {l3 : Int} {l0 : Int} {l1 : Int} {l2 : Int} {F : zF} {B : zB} {H : Heap} {locs : List Loc} {ls : Array Slot}, rec34 l7 l6 l5 l3 l0 l1 l2 F B = some (r, F9, B9) → zH D ca ad lnC K.2 L F B A H → va_S A s.heap H locs → lv_has ls 10 [(7, .int (iI l7)), (6, .int (iI l6)), (5, .int (iI l5)), (3, .long (lI l3)), (0, .ref (ad 2 l0 0)), (1, .ref (ad 6 l1 0)), (2, .int (iI l2))] → W p l e ({ frames := 2, cells := 0, slots := 0, locals := 48 } : Room) s m args below meth c H locs 0 0 (MQ below (Q_Layout_addColumn K D ca ad L r F9 B9 A) args s 0 0 A) (F0 m 34 ls [])) {l9 : Int} {l8 : Int} {l7 : Int} {l6 : Int} {l3 : Int} {l0 : Int} {l1 : Int} {l2 : Int} {s0 : Int} {F : zF} {B : zB} {H : Heap} {locs : List Loc} {ls : Array Slot} (hf : f_Layout_addColumn_106 rec34 K l9 l8 l7 l6 l3 l0 l1 l2 s0 F B = some (r, F9, B9)) (hZ : zH D ca ad lnC K.2 L F B A H) (hS : va_S A s.heap H locs) (hl : lv_has ls 10 [(9, .int (iI l9)), (8, va_rf (zrf ad 4 l8)), (7, .int (iI l7)), (6, .int (iI l6)), (3, .long (lI l3)), (0, .ref (ad 2 l0 0)), (1, .ref (ad 6 l1 0)), (2, .int (iI l2))]) : W p l e ({ frames := 2, cells := 0, slots := 0, locals := 48 } : Room) s m args below meth c H locs 0 0 (MQ below (Q_Layout_addColumn K D ca ad L r F9 B9 A) args s 0 0 A) (F0 m 106 ls [.int (iI s0)]) := by
  obtain ⟨hx, hb, hr, hml, hown, hts, hlk, hK, hA, hL, hX⟩ := id X
  replace hf : (if 0 ≤ l8 ∧ l8 < K.2 4 then if 0 ≤ l9 ∧ l9 < 800 then if r32 l6 then if r32 (B 4 l8 365 l9) then if 0 ≤ l0 ∧ l0 < K.2 2 then if 0 ≤ l7 ∧ l7 < 4 then f_Layout_addColumn_136 rec34 K l7 (zmax l6 (B 4 l8 365 l9)) s0 l3 l0 l1 l2 F (zup4 B 2 l0 12 l7 ((B 2 l0 12 l7) + 1)) else none else none else none else none else none else none) = some (r, F9, B9) := hf
  refine lv_istore (lv' := [(5, .int (iI s0)), (9, .int (iI l9)), (8, va_rf (zrf ad 4 l8)), (7, .int (iI l7)), (6, .int (iI l6)), (3, .long (lI l3)), (0, .ref (ad 2 l0 0)), (1, .ref (ad 6 l1 0)), (2, .int (iI l2))]) hx hb d_4_4_106 hl (by decide) rfl (fun ls hl => ?_)
  refine lv_iload hx hb d_4_4_108 (lv_at hl 4 rfl) ?_
  refine zaload hx hb d_4_4_110 (lv_at hl 2 rfl) ?_
  obtain ⟨g27, hf⟩ := gif hf
  refine zunrf g27.1 ?_
  refine zget (ci := 4) (C := RX4) (T := TX4) (v := .ref (ad 4 l8 (8 + 1))) (k := 8) hx hb hts inW_4 hown hK hZ g27.1 g27.2 rfl (by decide) k_4_143 rfl d_4_4_112 ?_
  refine lv_iconst (v := iI 5) hx hb d_4_4_115 rfl ?_
  refine zaldQ (t := 0) (ci := 4) (k := 8) hx hb hK rfl hZ g27.1 g27.2 rfl (Nat.le_of_ble_eq_true rfl) (by decide) (by decide) d_4_4_116 ?_
  refine W.eq (g2 := F0 m 117 ls [.ref (ad 4 l8 (365 + 1)), .int (iI l6)]) rfl ?_
  refine lv_iload hx hb d_4_4_117 (lv_at hl 1 rfl) ?_
  obtain ⟨g28, hf⟩ := gif hf
  refine zald (ci := 4) (k := 365) hx hb hK rfl hZ g27.1 g27.2 rfl (Nat.le_of_ble_eq_true rfl) g28.1 g28.2 d_4_4_119 ?_
  obtain ⟨g29, hf⟩ := gif hf
  obtain ⟨g30, hf⟩ := gif hf
  refine va_mmax hx hb (by rw [hml]; exact hl.1.symm) hown (hts _ k_7_38) (hts _ k_1_39) (hts _ k_1_3) (hts _ k_1_40) (Nat.le_of_ble_eq_true rfl) (Nat.le_of_ble_eq_true rfl) (Nat.le_of_ble_eq_true rfl) (Nat.le_of_ble_eq_true rfl) d_4_4_120 ?_
  rw [zmax_e g29 g30]
  refine lv_istore (lv' := [(6, .int (iI (zmax l6 (B 4 l8 365 l9)))), (5, .int (iI s0)), (9, .int (iI l9)), (8, va_rf (zrf ad 4 l8)), (7, .int (iI l7)), (3, .long (lI l3)), (0, .ref (ad 2 l0 0)), (1, .ref (ad 6 l1 0)), (2, .int (iI l2))]) hx hb d_4_4_123 hl (by decide) rfl (fun ls hl => ?_)
  refine lv_aload_n hx hb d_4_4_125 rfl (lv_at hl 6 rfl) ?_
  obtain ⟨g31, hf⟩ := gif hf
  refine zget (ci := 2) (C := RX2) (T := TX2) (v := .ref (ad 2 l0 (12 + 1))) (k := 12) hx hb hts inW_2 hown hK hZ g31.1 g31.2 rfl (by decide) k_6_229 rfl d_4_4_126 ?_
  refine lv_iload hx hb d_4_4_129 (lv_at hl 4 rfl) ?_
  refine lv_dup2_11 hx hb d_4_4_131 rfl rfl ?_
  obtain ⟨g33, hf⟩ := gif hf
  refine zald (ci := 2) (k := 12) hx hb hK rfl hZ g31.1 g31.2 rfl (Nat.le_of_ble_eq_true rfl) g33.1 g33.2 d_4_4_132 ?_
  refine lv_iconst (v := iI 1) hx hb d_4_4_133 rfl ?_
  refine zadd hx hb d_4_4_134 ?_
  refine zast (ci := 2) (k := 12) hx hb hK rfl hZ hS g31.1 g31.2 rfl (Nat.le_of_ble_eq_true rfl) g33.1 g33.2 d_4_4_135 (fun H34 locs34 hZ34 hS34 => ?_)
  exact b_Layout_addColumn_136 X hrec34 hf hZ34 hS34 (lv_sub hl [4, 0, 1, 5, 6, 7, 8] rfl)

noncomputable def f_Layout_addColumn_34 (K : zK) : Nat → Int → Int → Int → Int → Int → Int → Int → zF → zB → zO
  | 0, _, _, _, _, _, _, _, _, _ => none
  | n + 1, l7, l6, l5, l3, l0, l1, l2, F, B => if 0 ≤ l1 ∧ l1 < K.2 6 then if r32 l7 then if r32 (F 6 l1 1) then (if (F 6 l1 1) ≤ l7 then if 0 ≤ l0 ∧ l0 < K.2 2 then if 0 ≤ (F 2 l0 4) ∧ (F 2 l0 4) < 3200 then some (1, F, (zup4 (zup4 B 2 l0 1 (F 2 l0 4) l3) 2 l0 2 (F 2 l0 4) ((8 + l5) + (3 * l6)))) else none else none else if 0 ≤ l7 ∧ l7 < 4 then if 0 ≤ l0 ∧ l0 < K.2 2 then if 0 ≤ (B 6 l1 0 l7) ∧ (B 6 l1 0 l7) < K.2 4 then zbind (f_Layout_beginsIn K (B 6 l1 0 l7) (B 2 l0 12 l7) l2 F B) (fun r18 F18 B18 => if r32 r18 then (if r18 = 0 then f_Layout_addColumn_136 (f_Layout_addColumn_34 K n) K l7 l6 l5 l3 l0 l1 l2 F18 B18 else if 0 ≤ (B 2 l0 12 l7) ∧ (B 2 l0 12 l7) < 800 then if r64 (B18 4 (B 6 l1 0 l7) 9 (B 2 l0 12 l7)) then if r64 l3 then (if (zcmp (B18 4 (B 6 l1 0 l7) 9 (B 2 l0 12 l7)) l3) = 0 then if r32 (B18 4 (B 6 l1 0 l7) 367 (B 2 l0 12 l7)) then (if (B18 4 (B 6 l1 0 l7) 367 (B 2 l0 12 l7)) = 0 then f_Layout_addColumn_106 (f_Layout_addColumn_34 K n) K (B 2 l0 12 l7) (B 6 l1 0 l7) l7 l6 l3 l0 l1 l2 l5 F18 B18 else f_Layout_addColumn_106 (f_Layout_addColumn_34 K n) K (B 2 l0 12 l7) (B 6 l1 0 l7) l7 l6 l3 l0 l1 l2 6 F18 B18) else none else f_Layout_addColumn_136 (f_Layout_addColumn_34 K n) K l7 l6 l5 l3 l0 l1 l2 F18 B18) else none else none else none) else none) else none else none else none) else none else none else none
set_option maxHeartbeats 4000000 in
set_option maxRecDepth 100000 in
theorem b_Layout_addColumn_34 {D : va_G} {ca : Nat → ClassId} {ad : Nat → Int → Nat → Nat} {L : List Nat} {aS vS : Nat → Nat} {A : Nat → Prop} {p : Program} {l : Launch} {e : Env} {s : State} {m : MethodId} {args : Array Value} {below : List Frame} {meth : Method} {c : Code} {K : zK} {r : Int} {F9 : zF} {B9 : zB} (X : zX D ca L aS vS A p s m args meth c prog_4_method_4_code 10 (Option.some Jvm.ClassFile.FieldType.boolean) "StaveHouse$Layout") : ∀ {n : Nat} {l7 : Int} {l6 : Int} {l5 : Int} {l3 : Int} {l0 : Int} {l1 : Int} {l2 : Int} {F : zF} {B : zB} {H : Heap} {locs : List Loc} {ls : Array Slot}, f_Layout_addColumn_34 K n l7 l6 l5 l3 l0 l1 l2 F B = some (r, F9, B9) → zH D ca ad lnC K.2 L F B A H → va_S A s.heap H locs → lv_has ls 10 [(7, .int (iI l7)), (6, .int (iI l6)), (5, .int (iI l5)), (3, .long (lI l3)), (0, .ref (ad 2 l0 0)), (1, .ref (ad 6 l1 0)), (2, .int (iI l2))] → W p l e ({ frames := 2, cells := 0, slots := 0, locals := 48 } : Room) s m args below meth c H locs 0 0 (MQ below (Q_Layout_addColumn K D ca ad L r F9 B9 A) args s 0 0 A) (F0 m 34 ls []) := by
  obtain ⟨hx, hb, hr, hml, hown, hts, hlk, hK, hA, hL, hX⟩ := id X
  intro n
  induction n with
  | zero =>
    intros
    rename_i hf _ _ _
    cases hf
  | succ n ih =>
    intro l7 l6 l5 l3 l0 l1 l2 F B H locs ls hf hZ hS hl
    replace hf : (if 0 ≤ l1 ∧ l1 < K.2 6 then if r32 l7 then if r32 (F 6 l1 1) then (if (F 6 l1 1) ≤ l7 then if 0 ≤ l0 ∧ l0 < K.2 2 then if 0 ≤ (F 2 l0 4) ∧ (F 2 l0 4) < 3200 then some (1, F, (zup4 (zup4 B 2 l0 1 (F 2 l0 4) l3) 2 l0 2 (F 2 l0 4) ((8 + l5) + (3 * l6)))) else none else none else if 0 ≤ l7 ∧ l7 < 4 then if 0 ≤ l0 ∧ l0 < K.2 2 then if 0 ≤ (B 6 l1 0 l7) ∧ (B 6 l1 0 l7) < K.2 4 then zbind (f_Layout_beginsIn K (B 6 l1 0 l7) (B 2 l0 12 l7) l2 F B) (fun r18 F18 B18 => if r32 r18 then (if r18 = 0 then f_Layout_addColumn_136 (f_Layout_addColumn_34 K n) K l7 l6 l5 l3 l0 l1 l2 F18 B18 else if 0 ≤ (B 2 l0 12 l7) ∧ (B 2 l0 12 l7) < 800 then if r64 (B18 4 (B 6 l1 0 l7) 9 (B 2 l0 12 l7)) then if r64 l3 then (if (zcmp (B18 4 (B 6 l1 0 l7) 9 (B 2 l0 12 l7)) l3) = 0 then if r32 (B18 4 (B 6 l1 0 l7) 367 (B 2 l0 12 l7)) then (if (B18 4 (B 6 l1 0 l7) 367 (B 2 l0 12 l7)) = 0 then f_Layout_addColumn_106 (f_Layout_addColumn_34 K n) K (B 2 l0 12 l7) (B 6 l1 0 l7) l7 l6 l3 l0 l1 l2 l5 F18 B18 else f_Layout_addColumn_106 (f_Layout_addColumn_34 K n) K (B 2 l0 12 l7) (B 6 l1 0 l7) l7 l6 l3 l0 l1 l2 6 F18 B18) else none else f_Layout_addColumn_136 (f_Layout_addColumn_34 K n) K l7 l6 l5 l3 l0 l1 l2 F18 B18) else none else none else none) else none) else none else none else none) else none else none else none) = some (r, F9, B9) := hf
    refine lv_iload hx hb d_4_4_34 (lv_at hl 0 rfl) ?_
    refine lv_aload_n hx hb d_4_4_36 rfl (lv_at hl 5 rfl) ?_
    obtain ⟨g7, hf⟩ := gif hf
    refine zget (ci := 6) (C := RX6) (T := TX6) (v := .int (iI (F 6 l1 1))) (k := 1) hx hb hts inW_6 hown hK hZ g7.1 g7.2 rfl (by decide) k_2_193 rfl d_4_4_37 ?_
    obtain ⟨g8, hf⟩ := gif hf
    obtain ⟨g9, hf⟩ := gif hf
    refine zge (tgt := 142) hx hb g8 g9 d_4_4_40 (by decide) (fun h10 => ?_) (fun h10 => ?_)
    · replace hf := gpos hf h10
      refine lv_aload_n hx hb d_4_4_142 rfl (lv_at hl 4 rfl) ?_
      obtain ⟨g11, hf⟩ := gif hf
      refine zget (ci := 2) (C := RX2) (T := TX2) (v := .ref (ad 2 l0 (1 + 1))) (k := 1) hx hb hts inW_2 hown hK hZ g11.1 g11.2 rfl (by decide) k_6_218 rfl d_4_4_143 ?_
      refine lv_aload_n hx hb d_4_4_146 rfl (lv_at hl 4 rfl) ?_
      refine zget (ci := 2) (C := RX2) (T := TX2) (v := .int (iI (F 2 l0 4))) (k := 4) hx hb hts inW_2 hown hK hZ g11.1 g11.2 rfl (by decide) k_6_221 rfl d_4_4_147 ?_
      refine lv_lload_n hx hb d_4_4_150 rfl (lv_at hl 3 rfl) ?_
      obtain ⟨g12, hf⟩ := gif hf
      refine zlast (ci := 2) (k := 1) hx hb hK rfl hZ hS g11.1 g11.2 rfl (Nat.le_of_ble_eq_true rfl) g12.1 g12.2 d_4_4_151 (fun H13 locs13 hZ13 hS13 => ?_)
      refine lv_aload_n hx hb d_4_4_152 rfl (lv_at hl 4 rfl) ?_
      refine zget (ci := 2) (C := RX2) (T := TX2) (v := .ref (ad 2 l0 (2 + 1))) (k := 2) hx hb hts inW_2 hown hK hZ13 g11.1 g11.2 rfl (by decide) k_6_219 rfl d_4_4_153 ?_
      refine lv_aload_n hx hb d_4_4_156 rfl (lv_at hl 4 rfl) ?_
      refine zget (ci := 2) (C := RX2) (T := TX2) (v := .int (iI (F 2 l0 4))) (k := 4) hx hb hts inW_2 hown hK hZ13 g11.1 g11.2 rfl (by decide) k_6_221 rfl d_4_4_157 ?_
      refine lv_bipush (v := iI 8) hx hb d_4_4_160 (by decide) ?_
      refine lv_iload hx hb d_4_4_162 (lv_at hl 2 rfl) ?_
      refine zadd hx hb d_4_4_164 ?_
      refine lv_iconst (v := iI 3) hx hb d_4_4_165 rfl ?_
      refine lv_iload hx hb d_4_4_166 (lv_at hl 1 rfl) ?_
      refine zmul hx hb d_4_4_168 ?_
      refine zadd hx hb d_4_4_169 ?_
      refine zast (ci := 2) (k := 2) hx hb hK rfl hZ13 hS13 g11.1 g11.2 rfl (Nat.le_of_ble_eq_true rfl) g12.1 g12.2 d_4_4_170 (fun H14 locs14 hZ14 hS14 => ?_)
      refine lv_iconst (v := iI 1) hx hb d_4_4_171 rfl ?_
      cases hf
      exact W.zret hx hb hr rfl (fun t ht hW => ⟨⟨_, (), rfl, rfl, by rw [ht]; exact hZ14, va_K.moved hW.alike hK⟩, hS14.F ht⟩) hS14.2.2 d_4_4_172 hlk
    · replace hf := gneg hf h10
      refine lv_aload_n hx hb d_4_4_43 rfl (lv_at hl 5 rfl) ?_
      refine zget (ci := 6) (C := RX6) (T := TX6) (v := .ref (ad 6 l1 (0 + 1))) (k := 0) hx hb hts inW_6 hown hK hZ g7.1 g7.2 rfl (by decide) k_2_188 rfl d_4_4_44 ?_
      refine lv_iload hx hb d_4_4_47 (lv_at hl 0 rfl) ?_
      obtain ⟨g15, hf⟩ := gif hf
      refine zaldR (t := 4) (x := 6) (ci := 6) (k := 0) hx hb hK rfl rfl hZ g7.1 g7.2 rfl (Nat.le_of_ble_eq_true rfl) g15.1 g15.2 d_4_4_49 ?_
      refine zastore (lv' := [(7, .int (iI l7)), (6, .int (iI l6)), (5, .int (iI l5)), (3, .long (lI l3)), (0, .ref (ad 2 l0 0)), (1, .ref (ad 6 l1 0)), (2, .int (iI l2))]) hx hb d_4_4_50 hl (by decide) (fun _ _ => rfl) (fun ls hl => ?_)
      refine lv_aload_n hx hb d_4_4_52 rfl (lv_at hl 5 rfl) ?_
      obtain ⟨g16, hf⟩ := gif hf
      refine zget (ci := 2) (C := RX2) (T := TX2) (v := .ref (ad 2 l0 (12 + 1))) (k := 12) hx hb hts inW_2 hown hK hZ g16.1 g16.2 rfl (by decide) k_6_229 rfl d_4_4_53 ?_
      refine lv_iload hx hb d_4_4_56 (lv_at hl 1 rfl) ?_
      refine zald (ci := 2) (k := 12) hx hb hK rfl hZ g16.1 g16.2 rfl (Nat.le_of_ble_eq_true rfl) g15.1 g15.2 d_4_4_58 ?_
      refine lv_istore (lv' := [(9, .int (iI (B 2 l0 12 l7))), (8, va_rf (zrf ad 4 (B 6 l1 0 l7))), (7, .int (iI l7)), (6, .int (iI l6)), (5, .int (iI l5)), (3, .long (lI l3)), (0, .ref (ad 2 l0 0)), (1, .ref (ad 6 l1 0)), (2, .int (iI l2))]) hx hb d_4_4_59 hl (by decide) (by cases zrf ad 4 (B 6 l1 0 l7) <;> rfl) (fun ls hl => ?_)
      refine zaload hx hb d_4_4_61 (lv_at hl 1 rfl) ?_
      refine lv_iload hx hb d_4_4_63 (lv_at hl 0 rfl) ?_
      refine lv_iload_n hx hb d_4_4_65 rfl (lv_at hl 8 rfl) ?_
      obtain ⟨g17, hf⟩ := gif hf
      refine W.eq (g2 := F0 m 66 ls [.int (iI l2), .int (iI (B 2 l0 12 l7)), .ref (ad 4 (B 6 l1 0 l7) 0)]) (by rw [zrf_pos (ad := ad) (t := 4) g17.1]; try rfl) ?_
      obtain ⟨r18, F18, B18, hc18, hf⟩ := gbind hf
      refine va_calli (va_runS (As := [.ref (ad 4 (B 6 l1 0 l7) 0), .int (iI (B 2 l0 12 l7)), .int (iI l2)]) (rest := []) ⟨hx, hb, hml, hown, hts⟩ (c_Layout_beginsIn (l := l) hc18) (va_cwS 3 hts (gdS k_7_35 k_7_36 k_1_21 k_7_37) rfl rfl rfl (by decide +kernel) ⟨Nat.le_of_ble_eq_true rfl, Nat.le_of_ble_eq_true rfl⟩) (zPS X hZ hS [.ref (ad 4 (B 6 l1 0 l7) 0), .int (iI (B 2 l0 12 l7)), .int (iI l2)]) rfl rfl hl.1 rfl (lv_room (Nat.le_of_ble_eq_true rfl)) d_4_4_66 ⟨Nat.le_of_ble_eq_true rfl, Nat.le_of_ble_eq_true rfl⟩) hS (fun q _ h => zAin X hS q h) (zAin X hS) (fun p18 u18 t18 H18 locs18 ht18 hv18 hw18 hB18 hz18 hk18 hS18 => ?_)
      have hZ18 := zBack X ht18 hB18
      subst hw18
      obtain ⟨g19, hf⟩ := gif hf
      refine z0eq (tgt := 136) hx hb g19 d_4_4_69 (by decide) (fun h20 => ?_) (fun h20 => ?_)
      · replace hf := gpos hf h20
        exact b_Layout_addColumn_136 X ih hf hZ18 hS18 (lv_sub hl [2, 3, 4, 5, 6, 7, 8] rfl)
      · replace hf := gneg hf h20
        refine zaload hx hb d_4_4_72 (lv_at hl 1 rfl) ?_
        refine zunrf g17.1 ?_
        refine zget (ci := 4) (C := RX4) (T := TX4) (v := .ref (ad 4 (B 6 l1 0 l7) (9 + 1))) (k := 9) hx hb hts inW_4 hown hK hZ18 g17.1 g17.2 rfl (by decide) k_4_146 rfl d_4_4_74 ?_
        refine lv_iload hx hb d_4_4_77 (lv_at hl 0 rfl) ?_
        obtain ⟨g21, hf⟩ := gif hf
        refine zlald (ci := 4) (k := 9) hx hb hK rfl hZ18 g17.1 g17.2 rfl (Nat.le_of_ble_eq_true rfl) g21.1 g21.2 d_4_4_79 ?_
        refine lv_lload_n hx hb d_4_4_80 rfl (lv_at hl 5 rfl) ?_
        obtain ⟨g22, hf⟩ := gif hf
        obtain ⟨g23, hf⟩ := gif hf
        refine zcmp_r hx hb g22 g23 d_4_4_81 ?_
        refine z0ne (tgt := 136) hx hb zcmp_32 d_4_4_82 (by decide) (fun h24 => ?_) (fun h24 => ?_)
        · replace hf := gneg hf h24
          exact b_Layout_addColumn_136 X ih hf hZ18 hS18 (lv_sub hl [2, 3, 4, 5, 6, 7, 8] rfl)
        · replace hf := gpos hf h24
          refine zaload hx hb d_4_4_85 (lv_at hl 1 rfl) ?_
          refine zunrf g17.1 ?_
          refine zget (ci := 4) (C := RX4) (T := TX4) (v := .ref (ad 4 (B 6 l1 0 l7) (8 + 1))) (k := 8) hx hb hts inW_4 hown hK hZ18 g17.1 g17.2 rfl (by decide) k_4_143 rfl d_4_4_87 ?_
          refine lv_bipush (v := iI 7) hx hb d_4_4_90 (by decide) ?_
          refine zaldQ (t := 0) (ci := 4) (k := 8) hx hb hK rfl hZ18 g17.1 g17.2 rfl (Nat.le_of_ble_eq_true rfl) (by decide) (by decide) d_4_4_92 ?_
          refine W.eq (g2 := F0 m 93 ls [.ref (ad 4 (B 6 l1 0 l7) (367 + 1))]) rfl ?_
          refine lv_iload hx hb d_4_4_93 (lv_at hl 0 rfl) ?_
          refine zald (ci := 4) (k := 367) hx hb hK rfl hZ18 g17.1 g17.2 rfl (Nat.le_of_ble_eq_true rfl) g21.1 g21.2 d_4_4_95 ?_
          obtain ⟨g25, hf⟩ := gif hf
          refine z0eq (tgt := 104) hx hb g25 d_4_4_96 (by decide) (fun h26 => ?_) (fun h26 => ?_)
          · replace hf := gpos hf h26
            refine lv_iload hx hb d_4_4_104 (lv_at hl 4 rfl) ?_
            exact b_Layout_addColumn_106 X ih hf hZ18 hS18 (lv_sub hl [0, 1, 2, 3, 5, 6, 7, 8] rfl)
          · replace hf := gneg hf h26
            refine lv_bipush (v := iI 6) hx hb d_4_4_99 (by decide) ?_
            refine lv_goto (tgt := 106) hx hb d_4_4_101 (by decide) ?_
            exact b_Layout_addColumn_106 X ih hf hZ18 hS18 (lv_sub hl [0, 1, 2, 3, 5, 6, 7, 8] rfl)

noncomputable def f_Layout_addColumn_23 (K : zK)  (F : zF) (B : zB) : zO := some (0, F, B)
set_option maxHeartbeats 4000000 in
set_option maxRecDepth 100000 in
theorem b_Layout_addColumn_23 {D : va_G} {ca : Nat → ClassId} {ad : Nat → Int → Nat → Nat} {L : List Nat} {aS vS : Nat → Nat} {A : Nat → Prop} {p : Program} {l : Launch} {e : Env} {s : State} {m : MethodId} {args : Array Value} {below : List Frame} {meth : Method} {c : Code} {K : zK} {r : Int} {F9 : zF} {B9 : zB} (X : zX D ca L aS vS A p s m args meth c prog_4_method_4_code 10 (Option.some Jvm.ClassFile.FieldType.boolean) "StaveHouse$Layout")  {F : zF} {B : zB} {H : Heap} {locs : List Loc} {ls : Array Slot} (hf : f_Layout_addColumn_23 K  F B = some (r, F9, B9)) (hZ : zH D ca ad lnC K.2 L F B A H) (hS : va_S A s.heap H locs) (hl : lv_has ls 10 []) : W p l e ({ frames := 2, cells := 0, slots := 0, locals := 48 } : Room) s m args below meth c H locs 0 0 (MQ below (Q_Layout_addColumn K D ca ad L r F9 B9 A) args s 0 0 A) (F0 m 23 ls []) := by
  obtain ⟨hx, hb, hr, hml, hown, hts, hlk, hK, hA, hL, hX⟩ := id X
  replace hf : (some (0, F, B)) = some (r, F9, B9) := hf
  refine lv_iconst (v := iI 0) hx hb d_4_4_23 rfl ?_
  cases hf
  exact W.zret hx hb hr rfl (fun t ht hW => ⟨⟨_, (), rfl, rfl, by rw [ht]; exact hZ, va_K.moved hW.alike hK⟩, hS.F ht⟩) hS.2.2 d_4_4_24 hlk

noncomputable def f_Layout_addColumn (K : zK) (l0 : Int) (l1 : Int) (l2 : Int) (F : zF) (B : zB) : zO := if 0 ≤ l0 ∧ l0 < K.2 2 then zbind (f_Layout_nextPlace K l0 l1 l2 F B) (fun r2 F2 B2 => if r64 r2 then (if (zcmp r2 0) < 0 then f_Layout_addColumn_23 K F2 B2 else if r32 (F2 2 l0 4) then (if (F2 2 l0 4) < 3200 then f_Layout_addColumn_34 K K.1 0 0 0 r2 l0 l1 l2 F2 B2 else f_Layout_addColumn_23 K F2 B2) else none) else none) else none
set_option maxHeartbeats 4000000 in
set_option maxRecDepth 100000 in
theorem c_Layout_addColumn {l : Launch} {D : va_G} {ca : Nat → ClassId} {ad : Nat → Int → Nat → Nat} {L : List Nat} {aS vS : Nat → Nat} {sz : Nat} {K : zK}  {l0 : Int} {l1 : Int} {l2 : Int} {F F9 : zF} {B B9 : zB} {r : Int} (hf : f_Layout_addColumn K l0 l1 l2 F B = some (r, F9, B9)) : Met l ({ cls := "StaveHouse$Layout", name := "addColumn", desc := "(LStaveHouse$Piece;I)Z" } : Jvm.MethodName) (Cond.code ({ cls := "StaveHouse$Layout", name := "addColumn", desc := "(LStaveHouse$Piece;I)Z" } : Jvm.MethodName) prog_4_method_4_code 10 (Option.some Jvm.ClassFile.FieldType.boolean) :: wAll) ({ frames := 2, cells := 0, slots := 0, locals := 48 } : Room) (va_Pc [.ref (ad 2 l0 0), .ref (ad 6 l1 0), .int (iI l2)] (zPre D ca ad lnC K.2 L aS vS F B sz)) (Q_Layout_addColumn K D ca ad L r F9 B9 (zA L sz)) 0 0 (zA L sz) := by
  refine zMet (Qc := Q_Layout_addColumn K D ca ad L r F9 B9) (lv := [(0, .ref (ad 2 l0 0)), (1, .ref (ad 6 l1 0)), (2, .int (iI l2))]) (by decide) (Nat.le_of_ble_eq_true rfl) rfl (fun A p e s m below meth c ls X hZ hS hl => ?_)
  obtain ⟨hx, hb, hr, hml, hown, hts, hlk, hK, hA, hL, hX⟩ := id X
  replace hf : (if 0 ≤ l0 ∧ l0 < K.2 2 then zbind (f_Layout_nextPlace K l0 l1 l2 F B) (fun r2 F2 B2 => if r64 r2 then (if (zcmp r2 0) < 0 then f_Layout_addColumn_23 K F2 B2 else if r32 (F2 2 l0 4) then (if (F2 2 l0 4) < 3200 then f_Layout_addColumn_34 K K.1 0 0 0 r2 l0 l1 l2 F2 B2 else f_Layout_addColumn_23 K F2 B2) else none) else none) else none) = some (r, F9, B9) := hf
  refine lv_aload_n hx hb d_4_4_0 rfl (lv_at hl 0 rfl) ?_
  refine lv_aload_n hx hb d_4_4_1 rfl (lv_at hl 1 rfl) ?_
  refine lv_iload_n hx hb d_4_4_2 rfl (lv_at hl 2 rfl) ?_
  obtain ⟨g1, hf⟩ := gif hf
  obtain ⟨r2, F2, B2, hc2, hf⟩ := gbind hf
  refine va_calll (va_runV (As := [.ref (ad 6 l1 0), .int (iI l2)]) (rest := []) ⟨hx, hb, hml, hown, hts⟩ (c_Layout_nextPlace (l := l) hc2) (cwV 2 hts (gdV k_7_30 k_7_32 ks_81 k_1_21 k_7_33) rfl rfl rfl (by decide +kernel) ⟨Nat.le_of_ble_eq_true rfl, Nat.le_of_ble_eq_true rfl⟩) (zPV X hZ hS (ci := 2) g1.1 g1.2 (r := (RX2, TX2, 13)) rfl [.ref (ad 6 l1 0), .int (iI l2)]) rfl rfl hl.1 rfl (lv_room (Nat.le_of_ble_eq_true rfl)) d_4_4_3 ⟨Nat.le_of_ble_eq_true rfl, Nat.le_of_ble_eq_true rfl⟩) hS (fun q _ h => zAin X hS q h) (zAin X hS) (fun p2 u2 t2 H2 locs2 ht2 hv2 hw2 hB2 hz2 hk2 hS2 => ?_)
  have hZ2 := zBack X ht2 hB2
  subst hw2
  refine lv_lstore_n (lv' := [(3, .long (lI r2)), (0, .ref (ad 2 l0 0)), (1, .ref (ad 6 l1 0)), (2, .int (iI l2))]) hx hb d_4_4_6 rfl hl (by decide) rfl (fun ls hl => ?_)
  refine lv_lload_n hx hb d_4_4_7 rfl (lv_at hl 0 rfl) ?_
  refine lv_lconst (v := lI 0) hx hb d_4_4_8 (by decide) ?_
  obtain ⟨g3, hf⟩ := gif hf
  refine zcmp_r hx hb g3 (by decide) d_4_4_9 ?_
  refine z0lt (tgt := 23) hx hb zcmp_32 d_4_4_10 (by decide) (fun h4 => ?_) (fun h4 => ?_)
  · replace hf := gpos hf h4
    exact b_Layout_addColumn_23 X hf hZ2 hS2 (lv_sub hl [] rfl)
  · replace hf := gneg hf h4
    refine lv_aload_n hx hb d_4_4_13 rfl (lv_at hl 1 rfl) ?_
    refine zget (ci := 2) (C := RX2) (T := TX2) (v := .int (iI (F2 2 l0 4))) (k := 4) hx hb hts inW_2 hown hK hZ2 g1.1 g1.2 rfl (by decide) k_6_221 rfl d_4_4_14 ?_
    refine lv_sipush (v := iI 3200) hx hb d_4_4_17 (by decide) ?_
    obtain ⟨g5, hf⟩ := gif hf
    refine zlt (tgt := 25) hx hb g5 (by decide) d_4_4_20 (by decide) (fun h6 => ?_) (fun h6 => ?_)
    · replace hf := gpos hf h6
      refine lv_iconst (v := iI 0) hx hb d_4_4_25 rfl ?_
      refine lv_istore (lv' := [(5, .int (iI 0)), (3, .long (lI r2)), (0, .ref (ad 2 l0 0)), (1, .ref (ad 6 l1 0)), (2, .int (iI l2))]) hx hb d_4_4_26 hl (by decide) rfl (fun ls hl => ?_)
      refine lv_iconst (v := iI 0) hx hb d_4_4_28 rfl ?_
      refine lv_istore (lv' := [(6, .int (iI 0)), (5, .int (iI 0)), (3, .long (lI r2)), (0, .ref (ad 2 l0 0)), (1, .ref (ad 6 l1 0)), (2, .int (iI l2))]) hx hb d_4_4_29 hl (by decide) rfl (fun ls hl => ?_)
      refine lv_iconst (v := iI 0) hx hb d_4_4_31 rfl ?_
      refine lv_istore (lv' := [(7, .int (iI 0)), (6, .int (iI 0)), (5, .int (iI 0)), (3, .long (lI r2)), (0, .ref (ad 2 l0 0)), (1, .ref (ad 6 l1 0)), (2, .int (iI l2))]) hx hb d_4_4_32 hl (by decide) rfl (fun ls hl => ?_)
      exact b_Layout_addColumn_34 X hf hZ2 hS2 (lv_sub hl [0, 1, 2, 3, 4, 5, 6] rfl)
    · replace hf := gneg hf h6
      exact b_Layout_addColumn_23 X hf hZ2 hS2 (lv_sub hl [] rfl)

noncomputable abbrev Q_Performance_begin (K : zK) (D : va_G) (ca : Nat → ClassId) (ad : Nat → Int → Nat → Nat) (L : List Nat) (r : Int) (F : zF) (B : zB) (A : Nat → Prop) : Array Value → State → Outcome → State → Prop := va_Qv (S := Unit) (fun _ => True) (fun _ => zPo D ca ad lnC K.2 L F B A) A
noncomputable def f_Performance_begin_22 (K : zK) : Nat → Int → Int → zF → zB → zO
  | 0, _, _, _, _ => none
  | n + 1, l1, l0, F, B => if 0 ≤ l0 ∧ l0 < K.2 5 then if r32 l1 then if r32 (F 5 l0 0) then (if (F 5 l0 0) ≤ l1 then zbind (f_Performance_sortStrokes K l0 F B) (fun r10 F10 B10 => some (0, F10, B10)) else if 0 ≤ l1 ∧ l1 < 2000 then if r32 (B 5 l0 344 l1) then zbind (f_Performance_strokeKey K l0 l1 (B 5 l0 344 l1) 1 F B) (fun r13 F13 B13 => if 0 ≤ (2 * l1) ∧ (2 * l1) < (lnC 5 l0 (F 5 l0 8).toNat : Int) then if zk 5 (F 5 l0 8).toNat = (3, 1) then if lnC 5 l0 (F 5 l0 8).toNat ≤ 2147483647 then if r32 ((zup4 B13 5 l0 (F 5 l0 8).toNat (2 * l1) r13) 5 l0 345 l1) then zbind (f_Performance_strokeKey K l0 l1 ((zup4 B13 5 l0 (F 5 l0 8).toNat (2 * l1) r13) 5 l0 345 l1) 0 F13 (zup4 B13 5 l0 (F 5 l0 8).toNat (2 * l1) r13)) (fun r19 F19 B19 => if 0 ≤ ((2 * l1) + 1) ∧ ((2 * l1) + 1) < (lnC 5 l0 (F13 5 l0 8).toNat : Int) then if zk 5 (F13 5 l0 8).toNat = (3, 1) then if lnC 5 l0 (F13 5 l0 8).toNat ≤ 2147483647 then f_Performance_begin_22 K n (l1 + 1) l0 F19 (zup4 B19 5 l0 (F13 5 l0 8).toNat ((2 * l1) + 1) r19) else none else none else none) else none else none else none else none) else none else none) else none else none else none
set_option maxHeartbeats 4000000 in
set_option maxRecDepth 100000 in
theorem b_Performance_begin_22 {D : va_G} {ca : Nat → ClassId} {ad : Nat → Int → Nat → Nat} {L : List Nat} {aS vS : Nat → Nat} {A : Nat → Prop} {p : Program} {l : Launch} {e : Env} {s : State} {m : MethodId} {args : Array Value} {below : List Frame} {meth : Method} {c : Code} {K : zK} {r : Int} {F9 : zF} {B9 : zB} (X : zX D ca L aS vS A p s m args meth c prog_7_method_11_code 2 (Option.none : Option Jvm.ClassFile.FieldType) "StaveHouse$Performance") : ∀ {n : Nat} {l1 : Int} {l0 : Int} {F : zF} {B : zB} {H : Heap} {locs : List Loc} {ls : Array Slot}, f_Performance_begin_22 K n l1 l0 F B = some (r, F9, B9) → zH D ca ad lnC K.2 L F B A H → va_S A s.heap H locs → lv_has ls 2 [(1, .int (iI l1)), (0, .ref (ad 5 l0 0))] → W p l e ({ frames := 2, cells := 0, slots := 0, locals := 50 } : Room) s m args below meth c H locs 0 0 (MQ below (Q_Performance_begin K D ca ad L r F9 B9 A) args s 0 0 A) (F0 m 22 ls []) := by
  obtain ⟨hx, hb, hr, hml, hown, hts, hlk, hK, hA, hL, hX⟩ := id X
  intro n
  induction n with
  | zero =>
    intros
    rename_i hf _ _ _
    cases hf
  | succ n ih =>
    intro l1 l0 F B H locs ls hf hZ hS hl
    replace hf : (if 0 ≤ l0 ∧ l0 < K.2 5 then if r32 l1 then if r32 (F 5 l0 0) then (if (F 5 l0 0) ≤ l1 then zbind (f_Performance_sortStrokes K l0 F B) (fun r10 F10 B10 => some (0, F10, B10)) else if 0 ≤ l1 ∧ l1 < 2000 then if r32 (B 5 l0 344 l1) then zbind (f_Performance_strokeKey K l0 l1 (B 5 l0 344 l1) 1 F B) (fun r13 F13 B13 => if 0 ≤ (2 * l1) ∧ (2 * l1) < (lnC 5 l0 (F 5 l0 8).toNat : Int) then if zk 5 (F 5 l0 8).toNat = (3, 1) then if lnC 5 l0 (F 5 l0 8).toNat ≤ 2147483647 then if r32 ((zup4 B13 5 l0 (F 5 l0 8).toNat (2 * l1) r13) 5 l0 345 l1) then zbind (f_Performance_strokeKey K l0 l1 ((zup4 B13 5 l0 (F 5 l0 8).toNat (2 * l1) r13) 5 l0 345 l1) 0 F13 (zup4 B13 5 l0 (F 5 l0 8).toNat (2 * l1) r13)) (fun r19 F19 B19 => if 0 ≤ ((2 * l1) + 1) ∧ ((2 * l1) + 1) < (lnC 5 l0 (F13 5 l0 8).toNat : Int) then if zk 5 (F13 5 l0 8).toNat = (3, 1) then if lnC 5 l0 (F13 5 l0 8).toNat ≤ 2147483647 then f_Performance_begin_22 K n (l1 + 1) l0 F19 (zup4 B19 5 l0 (F13 5 l0 8).toNat ((2 * l1) + 1) r19) else none else none else none) else none else none else none else none) else none else none) else none else none else none) = some (r, F9, B9) := hf
    refine lv_iload_n hx hb d_7_11_22 rfl (lv_at hl 0 rfl) ?_
    refine lv_aload_n hx hb d_7_11_23 rfl (lv_at hl 1 rfl) ?_
    obtain ⟨g6, hf⟩ := gif hf
    refine zget (ci := 5) (C := RX5) (T := TX5) (v := .int (iI (F 5 l0 0))) (k := 0) hx hb hts inW_5 hown hK hZ g6.1 g6.2 rfl (by decide) k_6_63 rfl d_7_11_24 ?_
    obtain ⟨g7, hf⟩ := gif hf
    obtain ⟨g8, hf⟩ := gif hf
    refine zge (tgt := 84) hx hb g7 g8 d_7_11_27 (by decide) (fun h9 => ?_) (fun h9 => ?_)
    · replace hf := gpos hf h9
      refine lv_aload_n hx hb d_7_11_84 rfl (lv_at hl 1 rfl) ?_
      obtain ⟨r10, F10, B10, hc10, hf⟩ := gbind hf
      refine va_callv (va_runV (As := []) (rest := []) ⟨hx, hb, hml, hown, hts⟩ (c_Performance_sortStrokes (l := l) hc10) (cwV 0 hts (gdV k_7_96 k_7_98 ks_87 k_1_20 k_7_99) rfl rfl rfl (by decide +kernel) ⟨Nat.le_of_ble_eq_true rfl, Nat.le_of_ble_eq_true rfl⟩) (zPV X hZ hS (ci := 5) g6.1 g6.2 (r := (RX5, TX5, 14)) rfl []) rfl rfl hl.1 rfl (lv_room (Nat.le_of_ble_eq_true rfl)) d_7_11_85 ⟨Nat.le_of_ble_eq_true rfl, Nat.le_of_ble_eq_true rfl⟩) hS (fun q _ h => zAin X hS q h) (zAin X hS) (fun u10 t10 H10 locs10 ht10 hv10 hw10 hB10 hz10 hk10 hS10 => ?_)
      have hZ10 := zBack X ht10 hB10
      cases hf
      exact W.vret hx hb hr (fun t ht hW => ⟨⟨(), rfl, trivial, by rw [ht]; exact hZ10, va_K.moved hW.alike hK⟩, hS10.F ht⟩) hS10.2.2 d_7_11_88 hlk
    · replace hf := gneg hf h9
      refine lv_aload_n hx hb d_7_11_30 rfl (lv_at hl 1 rfl) ?_
      refine zget (ci := 5) (C := RX5) (T := TX5) (v := .ref (ad 5 l0 ((F 5 l0 8).toNat + 1))) (k := 8) hx hb hts inW_5 hown hK hZ g6.1 g6.2 rfl (by decide) k_6_77 rfl d_7_11_31 ?_
      refine lv_iconst (v := iI 2) hx hb d_7_11_34 rfl ?_
      refine lv_iload_n hx hb d_7_11_35 rfl (lv_at hl 0 rfl) ?_
      refine zmul hx hb d_7_11_36 ?_
      refine lv_aload_n hx hb d_7_11_37 rfl (lv_at hl 1 rfl) ?_
      refine lv_iload_n hx hb d_7_11_38 rfl (lv_at hl 0 rfl) ?_
      refine lv_aload_n hx hb d_7_11_39 rfl (lv_at hl 1 rfl) ?_
      refine zget (ci := 5) (C := RX5) (T := TX5) (v := .ref (ad 5 l0 (7 + 1))) (k := 7) hx hb hts inW_5 hown hK hZ g6.1 g6.2 rfl (by decide) k_6_76 rfl d_7_11_40 ?_
      refine lv_iconst (v := iI 4) hx hb d_7_11_43 rfl ?_
      refine zaldQ (t := 0) (ci := 5) (k := 7) hx hb hK rfl hZ g6.1 g6.2 rfl (Nat.le_of_ble_eq_true rfl) (by decide) (by decide) d_7_11_44 ?_
      refine W.eq (g2 := F0 m 45 ls [.ref (ad 5 l0 (344 + 1)), .int (iI l1), .ref (ad 5 l0 0), .int (iI (2 * l1)), .ref (ad 5 l0 ((F 5 l0 8).toNat + 1))]) rfl ?_
      refine lv_iload_n hx hb d_7_11_45 rfl (lv_at hl 0 rfl) ?_
      obtain ⟨g11, hf⟩ := gif hf
      refine zald (ci := 5) (k := 344) hx hb hK rfl hZ g6.1 g6.2 rfl (Nat.le_of_ble_eq_true rfl) g11.1 g11.2 d_7_11_46 ?_
      obtain ⟨g12, hf⟩ := gif hf
      refine zi2l hx hb g12 d_7_11_47 ?_
      refine lv_iconst (v := iI 1) hx hb d_7_11_48 rfl ?_
      obtain ⟨r13, F13, B13, hc13, hf⟩ := gbind hf
      refine va_calll (va_runV (As := [.int (iI l1), .long (lI (B 5 l0 344 l1)), .int (iI 1)]) (rest := [.int (iI (2 * l1)), .ref (ad 5 l0 ((F 5 l0 8).toNat + 1))]) ⟨hx, hb, hml, hown, hts⟩ (c_Performance_strokeKey (l := l) hc13) (cwV 3 hts (gdV k_7_91 k_7_93 ks_86 k_1_20 k_7_94) rfl rfl rfl (by decide +kernel) ⟨Nat.le_of_ble_eq_true rfl, Nat.le_of_ble_eq_true rfl⟩) (zPV X hZ hS (ci := 5) g6.1 g6.2 (r := (RX5, TX5, 14)) rfl [.int (iI l1), .long (lI (B 5 l0 344 l1)), .int (iI 1)]) rfl rfl hl.1 rfl (lv_room (Nat.le_of_ble_eq_true rfl)) d_7_11_49 ⟨Nat.le_of_ble_eq_true rfl, Nat.le_of_ble_eq_true rfl⟩) hS (fun q _ h => zAin X hS q h) (zAin X hS) (fun p13 u13 t13 H13 locs13 ht13 hv13 hw13 hB13 hz13 hk13 hS13 => ?_)
      have hZ13 := zBack X ht13 hB13
      subst hw13
      obtain ⟨g14, hf⟩ := gif hf
      obtain ⟨g15, hf⟩ := gif hf
      obtain ⟨g16, hf⟩ := gif hf
      refine zlast (ci := 5) (k := (F 5 l0 8).toNat) hx hb hK rfl hZ13 hS13 g6.1 g6.2 g15 g16 g14.1 g14.2 d_7_11_52 (fun H17 locs17 hZ17 hS17 => ?_)
      refine lv_aload_n hx hb d_7_11_53 rfl (lv_at hl 1 rfl) ?_
      refine zget (ci := 5) (C := RX5) (T := TX5) (v := .ref (ad 5 l0 ((F13 5 l0 8).toNat + 1))) (k := 8) hx hb hts inW_5 hown hK hZ17 g6.1 g6.2 rfl (by decide) k_6_77 rfl d_7_11_54 ?_
      refine lv_iconst (v := iI 2) hx hb d_7_11_57 rfl ?_
      refine lv_iload_n hx hb d_7_11_58 rfl (lv_at hl 0 rfl) ?_
      refine zmul hx hb d_7_11_59 ?_
      refine lv_iconst (v := iI 1) hx hb d_7_11_60 rfl ?_
      refine zadd hx hb d_7_11_61 ?_
      refine lv_aload_n hx hb d_7_11_62 rfl (lv_at hl 1 rfl) ?_
      refine lv_iload_n hx hb d_7_11_63 rfl (lv_at hl 0 rfl) ?_
      refine lv_aload_n hx hb d_7_11_64 rfl (lv_at hl 1 rfl) ?_
      refine zget (ci := 5) (C := RX5) (T := TX5) (v := .ref (ad 5 l0 (7 + 1))) (k := 7) hx hb hts inW_5 hown hK hZ17 g6.1 g6.2 rfl (by decide) k_6_76 rfl d_7_11_65 ?_
      refine lv_iconst (v := iI 5) hx hb d_7_11_68 rfl ?_
      refine zaldQ (t := 0) (ci := 5) (k := 7) hx hb hK rfl hZ17 g6.1 g6.2 rfl (Nat.le_of_ble_eq_true rfl) (by decide) (by decide) d_7_11_69 ?_
      refine W.eq (g2 := F0 m 70 ls [.ref (ad 5 l0 (345 + 1)), .int (iI l1), .ref (ad 5 l0 0), .int (iI ((2 * l1) + 1)), .ref (ad 5 l0 ((F13 5 l0 8).toNat + 1))]) rfl ?_
      refine lv_iload_n hx hb d_7_11_70 rfl (lv_at hl 0 rfl) ?_
      refine zald (ci := 5) (k := 345) hx hb hK rfl hZ17 g6.1 g6.2 rfl (Nat.le_of_ble_eq_true rfl) g11.1 g11.2 d_7_11_71 ?_
      obtain ⟨g18, hf⟩ := gif hf
      refine zi2l hx hb g18 d_7_11_72 ?_
      refine lv_iconst (v := iI 0) hx hb d_7_11_73 rfl ?_
      obtain ⟨r19, F19, B19, hc19, hf⟩ := gbind hf
      refine va_calll (va_runV (As := [.int (iI l1), .long (lI ((zup4 B13 5 l0 (F 5 l0 8).toNat (2 * l1) r13) 5 l0 345 l1)), .int (iI 0)]) (rest := [.int (iI ((2 * l1) + 1)), .ref (ad 5 l0 ((F13 5 l0 8).toNat + 1))]) ⟨hx, hb, hml, hown, hts⟩ (c_Performance_strokeKey (l := l) hc19) (cwV 3 hts (gdV k_7_91 k_7_93 ks_86 k_1_20 k_7_94) rfl rfl rfl (by decide +kernel) ⟨Nat.le_of_ble_eq_true rfl, Nat.le_of_ble_eq_true rfl⟩) (zPV X hZ17 hS17 (ci := 5) g6.1 g6.2 (r := (RX5, TX5, 14)) rfl [.int (iI l1), .long (lI ((zup4 B13 5 l0 (F 5 l0 8).toNat (2 * l1) r13) 5 l0 345 l1)), .int (iI 0)]) rfl rfl hl.1 rfl (lv_room (Nat.le_of_ble_eq_true rfl)) d_7_11_74 ⟨Nat.le_of_ble_eq_true rfl, Nat.le_of_ble_eq_true rfl⟩) hS17 (fun q _ h => zAin X hS17 q h) (zAin X hS17) (fun p19 u19 t19 H19 locs19 ht19 hv19 hw19 hB19 hz19 hk19 hS19 => ?_)
      have hZ19 := zBack X ht19 hB19
      subst hw19
      obtain ⟨g20, hf⟩ := gif hf
      obtain ⟨g21, hf⟩ := gif hf
      obtain ⟨g22, hf⟩ := gif hf
      refine zlast (ci := 5) (k := (F13 5 l0 8).toNat) hx hb hK rfl hZ19 hS19 g6.1 g6.2 g21 g22 g20.1 g20.2 d_7_11_77 (fun H23 locs23 hZ23 hS23 => ?_)
      refine lv_iinc (v := iI (l1 + 1)) (lv' := [(1, .int (iI (l1 + 1))), (0, .ref (ad 5 l0 0))]) hx hb d_7_11_78 hl (k := 0) rfl (iI_add _ 1) (by decide) rfl (fun ls hl => ?_)
      refine lv_goto (tgt := 22) hx hb d_7_11_81 (by decide) ?_
      exact ih hf hZ23 hS23 (lv_sub hl [0, 1] rfl)

noncomputable def f_Performance_begin (K : zK) (l0 : Int) (F : zF) (B : zB) : zO := if 0 ≤ l0 ∧ l0 < K.2 5 then f_Performance_begin_22 K K.1 0 l0 (zup3 (zup3 (zup3 (zup3 F 5 l0 2 0) 5 l0 11 0) 5 l0 12 0) 5 l0 13 0) B else none
set_option maxHeartbeats 4000000 in
set_option maxRecDepth 100000 in
theorem c_Performance_begin {l : Launch} {D : va_G} {ca : Nat → ClassId} {ad : Nat → Int → Nat → Nat} {L : List Nat} {aS vS : Nat → Nat} {sz : Nat} {K : zK}  {l0 : Int} {F F9 : zF} {B B9 : zB} {r : Int} (hf : f_Performance_begin K l0 F B = some (r, F9, B9)) : Met l ({ cls := "StaveHouse$Performance", name := "begin", desc := "()V" } : Jvm.MethodName) (Cond.code ({ cls := "StaveHouse$Performance", name := "begin", desc := "()V" } : Jvm.MethodName) prog_7_method_11_code 2 (Option.none : Option Jvm.ClassFile.FieldType) :: wAll) ({ frames := 2, cells := 0, slots := 0, locals := 50 } : Room) (va_Pc [.ref (ad 5 l0 0)] (zPre D ca ad lnC K.2 L aS vS F B sz)) (Q_Performance_begin K D ca ad L r F9 B9 (zA L sz)) 0 0 (zA L sz) := by
  refine zMet (Qc := Q_Performance_begin K D ca ad L r F9 B9) (lv := [(0, .ref (ad 5 l0 0))]) (by decide) (Nat.le_of_ble_eq_true rfl) rfl (fun A p e s m below meth c ls X hZ hS hl => ?_)
  obtain ⟨hx, hb, hr, hml, hown, hts, hlk, hK, hA, hL, hX⟩ := id X
  replace hf : (if 0 ≤ l0 ∧ l0 < K.2 5 then f_Performance_begin_22 K K.1 0 l0 (zup3 (zup3 (zup3 (zup3 F 5 l0 2 0) 5 l0 11 0) 5 l0 12 0) 5 l0 13 0) B else none) = some (r, F9, B9) := hf
  refine lv_aload_n hx hb d_7_11_0 rfl (lv_at hl 0 rfl) ?_
  refine lv_iconst (v := iI 0) hx hb d_7_11_1 rfl ?_
  obtain ⟨g1, hf⟩ := gif hf
  refine zput (ci := 5) (C := RX5) (T := TX5) (k := 2) (v := 0) (w := .int (iI 0)) hx hb hts inW_5 tyX5 tyX5_ok nmX5 hown hK hZ hS g1.1 g1.2 rfl (by decide) k_6_68 rfl (fun G h => congrArg (fun q => Value.int (iI q)) h) rfl rfl (zno (by decide)) d_7_11_2 (fun H2 locs2 hZ2 hS2 => ?_)
  refine lv_aload_n hx hb d_7_11_5 rfl (lv_at hl 0 rfl) ?_
  refine lv_iconst (v := iI 0) hx hb d_7_11_6 rfl ?_
  refine zput (ci := 5) (C := RX5) (T := TX5) (k := 11) (v := 0) (w := .int (iI 0)) hx hb hts inW_5 tyX5 tyX5_ok nmX5 hown hK hZ2 hS2 g1.1 g1.2 rfl (by decide) k_6_80 rfl (fun G h => congrArg (fun q => Value.int (iI q)) h) rfl rfl (zno (by decide)) d_7_11_7 (fun H3 locs3 hZ3 hS3 => ?_)
  refine lv_aload_n hx hb d_7_11_10 rfl (lv_at hl 0 rfl) ?_
  refine lv_iconst (v := iI 0) hx hb d_7_11_11 rfl ?_
  refine zput (ci := 5) (C := RX5) (T := TX5) (k := 12) (v := 0) (w := .int (iI 0)) hx hb hts inW_5 tyX5 tyX5_ok nmX5 hown hK hZ3 hS3 g1.1 g1.2 rfl (by decide) k_6_81 rfl (fun G h => congrArg (fun q => Value.int (iI q)) h) rfl rfl (zno (by decide)) d_7_11_12 (fun H4 locs4 hZ4 hS4 => ?_)
  refine lv_aload_n hx hb d_7_11_15 rfl (lv_at hl 0 rfl) ?_
  refine lv_iconst (v := iI 0) hx hb d_7_11_16 rfl ?_
  refine zput (ci := 5) (C := RX5) (T := TX5) (k := 13) (v := 0) (w := .int (iI 0)) hx hb hts inW_5 tyX5 tyX5_ok nmX5 hown hK hZ4 hS4 g1.1 g1.2 rfl (by decide) k_6_82 rfl (fun G h => congrArg (fun q => Value.int (iI q)) h) rfl rfl (zno (by decide)) d_7_11_17 (fun H5 locs5 hZ5 hS5 => ?_)
  refine lv_iconst (v := iI 0) hx hb d_7_11_20 rfl ?_
  refine lv_istore_n (lv' := [(1, .int (iI 0)), (0, .ref (ad 5 l0 0))]) hx hb d_7_11_21 rfl hl (by decide) rfl (fun ls hl => ?_)
  exact b_Performance_begin_22 X hf hZ5 hS5 (lv_sub hl [0, 1] rfl)

noncomputable abbrev Q_CString_charAt (K : zK) (D : va_G) (ca : Nat → ClassId) (ad : Nat → Int → Nat → Nat) (L : List Nat) (r : Int) (F : zF) (B : zB) (A : Nat → Prop) : Array Value → State → Outcome → State → Prop := va_Qi (S := Unit) (fun p _ => p = iI r) (fun _ => zPo D ca ad lnC K.2 L F B A) A
noncomputable def f_CString_charAt (K : zK) (l0 : Nat) (l1 : Int) (F : zF) (B : zB) : zO := if l0 < strL.length then zbind (f_CString_isLatin1 K l0 F B) (fun r2 F2 B2 => if r32 r2 then (if r2 = 0 then none else zbind (f_CStringLatin1_charAt K l0 l1 F2 B2) (fun r5 F5 B5 => if 0 ≤ r5 ∧ r5 < 65536 then some (r5, F5, B5) else none)) else none) else none
set_option maxHeartbeats 4000000 in
set_option maxRecDepth 100000 in
theorem c_CString_charAt {l : Launch} {D : va_G} {ca : Nat → ClassId} {ad : Nat → Int → Nat → Nat} {L : List Nat} {aS vS : Nat → Nat} {sz : Nat} {K : zK}  {l0 : Nat} {l1 : Int} {F F9 : zF} {B B9 : zB} {r : Int} (hf : f_CString_charAt K l0 l1 F B = some (r, F9, B9)) : Met l ({ cls := "java/lang/String", name := "charAt", desc := "(I)C" } : Jvm.MethodName) (Cond.code ({ cls := "java/lang/String", name := "charAt", desc := "(I)C" } : Jvm.MethodName) prog_21_method_56_code 2 (Option.some Jvm.ClassFile.FieldType.char) :: wAll) ({ frames := 3, cells := 0, slots := 0, locals := 64 } : Room) (va_Pc [.ref (aS l0), .int (iI l1)] (zPre D ca ad lnC K.2 L aS vS F B sz)) (Q_CString_charAt K D ca ad L r F9 B9 (zA L sz)) 0 0 (zA L sz) := by
  refine zMet (Qc := Q_CString_charAt K D ca ad L r F9 B9) (lv := [(0, .ref (aS l0)), (1, .int (iI l1))]) (by decide) (Nat.le_of_ble_eq_true rfl) rfl (fun A p e s m below meth c ls X hZ hS hl => ?_)
  obtain ⟨hx, hb, hr, hml, hown, hts, hlk, hK, hA, hL, hX⟩ := id X
  replace hf : (if l0 < strL.length then zbind (f_CString_isLatin1 K l0 F B) (fun r2 F2 B2 => if r32 r2 then (if r2 = 0 then none else zbind (f_CStringLatin1_charAt K l0 l1 F2 B2) (fun r5 F5 B5 => if 0 ≤ r5 ∧ r5 < 65536 then some (r5, F5, B5) else none)) else none) else none) = some (r, F9, B9) := hf
  refine lv_aload_n hx hb d_21_56_0 rfl (lv_at hl 0 rfl) ?_
  obtain ⟨g1, hf⟩ := gif hf
  obtain ⟨r2, F2, B2, hc2, hf⟩ := gbind hf
  refine va_calli (va_runV (As := []) (rest := []) ⟨hx, hb, hml, hown, hts⟩ (c_CString_isLatin1 (l := l) hc2) (cwV 0 hts (gdV k_3_75 k_3_76 k_3_77 k_1_11 k_3_78) rfl rfl rfl (by decide +kernel) ⟨Nat.le_of_ble_eq_true rfl, Nat.le_of_ble_eq_true rfl⟩) ⟨zBlind, zsrecv hX g1 hS, zAt X hZ hS [.ref (aS l0)]⟩ rfl rfl hl.1 rfl (lv_room (Nat.le_of_ble_eq_true rfl)) d_21_56_1 ⟨Nat.le_of_ble_eq_true rfl, Nat.le_of_ble_eq_true rfl⟩) hS (fun q _ h => zAin X hS q h) (zAin X hS) (fun p2 u2 t2 H2 locs2 ht2 hv2 hw2 hB2 hz2 hk2 hS2 => ?_)
  have hZ2 := zBack X ht2 hB2
  subst hw2
  obtain ⟨g3, hf⟩ := gif hf
  refine z0eq (tgt := 16) hx hb g3 d_21_56_4 (by decide) (fun h4 => ?_) (fun h4 => ?_)
  · replace hf := gpos hf h4
    refine lv_aload_n hx hb d_21_56_16 rfl (lv_at hl 0 rfl) ?_
    refine vk_getf hx hb (zstr hX g1).2.1 hS2 hown (hts _ k_15_170) (fun _ h => h) d_21_56_17 ?_
    refine W.eq (g2 := F0 m 20 ls [.ref (vS l0)]) rfl ?_
    refine lv_iload_n hx hb d_21_56_20 rfl (lv_at hl 1 rfl) ?_
    cases hf
  · replace hf := gneg hf h4
    refine lv_aload_n hx hb d_21_56_7 rfl (lv_at hl 0 rfl) ?_
    refine vk_getf hx hb (zstr hX g1).2.1 hS2 hown (hts _ k_15_170) (fun _ h => h) d_21_56_8 ?_
    refine W.eq (g2 := F0 m 11 ls [.ref (vS l0)]) rfl ?_
    refine lv_iload_n hx hb d_21_56_11 rfl (lv_at hl 1 rfl) ?_
    obtain ⟨r5, F5, B5, hc5, hf⟩ := gbind hf
    refine va_calli (va_runS (As := [.ref (vS l0), .int (iI l1)]) (rest := []) ⟨hx, hb, hml, hown, hts⟩ (c_CStringLatin1_charAt (l := l) hc5) (va_cwS 2 hts (gdS k_7_137 k_7_138 k_1_12 k_7_139) rfl rfl rfl (by decide +kernel) ⟨Nat.le_of_ble_eq_true rfl, Nat.le_of_ble_eq_true rfl⟩) (zPS X hZ2 hS2 [.ref (vS l0), .int (iI l1)]) rfl rfl hl.1 rfl (lv_room (Nat.le_of_ble_eq_true rfl)) d_21_56_12 ⟨Nat.le_of_ble_eq_true rfl, Nat.le_of_ble_eq_true rfl⟩) hS2 (fun q _ h => zAin X hS2 q h) (zAin X hS2) (fun p5 u5 t5 H5 locs5 ht5 hv5 hw5 hB5 hz5 hk5 hS5 => ?_)
    have hZ5 := zBack X ht5 hB5
    subst hw5
    obtain ⟨g6, hf⟩ := gif hf
    cases hf
    exact W.zret hx hb hr (zchar g6) (fun t ht hW => ⟨⟨_, (), rfl, rfl, by rw [ht]; exact hZ5, va_K.moved hW.alike hK⟩, hS5.F ht⟩) hS5.2.2 d_21_56_15 hlk

noncomputable abbrev Q_SoundFile_takeOnly (K : zK) (D : va_G) (ca : Nat → ClassId) (ad : Nat → Int → Nat → Nat) (L : List Nat) (r : Int) (F : zF) (B : zB) (A : Nat → Prop) : Array Value → State → Outcome → State → Prop := va_Qv (S := Unit) (fun _ => True) (fun _ => zPo D ca ad lnC K.2 L F B A) A
noncomputable def f_SoundFile_takeOnly_26 (K : zK)  (F : zF) (B : zB) : zO := some (0, F, B)
set_option maxHeartbeats 4000000 in
set_option maxRecDepth 100000 in
theorem b_SoundFile_takeOnly_26 {D : va_G} {ca : Nat → ClassId} {ad : Nat → Int → Nat → Nat} {L : List Nat} {aS vS : Nat → Nat} {A : Nat → Prop} {p : Program} {l : Launch} {e : Env} {s : State} {m : MethodId} {args : Array Value} {below : List Frame} {meth : Method} {c : Code} {K : zK} {r : Int} {F9 : zF} {B9 : zB} (X : zX D ca L aS vS A p s m args meth c prog_10_method_6_code 4 (Option.none : Option Jvm.ClassFile.FieldType) "StaveHouse$SoundFile")  {F : zF} {B : zB} {H : Heap} {locs : List Loc} {ls : Array Slot} (hf : f_SoundFile_takeOnly_26 K  F B = some (r, F9, B9)) (hZ : zH D ca ad lnC K.2 L F B A H) (hS : va_S A s.heap H locs) (hl : lv_has ls 4 []) : W p l e ({ frames := 2, cells := 0, slots := 0, locals := 42 } : Room) s m args below meth c H locs 0 0 (MQ below (Q_SoundFile_takeOnly K D ca ad L r F9 B9 A) args s 0 0 A) (F0 m 26 ls []) := by
  obtain ⟨hx, hb, hr, hml, hown, hts, hlk, hK, hA, hL, hX⟩ := id X
  replace hf : (some (0, F, B)) = some (r, F9, B9) := hf
  cases hf
  exact W.vret hx hb hr (fun t ht hW => ⟨⟨(), rfl, trivial, by rw [ht]; exact hZ, va_K.moved hW.alike hK⟩, hS.F ht⟩) hS.2.2 d_10_6_26 hlk

noncomputable def f_SoundFile_takeOnly_15 (K : zK) (l0 : Int) (F : zF) (B : zB) : zO := if 0 ≤ l0 ∧ l0 < K.2 8 then zbind (f_SoundFile_refuse K l0 1 ((F 8 l0 5) - 1) F B) (fun r9 F9 B9 => f_SoundFile_takeOnly_26 K F9 B9) else none
