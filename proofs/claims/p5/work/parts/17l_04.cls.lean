set_option maxHeartbeats 4000000 in
set_option maxRecDepth 100000 in
theorem c_S_play {l : Launch} {D : va_G} {ca : Nat → ClassId} {ad : Nat → Int → Nat → Nat} {L : List Nat} {aS vS : Nat → Nat} {sz : Nat} {K : zK}  {l0 : Int} {l1 : Int} {l2 : Int} {F F9 : zF} {B B9 : zB} {r : Int} (hf : f_S_play K l0 l1 l2 F B = some (r, F9, B9)) : Met l ({ cls := "StaveHouse", name := "play", desc := "(II)I" } : Jvm.MethodName) (Cond.code ({ cls := "StaveHouse", name := "play", desc := "(II)I" } : Jvm.MethodName) prog_1_method_28_code 5 (Option.some Jvm.ClassFile.FieldType.int) :: wAll) ({ frames := 5, cells := 0, slots := 0, locals := 112 } : Room) (va_Pc [.ref (ad 12 l0 0), .int (iI l1), .int (iI l2)] (zPre D ca ad lnC K.2 L aS vS F B sz)) (Q_S_play K D ca ad L r F9 B9 (zA L sz)) 0 0 (zA L sz) := by
  refine zMet (Qc := Q_S_play K D ca ad L r F9 B9) (lv := [(0, .ref (ad 12 l0 0)), (1, .int (iI l1)), (2, .int (iI l2))]) (by decide) (Nat.le_of_ble_eq_true rfl) rfl (fun A p e s m below meth c ls X hZ hS hl => ?_)
  obtain ⟨hx, hb, hr, hml, hown, hts, hlk, hK, hA, hL, hX⟩ := id X
  replace hf : (if 0 ≤ l0 ∧ l0 < K.2 12 then zbind (f_S_performanceOf K l0 l1 F B) (fun r2 F2 B2 => zbind (f_S_pieceAt K l0 l1 F2 B2) (fun r3 F3 B3 => (if r2 < 0 then f_S_play_33 K F3 B3 else (if r3 < 0 then f_S_play_33 K F3 B3 else if r32 l2 then (if l2 < 0 then f_S_play_33 K F3 B3 else (if l2 ≤ 1000 then if 0 ≤ r2 ∧ r2 < K.2 5 then if 0 ≤ r3 ∧ r3 < K.2 6 then zbind (f_Performance_playOn K r2 r3 l2 F3 B3) (fun r11 F11 B11 => some (r11, F11, B11)) else none else none else f_S_play_33 K F3 B3)) else none)))) else none) = some (r, F9, B9) := hf
  refine lv_aload_n hx hb d_1_28_0 rfl (lv_at hl 0 rfl) ?_
  refine lv_iload_n hx hb d_1_28_1 rfl (lv_at hl 1 rfl) ?_
  obtain ⟨g1, hf⟩ := gif hf
  obtain ⟨r2, F2, B2, hc2, hf⟩ := gbind hf
  refine va_callq (va_runV (As := [.int (iI l1)]) (rest := []) ⟨hx, hb, hml, hown, hts⟩ (c_S_performanceOf (l := l) hc2) (cwV 1 hts (gdV k_7_108 k_7_110 ks_89 k_1_1 k_7_111) rfl rfl rfl (by decide +kernel) ⟨Nat.le_of_ble_eq_true rfl, Nat.le_of_ble_eq_true rfl⟩) (zPV X hZ hS (ci := 12) g1.1 g1.2 (r := (RX12, TX12, 10)) rfl [.int (iI l1)]) rfl rfl hl.1 rfl (lv_room (Nat.le_of_ble_eq_true rfl)) d_1_28_2 ⟨Nat.le_of_ble_eq_true rfl, Nat.le_of_ble_eq_true rfl⟩) hS (fun q _ h => zAin X hS q h) (zAin X hS) (fun p2 u2 t2 H2 locs2 ht2 hv2 hw2 hB2 hz2 hk2 hS2 => ?_)
  have hZ2 := zBack X ht2 hB2
  subst hw2
  refine zastore_n (lv' := [(0, .ref (ad 12 l0 0)), (1, .int (iI l1)), (2, .int (iI l2))]) hx hb d_1_28_5 rfl hl (by decide) (fun _ _ => rfl) (fun ls hl => ?_)
  refine lv_aload_n hx hb d_1_28_6 rfl (lv_at hl 1 rfl) ?_
  refine lv_iload_n hx hb d_1_28_7 rfl (lv_at hl 2 rfl) ?_
  obtain ⟨r3, F3, B3, hc3, hf⟩ := gbind hf
  refine va_callq (va_runV (As := [.int (iI l1)]) (rest := []) ⟨hx, hb, hml, hown, hts⟩ (c_S_pieceAt (l := l) hc3) (cwV 1 hts (gdV k_5_182 k_5_184 ks_65 k_1_1 k_5_185) rfl rfl rfl (by decide +kernel) ⟨Nat.le_of_ble_eq_true rfl, Nat.le_of_ble_eq_true rfl⟩) (zPV X hZ2 hS2 (ci := 12) g1.1 g1.2 (r := (RX12, TX12, 10)) rfl [.int (iI l1)]) rfl rfl hl.1 rfl (lv_room (Nat.le_of_ble_eq_true rfl)) d_1_28_8 ⟨Nat.le_of_ble_eq_true rfl, Nat.le_of_ble_eq_true rfl⟩) hS2 (fun q _ h => zAin X hS2 q h) (zAin X hS2) (fun p3 u3 t3 H3 locs3 ht3 hv3 hw3 hB3 hz3 hk3 hS3 => ?_)
  have hZ3 := zBack X ht3 hB3
  subst hw3
  refine zastore (lv' := [(3, va_rf (zrf ad 5 r2)), (0, .ref (ad 12 l0 0)), (1, .int (iI l1)), (2, .int (iI l2))]) hx hb d_1_28_11 hl (by decide) (fun v hv => by cases zrf ad 5 r2 <;> rfl) (fun ls hl => ?_)
  refine zaload_n hx hb d_1_28_13 rfl (lv_at hl 1 rfl) ?_
  refine zifnull (tgt := 33) hx hb d_1_28_14 (by decide) (fun h4 => ?_) (fun h4 => ?_)
  · replace hf := gpos hf h4
    exact b_S_play_33 X hf hZ3 hS3 (lv_sub hl [] rfl)
  · replace hf := gneg hf h4
    refine zaload hx hb d_1_28_17 (lv_at hl 0 rfl) ?_
    refine zifnull (tgt := 33) hx hb d_1_28_19 (by decide) (fun h5 => ?_) (fun h5 => ?_)
    · replace hf := gpos hf h5
      exact b_S_play_33 X hf hZ3 hS3 (lv_sub hl [] rfl)
    · replace hf := gneg hf h5
      refine lv_iload_n hx hb d_1_28_22 rfl (lv_at hl 4 rfl) ?_
      obtain ⟨g6, hf⟩ := gif hf
      refine z0lt (tgt := 33) hx hb g6 d_1_28_23 (by decide) (fun h7 => ?_) (fun h7 => ?_)
      · replace hf := gpos hf h7
        exact b_S_play_33 X hf hZ3 hS3 (lv_sub hl [] rfl)
      · replace hf := gneg hf h7
        refine lv_iload_n hx hb d_1_28_26 rfl (lv_at hl 4 rfl) ?_
        refine lv_sipush (v := iI 1000) hx hb d_1_28_27 (by decide) ?_
        refine zle (tgt := 35) hx hb g6 (by decide) d_1_28_30 (by decide) (fun h8 => ?_) (fun h8 => ?_)
        · replace hf := gpos hf h8
          refine zaload_n hx hb d_1_28_35 rfl (lv_at hl 1 rfl) ?_
          refine zaload hx hb d_1_28_36 (lv_at hl 0 rfl) ?_
          refine lv_iload_n hx hb d_1_28_38 rfl (lv_at hl 4 rfl) ?_
          obtain ⟨g9, hf⟩ := gif hf
          refine W.eq (g2 := F0 m 39 ls [.int (iI l2), va_rf (zrf ad 6 r3), .ref (ad 5 r2 0)]) (by rw [zrf_pos (ad := ad) (t := 5) g9.1]; try rfl) ?_
          obtain ⟨g10, hf⟩ := gif hf
          refine W.eq (g2 := F0 m 39 ls [.int (iI l2), .ref (ad 6 r3 0), .ref (ad 5 r2 0)]) (by rw [zrf_pos (ad := ad) (t := 6) g10.1]; try rfl) ?_
          obtain ⟨r11, F11, B11, hc11, hf⟩ := gbind hf
          refine va_calli (va_runV (As := [.ref (ad 6 r3 0), .int (iI l2)]) (rest := []) ⟨hx, hb, hml, hown, hts⟩ (c_Performance_playOn (l := l) hc11) (cwV 2 hts (gdV k_8_238 k_8_239 k_9_0 k_1_20 k_9_1) rfl rfl rfl (by decide +kernel) ⟨Nat.le_of_ble_eq_true rfl, Nat.le_of_ble_eq_true rfl⟩) (zPV X hZ3 hS3 (ci := 5) g9.1 g9.2 (r := (RX5, TX5, 14)) rfl [.ref (ad 6 r3 0), .int (iI l2)]) rfl rfl hl.1 rfl (lv_room (Nat.le_of_ble_eq_true rfl)) d_1_28_39 ⟨Nat.le_of_ble_eq_true rfl, Nat.le_of_ble_eq_true rfl⟩) hS3 (fun q _ h => zAin X hS3 q h) (zAin X hS3) (fun p11 u11 t11 H11 locs11 ht11 hv11 hw11 hB11 hz11 hk11 hS11 => ?_)
          have hZ11 := zBack X ht11 hB11
          subst hw11
          cases hf
          exact W.iret hx hb hr (fun t ht hW => ⟨⟨_, (), rfl, rfl, by rw [ht]; exact hZ11, va_K.moved hW.alike hK⟩, hS11.F ht⟩) hS11.2.2 d_1_28_42 hlk
        · replace hf := gneg hf h8
          exact b_S_play_33 X hf hZ3 hS3 (lv_sub hl [] rfl)

noncomputable abbrev Q_S_follows (K : zK) (D : va_G) (ca : Nat → ClassId) (ad : Nat → Int → Nat → Nat) (L : List Nat) (r : Int) (F : zF) (B : zB) (A : Nat → Prop) : Array Value → State → Outcome → State → Prop := va_Ql (S := Unit) (fun p _ => p = lI r) (fun _ => zPo D ca ad lnC K.2 L F B A) A
noncomputable def f_S_follows_87 (K : zK) (l8 : Int) (l7 : Int) (l6 : Int) (l5 : Int) (l4 : Int) (s0 : Int) (F : zF) (B : zB) : zO := if r32 s0 then (if s0 = 0 then some (0, F, B) else if 0 ≤ l6 ∧ l6 < K.2 4 then if 0 ≤ l8 ∧ l8 < 200 then if 0 ≤ (B 4 l6 5 l8) ∧ (B 4 l6 5 l8) < K.2 1 then if 0 ≤ l5 ∧ l5 < K.2 4 then if 0 ≤ l7 ∧ l7 < 200 then if 0 ≤ (B 4 l5 5 l7) ∧ (B 4 l5 5 l7) < K.2 1 then if r32 l4 then (if l4 = 0 then some (s0, F, B) else (if l4 = 1 then zbind (f_Event_topStep K (B 4 l6 5 l8) F B) (fun r33 F33 B33 => if 0 ≤ (B33 4 l5 5 l7) ∧ (B33 4 l5 5 l7) < K.2 1 then zbind (f_Event_topStep K (B33 4 l5 5 l7) F33 B33) (fun r35 F35 B35 => if r32 (r33 - r35) then some (r33 - r35, F35, B35) else none) else none) else (if l4 = 2 then zbind (f_S_above K ((F 1 (B 4 l6 5 l8) 0) - (F 1 (B 4 l5 5 l7) 0)) F B) (fun r38 F38 B38 => some (r38, F38, B38)) else zbind (f_S_below K ((F 1 (B 4 l6 5 l8) 0) - (F 1 (B 4 l5 5 l7) 0)) F B) (fun r39 F39 B39 => some (r39, F39, B39))))) else none else none else none else none else none else none else none) else none
set_option maxHeartbeats 4000000 in
set_option maxRecDepth 100000 in
theorem b_S_follows_87 {D : va_G} {ca : Nat → ClassId} {ad : Nat → Int → Nat → Nat} {L : List Nat} {aS vS : Nat → Nat} {A : Nat → Prop} {p : Program} {l : Launch} {e : Env} {s : State} {m : MethodId} {args : Array Value} {below : List Frame} {meth : Method} {c : Code} {K : zK} {r : Int} {F9 : zF} {B9 : zB} (X : zX D ca L aS vS A p s m args meth c prog_1_method_32_code 12 (Option.some Jvm.ClassFile.FieldType.long) "StaveHouse") {l8 : Int} {l7 : Int} {l6 : Int} {l5 : Int} {l4 : Int} {s0 : Int} {F : zF} {B : zB} {H : Heap} {locs : List Loc} {ls : Array Slot} (hf : f_S_follows_87 K l8 l7 l6 l5 l4 s0 F B = some (r, F9, B9)) (hZ : zH D ca ad lnC K.2 L F B A H) (hS : va_S A s.heap H locs) (hl : lv_has ls 12 [(8, .int (iI l8)), (7, .int (iI l7)), (6, va_rf (zrf ad 4 l6)), (5, va_rf (zrf ad 4 l5)), (4, .int (iI l4))]) : W p l e ({ frames := 6, cells := 0, slots := 0, locals := 134 } : Room) s m args below meth c H locs 0 0 (MQ below (Q_S_follows K D ca ad L r F9 B9 A) args s 0 0 A) (F0 m 87 ls [.int (iI s0)]) := by
  obtain ⟨hx, hb, hr, hml, hown, hts, hlk, hK, hA, hL, hX⟩ := id X
  replace hf : (if r32 s0 then (if s0 = 0 then some (0, F, B) else if 0 ≤ l6 ∧ l6 < K.2 4 then if 0 ≤ l8 ∧ l8 < 200 then if 0 ≤ (B 4 l6 5 l8) ∧ (B 4 l6 5 l8) < K.2 1 then if 0 ≤ l5 ∧ l5 < K.2 4 then if 0 ≤ l7 ∧ l7 < 200 then if 0 ≤ (B 4 l5 5 l7) ∧ (B 4 l5 5 l7) < K.2 1 then if r32 l4 then (if l4 = 0 then some (s0, F, B) else (if l4 = 1 then zbind (f_Event_topStep K (B 4 l6 5 l8) F B) (fun r33 F33 B33 => if 0 ≤ (B33 4 l5 5 l7) ∧ (B33 4 l5 5 l7) < K.2 1 then zbind (f_Event_topStep K (B33 4 l5 5 l7) F33 B33) (fun r35 F35 B35 => if r32 (r33 - r35) then some (r33 - r35, F35, B35) else none) else none) else (if l4 = 2 then zbind (f_S_above K ((F 1 (B 4 l6 5 l8) 0) - (F 1 (B 4 l5 5 l7) 0)) F B) (fun r38 F38 B38 => some (r38, F38, B38)) else zbind (f_S_below K ((F 1 (B 4 l6 5 l8) 0) - (F 1 (B 4 l5 5 l7) 0)) F B) (fun r39 F39 B39 => some (r39, F39, B39))))) else none else none else none else none else none else none else none) else none) = some (r, F9, B9) := hf
  refine lv_istore (lv' := [(9, .int (iI s0)), (8, .int (iI l8)), (7, .int (iI l7)), (6, va_rf (zrf ad 4 l6)), (5, va_rf (zrf ad 4 l5)), (4, .int (iI l4))]) hx hb d_1_32_87 hl (by decide) rfl (fun ls hl => ?_)
  refine lv_iload hx hb d_1_32_89 (lv_at hl 0 rfl) ?_
  obtain ⟨g21, hf⟩ := gif hf
  refine z0ne (tgt := 96) hx hb g21 d_1_32_91 (by decide) (fun h22 => ?_) (fun h22 => ?_)
  · replace hf := gneg hf h22
    refine zaload hx hb d_1_32_96 (lv_at hl 3 rfl) ?_
    obtain ⟨g23, hf⟩ := gif hf
    refine zunrf g23.1 ?_
    refine zget (ci := 4) (C := RX4) (T := TX4) (v := .ref (ad 4 l6 (5 + 1))) (k := 5) hx hb hts inW_4 hown hK hZ g23.1 g23.2 rfl (by decide) k_4_133 rfl d_1_32_98 ?_
    refine lv_iload hx hb d_1_32_101 (lv_at hl 1 rfl) ?_
    obtain ⟨g24, hf⟩ := gif hf
    refine zaldR (t := 1) (x := 7) (ci := 4) (k := 5) hx hb hK rfl rfl hZ g23.1 g23.2 rfl (Nat.le_of_ble_eq_true rfl) g24.1 g24.2 d_1_32_103 ?_
    obtain ⟨g25, hf⟩ := gif hf
    refine zunrf g25.1 ?_
    refine zget (ci := 1) (C := RX1) (T := TX1) (v := .long (lI (F 1 (B 4 l6 5 l8) 0))) (k := 0) hx hb hts inW_1 hown hK hZ g25.1 g25.2 rfl (by decide) k_2_23 rfl d_1_32_104 ?_
    refine zaload hx hb d_1_32_107 (lv_at hl 4 rfl) ?_
    obtain ⟨g26, hf⟩ := gif hf
    refine zunrf g26.1 ?_
    refine zget (ci := 4) (C := RX4) (T := TX4) (v := .ref (ad 4 l5 (5 + 1))) (k := 5) hx hb hts inW_4 hown hK hZ g26.1 g26.2 rfl (by decide) k_4_133 rfl d_1_32_109 ?_
    refine lv_iload hx hb d_1_32_112 (lv_at hl 2 rfl) ?_
    obtain ⟨g27, hf⟩ := gif hf
    refine zaldR (t := 1) (x := 7) (ci := 4) (k := 5) hx hb hK rfl rfl hZ g26.1 g26.2 rfl (Nat.le_of_ble_eq_true rfl) g27.1 g27.2 d_1_32_114 ?_
    obtain ⟨g28, hf⟩ := gif hf
    refine zunrf g28.1 ?_
    refine zget (ci := 1) (C := RX1) (T := TX1) (v := .long (lI (F 1 (B 4 l5 5 l7) 0))) (k := 0) hx hb hts inW_1 hown hK hZ g28.1 g28.2 rfl (by decide) k_2_23 rfl d_1_32_115 ?_
    refine zlsub hx hb d_1_32_118 ?_
    refine lv_lstore (lv' := [(10, .long (lI ((F 1 (B 4 l6 5 l8) 0) - (F 1 (B 4 l5 5 l7) 0)))), (9, .int (iI s0)), (8, .int (iI l8)), (7, .int (iI l7)), (6, va_rf (zrf ad 4 l6)), (5, va_rf (zrf ad 4 l5)), (4, .int (iI l4))]) hx hb d_1_32_119 hl (by decide) rfl (fun ls hl => ?_)
    refine lv_iload hx hb d_1_32_121 (lv_at hl 6 rfl) ?_
    obtain ⟨g29, hf⟩ := gif hf
    by_cases h30 : l4 = 0
    · replace hf := gpos hf h30
      refine lv_tableIn (off := 25) (tgt := 148) hx hb d_1_32_123 (by rw [iI_to g29, h30]; decide) (by rw [iI_to g29, h30]; decide) (by rw [iI_to g29, h30]; rfl) (by decide) ?_
      refine lv_iload hx hb d_1_32_148 (lv_at hl 1 rfl) ?_
      refine zi2l hx hb g21 d_1_32_150 ?_
      cases hf
      exact W.lret hx hb hr (fun t ht hW => ⟨⟨_, (), rfl, rfl, by rw [ht]; exact hZ, va_K.moved hW.alike hK⟩, hS.F ht⟩) hS.2.2 d_1_32_151 hlk
    replace hf := gneg hf h30
    by_cases h31 : l4 = 1
    · replace hf := gpos hf h31
      refine lv_tableIn (off := 29) (tgt := 152) hx hb d_1_32_123 (by rw [iI_to g29, h31]; decide) (by rw [iI_to g29, h31]; decide) (by rw [iI_to g29, h31]; rfl) (by decide) ?_
      refine zaload hx hb d_1_32_152 (lv_at hl 4 rfl) ?_
      refine zunrf g23.1 ?_
      refine zget (ci := 4) (C := RX4) (T := TX4) (v := .ref (ad 4 l6 (5 + 1))) (k := 5) hx hb hts inW_4 hown hK hZ g23.1 g23.2 rfl (by decide) k_4_133 rfl d_1_32_154 ?_
      refine lv_iload hx hb d_1_32_157 (lv_at hl 2 rfl) ?_
      refine zaldR (t := 1) (x := 7) (ci := 4) (k := 5) hx hb hK rfl rfl hZ g23.1 g23.2 rfl (Nat.le_of_ble_eq_true rfl) g24.1 g24.2 d_1_32_159 ?_
      refine W.eq (g2 := F0 m 160 ls [.ref (ad 1 (B 4 l6 5 l8) 0)]) (by rw [zrf_pos (ad := ad) (t := 1) g25.1]; try rfl) ?_
      obtain ⟨r33, F33, B33, hc33, hf⟩ := gbind hf
      refine va_calli (va_runV (As := []) (rest := []) ⟨hx, hb, hml, hown, hts⟩ (c_Event_topStep (l := l) hc33) (cwV 0 hts (gdV k_9_98 k_9_94 k_9_95 k_1_8 k_9_96) rfl rfl rfl (by decide +kernel) ⟨Nat.le_of_ble_eq_true rfl, Nat.le_of_ble_eq_true rfl⟩) (zPV X hZ hS (ci := 1) g25.1 g25.2 (r := (RX1, TX1, 14)) rfl []) rfl rfl hl.1 rfl (lv_room (Nat.le_of_ble_eq_true rfl)) d_1_32_160 ⟨Nat.le_of_ble_eq_true rfl, Nat.le_of_ble_eq_true rfl⟩) hS (fun q _ h => zAin X hS q h) (zAin X hS) (fun p33 u33 t33 H33 locs33 ht33 hv33 hw33 hB33 hz33 hk33 hS33 => ?_)
      have hZ33 := zBack X ht33 hB33
      subst hw33
      refine zaload hx hb d_1_32_163 (lv_at hl 5 rfl) ?_
      refine zunrf g26.1 ?_
      refine zget (ci := 4) (C := RX4) (T := TX4) (v := .ref (ad 4 l5 (5 + 1))) (k := 5) hx hb hts inW_4 hown hK hZ33 g26.1 g26.2 rfl (by decide) k_4_133 rfl d_1_32_165 ?_
      refine lv_iload hx hb d_1_32_168 (lv_at hl 3 rfl) ?_
      refine zaldR (t := 1) (x := 7) (ci := 4) (k := 5) hx hb hK rfl rfl hZ33 g26.1 g26.2 rfl (Nat.le_of_ble_eq_true rfl) g27.1 g27.2 d_1_32_170 ?_
      obtain ⟨g34, hf⟩ := gif hf
      refine W.eq (g2 := F0 m 171 ls [.ref (ad 1 (B33 4 l5 5 l7) 0), .int (iI r33)]) (by rw [zrf_pos (ad := ad) (t := 1) g34.1]; try rfl) ?_
      obtain ⟨r35, F35, B35, hc35, hf⟩ := gbind hf
      refine va_calli (va_runV (As := []) (rest := [.int (iI r33)]) ⟨hx, hb, hml, hown, hts⟩ (c_Event_topStep (l := l) hc35) (cwV 0 hts (gdV k_9_98 k_9_94 k_9_95 k_1_8 k_9_96) rfl rfl rfl (by decide +kernel) ⟨Nat.le_of_ble_eq_true rfl, Nat.le_of_ble_eq_true rfl⟩) (zPV X hZ33 hS33 (ci := 1) g34.1 g34.2 (r := (RX1, TX1, 14)) rfl []) rfl rfl hl.1 rfl (lv_room (Nat.le_of_ble_eq_true rfl)) d_1_32_171 ⟨Nat.le_of_ble_eq_true rfl, Nat.le_of_ble_eq_true rfl⟩) hS33 (fun q _ h => zAin X hS33 q h) (zAin X hS33) (fun p35 u35 t35 H35 locs35 ht35 hv35 hw35 hB35 hz35 hk35 hS35 => ?_)
      have hZ35 := zBack X ht35 hB35
      subst hw35
      refine zsub hx hb d_1_32_174 ?_
      obtain ⟨g36, hf⟩ := gif hf
      refine zi2l hx hb g36 d_1_32_175 ?_
      cases hf
      exact W.lret hx hb hr (fun t ht hW => ⟨⟨_, (), rfl, rfl, by rw [ht]; exact hZ35, va_K.moved hW.alike hK⟩, hS35.F ht⟩) hS35.2.2 d_1_32_176 hlk
    replace hf := gneg hf h31
    by_cases h37 : l4 = 2
    · replace hf := gpos hf h37
      refine lv_tableIn (off := 54) (tgt := 177) hx hb d_1_32_123 (by rw [iI_to g29, h37]; decide) (by rw [iI_to g29, h37]; decide) (by rw [iI_to g29, h37]; rfl) (by decide) ?_
      refine lv_lload hx hb d_1_32_177 (lv_at hl 0 rfl) ?_
      obtain ⟨r38, F38, B38, hc38, hf⟩ := gbind hf
      refine va_calll (va_runS (As := [.long (lI ((F 1 (B 4 l6 5 l8) 0) - (F 1 (B 4 l5 5 l7) 0)))]) (rest := []) ⟨hx, hb, hml, hown, hts⟩ (c_S_above (l := l) hc38) (va_cwS 1 hts (gdS k_6_185 k_6_186 k_1_1 k_6_187) rfl rfl rfl (by decide +kernel) ⟨Nat.le_of_ble_eq_true rfl, Nat.le_of_ble_eq_true rfl⟩) (zPS X hZ hS [.long (lI ((F 1 (B 4 l6 5 l8) 0) - (F 1 (B 4 l5 5 l7) 0)))]) rfl rfl hl.1 rfl (lv_room (Nat.le_of_ble_eq_true rfl)) d_1_32_179 ⟨Nat.le_of_ble_eq_true rfl, Nat.le_of_ble_eq_true rfl⟩) hS (fun q _ h => zAin X hS q h) (zAin X hS) (fun p38 u38 t38 H38 locs38 ht38 hv38 hw38 hB38 hz38 hk38 hS38 => ?_)
      have hZ38 := zBack X ht38 hB38
      subst hw38
      cases hf
      exact W.lret hx hb hr (fun t ht hW => ⟨⟨_, (), rfl, rfl, by rw [ht]; exact hZ38, va_K.moved hW.alike hK⟩, hS38.F ht⟩) hS38.2.2 d_1_32_182 hlk
    replace hf := gneg hf h37
    refine lv_tableOut (tgt := 183) hx hb d_1_32_123 (by rw [iI_to g29]; omega) (by decide) ?_
    refine lv_lload hx hb d_1_32_183 (lv_at hl 0 rfl) ?_
    obtain ⟨r39, F39, B39, hc39, hf⟩ := gbind hf
    refine va_calll (va_runS (As := [.long (lI ((F 1 (B 4 l6 5 l8) 0) - (F 1 (B 4 l5 5 l7) 0)))]) (rest := []) ⟨hx, hb, hml, hown, hts⟩ (c_S_below (l := l) hc39) (va_cwS 1 hts (gdS k_6_192 k_6_193 k_1_1 k_6_194) rfl rfl rfl (by decide +kernel) ⟨Nat.le_of_ble_eq_true rfl, Nat.le_of_ble_eq_true rfl⟩) (zPS X hZ hS [.long (lI ((F 1 (B 4 l6 5 l8) 0) - (F 1 (B 4 l5 5 l7) 0)))]) rfl rfl hl.1 rfl (lv_room (Nat.le_of_ble_eq_true rfl)) d_1_32_185 ⟨Nat.le_of_ble_eq_true rfl, Nat.le_of_ble_eq_true rfl⟩) hS (fun q _ h => zAin X hS q h) (zAin X hS) (fun p39 u39 t39 H39 locs39 ht39 hv39 hw39 hB39 hz39 hk39 hS39 => ?_)
    have hZ39 := zBack X ht39 hB39
    subst hw39
    cases hf
    exact W.lret hx hb hr (fun t ht hW => ⟨⟨_, (), rfl, rfl, by rw [ht]; exact hZ39, va_K.moved hW.alike hK⟩, hS39.F ht⟩) hS39.2.2 d_1_32_188 hlk
  · replace hf := gpos hf h22
    refine lv_lconst (v := lI 0) hx hb d_1_32_94 (by decide) ?_
    cases hf
    exact W.lret hx hb hr (fun t ht hW => ⟨⟨_, (), rfl, rfl, by rw [ht]; exact hZ, va_K.moved hW.alike hK⟩, hS.F ht⟩) hS.2.2 d_1_32_95 hlk

noncomputable def f_S_follows_72 (K : zK) (l8 : Int) (l7 : Int) (l6 : Int) (l5 : Int) (l4 : Int) (F : zF) (B : zB) : zO := f_S_follows_87 K l8 l7 l6 l5 l4 0 F B
set_option maxHeartbeats 4000000 in
set_option maxRecDepth 100000 in
theorem b_S_follows_72 {D : va_G} {ca : Nat → ClassId} {ad : Nat → Int → Nat → Nat} {L : List Nat} {aS vS : Nat → Nat} {A : Nat → Prop} {p : Program} {l : Launch} {e : Env} {s : State} {m : MethodId} {args : Array Value} {below : List Frame} {meth : Method} {c : Code} {K : zK} {r : Int} {F9 : zF} {B9 : zB} (X : zX D ca L aS vS A p s m args meth c prog_1_method_32_code 12 (Option.some Jvm.ClassFile.FieldType.long) "StaveHouse") {l8 : Int} {l7 : Int} {l6 : Int} {l5 : Int} {l4 : Int} {F : zF} {B : zB} {H : Heap} {locs : List Loc} {ls : Array Slot} (hf : f_S_follows_72 K l8 l7 l6 l5 l4 F B = some (r, F9, B9)) (hZ : zH D ca ad lnC K.2 L F B A H) (hS : va_S A s.heap H locs) (hl : lv_has ls 12 [(8, .int (iI l8)), (7, .int (iI l7)), (6, va_rf (zrf ad 4 l6)), (5, va_rf (zrf ad 4 l5)), (4, .int (iI l4))]) : W p l e ({ frames := 6, cells := 0, slots := 0, locals := 134 } : Room) s m args below meth c H locs 0 0 (MQ below (Q_S_follows K D ca ad L r F9 B9 A) args s 0 0 A) (F0 m 72 ls []) := by
  obtain ⟨hx, hb, hr, hml, hown, hts, hlk, hK, hA, hL, hX⟩ := id X
  replace hf : (f_S_follows_87 K l8 l7 l6 l5 l4 0 F B) = some (r, F9, B9) := hf
  refine lv_iconst (v := iI 0) hx hb d_1_32_72 rfl ?_
  refine lv_goto (tgt := 87) hx hb d_1_32_73 (by decide) ?_
  exact b_S_follows_87 X hf hZ hS (lv_sub hl [0, 1, 2, 3, 4] rfl)

noncomputable def f_S_follows_42 (K : zK)  (F : zF) (B : zB) : zO := some ((-1), F, B)
set_option maxHeartbeats 4000000 in
set_option maxRecDepth 100000 in
theorem b_S_follows_42 {D : va_G} {ca : Nat → ClassId} {ad : Nat → Int → Nat → Nat} {L : List Nat} {aS vS : Nat → Nat} {A : Nat → Prop} {p : Program} {l : Launch} {e : Env} {s : State} {m : MethodId} {args : Array Value} {below : List Frame} {meth : Method} {c : Code} {K : zK} {r : Int} {F9 : zF} {B9 : zB} (X : zX D ca L aS vS A p s m args meth c prog_1_method_32_code 12 (Option.some Jvm.ClassFile.FieldType.long) "StaveHouse")  {F : zF} {B : zB} {H : Heap} {locs : List Loc} {ls : Array Slot} (hf : f_S_follows_42 K  F B = some (r, F9, B9)) (hZ : zH D ca ad lnC K.2 L F B A H) (hS : va_S A s.heap H locs) (hl : lv_has ls 12 []) : W p l e ({ frames := 6, cells := 0, slots := 0, locals := 134 } : Room) s m args below meth c H locs 0 0 (MQ below (Q_S_follows K D ca ad L r F9 B9 A) args s 0 0 A) (F0 m 42 ls []) := by
  obtain ⟨hx, hb, hr, hml, hown, hts, hlk, hK, hA, hL, hX⟩ := id X
  replace hf : (some ((-1), F, B)) = some (r, F9, B9) := hf
  refine lv_ldc2 hx hb hown (hts _ k_6_184) d_1_32_42 ?_
  refine W.eq (g2 := F0 m 45 ls [.long (lI (-1))]) rfl ?_
  cases hf
  exact W.lret hx hb hr (fun t ht hW => ⟨⟨_, (), rfl, rfl, by rw [ht]; exact hZ, va_K.moved hW.alike hK⟩, hS.F ht⟩) hS.2.2 d_1_32_45 hlk

noncomputable def f_S_follows (K : zK) (l0 : Int) (l1 : Int) (l2 : Int) (l3 : Int) (l4 : Int) (F : zF) (B : zB) : zO := if 0 ≤ l0 ∧ l0 < K.2 12 then zbind (f_S_partAt K l0 l1 l2 F B) (fun r2 F2 B2 => zbind (f_S_partAt K l0 l1 l3 F2 B2) (fun r3 F3 B3 => (if r2 < 0 then f_S_follows_42 K F3 B3 else (if r3 < 0 then f_S_follows_42 K F3 B3 else if r32 l2 then if r32 l3 then (if l2 = l3 then f_S_follows_42 K F3 B3 else if r32 l4 then (if l4 < 0 then f_S_follows_42 K F3 B3 else (if l4 ≤ 3 then if 0 ≤ r2 ∧ r2 < K.2 4 then zbind (f_Part_firstSounding K r2 F3 B3) (fun r13 F13 B13 => if 0 ≤ r3 ∧ r3 < K.2 4 then zbind (f_Part_firstSounding K r3 F13 B13) (fun r15 F15 B15 => if r32 r13 then (if r13 = (-1) then f_S_follows_72 K r15 r13 r3 r2 l4 F15 B15 else if r32 r15 then (if r15 = (-1) then f_S_follows_72 K r15 r13 r3 r2 l4 F15 B15 else zbind (f_Part_followedFor K r3 r2 r13 r15 F15 B15) (fun r20 F20 B20 => f_S_follows_87 K r15 r13 r3 r2 l4 r20 F20 B20)) else none) else none) else none) else none else f_S_follows_42 K F3 B3)) else none) else none else none)))) else none
set_option maxHeartbeats 4000000 in
set_option maxRecDepth 100000 in
theorem c_S_follows {l : Launch} {D : va_G} {ca : Nat → ClassId} {ad : Nat → Int → Nat → Nat} {L : List Nat} {aS vS : Nat → Nat} {sz : Nat} {K : zK}  {l0 : Int} {l1 : Int} {l2 : Int} {l3 : Int} {l4 : Int} {F F9 : zF} {B B9 : zB} {r : Int} (hf : f_S_follows K l0 l1 l2 l3 l4 F B = some (r, F9, B9)) : Met l ({ cls := "StaveHouse", name := "follows", desc := "(IIII)J" } : Jvm.MethodName) (Cond.code ({ cls := "StaveHouse", name := "follows", desc := "(IIII)J" } : Jvm.MethodName) prog_1_method_32_code 12 (Option.some Jvm.ClassFile.FieldType.long) :: wAll) ({ frames := 6, cells := 0, slots := 0, locals := 134 } : Room) (va_Pc [.ref (ad 12 l0 0), .int (iI l1), .int (iI l2), .int (iI l3), .int (iI l4)] (zPre D ca ad lnC K.2 L aS vS F B sz)) (Q_S_follows K D ca ad L r F9 B9 (zA L sz)) 0 0 (zA L sz) := by
  refine zMet (Qc := Q_S_follows K D ca ad L r F9 B9) (lv := [(0, .ref (ad 12 l0 0)), (1, .int (iI l1)), (2, .int (iI l2)), (3, .int (iI l3)), (4, .int (iI l4))]) (by decide) (Nat.le_of_ble_eq_true rfl) rfl (fun A p e s m below meth c ls X hZ hS hl => ?_)
  obtain ⟨hx, hb, hr, hml, hown, hts, hlk, hK, hA, hL, hX⟩ := id X
  replace hf : (if 0 ≤ l0 ∧ l0 < K.2 12 then zbind (f_S_partAt K l0 l1 l2 F B) (fun r2 F2 B2 => zbind (f_S_partAt K l0 l1 l3 F2 B2) (fun r3 F3 B3 => (if r2 < 0 then f_S_follows_42 K F3 B3 else (if r3 < 0 then f_S_follows_42 K F3 B3 else if r32 l2 then if r32 l3 then (if l2 = l3 then f_S_follows_42 K F3 B3 else if r32 l4 then (if l4 < 0 then f_S_follows_42 K F3 B3 else (if l4 ≤ 3 then if 0 ≤ r2 ∧ r2 < K.2 4 then zbind (f_Part_firstSounding K r2 F3 B3) (fun r13 F13 B13 => if 0 ≤ r3 ∧ r3 < K.2 4 then zbind (f_Part_firstSounding K r3 F13 B13) (fun r15 F15 B15 => if r32 r13 then (if r13 = (-1) then f_S_follows_72 K r15 r13 r3 r2 l4 F15 B15 else if r32 r15 then (if r15 = (-1) then f_S_follows_72 K r15 r13 r3 r2 l4 F15 B15 else zbind (f_Part_followedFor K r3 r2 r13 r15 F15 B15) (fun r20 F20 B20 => f_S_follows_87 K r15 r13 r3 r2 l4 r20 F20 B20)) else none) else none) else none) else none else f_S_follows_42 K F3 B3)) else none) else none else none)))) else none) = some (r, F9, B9) := hf
  refine lv_aload_n hx hb d_1_32_0 rfl (lv_at hl 0 rfl) ?_
  refine lv_iload_n hx hb d_1_32_1 rfl (lv_at hl 1 rfl) ?_
  refine lv_iload_n hx hb d_1_32_2 rfl (lv_at hl 2 rfl) ?_
  obtain ⟨g1, hf⟩ := gif hf
  obtain ⟨r2, F2, B2, hc2, hf⟩ := gbind hf
  refine va_callq (va_runV (As := [.int (iI l1), .int (iI l2)]) (rest := []) ⟨hx, hb, hml, hown, hts⟩ (c_S_partAt (l := l) hc2) (cwV 2 hts (gdV k_6_168 k_6_170 ks_77 k_1_1 k_6_171) rfl rfl rfl (by decide +kernel) ⟨Nat.le_of_ble_eq_true rfl, Nat.le_of_ble_eq_true rfl⟩) (zPV X hZ hS (ci := 12) g1.1 g1.2 (r := (RX12, TX12, 10)) rfl [.int (iI l1), .int (iI l2)]) rfl rfl hl.1 rfl (lv_room (Nat.le_of_ble_eq_true rfl)) d_1_32_3 ⟨Nat.le_of_ble_eq_true rfl, Nat.le_of_ble_eq_true rfl⟩) hS (fun q _ h => zAin X hS q h) (zAin X hS) (fun p2 u2 t2 H2 locs2 ht2 hv2 hw2 hB2 hz2 hk2 hS2 => ?_)
  have hZ2 := zBack X ht2 hB2
  subst hw2
  refine zastore (lv' := [(0, .ref (ad 12 l0 0)), (1, .int (iI l1)), (2, .int (iI l2)), (3, .int (iI l3)), (4, .int (iI l4))]) hx hb d_1_32_6 hl (by decide) (fun _ _ => rfl) (fun ls hl => ?_)
  refine lv_aload_n hx hb d_1_32_8 rfl (lv_at hl 1 rfl) ?_
  refine lv_iload_n hx hb d_1_32_9 rfl (lv_at hl 2 rfl) ?_
  refine lv_iload_n hx hb d_1_32_10 rfl (lv_at hl 4 rfl) ?_
  obtain ⟨r3, F3, B3, hc3, hf⟩ := gbind hf
  refine va_callq (va_runV (As := [.int (iI l1), .int (iI l3)]) (rest := []) ⟨hx, hb, hml, hown, hts⟩ (c_S_partAt (l := l) hc3) (cwV 2 hts (gdV k_6_168 k_6_170 ks_77 k_1_1 k_6_171) rfl rfl rfl (by decide +kernel) ⟨Nat.le_of_ble_eq_true rfl, Nat.le_of_ble_eq_true rfl⟩) (zPV X hZ2 hS2 (ci := 12) g1.1 g1.2 (r := (RX12, TX12, 10)) rfl [.int (iI l1), .int (iI l3)]) rfl rfl hl.1 rfl (lv_room (Nat.le_of_ble_eq_true rfl)) d_1_32_11 ⟨Nat.le_of_ble_eq_true rfl, Nat.le_of_ble_eq_true rfl⟩) hS2 (fun q _ h => zAin X hS2 q h) (zAin X hS2) (fun p3 u3 t3 H3 locs3 ht3 hv3 hw3 hB3 hz3 hk3 hS3 => ?_)
  have hZ3 := zBack X ht3 hB3
  subst hw3
  refine zastore (lv' := [(5, va_rf (zrf ad 4 r2)), (0, .ref (ad 12 l0 0)), (1, .int (iI l1)), (2, .int (iI l2)), (3, .int (iI l3)), (4, .int (iI l4))]) hx hb d_1_32_14 hl (by decide) (fun v hv => by cases zrf ad 4 r2 <;> rfl) (fun ls hl => ?_)
  refine zaload hx hb d_1_32_16 (lv_at hl 1 rfl) ?_
  refine zifnull (tgt := 42) hx hb d_1_32_18 (by decide) (fun h4 => ?_) (fun h4 => ?_)
  · replace hf := gpos hf h4
    exact b_S_follows_42 X hf hZ3 hS3 (lv_sub hl [] rfl)
  · replace hf := gneg hf h4
    refine zaload hx hb d_1_32_21 (lv_at hl 0 rfl) ?_
    refine zifnull (tgt := 42) hx hb d_1_32_23 (by decide) (fun h5 => ?_) (fun h5 => ?_)
    · replace hf := gpos hf h5
      exact b_S_follows_42 X hf hZ3 hS3 (lv_sub hl [] rfl)
    · replace hf := gneg hf h5
      refine lv_iload_n hx hb d_1_32_26 rfl (lv_at hl 4 rfl) ?_
      refine lv_iload_n hx hb d_1_32_27 rfl (lv_at hl 5 rfl) ?_
      obtain ⟨g6, hf⟩ := gif hf
      obtain ⟨g7, hf⟩ := gif hf
      refine zeq (tgt := 42) hx hb g6 g7 d_1_32_28 (by decide) (fun h8 => ?_) (fun h8 => ?_)
      · replace hf := gpos hf h8
        exact b_S_follows_42 X hf hZ3 hS3 (lv_sub hl [] rfl)
      · replace hf := gneg hf h8
        refine lv_iload hx hb d_1_32_31 (lv_at hl 6 rfl) ?_
        obtain ⟨g9, hf⟩ := gif hf
        refine z0lt (tgt := 42) hx hb g9 d_1_32_33 (by decide) (fun h10 => ?_) (fun h10 => ?_)
        · replace hf := gpos hf h10
          exact b_S_follows_42 X hf hZ3 hS3 (lv_sub hl [] rfl)
        · replace hf := gneg hf h10
          refine lv_iload hx hb d_1_32_36 (lv_at hl 6 rfl) ?_
          refine lv_iconst (v := iI 3) hx hb d_1_32_38 rfl ?_
          refine zle (tgt := 46) hx hb g9 (by decide) d_1_32_39 (by decide) (fun h11 => ?_) (fun h11 => ?_)
          · replace hf := gpos hf h11
            refine zaload hx hb d_1_32_46 (lv_at hl 1 rfl) ?_
            obtain ⟨g12, hf⟩ := gif hf
            refine W.eq (g2 := F0 m 48 ls [.ref (ad 4 r2 0)]) (by rw [zrf_pos (ad := ad) (t := 4) g12.1]; try rfl) ?_
            obtain ⟨r13, F13, B13, hc13, hf⟩ := gbind hf
            refine va_calli (va_runV (As := []) (rest := []) ⟨hx, hb, hml, hown, hts⟩ (c_Part_firstSounding (l := l) hc13) (cwV 0 hts (gdV k_9_85 k_9_86 k_9_87 k_1_18 k_9_88) rfl rfl rfl (by decide +kernel) ⟨Nat.le_of_ble_eq_true rfl, Nat.le_of_ble_eq_true rfl⟩) (zPV X hZ3 hS3 (ci := 4) g12.1 g12.2 (r := (RX4, TX4, 13)) rfl []) rfl rfl hl.1 rfl (lv_room (Nat.le_of_ble_eq_true rfl)) d_1_32_48 ⟨Nat.le_of_ble_eq_true rfl, Nat.le_of_ble_eq_true rfl⟩) hS3 (fun q _ h => zAin X hS3 q h) (zAin X hS3) (fun p13 u13 t13 H13 locs13 ht13 hv13 hw13 hB13 hz13 hk13 hS13 => ?_)
            have hZ13 := zBack X ht13 hB13
            subst hw13
            refine lv_istore (lv' := [(7, .int (iI r13)), (6, va_rf (zrf ad 4 r3)), (5, va_rf (zrf ad 4 r2)), (0, .ref (ad 12 l0 0)), (1, .int (iI l1)), (2, .int (iI l2)), (3, .int (iI l3)), (4, .int (iI l4))]) hx hb d_1_32_51 hl (by decide) (by cases zrf ad 4 r3 <;> rfl) (fun ls hl => ?_)
            refine zaload hx hb d_1_32_53 (lv_at hl 1 rfl) ?_
            obtain ⟨g14, hf⟩ := gif hf
            refine W.eq (g2 := F0 m 55 ls [.ref (ad 4 r3 0)]) (by rw [zrf_pos (ad := ad) (t := 4) g14.1]; try rfl) ?_
            obtain ⟨r15, F15, B15, hc15, hf⟩ := gbind hf
            refine va_calli (va_runV (As := []) (rest := []) ⟨hx, hb, hml, hown, hts⟩ (c_Part_firstSounding (l := l) hc15) (cwV 0 hts (gdV k_9_85 k_9_86 k_9_87 k_1_18 k_9_88) rfl rfl rfl (by decide +kernel) ⟨Nat.le_of_ble_eq_true rfl, Nat.le_of_ble_eq_true rfl⟩) (zPV X hZ13 hS13 (ci := 4) g14.1 g14.2 (r := (RX4, TX4, 13)) rfl []) rfl rfl hl.1 rfl (lv_room (Nat.le_of_ble_eq_true rfl)) d_1_32_55 ⟨Nat.le_of_ble_eq_true rfl, Nat.le_of_ble_eq_true rfl⟩) hS13 (fun q _ h => zAin X hS13 q h) (zAin X hS13) (fun p15 u15 t15 H15 locs15 ht15 hv15 hw15 hB15 hz15 hk15 hS15 => ?_)
            have hZ15 := zBack X ht15 hB15
            subst hw15
            refine lv_istore (lv' := [(8, .int (iI r15)), (7, .int (iI r13)), (6, va_rf (zrf ad 4 r3)), (5, va_rf (zrf ad 4 r2)), (0, .ref (ad 12 l0 0)), (1, .int (iI l1)), (2, .int (iI l2)), (3, .int (iI l3)), (4, .int (iI l4))]) hx hb d_1_32_58 hl (by decide) rfl (fun ls hl => ?_)
            refine lv_iload hx hb d_1_32_60 (lv_at hl 1 rfl) ?_
            refine lv_iconst (v := iI (-1)) hx hb d_1_32_62 rfl ?_
            obtain ⟨g16, hf⟩ := gif hf
            refine zeq (tgt := 72) hx hb g16 (by decide) d_1_32_63 (by decide) (fun h17 => ?_) (fun h17 => ?_)
            · replace hf := gpos hf h17
              exact b_S_follows_72 X hf hZ15 hS15 (lv_sub hl [0, 1, 2, 3, 8] rfl)
            · replace hf := gneg hf h17
              refine lv_iload hx hb d_1_32_66 (lv_at hl 0 rfl) ?_
              refine lv_iconst (v := iI (-1)) hx hb d_1_32_68 rfl ?_
              obtain ⟨g18, hf⟩ := gif hf
              refine zne (tgt := 76) hx hb g18 (by decide) d_1_32_69 (by decide) (fun h19 => ?_) (fun h19 => ?_)
              · replace hf := gneg hf h19
                refine zaload hx hb d_1_32_76 (lv_at hl 2 rfl) ?_
                refine zaload hx hb d_1_32_78 (lv_at hl 3 rfl) ?_
                refine lv_iload hx hb d_1_32_80 (lv_at hl 1 rfl) ?_
                refine lv_iload hx hb d_1_32_82 (lv_at hl 0 rfl) ?_
                refine W.eq (g2 := F0 m 84 ls [.int (iI r15), .int (iI r13), va_rf (zrf ad 4 r2), .ref (ad 4 r3 0)]) (by rw [zrf_pos (ad := ad) (t := 4) g14.1]; try rfl) ?_
                refine W.eq (g2 := F0 m 84 ls [.int (iI r15), .int (iI r13), .ref (ad 4 r2 0), .ref (ad 4 r3 0)]) (by rw [zrf_pos (ad := ad) (t := 4) g12.1]; try rfl) ?_
                obtain ⟨r20, F20, B20, hc20, hf⟩ := gbind hf
                refine va_calli (va_runV (As := [.ref (ad 4 r2 0), .int (iI r13), .int (iI r15)]) (rest := []) ⟨hx, hb, hml, hown, hts⟩ (c_Part_followedFor (l := l) hc20) (cwV 3 hts (gdV k_9_89 k_9_90 k_9_91 k_1_18 k_9_92) rfl rfl rfl (by decide +kernel) ⟨Nat.le_of_ble_eq_true rfl, Nat.le_of_ble_eq_true rfl⟩) (zPV X hZ15 hS15 (ci := 4) g14.1 g14.2 (r := (RX4, TX4, 13)) rfl [.ref (ad 4 r2 0), .int (iI r13), .int (iI r15)]) rfl rfl hl.1 rfl (lv_room (Nat.le_of_ble_eq_true rfl)) d_1_32_84 ⟨Nat.le_of_ble_eq_true rfl, Nat.le_of_ble_eq_true rfl⟩) hS15 (fun q _ h => zAin X hS15 q h) (zAin X hS15) (fun p20 u20 t20 H20 locs20 ht20 hv20 hw20 hB20 hz20 hk20 hS20 => ?_)
                have hZ20 := zBack X ht20 hB20
                subst hw20
                exact b_S_follows_87 X hf hZ20 hS20 (lv_sub hl [0, 1, 2, 3, 8] rfl)
              · replace hf := gpos hf h19
                exact b_S_follows_72 X hf hZ15 hS15 (lv_sub hl [0, 1, 2, 3, 8] rfl)
          · replace hf := gneg hf h11
            exact b_S_follows_42 X hf hZ3 hS3 (lv_sub hl [] rfl)

noncomputable abbrev Q_Part_judge (K : zK) (D : va_G) (ca : Nat → ClassId) (ad : Nat → Int → Nat → Nat) (L : List Nat) (r : Int) (F : zF) (B : zB) (A : Nat → Prop) : Array Value → State → Outcome → State → Prop := va_Qi (S := Unit) (fun p _ => p = iI r) (fun _ => zPo D ca ad lnC K.2 L F B A) A
noncomputable def f_Part_judge_227 (K : zK) (s0 : Int) (F : zF) (B : zB) : zO := some (s0, F, B)
set_option maxHeartbeats 4000000 in
set_option maxRecDepth 100000 in
theorem b_Part_judge_227 {D : va_G} {ca : Nat → ClassId} {ad : Nat → Int → Nat → Nat} {L : List Nat} {aS vS : Nat → Nat} {A : Nat → Prop} {p : Program} {l : Launch} {e : Env} {s : State} {m : MethodId} {args : Array Value} {below : List Frame} {meth : Method} {c : Code} {K : zK} {r : Int} {F9 : zF} {B9 : zB} (X : zX D ca L aS vS A p s m args meth c prog_6_method_4_code 6 (Option.some Jvm.ClassFile.FieldType.int) "StaveHouse$Part") {s0 : Int} {F : zF} {B : zB} {H : Heap} {locs : List Loc} {ls : Array Slot} (hf : f_Part_judge_227 K s0 F B = some (r, F9, B9)) (hZ : zH D ca ad lnC K.2 L F B A H) (hS : va_S A s.heap H locs) (hl : lv_has ls 6 []) : W p l e ({ frames := 6, cells := 0, slots := 0, locals := 168 } : Room) s m args below meth c H locs 0 0 (MQ below (Q_Part_judge K D ca ad L r F9 B9 A) args s 0 0 A) (F0 m 227 ls [.int (iI s0)]) := by
  obtain ⟨hx, hb, hr, hml, hown, hts, hlk, hK, hA, hL, hX⟩ := id X
  replace hf : (some (s0, F, B)) = some (r, F9, B9) := hf
  cases hf
  exact W.iret hx hb hr (fun t ht hW => ⟨⟨_, (), rfl, rfl, by rw [ht]; exact hZ, va_K.moved hW.alike hK⟩, hS.F ht⟩) hS.2.2 d_6_4_227 hlk

noncomputable def f_Part_judge_173 (rec26 : Int → Int → Int → Int → zF → zB → zO) (K : zK) (l4 : Int) (l3 : Int) (l0 : Int) (l1 : Int) (s0 : Int) (F : zF) (B : zB) : zO := if 0 ≤ l4 ∧ l4 < K.2 1 then if (s0 = 0 ∨ s0 = 1) then rec26 (l3 + 1) s0 l0 l1 (zup3 F 1 l4 11 s0) B else none else none
set_option maxHeartbeats 4000000 in
set_option maxRecDepth 100000 in
theorem b_Part_judge_173 {D : va_G} {ca : Nat → ClassId} {ad : Nat → Int → Nat → Nat} {L : List Nat} {aS vS : Nat → Nat} {A : Nat → Prop} {p : Program} {l : Launch} {e : Env} {s : State} {m : MethodId} {args : Array Value} {below : List Frame} {meth : Method} {c : Code} {K : zK} {r : Int} {F9 : zF} {B9 : zB} (X : zX D ca L aS vS A p s m args meth c prog_6_method_4_code 6 (Option.some Jvm.ClassFile.FieldType.int) "StaveHouse$Part") {rec26 : Int → Int → Int → Int → zF → zB → zO} (hrec26 : ∀ {l3 : Int} {l2 : Int} {l0 : Int} {l1 : Int} {F : zF} {B : zB} {H : Heap} {locs : List Loc} {ls : Array Slot}, rec26 l3 l2 l0 l1 F B = some (r, F9, B9) → zH D ca ad lnC K.2 L F B A H → va_S A s.heap H locs → lv_has ls 6 [(3, .int (iI l3)), (2, .int (iI l2)), (0, .ref (ad 4 l0 0)), (1, .ref (ad 6 l1 0))] → W p l e ({ frames := 6, cells := 0, slots := 0, locals := 168 } : Room) s m args below meth c H locs 0 0 (MQ below (Q_Part_judge K D ca ad L r F9 B9 A) args s 0 0 A) (F0 m 26 ls [])) {l4 : Int} {l3 : Int} {l0 : Int} {l1 : Int} {s0 : Int} {F : zF} {B : zB} {H : Heap} {locs : List Loc} {ls : Array Slot} (hf : f_Part_judge_173 rec26 K l4 l3 l0 l1 s0 F B = some (r, F9, B9)) (hZ : zH D ca ad lnC K.2 L F B A H) (hS : va_S A s.heap H locs) (hl : lv_has ls 6 [(4, va_rf (zrf ad 1 l4)), (3, .int (iI l3)), (0, .ref (ad 4 l0 0)), (1, .ref (ad 6 l1 0))]) : W p l e ({ frames := 6, cells := 0, slots := 0, locals := 168 } : Room) s m args below meth c H locs 0 0 (MQ below (Q_Part_judge K D ca ad L r F9 B9 A) args s 0 0 A) (F0 m 173 ls [.int (iI s0)]) := by
  obtain ⟨hx, hb, hr, hml, hown, hts, hlk, hK, hA, hL, hX⟩ := id X
  replace hf : (if 0 ≤ l4 ∧ l4 < K.2 1 then if (s0 = 0 ∨ s0 = 1) then rec26 (l3 + 1) s0 l0 l1 (zup3 F 1 l4 11 s0) B else none else none) = some (r, F9, B9) := hf
  refine lv_istore_n (lv' := [(2, .int (iI s0)), (4, va_rf (zrf ad 1 l4)), (3, .int (iI l3)), (0, .ref (ad 4 l0 0)), (1, .ref (ad 6 l1 0))]) hx hb d_6_4_173 rfl hl (by decide) rfl (fun ls hl => ?_)
  refine zaload hx hb d_6_4_174 (lv_at hl 1 rfl) ?_
  refine lv_iload_n hx hb d_6_4_176 rfl (lv_at hl 0 rfl) ?_
  obtain ⟨g54, hf⟩ := gif hf
  refine W.eq (g2 := F0 m 177 ls [.int (iI s0), .ref (ad 1 l4 0)]) (by rw [zrf_pos (ad := ad) (t := 1) g54.1]; try rfl) ?_
  obtain ⟨g55, hf⟩ := gif hf
  refine zput (ci := 1) (C := RX1) (T := TX1) (k := 11) (v := s0) (w := .int (iI s0)) hx hb hts inW_1 tyX1 tyX1_ok nmX1 hown hK hZ hS g54.1 g54.2 rfl (by decide) k_2_55 rfl (fun G h => congrArg (fun q => Value.int (iI q)) h) (zbool g55) (zboolF g55) (zno (by decide)) d_6_4_177 (fun H56 locs56 hZ56 hS56 => ?_)
  refine lv_iinc (v := iI (l3 + 1)) (lv' := [(3, .int (iI (l3 + 1))), (2, .int (iI s0)), (4, va_rf (zrf ad 1 l4)), (0, .ref (ad 4 l0 0)), (1, .ref (ad 6 l1 0))]) hx hb d_6_4_180 hl (k := 2) rfl (iI_add _ 1) (by decide) rfl (fun ls hl => ?_)
  refine lv_goto (tgt := 26) hx hb d_6_4_183 (by decide) ?_
  exact hrec26 hf hZ56 hS56 (lv_sub hl [0, 1, 3, 4] rfl)

noncomputable def f_Part_judge_168 (rec26 : Int → Int → Int → Int → zF → zB → zO) (K : zK) (l4 : Int) (l3 : Int) (l0 : Int) (l1 : Int) (F : zF) (B : zB) : zO := f_Part_judge_173 rec26 K l4 l3 l0 l1 1 F B
set_option maxHeartbeats 4000000 in
set_option maxRecDepth 100000 in
theorem b_Part_judge_168 {D : va_G} {ca : Nat → ClassId} {ad : Nat → Int → Nat → Nat} {L : List Nat} {aS vS : Nat → Nat} {A : Nat → Prop} {p : Program} {l : Launch} {e : Env} {s : State} {m : MethodId} {args : Array Value} {below : List Frame} {meth : Method} {c : Code} {K : zK} {r : Int} {F9 : zF} {B9 : zB} (X : zX D ca L aS vS A p s m args meth c prog_6_method_4_code 6 (Option.some Jvm.ClassFile.FieldType.int) "StaveHouse$Part") {rec26 : Int → Int → Int → Int → zF → zB → zO} (hrec26 : ∀ {l3 : Int} {l2 : Int} {l0 : Int} {l1 : Int} {F : zF} {B : zB} {H : Heap} {locs : List Loc} {ls : Array Slot}, rec26 l3 l2 l0 l1 F B = some (r, F9, B9) → zH D ca ad lnC K.2 L F B A H → va_S A s.heap H locs → lv_has ls 6 [(3, .int (iI l3)), (2, .int (iI l2)), (0, .ref (ad 4 l0 0)), (1, .ref (ad 6 l1 0))] → W p l e ({ frames := 6, cells := 0, slots := 0, locals := 168 } : Room) s m args below meth c H locs 0 0 (MQ below (Q_Part_judge K D ca ad L r F9 B9 A) args s 0 0 A) (F0 m 26 ls [])) {l4 : Int} {l3 : Int} {l0 : Int} {l1 : Int} {F : zF} {B : zB} {H : Heap} {locs : List Loc} {ls : Array Slot} (hf : f_Part_judge_168 rec26 K l4 l3 l0 l1 F B = some (r, F9, B9)) (hZ : zH D ca ad lnC K.2 L F B A H) (hS : va_S A s.heap H locs) (hl : lv_has ls 6 [(4, va_rf (zrf ad 1 l4)), (3, .int (iI l3)), (0, .ref (ad 4 l0 0)), (1, .ref (ad 6 l1 0))]) : W p l e ({ frames := 6, cells := 0, slots := 0, locals := 168 } : Room) s m args below meth c H locs 0 0 (MQ below (Q_Part_judge K D ca ad L r F9 B9 A) args s 0 0 A) (F0 m 168 ls []) := by
  obtain ⟨hx, hb, hr, hml, hown, hts, hlk, hK, hA, hL, hX⟩ := id X
  replace hf : (f_Part_judge_173 rec26 K l4 l3 l0 l1 1 F B) = some (r, F9, B9) := hf
  refine lv_iconst (v := iI 1) hx hb d_6_4_168 rfl ?_
  refine lv_goto (tgt := 173) hx hb d_6_4_169 (by decide) ?_
  exact b_Part_judge_173 X hrec26 hf hZ hS (lv_sub hl [0, 1, 2, 3] rfl)

noncomputable def f_Part_judge_154 (rec26 : Int → Int → Int → Int → zF → zB → zO) (K : zK) (l5 : Int) (l4 : Int) (l3 : Int) (l0 : Int) (l1 : Int) (F : zF) (B : zB) : zO := if r32 l5 then (if l5 = 0 then if 0 ≤ l4 ∧ l4 < K.2 1 then zbind (f_Event_has K l4 2 F B) (fun r51 F51 B51 => if r32 r51 then (if r51 = 0 then f_Part_judge_173 rec26 K l4 l3 l0 l1 0 F51 B51 else f_Part_judge_168 rec26 K l4 l3 l0 l1 F51 B51) else none) else none else f_Part_judge_168 rec26 K l4 l3 l0 l1 F B) else none
set_option maxHeartbeats 4000000 in
set_option maxRecDepth 100000 in
theorem b_Part_judge_154 {D : va_G} {ca : Nat → ClassId} {ad : Nat → Int → Nat → Nat} {L : List Nat} {aS vS : Nat → Nat} {A : Nat → Prop} {p : Program} {l : Launch} {e : Env} {s : State} {m : MethodId} {args : Array Value} {below : List Frame} {meth : Method} {c : Code} {K : zK} {r : Int} {F9 : zF} {B9 : zB} (X : zX D ca L aS vS A p s m args meth c prog_6_method_4_code 6 (Option.some Jvm.ClassFile.FieldType.int) "StaveHouse$Part") {rec26 : Int → Int → Int → Int → zF → zB → zO} (hrec26 : ∀ {l3 : Int} {l2 : Int} {l0 : Int} {l1 : Int} {F : zF} {B : zB} {H : Heap} {locs : List Loc} {ls : Array Slot}, rec26 l3 l2 l0 l1 F B = some (r, F9, B9) → zH D ca ad lnC K.2 L F B A H → va_S A s.heap H locs → lv_has ls 6 [(3, .int (iI l3)), (2, .int (iI l2)), (0, .ref (ad 4 l0 0)), (1, .ref (ad 6 l1 0))] → W p l e ({ frames := 6, cells := 0, slots := 0, locals := 168 } : Room) s m args below meth c H locs 0 0 (MQ below (Q_Part_judge K D ca ad L r F9 B9 A) args s 0 0 A) (F0 m 26 ls [])) {l5 : Int} {l4 : Int} {l3 : Int} {l0 : Int} {l1 : Int} {F : zF} {B : zB} {H : Heap} {locs : List Loc} {ls : Array Slot} (hf : f_Part_judge_154 rec26 K l5 l4 l3 l0 l1 F B = some (r, F9, B9)) (hZ : zH D ca ad lnC K.2 L F B A H) (hS : va_S A s.heap H locs) (hl : lv_has ls 6 [(5, .int (iI l5)), (4, va_rf (zrf ad 1 l4)), (3, .int (iI l3)), (0, .ref (ad 4 l0 0)), (1, .ref (ad 6 l1 0))]) : W p l e ({ frames := 6, cells := 0, slots := 0, locals := 168 } : Room) s m args below meth c H locs 0 0 (MQ below (Q_Part_judge K D ca ad L r F9 B9 A) args s 0 0 A) (F0 m 154 ls []) := by
  obtain ⟨hx, hb, hr, hml, hown, hts, hlk, hK, hA, hL, hX⟩ := id X
  replace hf : (if r32 l5 then (if l5 = 0 then if 0 ≤ l4 ∧ l4 < K.2 1 then zbind (f_Event_has K l4 2 F B) (fun r51 F51 B51 => if r32 r51 then (if r51 = 0 then f_Part_judge_173 rec26 K l4 l3 l0 l1 0 F51 B51 else f_Part_judge_168 rec26 K l4 l3 l0 l1 F51 B51) else none) else none else f_Part_judge_168 rec26 K l4 l3 l0 l1 F B) else none) = some (r, F9, B9) := hf
  refine lv_iload hx hb d_6_4_154 (lv_at hl 0 rfl) ?_
  obtain ⟨g48, hf⟩ := gif hf
  refine z0ne (tgt := 168) hx hb g48 d_6_4_156 (by decide) (fun h49 => ?_) (fun h49 => ?_)
  · replace hf := gneg hf h49
    exact b_Part_judge_168 X hrec26 hf hZ hS (lv_sub hl [1, 2, 3, 4] rfl)
  · replace hf := gpos hf h49
    refine zaload hx hb d_6_4_159 (lv_at hl 1 rfl) ?_
    refine lv_iconst (v := iI 2) hx hb d_6_4_161 rfl ?_
    obtain ⟨g50, hf⟩ := gif hf
    refine W.eq (g2 := F0 m 162 ls [.int (iI 2), .ref (ad 1 l4 0)]) (by rw [zrf_pos (ad := ad) (t := 1) g50.1]; try rfl) ?_
    obtain ⟨r51, F51, B51, hc51, hf⟩ := gbind hf
    refine va_calli (va_runV (As := [.int (iI 2)]) (rest := []) ⟨hx, hb, hml, hown, hts⟩ (c_Event_has (l := l) hc51) (cwV 1 hts (gdV k_5_15 k_5_16 k_5_17 k_1_8 k_5_18) rfl rfl rfl (by decide +kernel) ⟨Nat.le_of_ble_eq_true rfl, Nat.le_of_ble_eq_true rfl⟩) (zPV X hZ hS (ci := 1) g50.1 g50.2 (r := (RX1, TX1, 14)) rfl [.int (iI 2)]) rfl rfl hl.1 rfl (lv_room (Nat.le_of_ble_eq_true rfl)) d_6_4_162 ⟨Nat.le_of_ble_eq_true rfl, Nat.le_of_ble_eq_true rfl⟩) hS (fun q _ h => zAin X hS q h) (zAin X hS) (fun p51 u51 t51 H51 locs51 ht51 hv51 hw51 hB51 hz51 hk51 hS51 => ?_)
    have hZ51 := zBack X ht51 hB51
    subst hw51
    obtain ⟨g52, hf⟩ := gif hf
    refine z0eq (tgt := 172) hx hb g52 d_6_4_165 (by decide) (fun h53 => ?_) (fun h53 => ?_)
    · replace hf := gpos hf h53
      refine lv_iconst (v := iI 0) hx hb d_6_4_172 rfl ?_
      exact b_Part_judge_173 X hrec26 hf hZ51 hS51 (lv_sub hl [1, 2, 3, 4] rfl)
    · replace hf := gneg hf h53
      exact b_Part_judge_168 X hrec26 hf hZ51 hS51 (lv_sub hl [1, 2, 3, 4] rfl)

noncomputable def f_Part_judge_142 (K : zK) (l4 : Int) (F : zF) (B : zB) : zO := if 0 ≤ l4 ∧ l4 < K.2 1 then some (11 + (16 * (F 1 l4 9)), F, B) else none
set_option maxHeartbeats 4000000 in
set_option maxRecDepth 100000 in
theorem b_Part_judge_142 {D : va_G} {ca : Nat → ClassId} {ad : Nat → Int → Nat → Nat} {L : List Nat} {aS vS : Nat → Nat} {A : Nat → Prop} {p : Program} {l : Launch} {e : Env} {s : State} {m : MethodId} {args : Array Value} {below : List Frame} {meth : Method} {c : Code} {K : zK} {r : Int} {F9 : zF} {B9 : zB} (X : zX D ca L aS vS A p s m args meth c prog_6_method_4_code 6 (Option.some Jvm.ClassFile.FieldType.int) "StaveHouse$Part") {l4 : Int} {F : zF} {B : zB} {H : Heap} {locs : List Loc} {ls : Array Slot} (hf : f_Part_judge_142 K l4 F B = some (r, F9, B9)) (hZ : zH D ca ad lnC K.2 L F B A H) (hS : va_S A s.heap H locs) (hl : lv_has ls 6 [(4, va_rf (zrf ad 1 l4))]) : W p l e ({ frames := 6, cells := 0, slots := 0, locals := 168 } : Room) s m args below meth c H locs 0 0 (MQ below (Q_Part_judge K D ca ad L r F9 B9 A) args s 0 0 A) (F0 m 142 ls []) := by
  obtain ⟨hx, hb, hr, hml, hown, hts, hlk, hK, hA, hL, hX⟩ := id X
  replace hf : (if 0 ≤ l4 ∧ l4 < K.2 1 then some (11 + (16 * (F 1 l4 9)), F, B) else none) = some (r, F9, B9) := hf
  refine lv_bipush (v := iI 11) hx hb d_6_4_142 (by decide) ?_
  refine lv_bipush (v := iI 16) hx hb d_6_4_144 (by decide) ?_
  refine zaload hx hb d_6_4_146 (lv_at hl 0 rfl) ?_
  obtain ⟨g47, hf⟩ := gif hf
  refine zunrf g47.1 ?_
  refine zget (ci := 1) (C := RX1) (T := TX1) (v := .int (iI (F 1 l4 9))) (k := 9) hx hb hts inW_1 hown hK hZ g47.1 g47.2 rfl (by decide) k_2_45 rfl d_6_4_148 ?_
  refine zmul hx hb d_6_4_151 ?_
  refine zadd hx hb d_6_4_152 ?_
  cases hf
  exact W.iret hx hb hr (fun t ht hW => ⟨⟨_, (), rfl, rfl, by rw [ht]; exact hZ, va_K.moved hW.alike hK⟩, hS.F ht⟩) hS.2.2 d_6_4_153 hlk

noncomputable def f_Part_judge_128 (rec26 : Int → Int → Int → Int → zF → zB → zO) (K : zK) (l5 : Int) (l4 : Int) (l3 : Int) (l0 : Int) (l1 : Int) (F : zF) (B : zB) : zO := if 0 ≤ l4 ∧ l4 < K.2 1 then zbind (f_Event_has K l4 2 F B) (fun r42 F42 B42 => if r32 r42 then (if r42 = 0 then f_Part_judge_154 rec26 K l5 l4 l3 l0 l1 F42 B42 else if r32 l5 then (if l5 = 0 then f_Part_judge_154 rec26 K l5 l4 l3 l0 l1 F42 B42 else f_Part_judge_142 K l4 F42 B42) else none) else none) else none
set_option maxHeartbeats 4000000 in
set_option maxRecDepth 100000 in
theorem b_Part_judge_128 {D : va_G} {ca : Nat → ClassId} {ad : Nat → Int → Nat → Nat} {L : List Nat} {aS vS : Nat → Nat} {A : Nat → Prop} {p : Program} {l : Launch} {e : Env} {s : State} {m : MethodId} {args : Array Value} {below : List Frame} {meth : Method} {c : Code} {K : zK} {r : Int} {F9 : zF} {B9 : zB} (X : zX D ca L aS vS A p s m args meth c prog_6_method_4_code 6 (Option.some Jvm.ClassFile.FieldType.int) "StaveHouse$Part") {rec26 : Int → Int → Int → Int → zF → zB → zO} (hrec26 : ∀ {l3 : Int} {l2 : Int} {l0 : Int} {l1 : Int} {F : zF} {B : zB} {H : Heap} {locs : List Loc} {ls : Array Slot}, rec26 l3 l2 l0 l1 F B = some (r, F9, B9) → zH D ca ad lnC K.2 L F B A H → va_S A s.heap H locs → lv_has ls 6 [(3, .int (iI l3)), (2, .int (iI l2)), (0, .ref (ad 4 l0 0)), (1, .ref (ad 6 l1 0))] → W p l e ({ frames := 6, cells := 0, slots := 0, locals := 168 } : Room) s m args below meth c H locs 0 0 (MQ below (Q_Part_judge K D ca ad L r F9 B9 A) args s 0 0 A) (F0 m 26 ls [])) {l5 : Int} {l4 : Int} {l3 : Int} {l0 : Int} {l1 : Int} {F : zF} {B : zB} {H : Heap} {locs : List Loc} {ls : Array Slot} (hf : f_Part_judge_128 rec26 K l5 l4 l3 l0 l1 F B = some (r, F9, B9)) (hZ : zH D ca ad lnC K.2 L F B A H) (hS : va_S A s.heap H locs) (hl : lv_has ls 6 [(5, .int (iI l5)), (4, va_rf (zrf ad 1 l4)), (3, .int (iI l3)), (0, .ref (ad 4 l0 0)), (1, .ref (ad 6 l1 0))]) : W p l e ({ frames := 6, cells := 0, slots := 0, locals := 168 } : Room) s m args below meth c H locs 0 0 (MQ below (Q_Part_judge K D ca ad L r F9 B9 A) args s 0 0 A) (F0 m 128 ls []) := by
  obtain ⟨hx, hb, hr, hml, hown, hts, hlk, hK, hA, hL, hX⟩ := id X
  replace hf : (if 0 ≤ l4 ∧ l4 < K.2 1 then zbind (f_Event_has K l4 2 F B) (fun r42 F42 B42 => if r32 r42 then (if r42 = 0 then f_Part_judge_154 rec26 K l5 l4 l3 l0 l1 F42 B42 else if r32 l5 then (if l5 = 0 then f_Part_judge_154 rec26 K l5 l4 l3 l0 l1 F42 B42 else f_Part_judge_142 K l4 F42 B42) else none) else none) else none) = some (r, F9, B9) := hf
  refine zaload hx hb d_6_4_128 (lv_at hl 1 rfl) ?_
  refine lv_iconst (v := iI 2) hx hb d_6_4_130 rfl ?_
  obtain ⟨g41, hf⟩ := gif hf
  refine W.eq (g2 := F0 m 131 ls [.int (iI 2), .ref (ad 1 l4 0)]) (by rw [zrf_pos (ad := ad) (t := 1) g41.1]; try rfl) ?_
  obtain ⟨r42, F42, B42, hc42, hf⟩ := gbind hf
  refine va_calli (va_runV (As := [.int (iI 2)]) (rest := []) ⟨hx, hb, hml, hown, hts⟩ (c_Event_has (l := l) hc42) (cwV 1 hts (gdV k_5_15 k_5_16 k_5_17 k_1_8 k_5_18) rfl rfl rfl (by decide +kernel) ⟨Nat.le_of_ble_eq_true rfl, Nat.le_of_ble_eq_true rfl⟩) (zPV X hZ hS (ci := 1) g41.1 g41.2 (r := (RX1, TX1, 14)) rfl [.int (iI 2)]) rfl rfl hl.1 rfl (lv_room (Nat.le_of_ble_eq_true rfl)) d_6_4_131 ⟨Nat.le_of_ble_eq_true rfl, Nat.le_of_ble_eq_true rfl⟩) hS (fun q _ h => zAin X hS q h) (zAin X hS) (fun p42 u42 t42 H42 locs42 ht42 hv42 hw42 hB42 hz42 hk42 hS42 => ?_)
  have hZ42 := zBack X ht42 hB42
  subst hw42
  obtain ⟨g43, hf⟩ := gif hf
  refine z0eq (tgt := 154) hx hb g43 d_6_4_134 (by decide) (fun h44 => ?_) (fun h44 => ?_)
  · replace hf := gpos hf h44
    exact b_Part_judge_154 X hrec26 hf hZ42 hS42 (lv_sub hl [0, 1, 2, 3, 4] rfl)
  · replace hf := gneg hf h44
    refine lv_iload hx hb d_6_4_137 (lv_at hl 0 rfl) ?_
    obtain ⟨g45, hf⟩ := gif hf
    refine z0eq (tgt := 154) hx hb g45 d_6_4_139 (by decide) (fun h46 => ?_) (fun h46 => ?_)
    · replace hf := gpos hf h46
      exact b_Part_judge_154 X hrec26 hf hZ42 hS42 (lv_sub hl [0, 1, 2, 3, 4] rfl)
    · replace hf := gneg hf h46
      exact b_Part_judge_142 X hf hZ42 hS42 (lv_sub hl [1] rfl)

noncomputable def f_Part_judge_113 (rec26 : Int → Int → Int → Int → zF → zB → zO) (K : zK) (l4 : Int) (l3 : Int) (l2 : Int) (l0 : Int) (l1 : Int) (s0 : Int) (F : zF) (B : zB) : zO := if 0 ≤ l4 ∧ l4 < K.2 1 then zbind (f_Event_has K l4 4 F B) (fun r36 F36 B36 => if r32 r36 then (if r36 = 0 then f_Part_judge_128 rec26 K s0 l4 l3 l0 l1 F36 B36 else if r32 l2 then (if l2 = 0 then f_Part_judge_142 K l4 F36 B36 else f_Part_judge_128 rec26 K s0 l4 l3 l0 l1 F36 B36) else none) else none) else none
set_option maxHeartbeats 4000000 in
set_option maxRecDepth 100000 in
theorem b_Part_judge_113 {D : va_G} {ca : Nat → ClassId} {ad : Nat → Int → Nat → Nat} {L : List Nat} {aS vS : Nat → Nat} {A : Nat → Prop} {p : Program} {l : Launch} {e : Env} {s : State} {m : MethodId} {args : Array Value} {below : List Frame} {meth : Method} {c : Code} {K : zK} {r : Int} {F9 : zF} {B9 : zB} (X : zX D ca L aS vS A p s m args meth c prog_6_method_4_code 6 (Option.some Jvm.ClassFile.FieldType.int) "StaveHouse$Part") {rec26 : Int → Int → Int → Int → zF → zB → zO} (hrec26 : ∀ {l3 : Int} {l2 : Int} {l0 : Int} {l1 : Int} {F : zF} {B : zB} {H : Heap} {locs : List Loc} {ls : Array Slot}, rec26 l3 l2 l0 l1 F B = some (r, F9, B9) → zH D ca ad lnC K.2 L F B A H → va_S A s.heap H locs → lv_has ls 6 [(3, .int (iI l3)), (2, .int (iI l2)), (0, .ref (ad 4 l0 0)), (1, .ref (ad 6 l1 0))] → W p l e ({ frames := 6, cells := 0, slots := 0, locals := 168 } : Room) s m args below meth c H locs 0 0 (MQ below (Q_Part_judge K D ca ad L r F9 B9 A) args s 0 0 A) (F0 m 26 ls [])) {l4 : Int} {l3 : Int} {l2 : Int} {l0 : Int} {l1 : Int} {s0 : Int} {F : zF} {B : zB} {H : Heap} {locs : List Loc} {ls : Array Slot} (hf : f_Part_judge_113 rec26 K l4 l3 l2 l0 l1 s0 F B = some (r, F9, B9)) (hZ : zH D ca ad lnC K.2 L F B A H) (hS : va_S A s.heap H locs) (hl : lv_has ls 6 [(4, va_rf (zrf ad 1 l4)), (3, .int (iI l3)), (2, .int (iI l2)), (0, .ref (ad 4 l0 0)), (1, .ref (ad 6 l1 0))]) : W p l e ({ frames := 6, cells := 0, slots := 0, locals := 168 } : Room) s m args below meth c H locs 0 0 (MQ below (Q_Part_judge K D ca ad L r F9 B9 A) args s 0 0 A) (F0 m 113 ls [.int (iI s0)]) := by
  obtain ⟨hx, hb, hr, hml, hown, hts, hlk, hK, hA, hL, hX⟩ := id X
  replace hf : (if 0 ≤ l4 ∧ l4 < K.2 1 then zbind (f_Event_has K l4 4 F B) (fun r36 F36 B36 => if r32 r36 then (if r36 = 0 then f_Part_judge_128 rec26 K s0 l4 l3 l0 l1 F36 B36 else if r32 l2 then (if l2 = 0 then f_Part_judge_142 K l4 F36 B36 else f_Part_judge_128 rec26 K s0 l4 l3 l0 l1 F36 B36) else none) else none) else none) = some (r, F9, B9) := hf
  refine lv_istore (lv' := [(5, .int (iI s0)), (4, va_rf (zrf ad 1 l4)), (3, .int (iI l3)), (2, .int (iI l2)), (0, .ref (ad 4 l0 0)), (1, .ref (ad 6 l1 0))]) hx hb d_6_4_113 hl (by decide) (by cases zrf ad 1 l4 <;> rfl) (fun ls hl => ?_)
  refine zaload hx hb d_6_4_115 (lv_at hl 1 rfl) ?_
  refine lv_iconst (v := iI 4) hx hb d_6_4_117 rfl ?_
  obtain ⟨g35, hf⟩ := gif hf
  refine W.eq (g2 := F0 m 118 ls [.int (iI 4), .ref (ad 1 l4 0)]) (by rw [zrf_pos (ad := ad) (t := 1) g35.1]; try rfl) ?_
  obtain ⟨r36, F36, B36, hc36, hf⟩ := gbind hf
  refine va_calli (va_runV (As := [.int (iI 4)]) (rest := []) ⟨hx, hb, hml, hown, hts⟩ (c_Event_has (l := l) hc36) (cwV 1 hts (gdV k_5_15 k_5_16 k_5_17 k_1_8 k_5_18) rfl rfl rfl (by decide +kernel) ⟨Nat.le_of_ble_eq_true rfl, Nat.le_of_ble_eq_true rfl⟩) (zPV X hZ hS (ci := 1) g35.1 g35.2 (r := (RX1, TX1, 14)) rfl [.int (iI 4)]) rfl rfl hl.1 rfl (lv_room (Nat.le_of_ble_eq_true rfl)) d_6_4_118 ⟨Nat.le_of_ble_eq_true rfl, Nat.le_of_ble_eq_true rfl⟩) hS (fun q _ h => zAin X hS q h) (zAin X hS) (fun p36 u36 t36 H36 locs36 ht36 hv36 hw36 hB36 hz36 hk36 hS36 => ?_)
  have hZ36 := zBack X ht36 hB36
  subst hw36
  obtain ⟨g37, hf⟩ := gif hf
  refine z0eq (tgt := 128) hx hb g37 d_6_4_121 (by decide) (fun h38 => ?_) (fun h38 => ?_)
  · replace hf := gpos hf h38
    exact b_Part_judge_128 X hrec26 hf hZ36 hS36 (lv_sub hl [0, 1, 2, 4, 5] rfl)
  · replace hf := gneg hf h38
    refine lv_iload_n hx hb d_6_4_124 rfl (lv_at hl 3 rfl) ?_
    obtain ⟨g39, hf⟩ := gif hf
    refine z0eq (tgt := 142) hx hb g39 d_6_4_125 (by decide) (fun h40 => ?_) (fun h40 => ?_)
    · replace hf := gpos hf h40
      exact b_Part_judge_142 X hf hZ36 hS36 (lv_sub hl [1] rfl)
    · replace hf := gneg hf h40
      exact b_Part_judge_128 X hrec26 hf hZ36 hS36 (lv_sub hl [0, 1, 2, 4, 5] rfl)

noncomputable def f_Part_judge_112 (rec26 : Int → Int → Int → Int → zF → zB → zO) (K : zK) (l4 : Int) (l3 : Int) (l2 : Int) (l0 : Int) (l1 : Int) (F : zF) (B : zB) : zO := f_Part_judge_113 rec26 K l4 l3 l2 l0 l1 0 F B
set_option maxHeartbeats 4000000 in
set_option maxRecDepth 100000 in
theorem b_Part_judge_112 {D : va_G} {ca : Nat → ClassId} {ad : Nat → Int → Nat → Nat} {L : List Nat} {aS vS : Nat → Nat} {A : Nat → Prop} {p : Program} {l : Launch} {e : Env} {s : State} {m : MethodId} {args : Array Value} {below : List Frame} {meth : Method} {c : Code} {K : zK} {r : Int} {F9 : zF} {B9 : zB} (X : zX D ca L aS vS A p s m args meth c prog_6_method_4_code 6 (Option.some Jvm.ClassFile.FieldType.int) "StaveHouse$Part") {rec26 : Int → Int → Int → Int → zF → zB → zO} (hrec26 : ∀ {l3 : Int} {l2 : Int} {l0 : Int} {l1 : Int} {F : zF} {B : zB} {H : Heap} {locs : List Loc} {ls : Array Slot}, rec26 l3 l2 l0 l1 F B = some (r, F9, B9) → zH D ca ad lnC K.2 L F B A H → va_S A s.heap H locs → lv_has ls 6 [(3, .int (iI l3)), (2, .int (iI l2)), (0, .ref (ad 4 l0 0)), (1, .ref (ad 6 l1 0))] → W p l e ({ frames := 6, cells := 0, slots := 0, locals := 168 } : Room) s m args below meth c H locs 0 0 (MQ below (Q_Part_judge K D ca ad L r F9 B9 A) args s 0 0 A) (F0 m 26 ls [])) {l4 : Int} {l3 : Int} {l2 : Int} {l0 : Int} {l1 : Int} {F : zF} {B : zB} {H : Heap} {locs : List Loc} {ls : Array Slot} (hf : f_Part_judge_112 rec26 K l4 l3 l2 l0 l1 F B = some (r, F9, B9)) (hZ : zH D ca ad lnC K.2 L F B A H) (hS : va_S A s.heap H locs) (hl : lv_has ls 6 [(4, va_rf (zrf ad 1 l4)), (3, .int (iI l3)), (2, .int (iI l2)), (0, .ref (ad 4 l0 0)), (1, .ref (ad 6 l1 0))]) : W p l e ({ frames := 6, cells := 0, slots := 0, locals := 168 } : Room) s m args below meth c H locs 0 0 (MQ below (Q_Part_judge K D ca ad L r F9 B9 A) args s 0 0 A) (F0 m 112 ls []) := by
  obtain ⟨hx, hb, hr, hml, hown, hts, hlk, hK, hA, hL, hX⟩ := id X
  replace hf : (f_Part_judge_113 rec26 K l4 l3 l2 l0 l1 0 F B) = some (r, F9, B9) := hf
  refine lv_iconst (v := iI 0) hx hb d_6_4_112 rfl ?_
  exact b_Part_judge_113 X hrec26 hf hZ hS (lv_sub hl [0, 1, 2, 3, 4] rfl)

noncomputable def f_Part_judge_95 (rec26 : Int → Int → Int → Int → zF → zB → zO) (K : zK) (l4 : Int) (l3 : Int) (l2 : Int) (l0 : Int) (l1 : Int) (F : zF) (B : zB) : zO := if r32 l2 then (if l2 = 0 then f_Part_judge_112 rec26 K l4 l3 l2 l0 l1 F B else if 0 ≤ l4 ∧ l4 < K.2 1 then zbind (f_Event_has K l4 4 F B) (fun r31 F31 B31 => if r32 r31 then (if r31 = 0 then f_Part_judge_113 rec26 K l4 l3 l2 l0 l1 1 F31 B31 else f_Part_judge_112 rec26 K l4 l3 l2 l0 l1 F31 B31) else none) else none) else none
