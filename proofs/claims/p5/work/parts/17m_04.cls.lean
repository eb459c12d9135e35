set_option maxHeartbeats 4000000 in
set_option maxRecDepth 100000 in
theorem cb_Parser_takeItem {l : Launch} {D : va_G} {ca : Nat → ClassId} {ad : Nat → Int → Nat → Nat} {L : List Nat} {aS vS : Nat → Nat} {sz : Nat} {K : zK} {d : Nat} {o : oT_CP} (ho : oH_CP K l D ca ad L aS vS d o)  {l0 : Int} {l1 : Int} {F F9 : zF} {B B9 : zB} {r : Int} (hf : fb_Parser_takeItem o K l0 l1 F B = some (r, F9, B9)) : Met l ({ cls := "StaveHouse$Parser", name := "takeItem", desc := "(I)Z" } : Jvm.MethodName) (Cond.code ({ cls := "StaveHouse$Parser", name := "takeItem", desc := "(I)Z" } : Jvm.MethodName) prog_5_method_22_code 2 (Option.some Jvm.ClassFile.FieldType.boolean) :: wAll) ({ frames := d + 1 + 7, cells := 0, slots := 0, locals := 25 * (d + 1) + 136 } : Room) (va_Pc [.ref (ad 3 l0 0), .int (iI l1)] (zPre D ca ad lnC K.2 L aS vS F B sz)) (Q_Parser_takeItem K D ca ad L r F9 B9 (zA L sz)) 0 0 (zA L sz) := by
  refine zMet (Qc := Q_Parser_takeItem K D ca ad L r F9 B9) (lv := [(0, .ref (ad 3 l0 0)), (1, .int (iI l1))]) (by decide) (Nat.le_of_ble_eq_true rfl) rfl (fun A p e s m below meth c ls X hZ hS hl => ?_)
  obtain ⟨hx, hb, hr, hml, hown, hts, hlk, hK, hA, hL, hX⟩ := id X
  replace hf : (if 0 ≤ l0 ∧ l0 < K.2 3 then if 0 ≤ l1 ∧ l1 < 3000 then if r32 (B 3 l0 0 l1) then (if (B 3 l0 0 l1) = 0 then zbind (f_Parser_takeEvent K l0 l1 F B) (fun r38 F38 B38 => if (r38 = 0 ∨ r38 = 1) then some (r38, F38, B38) else none) else (if (B 3 l0 0 l1) = 3 then zbind (o.2.2.2.1 l0 l1 F B) (fun r36 F36 B36 => if (r36 = 0 ∨ r36 = 1) then some (r36, F36, B36) else none) else if 0 ≤ (F 3 l0 11) ∧ (F 3 l0 11) < K.2 10 then zbind (f_Tokens_advance K (F 3 l0 11) F B) (fun r7 F7 B7 => if r32 (B7 3 l0 0 l1) then (if (B7 3 l0 0 l1) = 2 then zbind (f_Parser_takeLoud K l0 l1 F7 B7) (fun r10 F10 B10 => if (r10 = 0 ∨ r10 = 1) then some (r10, F10, B10) else none) else (if (B7 3 l0 0 l1) = 3 then some (1, F7, B7) else (if (B7 3 l0 0 l1) = 4 then zbind (o.2.2.2.2.1 l0 l1 F7 B7) (fun r14 F14 B14 => if (r14 = 0 ∨ r14 = 1) then some (r14, F14, B14) else none) else (if (B7 3 l0 0 l1) = 5 then zbind (f_Parser_takeUse K l0 l1 F7 B7) (fun r17 F17 B17 => if (r17 = 0 ∨ r17 = 1) then some (r17, F17, B17) else none) else (if (B7 3 l0 0 l1) = 6 then zbind (o.2.2.2.2.2.2.1 l0 l1 F7 B7) (fun r20 F20 B20 => if (r20 = 0 ∨ r20 = 1) then some (r20, F20, B20) else none) else (if (B7 3 l0 0 l1) = 7 then zbind (o.2.2.2.2.2.2.2 l0 l1 F7 B7) (fun r23 F23 B23 => if (r23 = 0 ∨ r23 = 1) then some (r23, F23, B23) else none) else (if (B7 3 l0 0 l1) = 8 then zbind (o.1 l0 l1 F7 B7) (fun r26 F26 B26 => if (r26 = 0 ∨ r26 = 1) then some (r26, F26, B26) else none) else (if (B7 3 l0 0 l1) = 9 then zbind (f_Parser_takeFraction K l0 l1 1 8 F7 B7) (fun r29 F29 B29 => if r32 r29 then (if r29 = 0 then f_Parser_takeItem_151 o K F29 B29 else zbind (o.1 l0 l1 F29 B29) (fun r33 F33 B33 => if r32 r33 then (if r33 = 0 then f_Parser_takeItem_151 o K F33 B33 else f_Parser_takeItem_152 o K 1 F33 B33) else none)) else none) else some (1, F7, B7))))))))) else none) else none)) else none else none else none) = some (r, F9, B9) := hf
  refine lv_aload_n hx hb d_5_22_0 rfl (lv_at hl 0 rfl) ?_
  obtain ⟨g1, hf⟩ := gif hf
  refine zget (ci := 3) (C := RX3) (T := TX3) (v := .ref (ad 3 l0 (0 + 1))) (k := 0) hx hb hts inW_3 hown hK hZ g1.1 g1.2 rfl (by decide) k_1_106 rfl d_5_22_1 ?_
  refine lv_iload_n hx hb d_5_22_4 rfl (lv_at hl 1 rfl) ?_
  obtain ⟨g2, hf⟩ := gif hf
  refine zald (ci := 3) (k := 0) hx hb hK rfl hZ g1.1 g1.2 rfl (Nat.le_of_ble_eq_true rfl) g2.1 g2.2 d_5_22_5 ?_
  obtain ⟨g3, hf⟩ := gif hf
  refine z0ne (tgt := 15) hx hb g3 d_5_22_6 (by decide) (fun h4 => ?_) (fun h4 => ?_)
  · replace hf := gneg hf h4
    refine lv_aload_n hx hb d_5_22_15 rfl (lv_at hl 0 rfl) ?_
    refine zget (ci := 3) (C := RX3) (T := TX3) (v := .ref (ad 3 l0 (0 + 1))) (k := 0) hx hb hts inW_3 hown hK hZ g1.1 g1.2 rfl (by decide) k_1_106 rfl d_5_22_16 ?_
    refine lv_iload_n hx hb d_5_22_19 rfl (lv_at hl 1 rfl) ?_
    refine zald (ci := 3) (k := 0) hx hb hK rfl hZ g1.1 g1.2 rfl (Nat.le_of_ble_eq_true rfl) g2.1 g2.2 d_5_22_20 ?_
    refine lv_iconst (v := iI 3) hx hb d_5_22_21 rfl ?_
    refine zne (tgt := 31) hx hb g3 (by decide) d_5_22_22 (by decide) (fun h5 => ?_) (fun h5 => ?_)
    · replace hf := gneg hf h5
      refine lv_aload_n hx hb d_5_22_31 rfl (lv_at hl 0 rfl) ?_
      refine zget (ci := 3) (C := RX3) (T := TX3) (v := va_rf (zrf ad 10 (F 3 l0 11))) (k := 11) hx hb hts inW_3 hown hK hZ g1.1 g1.2 rfl (by decide) k_1_128 rfl d_5_22_32 ?_
      obtain ⟨g6, hf⟩ := gif hf
      refine W.eq (g2 := F0 m 35 ls [.ref (ad 10 (F 3 l0 11) 0)]) (by rw [zrf_pos (ad := ad) (t := 10) g6.1]; try rfl) ?_
      obtain ⟨r7, F7, B7, hc7, hf⟩ := gbind hf
      refine va_callv (va_runV (As := []) (rest := []) ⟨hx, hb, hml, hown, hts⟩ (c_Tokens_advance (l := l) hc7) (cwV 0 hts (gdV k_3_180 k_3_152 k_3_153 k_1_5 k_3_154) rfl rfl rfl (by decide +kernel) ⟨by dsimp only; omega, by dsimp only; omega⟩) (zPV X hZ hS (ci := 10) g6.1 g6.2 (r := (RX10, TX10, 9)) rfl []) rfl rfl hl.1 rfl (lv_room (Nat.le_of_ble_eq_true rfl)) d_5_22_35 ⟨Nat.le_of_ble_eq_true rfl, Nat.le_of_ble_eq_true rfl⟩) hS (fun q _ h => zAin X hS q h) (zAin X hS) (fun u7 t7 H7 locs7 ht7 hv7 hw7 hB7 hz7 hk7 hS7 => ?_)
      have hZ7 := zBack X ht7 hB7
      refine lv_aload_n hx hb d_5_22_38 rfl (lv_at hl 0 rfl) ?_
      refine zget (ci := 3) (C := RX3) (T := TX3) (v := .ref (ad 3 l0 (0 + 1))) (k := 0) hx hb hts inW_3 hown hK hZ7 g1.1 g1.2 rfl (by decide) k_1_106 rfl d_5_22_39 ?_
      refine lv_iload_n hx hb d_5_22_42 rfl (lv_at hl 1 rfl) ?_
      refine zald (ci := 3) (k := 0) hx hb hK rfl hZ7 g1.1 g1.2 rfl (Nat.le_of_ble_eq_true rfl) g2.1 g2.2 d_5_22_43 ?_
      obtain ⟨g8, hf⟩ := gif hf
      by_cases h9 : (B7 3 l0 0 l1) = 2
      · replace hf := gpos hf h9
        refine lv_tableIn (off := 48) (tgt := 92) hx hb d_5_22_44 (by rw [iI_to g8, h9]; decide) (by rw [iI_to g8, h9]; decide) (by rw [iI_to g8, h9]; rfl) (by decide) ?_
        refine lv_aload_n hx hb d_5_22_92 rfl (lv_at hl 0 rfl) ?_
        refine lv_iload_n hx hb d_5_22_93 rfl (lv_at hl 1 rfl) ?_
        obtain ⟨r10, F10, B10, hc10, hf⟩ := gbind hf
        refine va_calli (va_runV (As := [.int (iI l1)]) (rest := []) ⟨hx, hb, hml, hown, hts⟩ (c_Parser_takeLoud (l := l) hc10) (cwV 1 hts (gdV k_4_41 k_4_43 ks_24 k_1_4 k_4_44) rfl rfl rfl (by decide +kernel) ⟨by dsimp only; omega, by dsimp only; omega⟩) (zPV X hZ7 hS7 (ci := 3) g1.1 g1.2 (r := (RX3, TX3, 22)) rfl [.int (iI l1)]) rfl rfl hl.1 rfl (lv_room (Nat.le_of_ble_eq_true rfl)) d_5_22_94 ⟨Nat.le_of_ble_eq_true rfl, Nat.le_of_ble_eq_true rfl⟩) hS7 (fun q _ h => zAin X hS7 q h) (zAin X hS7) (fun p10 u10 t10 H10 locs10 ht10 hv10 hw10 hB10 hz10 hk10 hS10 => ?_)
        have hZ10 := zBack X ht10 hB10
        subst hw10
        obtain ⟨g11, hf⟩ := gif hf
        cases hf
        exact W.zret hx hb hr (zbool g11) (fun t ht hW => ⟨⟨_, (), rfl, rfl, by rw [ht]; exact hZ10, va_K.moved hW.alike hK⟩, hS10.F ht⟩) hS10.2.2 d_5_22_97 hlk
      replace hf := gneg hf h9
      by_cases h12 : (B7 3 l0 0 l1) = 3
      · replace hf := gpos hf h12
        refine lv_tableIn (off := 109) (tgt := 153) hx hb d_5_22_44 (by rw [iI_to g8, h12]; decide) (by rw [iI_to g8, h12]; decide) (by rw [iI_to g8, h12]; rfl) (by decide) ?_
        refine lv_iconst (v := iI 1) hx hb d_5_22_153 rfl ?_
        cases hf
        exact W.zret hx hb hr rfl (fun t ht hW => ⟨⟨_, (), rfl, rfl, by rw [ht]; exact hZ7, va_K.moved hW.alike hK⟩, hS7.F ht⟩) hS7.2.2 d_5_22_154 hlk
      replace hf := gneg hf h12
      by_cases h13 : (B7 3 l0 0 l1) = 4
      · replace hf := gpos hf h13
        refine lv_tableIn (off := 54) (tgt := 98) hx hb d_5_22_44 (by rw [iI_to g8, h13]; decide) (by rw [iI_to g8, h13]; decide) (by rw [iI_to g8, h13]; rfl) (by decide) ?_
        refine lv_aload_n hx hb d_5_22_98 rfl (lv_at hl 0 rfl) ?_
        refine lv_iload_n hx hb d_5_22_99 rfl (lv_at hl 1 rfl) ?_
        obtain ⟨r14, F14, B14, hc14, hf⟩ := gbind hf
        refine va_calli (va_runV (As := [.int (iI l1)]) (rest := []) ⟨hx, hb, hml, hown, hts⟩ (ho.2.2.2.2.1 hc14) (cwV 1 hts (gdV k_4_45 k_4_47 ks_25 k_1_4 k_4_48) rfl rfl rfl (by decide +kernel) ⟨by dsimp only; omega, by dsimp only; omega⟩) (zPV X hZ7 hS7 (ci := 3) g1.1 g1.2 (r := (RX3, TX3, 22)) rfl [.int (iI l1)]) rfl rfl hl.1 rfl (lv_room (Nat.le_of_ble_eq_true rfl)) d_5_22_100 ⟨Nat.le_of_ble_eq_true rfl, Nat.le_of_ble_eq_true rfl⟩) hS7 (fun q _ h => zAin X hS7 q h) (zAin X hS7) (fun p14 u14 t14 H14 locs14 ht14 hv14 hw14 hB14 hz14 hk14 hS14 => ?_)
        have hZ14 := zBack X ht14 hB14
        subst hw14
        obtain ⟨g15, hf⟩ := gif hf
        cases hf
        exact W.zret hx hb hr (zbool g15) (fun t ht hW => ⟨⟨_, (), rfl, rfl, by rw [ht]; exact hZ14, va_K.moved hW.alike hK⟩, hS14.F ht⟩) hS14.2.2 d_5_22_103 hlk
      replace hf := gneg hf h13
      by_cases h16 : (B7 3 l0 0 l1) = 5
      · replace hf := gpos hf h16
        refine lv_tableIn (off := 60) (tgt := 104) hx hb d_5_22_44 (by rw [iI_to g8, h16]; decide) (by rw [iI_to g8, h16]; decide) (by rw [iI_to g8, h16]; rfl) (by decide) ?_
        refine lv_aload_n hx hb d_5_22_104 rfl (lv_at hl 0 rfl) ?_
        refine lv_iload_n hx hb d_5_22_105 rfl (lv_at hl 1 rfl) ?_
        obtain ⟨r17, F17, B17, hc17, hf⟩ := gbind hf
        refine va_calli (va_runV (As := [.int (iI l1)]) (rest := []) ⟨hx, hb, hml, hown, hts⟩ (c_Parser_takeUse (l := l) hc17) (cwV 1 hts (gdV k_4_54 k_4_56 ks_27 k_1_4 k_4_57) rfl rfl rfl (by decide +kernel) ⟨by dsimp only; omega, by dsimp only; omega⟩) (zPV X hZ7 hS7 (ci := 3) g1.1 g1.2 (r := (RX3, TX3, 22)) rfl [.int (iI l1)]) rfl rfl hl.1 rfl (lv_room (Nat.le_of_ble_eq_true rfl)) d_5_22_106 ⟨Nat.le_of_ble_eq_true rfl, Nat.le_of_ble_eq_true rfl⟩) hS7 (fun q _ h => zAin X hS7 q h) (zAin X hS7) (fun p17 u17 t17 H17 locs17 ht17 hv17 hw17 hB17 hz17 hk17 hS17 => ?_)
        have hZ17 := zBack X ht17 hB17
        subst hw17
        obtain ⟨g18, hf⟩ := gif hf
        cases hf
        exact W.zret hx hb hr (zbool g18) (fun t ht hW => ⟨⟨_, (), rfl, rfl, by rw [ht]; exact hZ17, va_K.moved hW.alike hK⟩, hS17.F ht⟩) hS17.2.2 d_5_22_109 hlk
      replace hf := gneg hf h16
      by_cases h19 : (B7 3 l0 0 l1) = 6
      · replace hf := gpos hf h19
        refine lv_tableIn (off := 66) (tgt := 110) hx hb d_5_22_44 (by rw [iI_to g8, h19]; decide) (by rw [iI_to g8, h19]; decide) (by rw [iI_to g8, h19]; rfl) (by decide) ?_
        refine lv_aload_n hx hb d_5_22_110 rfl (lv_at hl 0 rfl) ?_
        refine lv_iload_n hx hb d_5_22_111 rfl (lv_at hl 1 rfl) ?_
        obtain ⟨r20, F20, B20, hc20, hf⟩ := gbind hf
        refine va_calli (va_runV (As := [.int (iI l1)]) (rest := []) ⟨hx, hb, hml, hown, hts⟩ (ho.2.2.2.2.2.2.1 hc20) (cwV 1 hts (gdV k_4_58 k_4_60 ks_28 k_1_4 k_4_61) rfl rfl rfl (by decide +kernel) ⟨by dsimp only; omega, by dsimp only; omega⟩) (zPV X hZ7 hS7 (ci := 3) g1.1 g1.2 (r := (RX3, TX3, 22)) rfl [.int (iI l1)]) rfl rfl hl.1 rfl (lv_room (Nat.le_of_ble_eq_true rfl)) d_5_22_112 ⟨Nat.le_of_ble_eq_true rfl, Nat.le_of_ble_eq_true rfl⟩) hS7 (fun q _ h => zAin X hS7 q h) (zAin X hS7) (fun p20 u20 t20 H20 locs20 ht20 hv20 hw20 hB20 hz20 hk20 hS20 => ?_)
        have hZ20 := zBack X ht20 hB20
        subst hw20
        obtain ⟨g21, hf⟩ := gif hf
        cases hf
        exact W.zret hx hb hr (zbool g21) (fun t ht hW => ⟨⟨_, (), rfl, rfl, by rw [ht]; exact hZ20, va_K.moved hW.alike hK⟩, hS20.F ht⟩) hS20.2.2 d_5_22_115 hlk
      replace hf := gneg hf h19
      by_cases h22 : (B7 3 l0 0 l1) = 7
      · replace hf := gpos hf h22
        refine lv_tableIn (off := 72) (tgt := 116) hx hb d_5_22_44 (by rw [iI_to g8, h22]; decide) (by rw [iI_to g8, h22]; decide) (by rw [iI_to g8, h22]; rfl) (by decide) ?_
        refine lv_aload_n hx hb d_5_22_116 rfl (lv_at hl 0 rfl) ?_
        refine lv_iload_n hx hb d_5_22_117 rfl (lv_at hl 1 rfl) ?_
        obtain ⟨r23, F23, B23, hc23, hf⟩ := gbind hf
        refine va_calli (va_runV (As := [.int (iI l1)]) (rest := []) ⟨hx, hb, hml, hown, hts⟩ (ho.2.2.2.2.2.2.2 hc23) (cwV 1 hts (gdV k_4_73 k_4_75 ks_29 k_1_4 k_4_76) rfl rfl rfl (by decide +kernel) ⟨by dsimp only; omega, by dsimp only; omega⟩) (zPV X hZ7 hS7 (ci := 3) g1.1 g1.2 (r := (RX3, TX3, 22)) rfl [.int (iI l1)]) rfl rfl hl.1 rfl (lv_room (Nat.le_of_ble_eq_true rfl)) d_5_22_118 ⟨Nat.le_of_ble_eq_true rfl, Nat.le_of_ble_eq_true rfl⟩) hS7 (fun q _ h => zAin X hS7 q h) (zAin X hS7) (fun p23 u23 t23 H23 locs23 ht23 hv23 hw23 hB23 hz23 hk23 hS23 => ?_)
        have hZ23 := zBack X ht23 hB23
        subst hw23
        obtain ⟨g24, hf⟩ := gif hf
        cases hf
        exact W.zret hx hb hr (zbool g24) (fun t ht hW => ⟨⟨_, (), rfl, rfl, by rw [ht]; exact hZ23, va_K.moved hW.alike hK⟩, hS23.F ht⟩) hS23.2.2 d_5_22_121 hlk
      replace hf := gneg hf h22
      by_cases h25 : (B7 3 l0 0 l1) = 8
      · replace hf := gpos hf h25
        refine lv_tableIn (off := 78) (tgt := 122) hx hb d_5_22_44 (by rw [iI_to g8, h25]; decide) (by rw [iI_to g8, h25]; decide) (by rw [iI_to g8, h25]; rfl) (by decide) ?_
        refine lv_aload_n hx hb d_5_22_122 rfl (lv_at hl 0 rfl) ?_
        refine lv_iload_n hx hb d_5_22_123 rfl (lv_at hl 1 rfl) ?_
        obtain ⟨r26, F26, B26, hc26, hf⟩ := gbind hf
        refine va_calli (va_runV (As := [.int (iI l1)]) (rest := []) ⟨hx, hb, hml, hown, hts⟩ (ho.1 hc26) (cwV 1 hts (gdV k_3_212 k_3_214 ks_10 k_1_4 k_3_215) rfl rfl rfl (by decide +kernel) ⟨by dsimp only; omega, by dsimp only; omega⟩) (zPV X hZ7 hS7 (ci := 3) g1.1 g1.2 (r := (RX3, TX3, 22)) rfl [.int (iI l1)]) rfl rfl hl.1 rfl (lv_room (Nat.le_of_ble_eq_true rfl)) d_5_22_124 ⟨Nat.le_of_ble_eq_true rfl, Nat.le_of_ble_eq_true rfl⟩) hS7 (fun q _ h => zAin X hS7 q h) (zAin X hS7) (fun p26 u26 t26 H26 locs26 ht26 hv26 hw26 hB26 hz26 hk26 hS26 => ?_)
        have hZ26 := zBack X ht26 hB26
        subst hw26
        obtain ⟨g27, hf⟩ := gif hf
        cases hf
        exact W.zret hx hb hr (zbool g27) (fun t ht hW => ⟨⟨_, (), rfl, rfl, by rw [ht]; exact hZ26, va_K.moved hW.alike hK⟩, hS26.F ht⟩) hS26.2.2 d_5_22_127 hlk
      replace hf := gneg hf h25
      by_cases h28 : (B7 3 l0 0 l1) = 9
      · replace hf := gpos hf h28
        refine lv_tableIn (off := 84) (tgt := 128) hx hb d_5_22_44 (by rw [iI_to g8, h28]; decide) (by rw [iI_to g8, h28]; decide) (by rw [iI_to g8, h28]; rfl) (by decide) ?_
        refine lv_aload_n hx hb d_5_22_128 rfl (lv_at hl 0 rfl) ?_
        refine lv_iload_n hx hb d_5_22_129 rfl (lv_at hl 1 rfl) ?_
        refine lv_iconst (v := iI 1) hx hb d_5_22_130 rfl ?_
        refine lv_bipush (v := iI 8) hx hb d_5_22_131 (by decide) ?_
        obtain ⟨r29, F29, B29, hc29, hf⟩ := gbind hf
        refine va_calli (va_runV (As := [.int (iI l1), .int (iI 1), .int (iI 8)]) (rest := []) ⟨hx, hb, hml, hown, hts⟩ (c_Parser_takeFraction (l := l) hc29) (cwV 3 hts (gdV k_4_33 k_4_35 ks_22 k_1_4 k_4_36) rfl rfl rfl (by decide +kernel) ⟨by dsimp only; omega, by dsimp only; omega⟩) (zPV X hZ7 hS7 (ci := 3) g1.1 g1.2 (r := (RX3, TX3, 22)) rfl [.int (iI l1), .int (iI 1), .int (iI 8)]) rfl rfl hl.1 rfl (lv_room (Nat.le_of_ble_eq_true rfl)) d_5_22_133 ⟨Nat.le_of_ble_eq_true rfl, Nat.le_of_ble_eq_true rfl⟩) hS7 (fun q _ h => zAin X hS7 q h) (zAin X hS7) (fun p29 u29 t29 H29 locs29 ht29 hv29 hw29 hB29 hz29 hk29 hS29 => ?_)
        have hZ29 := zBack X ht29 hB29
        subst hw29
        obtain ⟨g30, hf⟩ := gif hf
        refine z0eq (tgt := 151) hx hb g30 d_5_22_136 (by decide) (fun h31 => ?_) (fun h31 => ?_)
        · replace hf := gpos hf h31
          exact b_Parser_takeItem_151 X ho hf hZ29 hS29 (lv_sub hl [] rfl)
        · replace hf := gneg hf h31
          refine lv_aload_n hx hb d_5_22_139 rfl (lv_at hl 0 rfl) ?_
          refine lv_iload_n hx hb d_5_22_140 rfl (lv_at hl 1 rfl) ?_
          obtain ⟨r33, F33, B33, hc33, hf⟩ := gbind hf
          refine va_calli (va_runV (As := [.int (iI l1)]) (rest := []) ⟨hx, hb, hml, hown, hts⟩ (ho.1 hc33) (cwV 1 hts (gdV k_3_212 k_3_214 ks_10 k_1_4 k_3_215) rfl rfl rfl (by decide +kernel) ⟨by dsimp only; omega, by dsimp only; omega⟩) (zPV X hZ29 hS29 (ci := 3) g1.1 g1.2 (r := (RX3, TX3, 22)) rfl [.int (iI l1)]) rfl rfl hl.1 rfl (lv_room (Nat.le_of_ble_eq_true rfl)) d_5_22_141 ⟨Nat.le_of_ble_eq_true rfl, Nat.le_of_ble_eq_true rfl⟩) hS29 (fun q _ h => zAin X hS29 q h) (zAin X hS29) (fun p33 u33 t33 H33 locs33 ht33 hv33 hw33 hB33 hz33 hk33 hS33 => ?_)
          have hZ33 := zBack X ht33 hB33
          subst hw33
          obtain ⟨g34, hf⟩ := gif hf
          refine z0eq (tgt := 151) hx hb g34 d_5_22_144 (by decide) (fun h35 => ?_) (fun h35 => ?_)
          · replace hf := gpos hf h35
            exact b_Parser_takeItem_151 X ho hf hZ33 hS33 (lv_sub hl [] rfl)
          · replace hf := gneg hf h35
            refine lv_iconst (v := iI 1) hx hb d_5_22_147 rfl ?_
            refine lv_goto (tgt := 152) hx hb d_5_22_148 (by decide) ?_
            exact b_Parser_takeItem_152 X ho hf hZ33 hS33 (lv_sub hl [] rfl)
      replace hf := gneg hf h28
      refine lv_tableOut (tgt := 153) hx hb d_5_22_44 (by rw [iI_to g8]; omega) (by decide) ?_
      refine lv_iconst (v := iI 1) hx hb d_5_22_153 rfl ?_
      cases hf
      exact W.zret hx hb hr rfl (fun t ht hW => ⟨⟨_, (), rfl, rfl, by rw [ht]; exact hZ7, va_K.moved hW.alike hK⟩, hS7.F ht⟩) hS7.2.2 d_5_22_154 hlk
    · replace hf := gpos hf h5
      refine lv_aload_n hx hb d_5_22_25 rfl (lv_at hl 0 rfl) ?_
      refine lv_iload_n hx hb d_5_22_26 rfl (lv_at hl 1 rfl) ?_
      obtain ⟨r36, F36, B36, hc36, hf⟩ := gbind hf
      refine va_calli (va_runV (As := [.int (iI l1)]) (rest := []) ⟨hx, hb, hml, hown, hts⟩ (ho.2.2.2.1 hc36) (cwV 1 hts (gdV k_4_29 k_4_31 ks_21 k_1_4 k_4_32) rfl rfl rfl (by decide +kernel) ⟨by dsimp only; omega, by dsimp only; omega⟩) (zPV X hZ hS (ci := 3) g1.1 g1.2 (r := (RX3, TX3, 22)) rfl [.int (iI l1)]) rfl rfl hl.1 rfl (lv_room (Nat.le_of_ble_eq_true rfl)) d_5_22_27 ⟨Nat.le_of_ble_eq_true rfl, Nat.le_of_ble_eq_true rfl⟩) hS (fun q _ h => zAin X hS q h) (zAin X hS) (fun p36 u36 t36 H36 locs36 ht36 hv36 hw36 hB36 hz36 hk36 hS36 => ?_)
      have hZ36 := zBack X ht36 hB36
      subst hw36
      obtain ⟨g37, hf⟩ := gif hf
      cases hf
      exact W.zret hx hb hr (zbool g37) (fun t ht hW => ⟨⟨_, (), rfl, rfl, by rw [ht]; exact hZ36, va_K.moved hW.alike hK⟩, hS36.F ht⟩) hS36.2.2 d_5_22_30 hlk
  · replace hf := gpos hf h4
    refine lv_aload_n hx hb d_5_22_9 rfl (lv_at hl 0 rfl) ?_
    refine lv_iload_n hx hb d_5_22_10 rfl (lv_at hl 1 rfl) ?_
    obtain ⟨r38, F38, B38, hc38, hf⟩ := gbind hf
    refine va_calli (va_runV (As := [.int (iI l1)]) (rest := []) ⟨hx, hb, hml, hown, hts⟩ (c_Parser_takeEvent (l := l) hc38) (cwV 1 hts (gdV k_3_233 k_3_235 ks_15 k_1_4 k_3_236) rfl rfl rfl (by decide +kernel) ⟨by dsimp only; omega, by dsimp only; omega⟩) (zPV X hZ hS (ci := 3) g1.1 g1.2 (r := (RX3, TX3, 22)) rfl [.int (iI l1)]) rfl rfl hl.1 rfl (lv_room (Nat.le_of_ble_eq_true rfl)) d_5_22_11 ⟨Nat.le_of_ble_eq_true rfl, Nat.le_of_ble_eq_true rfl⟩) hS (fun q _ h => zAin X hS q h) (zAin X hS) (fun p38 u38 t38 H38 locs38 ht38 hv38 hw38 hB38 hz38 hk38 hS38 => ?_)
    have hZ38 := zBack X ht38 hB38
    subst hw38
    obtain ⟨g39, hf⟩ := gif hf
    cases hf
    exact W.zret hx hb hr (zbool g39) (fun t ht hW => ⟨⟨_, (), rfl, rfl, by rw [ht]; exact hZ38, va_K.moved hW.alike hK⟩, hS38.F ht⟩) hS38.2.2 d_5_22_14 hlk

noncomputable def f_Parser_takeBracket_51 (o : oT_CP) (K : zK) (s0 : Int) (F : zF) (B : zB) : zO := if (s0 = 0 ∨ s0 = 1) then some (s0, F, B) else none
set_option maxHeartbeats 4000000 in
set_option maxRecDepth 100000 in
theorem b_Parser_takeBracket_51 {D : va_G} {ca : Nat → ClassId} {ad : Nat → Int → Nat → Nat} {L : List Nat} {aS vS : Nat → Nat} {A : Nat → Prop} {p : Program} {l : Launch} {e : Env} {s : State} {m : MethodId} {args : Array Value} {below : List Frame} {meth : Method} {c : Code} {K : zK} {r : Int} {F9 : zF} {B9 : zB} {d : Nat} {o : oT_CP} (X : zX D ca L aS vS A p s m args meth c prog_5_method_30_code 2 (Option.some Jvm.ClassFile.FieldType.boolean) "StaveHouse$Parser") (ho : oH_CP K l D ca ad L aS vS d o) {s0 : Int} {F : zF} {B : zB} {H : Heap} {locs : List Loc} {ls : Array Slot} (hf : f_Parser_takeBracket_51 o K s0 F B = some (r, F9, B9)) (hZ : zH D ca ad lnC K.2 L F B A H) (hS : va_S A s.heap H locs) (hl : lv_has ls 2 []) : W p l e ({ frames := d + 1 + 7, cells := 0, slots := 0, locals := 25 * (d + 1) + 136 } : Room) s m args below meth c H locs 0 0 (MQ below (Q_Parser_takeBracket K D ca ad L r F9 B9 A) args s 0 0 A) (F0 m 51 ls [.int (iI s0)]) := by
  obtain ⟨hx, hb, hr, hml, hown, hts, hlk, hK, hA, hL, hX⟩ := id X
  replace hf : (if (s0 = 0 ∨ s0 = 1) then some (s0, F, B) else none) = some (r, F9, B9) := hf
  obtain ⟨g17, hf⟩ := gif hf
  cases hf
  exact W.zret hx hb hr (zbool g17) (fun t ht hW => ⟨⟨_, (), rfl, rfl, by rw [ht]; exact hZ, va_K.moved hW.alike hK⟩, hS.F ht⟩) hS.2.2 d_5_30_51 hlk

noncomputable def f_Parser_takeBracket_50 (o : oT_CP) (K : zK)  (F : zF) (B : zB) : zO := f_Parser_takeBracket_51 o K 0 F B
set_option maxHeartbeats 4000000 in
set_option maxRecDepth 100000 in
theorem b_Parser_takeBracket_50 {D : va_G} {ca : Nat → ClassId} {ad : Nat → Int → Nat → Nat} {L : List Nat} {aS vS : Nat → Nat} {A : Nat → Prop} {p : Program} {l : Launch} {e : Env} {s : State} {m : MethodId} {args : Array Value} {below : List Frame} {meth : Method} {c : Code} {K : zK} {r : Int} {F9 : zF} {B9 : zB} {d : Nat} {o : oT_CP} (X : zX D ca L aS vS A p s m args meth c prog_5_method_30_code 2 (Option.some Jvm.ClassFile.FieldType.boolean) "StaveHouse$Parser") (ho : oH_CP K l D ca ad L aS vS d o)  {F : zF} {B : zB} {H : Heap} {locs : List Loc} {ls : Array Slot} (hf : f_Parser_takeBracket_50 o K  F B = some (r, F9, B9)) (hZ : zH D ca ad lnC K.2 L F B A H) (hS : va_S A s.heap H locs) (hl : lv_has ls 2 []) : W p l e ({ frames := d + 1 + 7, cells := 0, slots := 0, locals := 25 * (d + 1) + 136 } : Room) s m args below meth c H locs 0 0 (MQ below (Q_Parser_takeBracket K D ca ad L r F9 B9 A) args s 0 0 A) (F0 m 50 ls []) := by
  obtain ⟨hx, hb, hr, hml, hown, hts, hlk, hK, hA, hL, hX⟩ := id X
  replace hf : (f_Parser_takeBracket_51 o K 0 F B) = some (r, F9, B9) := hf
  refine lv_iconst (v := iI 0) hx hb d_5_30_50 rfl ?_
  exact b_Parser_takeBracket_51 X ho hf hZ hS (lv_sub hl [] rfl)

noncomputable def fb_Parser_takeBracket (o : oT_CP) (K : zK) (l0 : Int) (l1 : Int) (F : zF) (B : zB) : zO := if 0 ≤ l0 ∧ l0 < K.2 3 then zbind (f_Parser_takeOpening K l0 91 F B) (fun r2 F2 B2 => if r32 r2 then (if r2 = 0 then f_Parser_takeBracket_50 o K F2 B2 else zbind (f_Parser_takeFraction K l0 l1 2 9 F2 B2) (fun r5 F5 B5 => if r32 r5 then (if r5 = 0 then f_Parser_takeBracket_50 o K F5 B5 else zbind (f_Parser_takeSign K l0 58 F5 B5) (fun r8 F8 B8 => if r32 r8 then (if r8 = 0 then f_Parser_takeBracket_50 o K F8 B8 else zbind (o.2.1 l0 l1 F8 B8) (fun r11 F11 B11 => if r32 r11 then (if r11 = 0 then f_Parser_takeBracket_50 o K F11 B11 else zbind (f_Parser_takeClosing K l0 93 F11 B11) (fun r14 F14 B14 => if r32 r14 then (if r14 = 0 then f_Parser_takeBracket_50 o K F14 B14 else f_Parser_takeBracket_51 o K 1 F14 B14) else none)) else none)) else none)) else none)) else none) else none
set_option maxHeartbeats 4000000 in
set_option maxRecDepth 100000 in
theorem cb_Parser_takeBracket {l : Launch} {D : va_G} {ca : Nat → ClassId} {ad : Nat → Int → Nat → Nat} {L : List Nat} {aS vS : Nat → Nat} {sz : Nat} {K : zK} {d : Nat} {o : oT_CP} (ho : oH_CP K l D ca ad L aS vS d o)  {l0 : Int} {l1 : Int} {F F9 : zF} {B B9 : zB} {r : Int} (hf : fb_Parser_takeBracket o K l0 l1 F B = some (r, F9, B9)) : Met l ({ cls := "StaveHouse$Parser", name := "takeBracket", desc := "(I)Z" } : Jvm.MethodName) (Cond.code ({ cls := "StaveHouse$Parser", name := "takeBracket", desc := "(I)Z" } : Jvm.MethodName) prog_5_method_30_code 2 (Option.some Jvm.ClassFile.FieldType.boolean) :: wAll) ({ frames := d + 1 + 7, cells := 0, slots := 0, locals := 25 * (d + 1) + 136 } : Room) (va_Pc [.ref (ad 3 l0 0), .int (iI l1)] (zPre D ca ad lnC K.2 L aS vS F B sz)) (Q_Parser_takeBracket K D ca ad L r F9 B9 (zA L sz)) 0 0 (zA L sz) := by
  refine zMet (Qc := Q_Parser_takeBracket K D ca ad L r F9 B9) (lv := [(0, .ref (ad 3 l0 0)), (1, .int (iI l1))]) (by decide) (Nat.le_of_ble_eq_true rfl) rfl (fun A p e s m below meth c ls X hZ hS hl => ?_)
  obtain ⟨hx, hb, hr, hml, hown, hts, hlk, hK, hA, hL, hX⟩ := id X
  replace hf : (if 0 ≤ l0 ∧ l0 < K.2 3 then zbind (f_Parser_takeOpening K l0 91 F B) (fun r2 F2 B2 => if r32 r2 then (if r2 = 0 then f_Parser_takeBracket_50 o K F2 B2 else zbind (f_Parser_takeFraction K l0 l1 2 9 F2 B2) (fun r5 F5 B5 => if r32 r5 then (if r5 = 0 then f_Parser_takeBracket_50 o K F5 B5 else zbind (f_Parser_takeSign K l0 58 F5 B5) (fun r8 F8 B8 => if r32 r8 then (if r8 = 0 then f_Parser_takeBracket_50 o K F8 B8 else zbind (o.2.1 l0 l1 F8 B8) (fun r11 F11 B11 => if r32 r11 then (if r11 = 0 then f_Parser_takeBracket_50 o K F11 B11 else zbind (f_Parser_takeClosing K l0 93 F11 B11) (fun r14 F14 B14 => if r32 r14 then (if r14 = 0 then f_Parser_takeBracket_50 o K F14 B14 else f_Parser_takeBracket_51 o K 1 F14 B14) else none)) else none)) else none)) else none)) else none) else none) = some (r, F9, B9) := hf
  refine lv_aload_n hx hb d_5_30_0 rfl (lv_at hl 0 rfl) ?_
  refine lv_bipush (v := iI 91) hx hb d_5_30_1 (by decide) ?_
  obtain ⟨g1, hf⟩ := gif hf
  obtain ⟨r2, F2, B2, hc2, hf⟩ := gbind hf
  refine va_calli (va_runV (As := [.int (iI 91)]) (rest := []) ⟨hx, hb, hml, hown, hts⟩ (c_Parser_takeOpening (l := l) hc2) (cwV 1 hts (gdV k_3_216 k_3_218 ks_11 k_1_4 k_3_219) rfl rfl rfl (by decide +kernel) ⟨by dsimp only; omega, by dsimp only; omega⟩) (zPV X hZ hS (ci := 3) g1.1 g1.2 (r := (RX3, TX3, 22)) rfl [.int (iI 91)]) rfl rfl hl.1 rfl (lv_room (Nat.le_of_ble_eq_true rfl)) d_5_30_3 ⟨Nat.le_of_ble_eq_true rfl, Nat.le_of_ble_eq_true rfl⟩) hS (fun q _ h => zAin X hS q h) (zAin X hS) (fun p2 u2 t2 H2 locs2 ht2 hv2 hw2 hB2 hz2 hk2 hS2 => ?_)
  have hZ2 := zBack X ht2 hB2
  subst hw2
  obtain ⟨g3, hf⟩ := gif hf
  refine z0eq (tgt := 50) hx hb g3 d_5_30_6 (by decide) (fun h4 => ?_) (fun h4 => ?_)
  · replace hf := gpos hf h4
    exact b_Parser_takeBracket_50 X ho hf hZ2 hS2 (lv_sub hl [] rfl)
  · replace hf := gneg hf h4
    refine lv_aload_n hx hb d_5_30_9 rfl (lv_at hl 0 rfl) ?_
    refine lv_iload_n hx hb d_5_30_10 rfl (lv_at hl 1 rfl) ?_
    refine lv_iconst (v := iI 2) hx hb d_5_30_11 rfl ?_
    refine lv_bipush (v := iI 9) hx hb d_5_30_12 (by decide) ?_
    obtain ⟨r5, F5, B5, hc5, hf⟩ := gbind hf
    refine va_calli (va_runV (As := [.int (iI l1), .int (iI 2), .int (iI 9)]) (rest := []) ⟨hx, hb, hml, hown, hts⟩ (c_Parser_takeFraction (l := l) hc5) (cwV 3 hts (gdV k_4_33 k_4_35 ks_22 k_1_4 k_4_36) rfl rfl rfl (by decide +kernel) ⟨by dsimp only; omega, by dsimp only; omega⟩) (zPV X hZ2 hS2 (ci := 3) g1.1 g1.2 (r := (RX3, TX3, 22)) rfl [.int (iI l1), .int (iI 2), .int (iI 9)]) rfl rfl hl.1 rfl (lv_room (Nat.le_of_ble_eq_true rfl)) d_5_30_14 ⟨Nat.le_of_ble_eq_true rfl, Nat.le_of_ble_eq_true rfl⟩) hS2 (fun q _ h => zAin X hS2 q h) (zAin X hS2) (fun p5 u5 t5 H5 locs5 ht5 hv5 hw5 hB5 hz5 hk5 hS5 => ?_)
    have hZ5 := zBack X ht5 hB5
    subst hw5
    obtain ⟨g6, hf⟩ := gif hf
    refine z0eq (tgt := 50) hx hb g6 d_5_30_17 (by decide) (fun h7 => ?_) (fun h7 => ?_)
    · replace hf := gpos hf h7
      exact b_Parser_takeBracket_50 X ho hf hZ5 hS5 (lv_sub hl [] rfl)
    · replace hf := gneg hf h7
      refine lv_aload_n hx hb d_5_30_20 rfl (lv_at hl 0 rfl) ?_
      refine lv_bipush (v := iI 58) hx hb d_5_30_21 (by decide) ?_
      obtain ⟨r8, F8, B8, hc8, hf⟩ := gbind hf
      refine va_calli (va_runV (As := [.int (iI 58)]) (rest := []) ⟨hx, hb, hml, hown, hts⟩ (c_Parser_takeSign (l := l) hc8) (cwV 1 hts (gdV k_3_204 k_3_206 ks_9 k_1_4 k_3_207) rfl rfl rfl (by decide +kernel) ⟨by dsimp only; omega, by dsimp only; omega⟩) (zPV X hZ5 hS5 (ci := 3) g1.1 g1.2 (r := (RX3, TX3, 22)) rfl [.int (iI 58)]) rfl rfl hl.1 rfl (lv_room (Nat.le_of_ble_eq_true rfl)) d_5_30_23 ⟨Nat.le_of_ble_eq_true rfl, Nat.le_of_ble_eq_true rfl⟩) hS5 (fun q _ h => zAin X hS5 q h) (zAin X hS5) (fun p8 u8 t8 H8 locs8 ht8 hv8 hw8 hB8 hz8 hk8 hS8 => ?_)
      have hZ8 := zBack X ht8 hB8
      subst hw8
      obtain ⟨g9, hf⟩ := gif hf
      refine z0eq (tgt := 50) hx hb g9 d_5_30_26 (by decide) (fun h10 => ?_) (fun h10 => ?_)
      · replace hf := gpos hf h10
        exact b_Parser_takeBracket_50 X ho hf hZ8 hS8 (lv_sub hl [] rfl)
      · replace hf := gneg hf h10
        refine lv_aload_n hx hb d_5_30_29 rfl (lv_at hl 0 rfl) ?_
        refine lv_iload_n hx hb d_5_30_30 rfl (lv_at hl 1 rfl) ?_
        obtain ⟨r11, F11, B11, hc11, hf⟩ := gbind hf
        refine va_calli (va_runV (As := [.int (iI l1)]) (rest := []) ⟨hx, hb, hml, hown, hts⟩ (ho.2.1 hc11) (cwV 1 hts (gdV k_3_220 k_3_222 ks_12 k_1_4 k_3_223) rfl rfl rfl (by decide +kernel) ⟨by dsimp only; omega, by dsimp only; omega⟩) (zPV X hZ8 hS8 (ci := 3) g1.1 g1.2 (r := (RX3, TX3, 22)) rfl [.int (iI l1)]) rfl rfl hl.1 rfl (lv_room (Nat.le_of_ble_eq_true rfl)) d_5_30_31 ⟨Nat.le_of_ble_eq_true rfl, Nat.le_of_ble_eq_true rfl⟩) hS8 (fun q _ h => zAin X hS8 q h) (zAin X hS8) (fun p11 u11 t11 H11 locs11 ht11 hv11 hw11 hB11 hz11 hk11 hS11 => ?_)
        have hZ11 := zBack X ht11 hB11
        subst hw11
        obtain ⟨g12, hf⟩ := gif hf
        refine z0eq (tgt := 50) hx hb g12 d_5_30_34 (by decide) (fun h13 => ?_) (fun h13 => ?_)
        · replace hf := gpos hf h13
          exact b_Parser_takeBracket_50 X ho hf hZ11 hS11 (lv_sub hl [] rfl)
        · replace hf := gneg hf h13
          refine lv_aload_n hx hb d_5_30_37 rfl (lv_at hl 0 rfl) ?_
          refine lv_bipush (v := iI 93) hx hb d_5_30_38 (by decide) ?_
          obtain ⟨r14, F14, B14, hc14, hf⟩ := gbind hf
          refine va_calli (va_runV (As := [.int (iI 93)]) (rest := []) ⟨hx, hb, hml, hown, hts⟩ (c_Parser_takeClosing (l := l) hc14) (cwV 1 hts (gdV k_4_37 k_4_39 ks_23 k_1_4 k_4_40) rfl rfl rfl (by decide +kernel) ⟨by dsimp only; omega, by dsimp only; omega⟩) (zPV X hZ11 hS11 (ci := 3) g1.1 g1.2 (r := (RX3, TX3, 22)) rfl [.int (iI 93)]) rfl rfl hl.1 rfl (lv_room (Nat.le_of_ble_eq_true rfl)) d_5_30_40 ⟨Nat.le_of_ble_eq_true rfl, Nat.le_of_ble_eq_true rfl⟩) hS11 (fun q _ h => zAin X hS11 q h) (zAin X hS11) (fun p14 u14 t14 H14 locs14 ht14 hv14 hw14 hB14 hz14 hk14 hS14 => ?_)
          have hZ14 := zBack X ht14 hB14
          subst hw14
          obtain ⟨g15, hf⟩ := gif hf
          refine z0eq (tgt := 50) hx hb g15 d_5_30_43 (by decide) (fun h16 => ?_) (fun h16 => ?_)
          · replace hf := gpos hf h16
            exact b_Parser_takeBracket_50 X ho hf hZ14 hS14 (lv_sub hl [] rfl)
          · replace hf := gneg hf h16
            refine lv_iconst (v := iI 1) hx hb d_5_30_46 rfl ?_
            refine lv_goto (tgt := 51) hx hb d_5_30_47 (by decide) ?_
            exact b_Parser_takeBracket_51 X ho hf hZ14 hS14 (lv_sub hl [] rfl)

noncomputable def f_Parser_takeRepeat_58 (o : oT_CP) (K : zK) (s0 : Int) (F : zF) (B : zB) : zO := if (s0 = 0 ∨ s0 = 1) then some (s0, F, B) else none
set_option maxHeartbeats 4000000 in
set_option maxRecDepth 100000 in
theorem b_Parser_takeRepeat_58 {D : va_G} {ca : Nat → ClassId} {ad : Nat → Int → Nat → Nat} {L : List Nat} {aS vS : Nat → Nat} {A : Nat → Prop} {p : Program} {l : Launch} {e : Env} {s : State} {m : MethodId} {args : Array Value} {below : List Frame} {meth : Method} {c : Code} {K : zK} {r : Int} {F9 : zF} {B9 : zB} {d : Nat} {o : oT_CP} (X : zX D ca L aS vS A p s m args meth c prog_5_method_31_code 2 (Option.some Jvm.ClassFile.FieldType.boolean) "StaveHouse$Parser") (ho : oH_CP K l D ca ad L aS vS d o) {s0 : Int} {F : zF} {B : zB} {H : Heap} {locs : List Loc} {ls : Array Slot} (hf : f_Parser_takeRepeat_58 o K s0 F B = some (r, F9, B9)) (hZ : zH D ca ad lnC K.2 L F B A H) (hS : va_S A s.heap H locs) (hl : lv_has ls 2 []) : W p l e ({ frames := d + 1 + 7, cells := 0, slots := 0, locals := 25 * (d + 1) + 136 } : Room) s m args below meth c H locs 0 0 (MQ below (Q_Parser_takeRepeat K D ca ad L r F9 B9 A) args s 0 0 A) (F0 m 58 ls [.int (iI s0)]) := by
  obtain ⟨hx, hb, hr, hml, hown, hts, hlk, hK, hA, hL, hX⟩ := id X
  replace hf : (if (s0 = 0 ∨ s0 = 1) then some (s0, F, B) else none) = some (r, F9, B9) := hf
  obtain ⟨g17, hf⟩ := gif hf
  cases hf
  exact W.zret hx hb hr (zbool g17) (fun t ht hW => ⟨⟨_, (), rfl, rfl, by rw [ht]; exact hZ, va_K.moved hW.alike hK⟩, hS.F ht⟩) hS.2.2 d_5_31_58 hlk

noncomputable def f_Parser_takeRepeat_53 (o : oT_CP) (K : zK)  (F : zF) (B : zB) : zO := f_Parser_takeRepeat_58 o K 1 F B
set_option maxHeartbeats 4000000 in
set_option maxRecDepth 100000 in
theorem b_Parser_takeRepeat_53 {D : va_G} {ca : Nat → ClassId} {ad : Nat → Int → Nat → Nat} {L : List Nat} {aS vS : Nat → Nat} {A : Nat → Prop} {p : Program} {l : Launch} {e : Env} {s : State} {m : MethodId} {args : Array Value} {below : List Frame} {meth : Method} {c : Code} {K : zK} {r : Int} {F9 : zF} {B9 : zB} {d : Nat} {o : oT_CP} (X : zX D ca L aS vS A p s m args meth c prog_5_method_31_code 2 (Option.some Jvm.ClassFile.FieldType.boolean) "StaveHouse$Parser") (ho : oH_CP K l D ca ad L aS vS d o)  {F : zF} {B : zB} {H : Heap} {locs : List Loc} {ls : Array Slot} (hf : f_Parser_takeRepeat_53 o K  F B = some (r, F9, B9)) (hZ : zH D ca ad lnC K.2 L F B A H) (hS : va_S A s.heap H locs) (hl : lv_has ls 2 []) : W p l e ({ frames := d + 1 + 7, cells := 0, slots := 0, locals := 25 * (d + 1) + 136 } : Room) s m args below meth c H locs 0 0 (MQ below (Q_Parser_takeRepeat K D ca ad L r F9 B9 A) args s 0 0 A) (F0 m 53 ls []) := by
  obtain ⟨hx, hb, hr, hml, hown, hts, hlk, hK, hA, hL, hX⟩ := id X
  replace hf : (f_Parser_takeRepeat_58 o K 1 F B) = some (r, F9, B9) := hf
  refine lv_iconst (v := iI 1) hx hb d_5_31_53 rfl ?_
  refine lv_goto (tgt := 58) hx hb d_5_31_54 (by decide) ?_
  exact b_Parser_takeRepeat_58 X ho hf hZ hS (lv_sub hl [] rfl)

noncomputable def fb_Parser_takeRepeat (o : oT_CP) (K : zK) (l0 : Int) (l1 : Int) (F : zF) (B : zB) : zO := if 0 ≤ l0 ∧ l0 < K.2 3 then zbind (f_Parser_takeNumber K l0 2 4 0 F B) (fun r2 F2 B2 => if r32 r2 then (if r2 = 0 then some (0, F2, B2) else if 0 ≤ l1 ∧ l1 < 3000 then zbind (o.1 l0 l1 F2 (zup4 B2 3 l0 2 l1 (F2 3 l0 19))) (fun r7 F7 B7 => if r32 r7 then (if r7 = 0 then some (0, F7, B7) else if 0 ≤ (F7 3 l0 11) ∧ (F7 3 l0 11) < K.2 10 then zbind (f_Tokens_isWord K (F7 3 l0 11) 6384756 F7 B7) (fun r11 F11 B11 => if r32 r11 then (if r11 = 0 then f_Parser_takeRepeat_53 o K F11 B11 else zbind (o.2.2.2.2.2.1 l0 l1 F11 B11) (fun r14 F14 B14 => if r32 r14 then (if r14 = 0 then f_Parser_takeRepeat_58 o K 0 F14 B14 else f_Parser_takeRepeat_53 o K F14 B14) else none)) else none) else none) else none) else none) else none) else none
set_option maxHeartbeats 4000000 in
set_option maxRecDepth 100000 in
theorem cb_Parser_takeRepeat {l : Launch} {D : va_G} {ca : Nat → ClassId} {ad : Nat → Int → Nat → Nat} {L : List Nat} {aS vS : Nat → Nat} {sz : Nat} {K : zK} {d : Nat} {o : oT_CP} (ho : oH_CP K l D ca ad L aS vS d o)  {l0 : Int} {l1 : Int} {F F9 : zF} {B B9 : zB} {r : Int} (hf : fb_Parser_takeRepeat o K l0 l1 F B = some (r, F9, B9)) : Met l ({ cls := "StaveHouse$Parser", name := "takeRepeat", desc := "(I)Z" } : Jvm.MethodName) (Cond.code ({ cls := "StaveHouse$Parser", name := "takeRepeat", desc := "(I)Z" } : Jvm.MethodName) prog_5_method_31_code 2 (Option.some Jvm.ClassFile.FieldType.boolean) :: wAll) ({ frames := d + 1 + 7, cells := 0, slots := 0, locals := 25 * (d + 1) + 136 } : Room) (va_Pc [.ref (ad 3 l0 0), .int (iI l1)] (zPre D ca ad lnC K.2 L aS vS F B sz)) (Q_Parser_takeRepeat K D ca ad L r F9 B9 (zA L sz)) 0 0 (zA L sz) := by
  refine zMet (Qc := Q_Parser_takeRepeat K D ca ad L r F9 B9) (lv := [(0, .ref (ad 3 l0 0)), (1, .int (iI l1))]) (by decide) (Nat.le_of_ble_eq_true rfl) rfl (fun A p e s m below meth c ls X hZ hS hl => ?_)
  obtain ⟨hx, hb, hr, hml, hown, hts, hlk, hK, hA, hL, hX⟩ := id X
  replace hf : (if 0 ≤ l0 ∧ l0 < K.2 3 then zbind (f_Parser_takeNumber K l0 2 4 0 F B) (fun r2 F2 B2 => if r32 r2 then (if r2 = 0 then some (0, F2, B2) else if 0 ≤ l1 ∧ l1 < 3000 then zbind (o.1 l0 l1 F2 (zup4 B2 3 l0 2 l1 (F2 3 l0 19))) (fun r7 F7 B7 => if r32 r7 then (if r7 = 0 then some (0, F7, B7) else if 0 ≤ (F7 3 l0 11) ∧ (F7 3 l0 11) < K.2 10 then zbind (f_Tokens_isWord K (F7 3 l0 11) 6384756 F7 B7) (fun r11 F11 B11 => if r32 r11 then (if r11 = 0 then f_Parser_takeRepeat_53 o K F11 B11 else zbind (o.2.2.2.2.2.1 l0 l1 F11 B11) (fun r14 F14 B14 => if r32 r14 then (if r14 = 0 then f_Parser_takeRepeat_58 o K 0 F14 B14 else f_Parser_takeRepeat_53 o K F14 B14) else none)) else none) else none) else none) else none) else none) else none) = some (r, F9, B9) := hf
  refine lv_aload_n hx hb d_5_31_0 rfl (lv_at hl 0 rfl) ?_
  refine lv_iconst (v := iI 2) hx hb d_5_31_1 rfl ?_
  refine lv_iconst (v := iI 4) hx hb d_5_31_2 rfl ?_
  refine lv_iconst (v := iI 0) hx hb d_5_31_3 rfl ?_
  obtain ⟨g1, hf⟩ := gif hf
  obtain ⟨r2, F2, B2, hc2, hf⟩ := gbind hf
  refine va_calli (va_runV (As := [.int (iI 2), .int (iI 4), .int (iI 0)]) (rest := []) ⟨hx, hb, hml, hown, hts⟩ (c_Parser_takeNumber (l := l) hc2) (cwV 3 hts (gdV k_4_9 k_4_11 ks_19 k_1_4 k_4_12) rfl rfl rfl (by decide +kernel) ⟨by dsimp only; omega, by dsimp only; omega⟩) (zPV X hZ hS (ci := 3) g1.1 g1.2 (r := (RX3, TX3, 22)) rfl [.int (iI 2), .int (iI 4), .int (iI 0)]) rfl rfl hl.1 rfl (lv_room (Nat.le_of_ble_eq_true rfl)) d_5_31_4 ⟨Nat.le_of_ble_eq_true rfl, Nat.le_of_ble_eq_true rfl⟩) hS (fun q _ h => zAin X hS q h) (zAin X hS) (fun p2 u2 t2 H2 locs2 ht2 hv2 hw2 hB2 hz2 hk2 hS2 => ?_)
  have hZ2 := zBack X ht2 hB2
  subst hw2
  obtain ⟨g3, hf⟩ := gif hf
  refine z0ne (tgt := 12) hx hb g3 d_5_31_7 (by decide) (fun h4 => ?_) (fun h4 => ?_)
  · replace hf := gneg hf h4
    refine lv_aload_n hx hb d_5_31_12 rfl (lv_at hl 0 rfl) ?_
    refine zget (ci := 3) (C := RX3) (T := TX3) (v := .ref (ad 3 l0 (2 + 1))) (k := 2) hx hb hts inW_3 hown hK hZ2 g1.1 g1.2 rfl (by decide) k_1_110 rfl d_5_31_13 ?_
    refine lv_iload_n hx hb d_5_31_16 rfl (lv_at hl 1 rfl) ?_
    refine lv_aload_n hx hb d_5_31_17 rfl (lv_at hl 0 rfl) ?_
    refine zget (ci := 3) (C := RX3) (T := TX3) (v := .int (iI (F2 3 l0 19))) (k := 19) hx hb hts inW_3 hown hK hZ2 g1.1 g1.2 rfl (by decide) k_1_136 rfl d_5_31_18 ?_
    obtain ⟨g5, hf⟩ := gif hf
    refine zast (ci := 3) (k := 2) hx hb hK rfl hZ2 hS2 g1.1 g1.2 rfl (Nat.le_of_ble_eq_true rfl) g5.1 g5.2 d_5_31_21 (fun H6 locs6 hZ6 hS6 => ?_)
    refine lv_aload_n hx hb d_5_31_22 rfl (lv_at hl 0 rfl) ?_
    refine lv_iload_n hx hb d_5_31_23 rfl (lv_at hl 1 rfl) ?_
    obtain ⟨r7, F7, B7, hc7, hf⟩ := gbind hf
    refine va_calli (va_runV (As := [.int (iI l1)]) (rest := []) ⟨hx, hb, hml, hown, hts⟩ (ho.1 hc7) (cwV 1 hts (gdV k_3_212 k_3_214 ks_10 k_1_4 k_3_215) rfl rfl rfl (by decide +kernel) ⟨by dsimp only; omega, by dsimp only; omega⟩) (zPV X hZ6 hS6 (ci := 3) g1.1 g1.2 (r := (RX3, TX3, 22)) rfl [.int (iI l1)]) rfl rfl hl.1 rfl (lv_room (Nat.le_of_ble_eq_true rfl)) d_5_31_24 ⟨Nat.le_of_ble_eq_true rfl, Nat.le_of_ble_eq_true rfl⟩) hS6 (fun q _ h => zAin X hS6 q h) (zAin X hS6) (fun p7 u7 t7 H7 locs7 ht7 hv7 hw7 hB7 hz7 hk7 hS7 => ?_)
    have hZ7 := zBack X ht7 hB7
    subst hw7
    obtain ⟨g8, hf⟩ := gif hf
    refine z0ne (tgt := 32) hx hb g8 d_5_31_27 (by decide) (fun h9 => ?_) (fun h9 => ?_)
    · replace hf := gneg hf h9
      refine lv_aload_n hx hb d_5_31_32 rfl (lv_at hl 0 rfl) ?_
      refine zget (ci := 3) (C := RX3) (T := TX3) (v := va_rf (zrf ad 10 (F7 3 l0 11))) (k := 11) hx hb hts inW_3 hown hK hZ7 g1.1 g1.2 rfl (by decide) k_1_128 rfl d_5_31_33 ?_
      refine lv_ldc2 hx hb hown (hts _ k_4_49) d_5_31_36 ?_
      refine W.eq (g2 := F0 m 39 ls [.long (lI 6384756), va_rf (zrf ad 10 (F7 3 l0 11))]) rfl ?_
      obtain ⟨g10, hf⟩ := gif hf
      refine W.eq (g2 := F0 m 39 ls [.long (lI 6384756), .ref (ad 10 (F7 3 l0 11) 0)]) (by rw [zrf_pos (ad := ad) (t := 10) g10.1]; try rfl) ?_
      obtain ⟨r11, F11, B11, hc11, hf⟩ := gbind hf
      refine va_calli (va_runV (As := [.long (lI 6384756)]) (rest := []) ⟨hx, hb, hml, hown, hts⟩ (c_Tokens_isWord (l := l) hc11) (cwV 1 hts (gdV k_3_160 k_3_161 k_3_162 k_1_5 k_3_163) rfl rfl rfl (by decide +kernel) ⟨by dsimp only; omega, by dsimp only; omega⟩) (zPV X hZ7 hS7 (ci := 10) g10.1 g10.2 (r := (RX10, TX10, 9)) rfl [.long (lI 6384756)]) rfl rfl hl.1 rfl (lv_room (Nat.le_of_ble_eq_true rfl)) d_5_31_39 ⟨Nat.le_of_ble_eq_true rfl, Nat.le_of_ble_eq_true rfl⟩) hS7 (fun q _ h => zAin X hS7 q h) (zAin X hS7) (fun p11 u11 t11 H11 locs11 ht11 hv11 hw11 hB11 hz11 hk11 hS11 => ?_)
      have hZ11 := zBack X ht11 hB11
      subst hw11
      obtain ⟨g12, hf⟩ := gif hf
      refine z0eq (tgt := 53) hx hb g12 d_5_31_42 (by decide) (fun h13 => ?_) (fun h13 => ?_)
      · replace hf := gpos hf h13
        exact b_Parser_takeRepeat_53 X ho hf hZ11 hS11 (lv_sub hl [] rfl)
      · replace hf := gneg hf h13
        refine lv_aload_n hx hb d_5_31_45 rfl (lv_at hl 0 rfl) ?_
        refine lv_iload_n hx hb d_5_31_46 rfl (lv_at hl 1 rfl) ?_
        obtain ⟨r14, F14, B14, hc14, hf⟩ := gbind hf
        refine va_calli (va_runV (As := [.int (iI l1)]) (rest := []) ⟨hx, hb, hml, hown, hts⟩ (ho.2.2.2.2.2.1 hc14) (cwV 1 hts (gdV k_4_50 k_4_52 ks_26 k_1_4 k_4_53) rfl rfl rfl (by decide +kernel) ⟨by dsimp only; omega, by dsimp only; omega⟩) (zPV X hZ11 hS11 (ci := 3) g1.1 g1.2 (r := (RX3, TX3, 22)) rfl [.int (iI l1)]) rfl rfl hl.1 rfl (lv_room (Nat.le_of_ble_eq_true rfl)) d_5_31_47 ⟨Nat.le_of_ble_eq_true rfl, Nat.le_of_ble_eq_true rfl⟩) hS11 (fun q _ h => zAin X hS11 q h) (zAin X hS11) (fun p14 u14 t14 H14 locs14 ht14 hv14 hw14 hB14 hz14 hk14 hS14 => ?_)
        have hZ14 := zBack X ht14 hB14
        subst hw14
        obtain ⟨g15, hf⟩ := gif hf
        refine z0eq (tgt := 57) hx hb g15 d_5_31_50 (by decide) (fun h16 => ?_) (fun h16 => ?_)
        · replace hf := gpos hf h16
          refine lv_iconst (v := iI 0) hx hb d_5_31_57 rfl ?_
          exact b_Parser_takeRepeat_58 X ho hf hZ14 hS14 (lv_sub hl [] rfl)
        · replace hf := gneg hf h16
          exact b_Parser_takeRepeat_53 X ho hf hZ14 hS14 (lv_sub hl [] rfl)
    · replace hf := gpos hf h9
      refine lv_iconst (v := iI 0) hx hb d_5_31_30 rfl ?_
      cases hf
      exact W.zret hx hb hr rfl (fun t ht hW => ⟨⟨_, (), rfl, rfl, by rw [ht]; exact hZ7, va_K.moved hW.alike hK⟩, hS7.F ht⟩) hS7.2.2 d_5_31_31 hlk
  · replace hf := gpos hf h4
    refine lv_iconst (v := iI 0) hx hb d_5_31_10 rfl ?_
    cases hf
    exact W.zret hx hb hr rfl (fun t ht hW => ⟨⟨_, (), rfl, rfl, by rw [ht]; exact hZ2, va_K.moved hW.alike hK⟩, hS2.F ht⟩) hS2.2.2 d_5_31_11 hlk

noncomputable def f_Parser_takeAlternatives_87 (o : oT_CP) (K : zK)  (F : zF) (B : zB) : zO := some (1, F, B)
set_option maxHeartbeats 4000000 in
set_option maxRecDepth 100000 in
theorem b_Parser_takeAlternatives_87 {D : va_G} {ca : Nat → ClassId} {ad : Nat → Int → Nat → Nat} {L : List Nat} {aS vS : Nat → Nat} {A : Nat → Prop} {p : Program} {l : Launch} {e : Env} {s : State} {m : MethodId} {args : Array Value} {below : List Frame} {meth : Method} {c : Code} {K : zK} {r : Int} {F9 : zF} {B9 : zB} {d : Nat} {o : oT_CP} (X : zX D ca L aS vS A p s m args meth c prog_5_method_32_code 5 (Option.some Jvm.ClassFile.FieldType.boolean) "StaveHouse$Parser") (ho : oH_CP K l D ca ad L aS vS d o)  {F : zF} {B : zB} {H : Heap} {locs : List Loc} {ls : Array Slot} (hf : f_Parser_takeAlternatives_87 o K  F B = some (r, F9, B9)) (hZ : zH D ca ad lnC K.2 L F B A H) (hS : va_S A s.heap H locs) (hl : lv_has ls 5 []) : W p l e ({ frames := d + 1 + 7, cells := 0, slots := 0, locals := 25 * (d + 1) + 136 } : Room) s m args below meth c H locs 0 0 (MQ below (Q_Parser_takeAlternatives K D ca ad L r F9 B9 A) args s 0 0 A) (F0 m 87 ls []) := by
  obtain ⟨hx, hb, hr, hml, hown, hts, hlk, hK, hA, hL, hX⟩ := id X
  replace hf : (some (1, F, B)) = some (r, F9, B9) := hf
  refine lv_iconst (v := iI 1) hx hb d_5_32_87 rfl ?_
  cases hf
  exact W.zret hx hb hr rfl (fun t ht hW => ⟨⟨_, (), rfl, rfl, by rw [ht]; exact hZ, va_K.moved hW.alike hK⟩, hS.F ht⟩) hS.2.2 d_5_32_88 hlk

noncomputable def f_Parser_takeAlternatives_67 (o : oT_CP) (rec11 : Int → Int → Int → Int → zF → zB → zO) (K : zK) (l4 : Int) (l3 : Int) (l0 : Int) (l1 : Int) (F : zF) (B : zB) : zO := if 0 ≤ l0 ∧ l0 < K.2 3 then zbind (o.1 l0 l4 F B) (fun r22 F22 B22 => if r32 r22 then (if r22 = 0 then some (0, F22, B22) else rec11 (l3 + 1) l4 l0 l1 F22 B22) else none) else none
set_option maxHeartbeats 4000000 in
set_option maxRecDepth 100000 in
theorem b_Parser_takeAlternatives_67 {D : va_G} {ca : Nat → ClassId} {ad : Nat → Int → Nat → Nat} {L : List Nat} {aS vS : Nat → Nat} {A : Nat → Prop} {p : Program} {l : Launch} {e : Env} {s : State} {m : MethodId} {args : Array Value} {below : List Frame} {meth : Method} {c : Code} {K : zK} {r : Int} {F9 : zF} {B9 : zB} {d : Nat} {o : oT_CP} (X : zX D ca L aS vS A p s m args meth c prog_5_method_32_code 5 (Option.some Jvm.ClassFile.FieldType.boolean) "StaveHouse$Parser") (ho : oH_CP K l D ca ad L aS vS d o) {rec11 : Int → Int → Int → Int → zF → zB → zO} (hrec11 : ∀ {l3 : Int} {l2 : Int} {l0 : Int} {l1 : Int} {F : zF} {B : zB} {H : Heap} {locs : List Loc} {ls : Array Slot}, rec11 l3 l2 l0 l1 F B = some (r, F9, B9) → zH D ca ad lnC K.2 L F B A H → va_S A s.heap H locs → lv_has ls 5 [(3, .int (iI l3)), (2, .int (iI l2)), (0, .ref (ad 3 l0 0)), (1, .int (iI l1))] → W p l e ({ frames := d + 1 + 7, cells := 0, slots := 0, locals := 25 * (d + 1) + 136 } : Room) s m args below meth c H locs 0 0 (MQ below (Q_Parser_takeAlternatives K D ca ad L r F9 B9 A) args s 0 0 A) (F0 m 11 ls [])) {l4 : Int} {l3 : Int} {l0 : Int} {l1 : Int} {F : zF} {B : zB} {H : Heap} {locs : List Loc} {ls : Array Slot} (hf : f_Parser_takeAlternatives_67 o rec11 K l4 l3 l0 l1 F B = some (r, F9, B9)) (hZ : zH D ca ad lnC K.2 L F B A H) (hS : va_S A s.heap H locs) (hl : lv_has ls 5 [(4, .int (iI l4)), (3, .int (iI l3)), (0, .ref (ad 3 l0 0)), (1, .int (iI l1))]) : W p l e ({ frames := d + 1 + 7, cells := 0, slots := 0, locals := 25 * (d + 1) + 136 } : Room) s m args below meth c H locs 0 0 (MQ below (Q_Parser_takeAlternatives K D ca ad L r F9 B9 A) args s 0 0 A) (F0 m 67 ls []) := by
  obtain ⟨hx, hb, hr, hml, hown, hts, hlk, hK, hA, hL, hX⟩ := id X
  replace hf : (if 0 ≤ l0 ∧ l0 < K.2 3 then zbind (o.1 l0 l4 F B) (fun r22 F22 B22 => if r32 r22 then (if r22 = 0 then some (0, F22, B22) else rec11 (l3 + 1) l4 l0 l1 F22 B22) else none) else none) = some (r, F9, B9) := hf
  refine lv_iload hx hb d_5_32_67 (lv_at hl 0 rfl) ?_
  refine lv_istore_n (lv' := [(2, .int (iI l4)), (4, .int (iI l4)), (3, .int (iI l3)), (0, .ref (ad 3 l0 0)), (1, .int (iI l1))]) hx hb d_5_32_69 rfl hl (by decide) rfl (fun ls hl => ?_)
  refine lv_aload_n hx hb d_5_32_70 rfl (lv_at hl 3 rfl) ?_
  refine lv_iload hx hb d_5_32_71 (lv_at hl 1 rfl) ?_
  obtain ⟨g21, hf⟩ := gif hf
  obtain ⟨r22, F22, B22, hc22, hf⟩ := gbind hf
  refine va_calli (va_runV (As := [.int (iI l4)]) (rest := []) ⟨hx, hb, hml, hown, hts⟩ (ho.1 hc22) (cwV 1 hts (gdV k_3_212 k_3_214 ks_10 k_1_4 k_3_215) rfl rfl rfl (by decide +kernel) ⟨by dsimp only; omega, by dsimp only; omega⟩) (zPV X hZ hS (ci := 3) g21.1 g21.2 (r := (RX3, TX3, 22)) rfl [.int (iI l4)]) rfl rfl hl.1 rfl (lv_room (Nat.le_of_ble_eq_true rfl)) d_5_32_73 ⟨Nat.le_of_ble_eq_true rfl, Nat.le_of_ble_eq_true rfl⟩) hS (fun q _ h => zAin X hS q h) (zAin X hS) (fun p22 u22 t22 H22 locs22 ht22 hv22 hw22 hB22 hz22 hk22 hS22 => ?_)
  have hZ22 := zBack X ht22 hB22
  subst hw22
  obtain ⟨g23, hf⟩ := gif hf
  refine z0ne (tgt := 81) hx hb g23 d_5_32_76 (by decide) (fun h24 => ?_) (fun h24 => ?_)
  · replace hf := gneg hf h24
    refine lv_iinc (v := iI (l3 + 1)) (lv' := [(3, .int (iI (l3 + 1))), (2, .int (iI l4)), (4, .int (iI l4)), (0, .ref (ad 3 l0 0)), (1, .int (iI l1))]) hx hb d_5_32_81 hl (k := 2) rfl (iI_add _ 1) (by decide) rfl (fun ls hl => ?_)
    refine lv_goto (tgt := 11) hx hb d_5_32_84 (by decide) ?_
    exact hrec11 hf hZ22 hS22 (lv_sub hl [0, 1, 3, 4] rfl)
  · replace hf := gpos hf h24
    refine lv_iconst (v := iI 0) hx hb d_5_32_79 rfl ?_
    cases hf
    exact W.zret hx hb hr rfl (fun t ht hW => ⟨⟨_, (), rfl, rfl, by rw [ht]; exact hZ22, va_K.moved hW.alike hK⟩, hS22.F ht⟩) hS22.2.2 d_5_32_80 hlk

noncomputable def f_Parser_takeAlternatives_35 (o : oT_CP) (rec11 : Int → Int → Int → Int → zF → zB → zO) (K : zK) (l3 : Int) (l2 : Int) (l0 : Int) (l1 : Int) (F : zF) (B : zB) : zO := if 0 ≤ l0 ∧ l0 < K.2 3 then zbind (f_Parser_newItem K l0 10 F B) (fun r14 F14 B14 => if r32 l2 then (if l2 = (-1) then if 0 ≤ l1 ∧ l1 < 3000 then f_Parser_takeAlternatives_67 o rec11 K r14 l3 l0 l1 F14 (zup4 B14 3 l0 3 l1 r14) else none else if 0 ≤ l2 ∧ l2 < 3000 then f_Parser_takeAlternatives_67 o rec11 K r14 l3 l0 l1 F14 (zup4 B14 3 l0 5 l2 r14) else none) else none) else none
set_option maxHeartbeats 4000000 in
set_option maxRecDepth 100000 in
theorem b_Parser_takeAlternatives_35 {D : va_G} {ca : Nat → ClassId} {ad : Nat → Int → Nat → Nat} {L : List Nat} {aS vS : Nat → Nat} {A : Nat → Prop} {p : Program} {l : Launch} {e : Env} {s : State} {m : MethodId} {args : Array Value} {below : List Frame} {meth : Method} {c : Code} {K : zK} {r : Int} {F9 : zF} {B9 : zB} {d : Nat} {o : oT_CP} (X : zX D ca L aS vS A p s m args meth c prog_5_method_32_code 5 (Option.some Jvm.ClassFile.FieldType.boolean) "StaveHouse$Parser") (ho : oH_CP K l D ca ad L aS vS d o) {rec11 : Int → Int → Int → Int → zF → zB → zO} (hrec11 : ∀ {l3 : Int} {l2 : Int} {l0 : Int} {l1 : Int} {F : zF} {B : zB} {H : Heap} {locs : List Loc} {ls : Array Slot}, rec11 l3 l2 l0 l1 F B = some (r, F9, B9) → zH D ca ad lnC K.2 L F B A H → va_S A s.heap H locs → lv_has ls 5 [(3, .int (iI l3)), (2, .int (iI l2)), (0, .ref (ad 3 l0 0)), (1, .int (iI l1))] → W p l e ({ frames := d + 1 + 7, cells := 0, slots := 0, locals := 25 * (d + 1) + 136 } : Room) s m args below meth c H locs 0 0 (MQ below (Q_Parser_takeAlternatives K D ca ad L r F9 B9 A) args s 0 0 A) (F0 m 11 ls [])) {l3 : Int} {l2 : Int} {l0 : Int} {l1 : Int} {F : zF} {B : zB} {H : Heap} {locs : List Loc} {ls : Array Slot} (hf : f_Parser_takeAlternatives_35 o rec11 K l3 l2 l0 l1 F B = some (r, F9, B9)) (hZ : zH D ca ad lnC K.2 L F B A H) (hS : va_S A s.heap H locs) (hl : lv_has ls 5 [(3, .int (iI l3)), (2, .int (iI l2)), (0, .ref (ad 3 l0 0)), (1, .int (iI l1))]) : W p l e ({ frames := d + 1 + 7, cells := 0, slots := 0, locals := 25 * (d + 1) + 136 } : Room) s m args below meth c H locs 0 0 (MQ below (Q_Parser_takeAlternatives K D ca ad L r F9 B9 A) args s 0 0 A) (F0 m 35 ls []) := by
  obtain ⟨hx, hb, hr, hml, hown, hts, hlk, hK, hA, hL, hX⟩ := id X
  replace hf : (if 0 ≤ l0 ∧ l0 < K.2 3 then zbind (f_Parser_newItem K l0 10 F B) (fun r14 F14 B14 => if r32 l2 then (if l2 = (-1) then if 0 ≤ l1 ∧ l1 < 3000 then f_Parser_takeAlternatives_67 o rec11 K r14 l3 l0 l1 F14 (zup4 B14 3 l0 3 l1 r14) else none else if 0 ≤ l2 ∧ l2 < 3000 then f_Parser_takeAlternatives_67 o rec11 K r14 l3 l0 l1 F14 (zup4 B14 3 l0 5 l2 r14) else none) else none) else none) = some (r, F9, B9) := hf
  refine lv_aload_n hx hb d_5_32_35 rfl (lv_at hl 2 rfl) ?_
  refine lv_bipush (v := iI 10) hx hb d_5_32_36 (by decide) ?_
  obtain ⟨g13, hf⟩ := gif hf
  obtain ⟨r14, F14, B14, hc14, hf⟩ := gbind hf
  refine va_calli (va_runV (As := [.int (iI 10)]) (rest := []) ⟨hx, hb, hml, hown, hts⟩ (c_Parser_newItem (l := l) hc14) (cwV 1 hts (gdV k_3_175 k_3_177 ks_5 k_1_4 k_3_178) rfl rfl rfl (by decide +kernel) ⟨by dsimp only; omega, by dsimp only; omega⟩) (zPV X hZ hS (ci := 3) g13.1 g13.2 (r := (RX3, TX3, 22)) rfl [.int (iI 10)]) rfl rfl hl.1 rfl (lv_room (Nat.le_of_ble_eq_true rfl)) d_5_32_38 ⟨Nat.le_of_ble_eq_true rfl, Nat.le_of_ble_eq_true rfl⟩) hS (fun q _ h => zAin X hS q h) (zAin X hS) (fun p14 u14 t14 H14 locs14 ht14 hv14 hw14 hB14 hz14 hk14 hS14 => ?_)
  have hZ14 := zBack X ht14 hB14
  subst hw14
  refine lv_istore (lv' := [(4, .int (iI r14)), (3, .int (iI l3)), (2, .int (iI l2)), (0, .ref (ad 3 l0 0)), (1, .int (iI l1))]) hx hb d_5_32_41 hl (by decide) rfl (fun ls hl => ?_)
  refine lv_iload_n hx hb d_5_32_43 rfl (lv_at hl 2 rfl) ?_
  refine lv_iconst (v := iI (-1)) hx hb d_5_32_44 rfl ?_
  obtain ⟨g15, hf⟩ := gif hf
  refine zne (tgt := 59) hx hb g15 (by decide) d_5_32_45 (by decide) (fun h16 => ?_) (fun h16 => ?_)
  · replace hf := gneg hf h16
    refine lv_aload_n hx hb d_5_32_59 rfl (lv_at hl 3 rfl) ?_
    refine zget (ci := 3) (C := RX3) (T := TX3) (v := .ref (ad 3 l0 (5 + 1))) (k := 5) hx hb hts inW_3 hown hK hZ14 g13.1 g13.2 rfl (by decide) k_1_116 rfl d_5_32_60 ?_
    refine lv_iload_n hx hb d_5_32_63 rfl (lv_at hl 2 rfl) ?_
    refine lv_iload hx hb d_5_32_64 (lv_at hl 0 rfl) ?_
    obtain ⟨g17, hf⟩ := gif hf
    refine zast (ci := 3) (k := 5) hx hb hK rfl hZ14 hS14 g13.1 g13.2 rfl (Nat.le_of_ble_eq_true rfl) g17.1 g17.2 d_5_32_66 (fun H18 locs18 hZ18 hS18 => ?_)
    exact b_Parser_takeAlternatives_67 X ho hrec11 hf hZ18 hS18 (lv_sub hl [0, 1, 3, 4] rfl)
  · replace hf := gpos hf h16
    refine lv_aload_n hx hb d_5_32_48 rfl (lv_at hl 3 rfl) ?_
    refine zget (ci := 3) (C := RX3) (T := TX3) (v := .ref (ad 3 l0 (3 + 1))) (k := 3) hx hb hts inW_3 hown hK hZ14 g13.1 g13.2 rfl (by decide) k_1_112 rfl d_5_32_49 ?_
    refine lv_iload_n hx hb d_5_32_52 rfl (lv_at hl 4 rfl) ?_
    refine lv_iload hx hb d_5_32_53 (lv_at hl 0 rfl) ?_
    obtain ⟨g19, hf⟩ := gif hf
    refine zast (ci := 3) (k := 3) hx hb hK rfl hZ14 hS14 g13.1 g13.2 rfl (Nat.le_of_ble_eq_true rfl) g19.1 g19.2 d_5_32_55 (fun H20 locs20 hZ20 hS20 => ?_)
    refine lv_goto (tgt := 67) hx hb d_5_32_56 (by decide) ?_
    exact b_Parser_takeAlternatives_67 X ho hrec11 hf hZ20 hS20 (lv_sub hl [0, 1, 3, 4] rfl)

noncomputable def f_Parser_takeAlternatives_11 (o : oT_CP) (K : zK) : Nat → Int → Int → Int → Int → zF → zB → zO
  | 0, _, _, _, _, _, _ => none
  | n + 1, l3, l2, l0, l1, F, B => if r32 l3 then (if 3000 ≤ l3 then f_Parser_takeAlternatives_87 o K F B else if r32 l2 then (if l2 = (-1) then f_Parser_takeAlternatives_35 o (f_Parser_takeAlternatives_11 o K n) K l3 l2 l0 l1 F B else if 0 ≤ l0 ∧ l0 < K.2 3 then if 0 ≤ (F 3 l0 11) ∧ (F 3 l0 11) < K.2 10 then zbind (f_Tokens_isSign K (F 3 l0 11) 123 F B) (fun r10 F10 B10 => if r32 r10 then (if r10 = 0 then f_Parser_takeAlternatives_87 o K F10 B10 else f_Parser_takeAlternatives_35 o (f_Parser_takeAlternatives_11 o K n) K l3 l2 l0 l1 F10 B10) else none) else none else none) else none) else none
set_option maxHeartbeats 4000000 in
set_option maxRecDepth 100000 in
theorem b_Parser_takeAlternatives_11 {D : va_G} {ca : Nat → ClassId} {ad : Nat → Int → Nat → Nat} {L : List Nat} {aS vS : Nat → Nat} {A : Nat → Prop} {p : Program} {l : Launch} {e : Env} {s : State} {m : MethodId} {args : Array Value} {below : List Frame} {meth : Method} {c : Code} {K : zK} {r : Int} {F9 : zF} {B9 : zB} {d : Nat} {o : oT_CP} (X : zX D ca L aS vS A p s m args meth c prog_5_method_32_code 5 (Option.some Jvm.ClassFile.FieldType.boolean) "StaveHouse$Parser") (ho : oH_CP K l D ca ad L aS vS d o) : ∀ {n : Nat} {l3 : Int} {l2 : Int} {l0 : Int} {l1 : Int} {F : zF} {B : zB} {H : Heap} {locs : List Loc} {ls : Array Slot}, f_Parser_takeAlternatives_11 o K n l3 l2 l0 l1 F B = some (r, F9, B9) → zH D ca ad lnC K.2 L F B A H → va_S A s.heap H locs → lv_has ls 5 [(3, .int (iI l3)), (2, .int (iI l2)), (0, .ref (ad 3 l0 0)), (1, .int (iI l1))] → W p l e ({ frames := d + 1 + 7, cells := 0, slots := 0, locals := 25 * (d + 1) + 136 } : Room) s m args below meth c H locs 0 0 (MQ below (Q_Parser_takeAlternatives K D ca ad L r F9 B9 A) args s 0 0 A) (F0 m 11 ls []) := by
  obtain ⟨hx, hb, hr, hml, hown, hts, hlk, hK, hA, hL, hX⟩ := id X
  intro n
  induction n with
  | zero =>
    intros
    rename_i hf _ _ _
    cases hf
  | succ n ih =>
    intro l3 l2 l0 l1 F B H locs ls hf hZ hS hl
    replace hf : (if r32 l3 then (if 3000 ≤ l3 then f_Parser_takeAlternatives_87 o K F B else if r32 l2 then (if l2 = (-1) then f_Parser_takeAlternatives_35 o (f_Parser_takeAlternatives_11 o K n) K l3 l2 l0 l1 F B else if 0 ≤ l0 ∧ l0 < K.2 3 then if 0 ≤ (F 3 l0 11) ∧ (F 3 l0 11) < K.2 10 then zbind (f_Tokens_isSign K (F 3 l0 11) 123 F B) (fun r10 F10 B10 => if r32 r10 then (if r10 = 0 then f_Parser_takeAlternatives_87 o K F10 B10 else f_Parser_takeAlternatives_35 o (f_Parser_takeAlternatives_11 o K n) K l3 l2 l0 l1 F10 B10) else none) else none else none) else none) else none) = some (r, F9, B9) := hf
    refine lv_iload_n hx hb d_5_32_11 rfl (lv_at hl 0 rfl) ?_
    refine lv_sipush (v := iI 3000) hx hb d_5_32_12 (by decide) ?_
    obtain ⟨g4, hf⟩ := gif hf
    refine zge (tgt := 87) hx hb g4 (by decide) d_5_32_15 (by decide) (fun h5 => ?_) (fun h5 => ?_)
    · replace hf := gpos hf h5
      exact b_Parser_takeAlternatives_87 X ho hf hZ hS (lv_sub hl [] rfl)
    · replace hf := gneg hf h5
      refine lv_iload_n hx hb d_5_32_18 rfl (lv_at hl 1 rfl) ?_
      refine lv_iconst (v := iI (-1)) hx hb d_5_32_19 rfl ?_
      obtain ⟨g6, hf⟩ := gif hf
      refine zeq (tgt := 35) hx hb g6 (by decide) d_5_32_20 (by decide) (fun h7 => ?_) (fun h7 => ?_)
      · replace hf := gpos hf h7
        exact b_Parser_takeAlternatives_35 X ho ih hf hZ hS (lv_sub hl [0, 1, 2, 3] rfl)
      · replace hf := gneg hf h7
        refine lv_aload_n hx hb d_5_32_23 rfl (lv_at hl 2 rfl) ?_
        obtain ⟨g8, hf⟩ := gif hf
        refine zget (ci := 3) (C := RX3) (T := TX3) (v := va_rf (zrf ad 10 (F 3 l0 11))) (k := 11) hx hb hts inW_3 hown hK hZ g8.1 g8.2 rfl (by decide) k_1_128 rfl d_5_32_24 ?_
        refine lv_bipush (v := iI 123) hx hb d_5_32_27 (by decide) ?_
        obtain ⟨g9, hf⟩ := gif hf
        refine W.eq (g2 := F0 m 29 ls [.int (iI 123), .ref (ad 10 (F 3 l0 11) 0)]) (by rw [zrf_pos (ad := ad) (t := 10) g9.1]; try rfl) ?_
        obtain ⟨r10, F10, B10, hc10, hf⟩ := gbind hf
        refine va_calli (va_runV (As := [.int (iI 123)]) (rest := []) ⟨hx, hb, hml, hown, hts⟩ (c_Tokens_isSign (l := l) hc10) (cwV 1 hts (gdV k_3_208 k_3_209 k_3_210 k_1_5 k_3_211) rfl rfl rfl (by decide +kernel) ⟨by dsimp only; omega, by dsimp only; omega⟩) (zPV X hZ hS (ci := 10) g9.1 g9.2 (r := (RX10, TX10, 9)) rfl [.int (iI 123)]) rfl rfl hl.1 rfl (lv_room (Nat.le_of_ble_eq_true rfl)) d_5_32_29 ⟨Nat.le_of_ble_eq_true rfl, Nat.le_of_ble_eq_true rfl⟩) hS (fun q _ h => zAin X hS q h) (zAin X hS) (fun p10 u10 t10 H10 locs10 ht10 hv10 hw10 hB10 hz10 hk10 hS10 => ?_)
        have hZ10 := zBack X ht10 hB10
        subst hw10
        obtain ⟨g11, hf⟩ := gif hf
        refine z0eq (tgt := 87) hx hb g11 d_5_32_32 (by decide) (fun h12 => ?_) (fun h12 => ?_)
        · replace hf := gpos hf h12
          exact b_Parser_takeAlternatives_87 X ho hf hZ10 hS10 (lv_sub hl [] rfl)
        · replace hf := gneg hf h12
          exact b_Parser_takeAlternatives_35 X ho ih hf hZ10 hS10 (lv_sub hl [0, 1, 2, 3] rfl)

noncomputable def fb_Parser_takeAlternatives (o : oT_CP) (K : zK) (l0 : Int) (l1 : Int) (F : zF) (B : zB) : zO := if 0 ≤ l0 ∧ l0 < K.2 3 then if 0 ≤ (F 3 l0 11) ∧ (F 3 l0 11) < K.2 10 then zbind (f_Tokens_advance K (F 3 l0 11) F B) (fun r3 F3 B3 => f_Parser_takeAlternatives_11 o K K.1 0 (-1) l0 l1 F3 B3) else none else none
