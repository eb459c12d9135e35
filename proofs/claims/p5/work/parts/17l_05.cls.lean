set_option maxHeartbeats 4000000 in
set_option maxRecDepth 100000 in
theorem b_Part_judge_95 {D : va_G} {ca : Nat → ClassId} {ad : Nat → Int → Nat → Nat} {L : List Nat} {aS vS : Nat → Nat} {A : Nat → Prop} {p : Program} {l : Launch} {e : Env} {s : State} {m : MethodId} {args : Array Value} {below : List Frame} {meth : Method} {c : Code} {K : zK} {r : Int} {F9 : zF} {B9 : zB} (X : zX D ca L aS vS A p s m args meth c prog_6_method_4_code 6 (Option.some Jvm.ClassFile.FieldType.int) "StaveHouse$Part") {rec26 : Int → Int → Int → Int → zF → zB → zO} (hrec26 : ∀ {l3 : Int} {l2 : Int} {l0 : Int} {l1 : Int} {F : zF} {B : zB} {H : Heap} {locs : List Loc} {ls : Array Slot}, rec26 l3 l2 l0 l1 F B = some (r, F9, B9) → zH D ca ad lnC K.2 L F B A H → va_S A s.heap H locs → lv_has ls 6 [(3, .int (iI l3)), (2, .int (iI l2)), (0, .ref (ad 4 l0 0)), (1, .ref (ad 6 l1 0))] → W p l e ({ frames := 6, cells := 0, slots := 0, locals := 168 } : Room) s m args below meth c H locs 0 0 (MQ below (Q_Part_judge K D ca ad L r F9 B9 A) args s 0 0 A) (F0 m 26 ls [])) {l4 : Int} {l3 : Int} {l2 : Int} {l0 : Int} {l1 : Int} {F : zF} {B : zB} {H : Heap} {locs : List Loc} {ls : Array Slot} (hf : f_Part_judge_95 rec26 K l4 l3 l2 l0 l1 F B = some (r, F9, B9)) (hZ : zH D ca ad lnC K.2 L F B A H) (hS : va_S A s.heap H locs) (hl : lv_has ls 6 [(4, va_rf (zrf ad 1 l4)), (3, .int (iI l3)), (2, .int (iI l2)), (0, .ref (ad 4 l0 0)), (1, .ref (ad 6 l1 0))]) : W p l e ({ frames := 6, cells := 0, slots := 0, locals := 168 } : Room) s m args below meth c H locs 0 0 (MQ below (Q_Part_judge K D ca ad L r F9 B9 A) args s 0 0 A) (F0 m 95 ls []) := by
  obtain ⟨hx, hb, hr, hml, hown, hts, hlk, hK, hA, hL, hX⟩ := id X
  replace hf : (if r32 l2 then (if l2 = 0 then f_Part_judge_112 rec26 K l4 l3 l2 l0 l1 F B else if 0 ≤ l4 ∧ l4 < K.2 1 then zbind (f_Event_has K l4 4 F B) (fun r31 F31 B31 => if r32 r31 then (if r31 = 0 then f_Part_judge_113 rec26 K l4 l3 l2 l0 l1 1 F31 B31 else f_Part_judge_112 rec26 K l4 l3 l2 l0 l1 F31 B31) else none) else none) else none) = some (r, F9, B9) := hf
  refine lv_iload_n hx hb d_6_4_95 rfl (lv_at hl 2 rfl) ?_
  obtain ⟨g28, hf⟩ := gif hf
  refine z0eq (tgt := 112) hx hb g28 d_6_4_96 (by decide) (fun h29 => ?_) (fun h29 => ?_)
  · replace hf := gpos hf h29
    exact b_Part_judge_112 X hrec26 hf hZ hS (lv_sub hl [0, 1, 2, 3, 4] rfl)
  · replace hf := gneg hf h29
    refine zaload hx hb d_6_4_99 (lv_at hl 0 rfl) ?_
    refine lv_iconst (v := iI 4) hx hb d_6_4_101 rfl ?_
    obtain ⟨g30, hf⟩ := gif hf
    refine W.eq (g2 := F0 m 102 ls [.int (iI 4), .ref (ad 1 l4 0)]) (by rw [zrf_pos (ad := ad) (t := 1) g30.1]; try rfl) ?_
    obtain ⟨r31, F31, B31, hc31, hf⟩ := gbind hf
    refine va_calli (va_runV (As := [.int (iI 4)]) (rest := []) ⟨hx, hb, hml, hown, hts⟩ (c_Event_has (l := l) hc31) (cwV 1 hts (gdV k_5_15 k_5_16 k_5_17 k_1_8 k_5_18) rfl rfl rfl (by decide +kernel) ⟨Nat.le_of_ble_eq_true rfl, Nat.le_of_ble_eq_true rfl⟩) (zPV X hZ hS (ci := 1) g30.1 g30.2 (r := (RX1, TX1, 14)) rfl [.int (iI 4)]) rfl rfl hl.1 rfl (lv_room (Nat.le_of_ble_eq_true rfl)) d_6_4_102 ⟨Nat.le_of_ble_eq_true rfl, Nat.le_of_ble_eq_true rfl⟩) hS (fun q _ h => zAin X hS q h) (zAin X hS) (fun p31 u31 t31 H31 locs31 ht31 hv31 hw31 hB31 hz31 hk31 hS31 => ?_)
    have hZ31 := zBack X ht31 hB31
    subst hw31
    obtain ⟨g33, hf⟩ := gif hf
    refine z0ne (tgt := 112) hx hb g33 d_6_4_105 (by decide) (fun h34 => ?_) (fun h34 => ?_)
    · replace hf := gneg hf h34
      exact b_Part_judge_112 X hrec26 hf hZ31 hS31 (lv_sub hl [0, 1, 2, 3, 4] rfl)
    · replace hf := gpos hf h34
      refine lv_iconst (v := iI 1) hx hb d_6_4_108 rfl ?_
      refine lv_goto (tgt := 113) hx hb d_6_4_109 (by decide) ?_
      exact b_Part_judge_113 X hrec26 hf hZ31 hS31 (lv_sub hl [0, 1, 2, 3, 4] rfl)

noncomputable def f_Part_judge_26 (K : zK) : Nat → Int → Int → Int → Int → zF → zB → zO
  | 0, _, _, _, _, _, _ => none
  | n + 1, l3, l2, l0, l1, F, B => if 0 ≤ l0 ∧ l0 < K.2 4 then if r32 l3 then if r32 (F 4 l0 6) then (if (F 4 l0 6) ≤ l3 then if r32 l2 then (if l2 = 0 then zbind (f_Part_writeNotes K l0 l1 F B) (fun r11 F11 B11 => if r32 (F11 4 l0 11) then (if (F11 4 l0 11) = 0 then f_Part_judge_227 K 0 F11 B11 else f_Part_judge_227 K (14 + (16 * (F11 4 l0 3))) F11 B11) else none) else some (11 + (16 * (F 4 l0 3)), F, B)) else none else if 0 ≤ l3 ∧ l3 < 200 then if 0 ≤ l1 ∧ l1 < K.2 6 then zbind (f_Piece_barLength K l1 F B) (fun r16 F16 B16 => zbind (f_Part_bracketStands K l0 l3 r16 F16 B16) (fun r17 F17 B17 => if r32 r17 then (if r17 = 0 then if 0 ≤ (B 4 l0 5 l3) ∧ (B 4 l0 5 l3) < K.2 1 then some (13 + (16 * (F17 1 (B 4 l0 5 l3) 6)), F17, B17) else none else if 0 ≤ (B 4 l0 5 l3) ∧ (B 4 l0 5 l3) < K.2 1 then zbind (f_Event_has K (B 4 l0 5 l3) 1 F17 B17) (fun r21 F21 B21 => if r32 r21 then (if r21 = 0 then f_Part_judge_95 (f_Part_judge_26 K n) K (B 4 l0 5 l3) l3 l2 l0 l1 F21 B21 else zbind (f_Part_tiedPitches K l0 l3 F21 B21) (fun r24 F24 B24 => if r32 r24 then (if r24 = 0 then some (10 + (16 * (F24 1 (B 4 l0 5 l3) 9)), F24, B24) else f_Part_judge_95 (f_Part_judge_26 K n) K (B 4 l0 5 l3) l3 l2 l0 l1 F24 B24) else none)) else none) else none) else none)) else none else none) else none else none else none
set_option maxHeartbeats 4000000 in
set_option maxRecDepth 100000 in
theorem b_Part_judge_26 {D : va_G} {ca : Nat → ClassId} {ad : Nat → Int → Nat → Nat} {L : List Nat} {aS vS : Nat → Nat} {A : Nat → Prop} {p : Program} {l : Launch} {e : Env} {s : State} {m : MethodId} {args : Array Value} {below : List Frame} {meth : Method} {c : Code} {K : zK} {r : Int} {F9 : zF} {B9 : zB} (X : zX D ca L aS vS A p s m args meth c prog_6_method_4_code 6 (Option.some Jvm.ClassFile.FieldType.int) "StaveHouse$Part") : ∀ {n : Nat} {l3 : Int} {l2 : Int} {l0 : Int} {l1 : Int} {F : zF} {B : zB} {H : Heap} {locs : List Loc} {ls : Array Slot}, f_Part_judge_26 K n l3 l2 l0 l1 F B = some (r, F9, B9) → zH D ca ad lnC K.2 L F B A H → va_S A s.heap H locs → lv_has ls 6 [(3, .int (iI l3)), (2, .int (iI l2)), (0, .ref (ad 4 l0 0)), (1, .ref (ad 6 l1 0))] → W p l e ({ frames := 6, cells := 0, slots := 0, locals := 168 } : Room) s m args below meth c H locs 0 0 (MQ below (Q_Part_judge K D ca ad L r F9 B9 A) args s 0 0 A) (F0 m 26 ls []) := by
  obtain ⟨hx, hb, hr, hml, hown, hts, hlk, hK, hA, hL, hX⟩ := id X
  intro n
  induction n with
  | zero =>
    intros
    rename_i hf _ _ _
    cases hf
  | succ n ih =>
    intro l3 l2 l0 l1 F B H locs ls hf hZ hS hl
    replace hf : (if 0 ≤ l0 ∧ l0 < K.2 4 then if r32 l3 then if r32 (F 4 l0 6) then (if (F 4 l0 6) ≤ l3 then if r32 l2 then (if l2 = 0 then zbind (f_Part_writeNotes K l0 l1 F B) (fun r11 F11 B11 => if r32 (F11 4 l0 11) then (if (F11 4 l0 11) = 0 then f_Part_judge_227 K 0 F11 B11 else f_Part_judge_227 K (14 + (16 * (F11 4 l0 3))) F11 B11) else none) else some (11 + (16 * (F 4 l0 3)), F, B)) else none else if 0 ≤ l3 ∧ l3 < 200 then if 0 ≤ l1 ∧ l1 < K.2 6 then zbind (f_Piece_barLength K l1 F B) (fun r16 F16 B16 => zbind (f_Part_bracketStands K l0 l3 r16 F16 B16) (fun r17 F17 B17 => if r32 r17 then (if r17 = 0 then if 0 ≤ (B 4 l0 5 l3) ∧ (B 4 l0 5 l3) < K.2 1 then some (13 + (16 * (F17 1 (B 4 l0 5 l3) 6)), F17, B17) else none else if 0 ≤ (B 4 l0 5 l3) ∧ (B 4 l0 5 l3) < K.2 1 then zbind (f_Event_has K (B 4 l0 5 l3) 1 F17 B17) (fun r21 F21 B21 => if r32 r21 then (if r21 = 0 then f_Part_judge_95 (f_Part_judge_26 K n) K (B 4 l0 5 l3) l3 l2 l0 l1 F21 B21 else zbind (f_Part_tiedPitches K l0 l3 F21 B21) (fun r24 F24 B24 => if r32 r24 then (if r24 = 0 then some (10 + (16 * (F24 1 (B 4 l0 5 l3) 9)), F24, B24) else f_Part_judge_95 (f_Part_judge_26 K n) K (B 4 l0 5 l3) l3 l2 l0 l1 F24 B24) else none)) else none) else none) else none)) else none else none) else none else none else none) = some (r, F9, B9) := hf
    refine lv_iload_n hx hb d_6_4_26 rfl (lv_at hl 0 rfl) ?_
    refine lv_aload_n hx hb d_6_4_27 rfl (lv_at hl 2 rfl) ?_
    obtain ⟨g5, hf⟩ := gif hf
    refine zget (ci := 4) (C := RX4) (T := TX4) (v := .int (iI (F 4 l0 6))) (k := 6) hx hb hts inW_4 hown hK hZ g5.1 g5.2 rfl (by decide) k_4_135 rfl d_6_4_28 ?_
    obtain ⟨g6, hf⟩ := gif hf
    obtain ⟨g7, hf⟩ := gif hf
    refine zge (tgt := 186) hx hb g6 g7 d_6_4_31 (by decide) (fun h8 => ?_) (fun h8 => ?_)
    · replace hf := gpos hf h8
      refine lv_iload_n hx hb d_6_4_186 rfl (lv_at hl 1 rfl) ?_
      obtain ⟨g9, hf⟩ := gif hf
      refine z0eq (tgt := 201) hx hb g9 d_6_4_187 (by decide) (fun h10 => ?_) (fun h10 => ?_)
      · replace hf := gpos hf h10
        refine lv_aload_n hx hb d_6_4_201 rfl (lv_at hl 2 rfl) ?_
        refine lv_aload_n hx hb d_6_4_202 rfl (lv_at hl 3 rfl) ?_
        obtain ⟨r11, F11, B11, hc11, hf⟩ := gbind hf
        refine va_callv (va_runV (As := [.ref (ad 6 l1 0)]) (rest := []) ⟨hx, hb, hml, hown, hts⟩ (c_Part_writeNotes (l := l) hc11) (cwV 1 hts (gdV k_5_49 k_5_51 ks_48 k_1_18 k_5_52) rfl rfl rfl (by decide +kernel) ⟨Nat.le_of_ble_eq_true rfl, Nat.le_of_ble_eq_true rfl⟩) (zPV X hZ hS (ci := 4) g5.1 g5.2 (r := (RX4, TX4, 13)) rfl [.ref (ad 6 l1 0)]) rfl rfl hl.1 rfl (lv_room (Nat.le_of_ble_eq_true rfl)) d_6_4_203 ⟨Nat.le_of_ble_eq_true rfl, Nat.le_of_ble_eq_true rfl⟩) hS (fun q _ h => zAin X hS q h) (zAin X hS) (fun u11 t11 H11 locs11 ht11 hv11 hw11 hB11 hz11 hk11 hS11 => ?_)
        have hZ11 := zBack X ht11 hB11
        refine lv_aload_n hx hb d_6_4_206 rfl (lv_at hl 2 rfl) ?_
        refine zget (ci := 4) (C := RX4) (T := TX4) (v := .int (iI (F11 4 l0 11))) (k := 11) hx hb hts inW_4 hown hK hZ11 g5.1 g5.2 rfl (by decide) k_4_151 rfl d_6_4_207 ?_
        obtain ⟨g12, hf⟩ := gif hf
        refine z0eq (tgt := 226) hx hb g12 d_6_4_210 (by decide) (fun h13 => ?_) (fun h13 => ?_)
        · replace hf := gpos hf h13
          refine lv_iconst (v := iI 0) hx hb d_6_4_226 rfl ?_
          exact b_Part_judge_227 X hf hZ11 hS11 (lv_sub hl [] rfl)
        · replace hf := gneg hf h13
          refine lv_bipush (v := iI 14) hx hb d_6_4_213 (by decide) ?_
          refine lv_bipush (v := iI 16) hx hb d_6_4_215 (by decide) ?_
          refine lv_aload_n hx hb d_6_4_217 rfl (lv_at hl 2 rfl) ?_
          refine zget (ci := 4) (C := RX4) (T := TX4) (v := .int (iI (F11 4 l0 3))) (k := 3) hx hb hts inW_4 hown hK hZ11 g5.1 g5.2 rfl (by decide) k_4_125 rfl d_6_4_218 ?_
          refine zmul hx hb d_6_4_221 ?_
          refine zadd hx hb d_6_4_222 ?_
          refine lv_goto (tgt := 227) hx hb d_6_4_223 (by decide) ?_
          exact b_Part_judge_227 X hf hZ11 hS11 (lv_sub hl [] rfl)
      · replace hf := gneg hf h10
        refine lv_bipush (v := iI 11) hx hb d_6_4_190 (by decide) ?_
        refine lv_bipush (v := iI 16) hx hb d_6_4_192 (by decide) ?_
        refine lv_aload_n hx hb d_6_4_194 rfl (lv_at hl 2 rfl) ?_
        refine zget (ci := 4) (C := RX4) (T := TX4) (v := .int (iI (F 4 l0 3))) (k := 3) hx hb hts inW_4 hown hK hZ g5.1 g5.2 rfl (by decide) k_4_125 rfl d_6_4_195 ?_
        refine zmul hx hb d_6_4_198 ?_
        refine zadd hx hb d_6_4_199 ?_
        cases hf
        exact W.iret hx hb hr (fun t ht hW => ⟨⟨_, (), rfl, rfl, by rw [ht]; exact hZ, va_K.moved hW.alike hK⟩, hS.F ht⟩) hS.2.2 d_6_4_200 hlk
    · replace hf := gneg hf h8
      refine lv_aload_n hx hb d_6_4_34 rfl (lv_at hl 2 rfl) ?_
      refine zget (ci := 4) (C := RX4) (T := TX4) (v := .ref (ad 4 l0 (5 + 1))) (k := 5) hx hb hts inW_4 hown hK hZ g5.1 g5.2 rfl (by decide) k_4_130 rfl d_6_4_35 ?_
      refine lv_iload_n hx hb d_6_4_38 rfl (lv_at hl 0 rfl) ?_
      obtain ⟨g14, hf⟩ := gif hf
      refine zaldR (t := 1) (x := 7) (ci := 4) (k := 5) hx hb hK rfl rfl hZ g5.1 g5.2 rfl (Nat.le_of_ble_eq_true rfl) g14.1 g14.2 d_6_4_39 ?_
      refine zastore (lv' := [(3, .int (iI l3)), (2, .int (iI l2)), (0, .ref (ad 4 l0 0)), (1, .ref (ad 6 l1 0))]) hx hb d_6_4_40 hl (by decide) (fun _ _ => rfl) (fun ls hl => ?_)
      refine lv_aload_n hx hb d_6_4_42 rfl (lv_at hl 3 rfl) ?_
      refine lv_iload_n hx hb d_6_4_43 rfl (lv_at hl 1 rfl) ?_
      refine lv_aload_n hx hb d_6_4_44 rfl (lv_at hl 4 rfl) ?_
      obtain ⟨g15, hf⟩ := gif hf
      obtain ⟨r16, F16, B16, hc16, hf⟩ := gbind hf
      refine va_calll (va_runV (As := []) (rest := [.int (iI l3), .ref (ad 4 l0 0)]) ⟨hx, hb, hml, hown, hts⟩ (c_Piece_barLength (l := l) hc16) (cwV 0 hts (gdV k_5_31 k_4_190 k_4_191 k_1_15 k_4_192) rfl rfl rfl (by decide +kernel) ⟨Nat.le_of_ble_eq_true rfl, Nat.le_of_ble_eq_true rfl⟩) (zPV X hZ hS (ci := 6) g15.1 g15.2 (r := (RX6, TX6, 14)) rfl []) rfl rfl hl.1 rfl (lv_room (Nat.le_of_ble_eq_true rfl)) d_6_4_45 ⟨Nat.le_of_ble_eq_true rfl, Nat.le_of_ble_eq_true rfl⟩) hS (fun q _ h => zAin X hS q h) (zAin X hS) (fun p16 u16 t16 H16 locs16 ht16 hv16 hw16 hB16 hz16 hk16 hS16 => ?_)
      have hZ16 := zBack X ht16 hB16
      subst hw16
      obtain ⟨r17, F17, B17, hc17, hf⟩ := gbind hf
      refine va_calli (va_runV (As := [.int (iI l3), .long (lI r16)]) (rest := []) ⟨hx, hb, hml, hown, hts⟩ (c_Part_bracketStands (l := l) hc17) (cwV 2 hts (gdV k_5_32 k_5_34 ks_47 k_1_18 k_5_35) rfl rfl rfl (by decide +kernel) ⟨Nat.le_of_ble_eq_true rfl, Nat.le_of_ble_eq_true rfl⟩) (zPV X hZ16 hS16 (ci := 4) g5.1 g5.2 (r := (RX4, TX4, 13)) rfl [.int (iI l3), .long (lI r16)]) rfl rfl hl.1 rfl (lv_room (Nat.le_of_ble_eq_true rfl)) d_6_4_48 ⟨Nat.le_of_ble_eq_true rfl, Nat.le_of_ble_eq_true rfl⟩) hS16 (fun q _ h => zAin X hS16 q h) (zAin X hS16) (fun p17 u17 t17 H17 locs17 ht17 hv17 hw17 hB17 hz17 hk17 hS17 => ?_)
      have hZ17 := zBack X ht17 hB17
      subst hw17
      obtain ⟨g18, hf⟩ := gif hf
      refine z0ne (tgt := 66) hx hb g18 d_6_4_51 (by decide) (fun h19 => ?_) (fun h19 => ?_)
      · replace hf := gneg hf h19
        refine zaload hx hb d_6_4_66 (lv_at hl 0 rfl) ?_
        refine lv_iconst (v := iI 1) hx hb d_6_4_68 rfl ?_
        obtain ⟨g20, hf⟩ := gif hf
        refine W.eq (g2 := F0 m 69 ls [.int (iI 1), .ref (ad 1 (B 4 l0 5 l3) 0)]) (by rw [zrf_pos (ad := ad) (t := 1) g20.1]; try rfl) ?_
        obtain ⟨r21, F21, B21, hc21, hf⟩ := gbind hf
        refine va_calli (va_runV (As := [.int (iI 1)]) (rest := []) ⟨hx, hb, hml, hown, hts⟩ (c_Event_has (l := l) hc21) (cwV 1 hts (gdV k_5_15 k_5_16 k_5_17 k_1_8 k_5_18) rfl rfl rfl (by decide +kernel) ⟨Nat.le_of_ble_eq_true rfl, Nat.le_of_ble_eq_true rfl⟩) (zPV X hZ17 hS17 (ci := 1) g20.1 g20.2 (r := (RX1, TX1, 14)) rfl [.int (iI 1)]) rfl rfl hl.1 rfl (lv_room (Nat.le_of_ble_eq_true rfl)) d_6_4_69 ⟨Nat.le_of_ble_eq_true rfl, Nat.le_of_ble_eq_true rfl⟩) hS17 (fun q _ h => zAin X hS17 q h) (zAin X hS17) (fun p21 u21 t21 H21 locs21 ht21 hv21 hw21 hB21 hz21 hk21 hS21 => ?_)
        have hZ21 := zBack X ht21 hB21
        subst hw21
        obtain ⟨g22, hf⟩ := gif hf
        refine z0eq (tgt := 95) hx hb g22 d_6_4_72 (by decide) (fun h23 => ?_) (fun h23 => ?_)
        · replace hf := gpos hf h23
          exact b_Part_judge_95 X ih hf hZ21 hS21 (lv_sub hl [0, 1, 2, 3, 4] rfl)
        · replace hf := gneg hf h23
          refine lv_aload_n hx hb d_6_4_75 rfl (lv_at hl 3 rfl) ?_
          refine lv_iload_n hx hb d_6_4_76 rfl (lv_at hl 1 rfl) ?_
          obtain ⟨r24, F24, B24, hc24, hf⟩ := gbind hf
          refine va_calli (va_runV (As := [.int (iI l3)]) (rest := []) ⟨hx, hb, hml, hown, hts⟩ (c_Part_tiedPitches (l := l) hc24) (cwV 1 hts (gdV k_5_37 k_5_38 k_5_39 k_1_18 k_5_40) rfl rfl rfl (by decide +kernel) ⟨Nat.le_of_ble_eq_true rfl, Nat.le_of_ble_eq_true rfl⟩) (zPV X hZ21 hS21 (ci := 4) g5.1 g5.2 (r := (RX4, TX4, 13)) rfl [.int (iI l3)]) rfl rfl hl.1 rfl (lv_room (Nat.le_of_ble_eq_true rfl)) d_6_4_77 ⟨Nat.le_of_ble_eq_true rfl, Nat.le_of_ble_eq_true rfl⟩) hS21 (fun q _ h => zAin X hS21 q h) (zAin X hS21) (fun p24 u24 t24 H24 locs24 ht24 hv24 hw24 hB24 hz24 hk24 hS24 => ?_)
          have hZ24 := zBack X ht24 hB24
          subst hw24
          obtain ⟨g25, hf⟩ := gif hf
          refine z0ne (tgt := 95) hx hb g25 d_6_4_80 (by decide) (fun h26 => ?_) (fun h26 => ?_)
          · replace hf := gneg hf h26
            exact b_Part_judge_95 X ih hf hZ24 hS24 (lv_sub hl [0, 1, 2, 3, 4] rfl)
          · replace hf := gpos hf h26
            refine lv_bipush (v := iI 10) hx hb d_6_4_83 (by decide) ?_
            refine lv_bipush (v := iI 16) hx hb d_6_4_85 (by decide) ?_
            refine zaload hx hb d_6_4_87 (lv_at hl 0 rfl) ?_
            refine zunrf g20.1 ?_
            refine zget (ci := 1) (C := RX1) (T := TX1) (v := .int (iI (F24 1 (B 4 l0 5 l3) 9))) (k := 9) hx hb hts inW_1 hown hK hZ24 g20.1 g20.2 rfl (by decide) k_2_45 rfl d_6_4_89 ?_
            refine zmul hx hb d_6_4_92 ?_
            refine zadd hx hb d_6_4_93 ?_
            cases hf
            exact W.iret hx hb hr (fun t ht hW => ⟨⟨_, (), rfl, rfl, by rw [ht]; exact hZ24, va_K.moved hW.alike hK⟩, hS24.F ht⟩) hS24.2.2 d_6_4_94 hlk
      · replace hf := gpos hf h19
        refine lv_bipush (v := iI 13) hx hb d_6_4_54 (by decide) ?_
        refine lv_bipush (v := iI 16) hx hb d_6_4_56 (by decide) ?_
        refine zaload hx hb d_6_4_58 (lv_at hl 0 rfl) ?_
        obtain ⟨g27, hf⟩ := gif hf
        refine zunrf g27.1 ?_
        refine zget (ci := 1) (C := RX1) (T := TX1) (v := .int (iI (F17 1 (B 4 l0 5 l3) 6))) (k := 6) hx hb hts inW_1 hown hK hZ17 g27.1 g27.2 rfl (by decide) k_2_36 rfl d_6_4_60 ?_
        refine zmul hx hb d_6_4_63 ?_
        refine zadd hx hb d_6_4_64 ?_
        cases hf
        exact W.iret hx hb hr (fun t ht hW => ⟨⟨_, (), rfl, rfl, by rw [ht]; exact hZ17, va_K.moved hW.alike hK⟩, hS17.F ht⟩) hS17.2.2 d_6_4_65 hlk

noncomputable def f_Part_judge (K : zK) (l0 : Int) (l1 : Int) (F : zF) (B : zB) : zO := if 0 ≤ l0 ∧ l0 < K.2 4 then if r32 (F 4 l0 6) then (if (F 4 l0 6) = 0 then some (15 + (16 * (F 4 l0 3)), F, B) else zbind (f_Part_placeEvents K l0 F B) (fun r4 F4 B4 => f_Part_judge_26 K K.1 0 0 l0 l1 F4 B4)) else none else none
set_option maxHeartbeats 4000000 in
set_option maxRecDepth 100000 in
theorem c_Part_judge {l : Launch} {D : va_G} {ca : Nat → ClassId} {ad : Nat → Int → Nat → Nat} {L : List Nat} {aS vS : Nat → Nat} {sz : Nat} {K : zK}  {l0 : Int} {l1 : Int} {F F9 : zF} {B B9 : zB} {r : Int} (hf : f_Part_judge K l0 l1 F B = some (r, F9, B9)) : Met l ({ cls := "StaveHouse$Part", name := "judge", desc := "(LStaveHouse$Piece;)I" } : Jvm.MethodName) (Cond.code ({ cls := "StaveHouse$Part", name := "judge", desc := "(LStaveHouse$Piece;)I" } : Jvm.MethodName) prog_6_method_4_code 6 (Option.some Jvm.ClassFile.FieldType.int) :: wAll) ({ frames := 6, cells := 0, slots := 0, locals := 168 } : Room) (va_Pc [.ref (ad 4 l0 0), .ref (ad 6 l1 0)] (zPre D ca ad lnC K.2 L aS vS F B sz)) (Q_Part_judge K D ca ad L r F9 B9 (zA L sz)) 0 0 (zA L sz) := by
  refine zMet (Qc := Q_Part_judge K D ca ad L r F9 B9) (lv := [(0, .ref (ad 4 l0 0)), (1, .ref (ad 6 l1 0))]) (by decide) (Nat.le_of_ble_eq_true rfl) rfl (fun A p e s m below meth c ls X hZ hS hl => ?_)
  obtain ⟨hx, hb, hr, hml, hown, hts, hlk, hK, hA, hL, hX⟩ := id X
  replace hf : (if 0 ≤ l0 ∧ l0 < K.2 4 then if r32 (F 4 l0 6) then (if (F 4 l0 6) = 0 then some (15 + (16 * (F 4 l0 3)), F, B) else zbind (f_Part_placeEvents K l0 F B) (fun r4 F4 B4 => f_Part_judge_26 K K.1 0 0 l0 l1 F4 B4)) else none else none) = some (r, F9, B9) := hf
  refine lv_aload_n hx hb d_6_4_0 rfl (lv_at hl 0 rfl) ?_
  obtain ⟨g1, hf⟩ := gif hf
  refine zget (ci := 4) (C := RX4) (T := TX4) (v := .int (iI (F 4 l0 6))) (k := 6) hx hb hts inW_4 hown hK hZ g1.1 g1.2 rfl (by decide) k_4_135 rfl d_6_4_1 ?_
  obtain ⟨g2, hf⟩ := gif hf
  refine z0ne (tgt := 18) hx hb g2 d_6_4_4 (by decide) (fun h3 => ?_) (fun h3 => ?_)
  · replace hf := gneg hf h3
    refine lv_aload_n hx hb d_6_4_18 rfl (lv_at hl 0 rfl) ?_
    obtain ⟨r4, F4, B4, hc4, hf⟩ := gbind hf
    refine va_callv (va_runV (As := []) (rest := []) ⟨hx, hb, hml, hown, hts⟩ (c_Part_placeEvents (l := l) hc4) (cwV 0 hts (gdV k_5_27 k_5_29 ks_46 k_1_18 k_5_30) rfl rfl rfl (by decide +kernel) ⟨Nat.le_of_ble_eq_true rfl, Nat.le_of_ble_eq_true rfl⟩) (zPV X hZ hS (ci := 4) g1.1 g1.2 (r := (RX4, TX4, 13)) rfl []) rfl rfl hl.1 rfl (lv_room (Nat.le_of_ble_eq_true rfl)) d_6_4_19 ⟨Nat.le_of_ble_eq_true rfl, Nat.le_of_ble_eq_true rfl⟩) hS (fun q _ h => zAin X hS q h) (zAin X hS) (fun u4 t4 H4 locs4 ht4 hv4 hw4 hB4 hz4 hk4 hS4 => ?_)
    have hZ4 := zBack X ht4 hB4
    refine lv_iconst (v := iI 0) hx hb d_6_4_22 rfl ?_
    refine lv_istore_n (lv' := [(2, .int (iI 0)), (0, .ref (ad 4 l0 0)), (1, .ref (ad 6 l1 0))]) hx hb d_6_4_23 rfl hl (by decide) rfl (fun ls hl => ?_)
    refine lv_iconst (v := iI 0) hx hb d_6_4_24 rfl ?_
    refine lv_istore_n (lv' := [(3, .int (iI 0)), (2, .int (iI 0)), (0, .ref (ad 4 l0 0)), (1, .ref (ad 6 l1 0))]) hx hb d_6_4_25 rfl hl (by decide) rfl (fun ls hl => ?_)
    exact b_Part_judge_26 X hf hZ4 hS4 (lv_sub hl [0, 1, 2, 3] rfl)
  · replace hf := gpos hf h3
    refine lv_bipush (v := iI 15) hx hb d_6_4_7 (by decide) ?_
    refine lv_bipush (v := iI 16) hx hb d_6_4_9 (by decide) ?_
    refine lv_aload_n hx hb d_6_4_11 rfl (lv_at hl 0 rfl) ?_
    refine zget (ci := 4) (C := RX4) (T := TX4) (v := .int (iI (F 4 l0 3))) (k := 3) hx hb hts inW_4 hown hK hZ g1.1 g1.2 rfl (by decide) k_4_125 rfl d_6_4_12 ?_
    refine zmul hx hb d_6_4_15 ?_
    refine zadd hx hb d_6_4_16 ?_
    cases hf
    exact W.iret hx hb hr (fun t ht hW => ⟨⟨_, (), rfl, rfl, by rw [ht]; exact hZ, va_K.moved hW.alike hK⟩, hS.F ht⟩) hS.2.2 d_6_4_17 hlk

noncomputable abbrev Q_Performance_write (K : zK) (D : va_G) (ca : Nat → ClassId) (ad : Nat → Int → Nat → Nat) (L : List Nat) (r : Int) (F : zF) (B : zB) (A : Nat → Prop) : Array Value → State → Outcome → State → Prop := va_Qv (S := Unit) (fun _ => True) (fun _ => zPo D ca ad lnC K.2 L F B A) A
noncomputable def f_Performance_write_44 (K : zK) : Nat → Int → Int → Int → Int → zF → zB → zO
  | 0, _, _, _, _, _, _ => none
  | n + 1, l3, l0, l1, l2, F, B => if 0 ≤ l1 ∧ l1 < K.2 6 then if r32 l3 then if r32 (F 6 l1 1) then (if (F 6 l1 1) ≤ l3 then some (0, F, B) else if 0 ≤ l3 ∧ l3 < 4 then if 0 ≤ (B 6 l1 0 l3) ∧ (B 6 l1 0 l3) < K.2 4 then if 0 ≤ l0 ∧ l0 < K.2 5 then zbind (f_Performance_writeVoice K l0 (B 6 l1 0 l3) l3 l2 F B) (fun r16 F16 B16 => f_Performance_write_44 K n (l3 + 1) l0 l1 l2 F16 B16) else none else none else none) else none else none else none
set_option maxHeartbeats 4000000 in
set_option maxRecDepth 100000 in
theorem b_Performance_write_44 {D : va_G} {ca : Nat → ClassId} {ad : Nat → Int → Nat → Nat} {L : List Nat} {aS vS : Nat → Nat} {A : Nat → Prop} {p : Program} {l : Launch} {e : Env} {s : State} {m : MethodId} {args : Array Value} {below : List Frame} {meth : Method} {c : Code} {K : zK} {r : Int} {F9 : zF} {B9 : zB} (X : zX D ca L aS vS A p s m args meth c prog_7_method_17_code 4 (Option.none : Option Jvm.ClassFile.FieldType) "StaveHouse$Performance") : ∀ {n : Nat} {l3 : Int} {l0 : Int} {l1 : Int} {l2 : Int} {F : zF} {B : zB} {H : Heap} {locs : List Loc} {ls : Array Slot}, f_Performance_write_44 K n l3 l0 l1 l2 F B = some (r, F9, B9) → zH D ca ad lnC K.2 L F B A H → va_S A s.heap H locs → lv_has ls 4 [(3, .int (iI l3)), (0, .ref (ad 5 l0 0)), (1, .ref (ad 6 l1 0)), (2, .ref (ad 0 l2 0))] → W p l e ({ frames := 7, cells := 0, slots := 0, locals := 153 } : Room) s m args below meth c H locs 0 0 (MQ below (Q_Performance_write K D ca ad L r F9 B9 A) args s 0 0 A) (F0 m 44 ls []) := by
  obtain ⟨hx, hb, hr, hml, hown, hts, hlk, hK, hA, hL, hX⟩ := id X
  intro n
  induction n with
  | zero =>
    intros
    rename_i hf _ _ _
    cases hf
  | succ n ih =>
    intro l3 l0 l1 l2 F B H locs ls hf hZ hS hl
    replace hf : (if 0 ≤ l1 ∧ l1 < K.2 6 then if r32 l3 then if r32 (F 6 l1 1) then (if (F 6 l1 1) ≤ l3 then some (0, F, B) else if 0 ≤ l3 ∧ l3 < 4 then if 0 ≤ (B 6 l1 0 l3) ∧ (B 6 l1 0 l3) < K.2 4 then if 0 ≤ l0 ∧ l0 < K.2 5 then zbind (f_Performance_writeVoice K l0 (B 6 l1 0 l3) l3 l2 F B) (fun r16 F16 B16 => f_Performance_write_44 K n (l3 + 1) l0 l1 l2 F16 B16) else none else none else none) else none else none else none) = some (r, F9, B9) := hf
    refine lv_iload_n hx hb d_7_17_44 rfl (lv_at hl 0 rfl) ?_
    refine lv_aload_n hx hb d_7_17_45 rfl (lv_at hl 2 rfl) ?_
    obtain ⟨g9, hf⟩ := gif hf
    refine zget (ci := 6) (C := RX6) (T := TX6) (v := .int (iI (F 6 l1 1))) (k := 1) hx hb hts inW_6 hown hK hZ g9.1 g9.2 rfl (by decide) k_2_191 rfl d_7_17_46 ?_
    obtain ⟨g10, hf⟩ := gif hf
    obtain ⟨g11, hf⟩ := gif hf
    refine zge (tgt := 70) hx hb g10 g11 d_7_17_49 (by decide) (fun h12 => ?_) (fun h12 => ?_)
    · replace hf := gpos hf h12
      cases hf
      exact W.vret hx hb hr (fun t ht hW => ⟨⟨(), rfl, trivial, by rw [ht]; exact hZ, va_K.moved hW.alike hK⟩, hS.F ht⟩) hS.2.2 d_7_17_70 hlk
    · replace hf := gneg hf h12
      refine lv_aload_n hx hb d_7_17_52 rfl (lv_at hl 1 rfl) ?_
      refine lv_aload_n hx hb d_7_17_53 rfl (lv_at hl 2 rfl) ?_
      refine zget (ci := 6) (C := RX6) (T := TX6) (v := .ref (ad 6 l1 (0 + 1))) (k := 0) hx hb hts inW_6 hown hK hZ g9.1 g9.2 rfl (by decide) k_2_186 rfl d_7_17_54 ?_
      refine lv_iload_n hx hb d_7_17_57 rfl (lv_at hl 0 rfl) ?_
      obtain ⟨g13, hf⟩ := gif hf
      refine zaldR (t := 4) (x := 6) (ci := 6) (k := 0) hx hb hK rfl rfl hZ g9.1 g9.2 rfl (Nat.le_of_ble_eq_true rfl) g13.1 g13.2 d_7_17_58 ?_
      refine lv_iload_n hx hb d_7_17_59 rfl (lv_at hl 0 rfl) ?_
      refine lv_aload_n hx hb d_7_17_60 rfl (lv_at hl 3 rfl) ?_
      obtain ⟨g14, hf⟩ := gif hf
      refine W.eq (g2 := F0 m 61 ls [.ref (ad 0 l2 0), .int (iI l3), .ref (ad 4 (B 6 l1 0 l3) 0), .ref (ad 5 l0 0)]) (by rw [zrf_pos (ad := ad) (t := 4) g14.1]; try rfl) ?_
      obtain ⟨g15, hf⟩ := gif hf
      obtain ⟨r16, F16, B16, hc16, hf⟩ := gbind hf
      refine va_callv (va_runV (As := [.ref (ad 4 (B 6 l1 0 l3) 0), .int (iI l3), .ref (ad 0 l2 0)]) (rest := []) ⟨hx, hb, hml, hown, hts⟩ (c_Performance_writeVoice (l := l) hc16) (cwV 3 hts (gdV k_7_183 k_7_185 ks_90 k_1_20 k_7_186) rfl rfl rfl (by decide +kernel) ⟨Nat.le_of_ble_eq_true rfl, Nat.le_of_ble_eq_true rfl⟩) (zPV X hZ hS (ci := 5) g15.1 g15.2 (r := (RX5, TX5, 14)) rfl [.ref (ad 4 (B 6 l1 0 l3) 0), .int (iI l3), .ref (ad 0 l2 0)]) rfl rfl hl.1 rfl (lv_room (Nat.le_of_ble_eq_true rfl)) d_7_17_61 ⟨Nat.le_of_ble_eq_true rfl, Nat.le_of_ble_eq_true rfl⟩) hS (fun q _ h => zAin X hS q h) (zAin X hS) (fun u16 t16 H16 locs16 ht16 hv16 hw16 hB16 hz16 hk16 hS16 => ?_)
      have hZ16 := zBack X ht16 hB16
      refine lv_iinc (v := iI (l3 + 1)) (lv' := [(3, .int (iI (l3 + 1))), (0, .ref (ad 5 l0 0)), (1, .ref (ad 6 l1 0)), (2, .ref (ad 0 l2 0))]) hx hb d_7_17_64 hl (k := 0) rfl (iI_add _ 1) (by decide) rfl (fun ls hl => ?_)
      refine lv_goto (tgt := 44) hx hb d_7_17_67 (by decide) ?_
      exact ih hf hZ16 hS16 (lv_sub hl [0, 1, 2, 3] rfl)

noncomputable def f_Performance_write (K : zK) (l0 : Int) (l1 : Int) (l2 : Int) (F : zF) (B : zB) : zO := if 0 ≤ l2 ∧ l2 < K.2 0 then zbind (f_ByteRow_putText K l2 1 F B) (fun r2 F2 B2 => zbind (f_ByteRow_putWide K l2 6 4 F2 B2) (fun r3 F3 B3 => zbind (f_ByteRow_putWide K l2 1 2 F3 B3) (fun r4 F4 B4 => if 0 ≤ l1 ∧ l1 < K.2 6 then zbind (f_ByteRow_putWide K l2 ((F4 6 l1 1) + 1) 2 F4 B4) (fun r6 F6 B6 => zbind (f_ByteRow_putWide K l2 96 2 F6 B6) (fun r7 F7 B7 => zbind (f_Performance_writeHead K l1 l2 F7 B7) (fun r8 F8 B8 => f_Performance_write_44 K K.1 0 l0 l1 l2 F8 B8))) else none))) else none
set_option maxHeartbeats 4000000 in
set_option maxRecDepth 100000 in
theorem c_Performance_write {l : Launch} {D : va_G} {ca : Nat → ClassId} {ad : Nat → Int → Nat → Nat} {L : List Nat} {aS vS : Nat → Nat} {sz : Nat} {K : zK}  {l0 : Int} {l1 : Int} {l2 : Int} {F F9 : zF} {B B9 : zB} {r : Int} (hf : f_Performance_write K l0 l1 l2 F B = some (r, F9, B9)) : Met l ({ cls := "StaveHouse$Performance", name := "write", desc := "(LStaveHouse$Piece;LStaveHouse$ByteRow;)V" } : Jvm.MethodName) (Cond.code ({ cls := "StaveHouse$Performance", name := "write", desc := "(LStaveHouse$Piece;LStaveHouse$ByteRow;)V" } : Jvm.MethodName) prog_7_method_17_code 4 (Option.none : Option Jvm.ClassFile.FieldType) :: wAll) ({ frames := 7, cells := 0, slots := 0, locals := 153 } : Room) (va_Pc [.ref (ad 5 l0 0), .ref (ad 6 l1 0), .ref (ad 0 l2 0)] (zPre D ca ad lnC K.2 L aS vS F B sz)) (Q_Performance_write K D ca ad L r F9 B9 (zA L sz)) 0 0 (zA L sz) := by
  refine zMet (Qc := Q_Performance_write K D ca ad L r F9 B9) (lv := [(0, .ref (ad 5 l0 0)), (1, .ref (ad 6 l1 0)), (2, .ref (ad 0 l2 0))]) (by decide) (Nat.le_of_ble_eq_true rfl) rfl (fun A p e s m below meth c ls X hZ hS hl => ?_)
  obtain ⟨hx, hb, hr, hml, hown, hts, hlk, hK, hA, hL, hX⟩ := id X
  replace hf : (if 0 ≤ l2 ∧ l2 < K.2 0 then zbind (f_ByteRow_putText K l2 1 F B) (fun r2 F2 B2 => zbind (f_ByteRow_putWide K l2 6 4 F2 B2) (fun r3 F3 B3 => zbind (f_ByteRow_putWide K l2 1 2 F3 B3) (fun r4 F4 B4 => if 0 ≤ l1 ∧ l1 < K.2 6 then zbind (f_ByteRow_putWide K l2 ((F4 6 l1 1) + 1) 2 F4 B4) (fun r6 F6 B6 => zbind (f_ByteRow_putWide K l2 96 2 F6 B6) (fun r7 F7 B7 => zbind (f_Performance_writeHead K l1 l2 F7 B7) (fun r8 F8 B8 => f_Performance_write_44 K K.1 0 l0 l1 l2 F8 B8))) else none))) else none) = some (r, F9, B9) := hf
  refine lv_aload_n hx hb d_7_17_0 rfl (lv_at hl 2 rfl) ?_
  refine va_ldcS hx hb hown (hX.2.2.2.2.1 1 _ rfl).1 d_7_17_1 ?_
  obtain ⟨g1, hf⟩ := gif hf
  obtain ⟨r2, F2, B2, hc2, hf⟩ := gbind hf
  refine va_callv (va_runV (As := [.ref (aS 1)]) (rest := []) ⟨hx, hb, hml, hown, hts⟩ (c_ByteRow_putText (l := l) hc2) (cwV 1 hts (gdV k_7_128 k_7_129 k_7_130 k_1_2 k_7_131) rfl rfl rfl (by decide +kernel) ⟨Nat.le_of_ble_eq_true rfl, Nat.le_of_ble_eq_true rfl⟩) (zPV X hZ hS (ci := 0) g1.1 g1.2 (r := (RX0, TX0, 3)) rfl [.ref (aS 1)]) rfl rfl hl.1 rfl (lv_room (Nat.le_of_ble_eq_true rfl)) d_7_17_3 ⟨Nat.le_of_ble_eq_true rfl, Nat.le_of_ble_eq_true rfl⟩) hS (fun q _ h => zAin X hS q h) (zAin X hS) (fun u2 t2 H2 locs2 ht2 hv2 hw2 hB2 hz2 hk2 hS2 => ?_)
  have hZ2 := zBack X ht2 hB2
  refine lv_aload_n hx hb d_7_17_6 rfl (lv_at hl 2 rfl) ?_
  refine lv_bipush (v := iI 6) hx hb d_7_17_7 (by decide) ?_
  refine lv_iconst (v := iI 4) hx hb d_7_17_9 rfl ?_
  obtain ⟨r3, F3, B3, hc3, hf⟩ := gbind hf
  refine va_callv (va_runV (As := [.int (iI 6), .int (iI 4)]) (rest := []) ⟨hx, hb, hml, hown, hts⟩ (c_ByteRow_putWide (l := l) hc3) (cwV 2 hts (gdV k_7_154 k_7_155 k_7_156 k_1_2 k_7_157) rfl rfl rfl (by decide +kernel) ⟨Nat.le_of_ble_eq_true rfl, Nat.le_of_ble_eq_true rfl⟩) (zPV X hZ2 hS2 (ci := 0) g1.1 g1.2 (r := (RX0, TX0, 3)) rfl [.int (iI 6), .int (iI 4)]) rfl rfl hl.1 rfl (lv_room (Nat.le_of_ble_eq_true rfl)) d_7_17_10 ⟨Nat.le_of_ble_eq_true rfl, Nat.le_of_ble_eq_true rfl⟩) hS2 (fun q _ h => zAin X hS2 q h) (zAin X hS2) (fun u3 t3 H3 locs3 ht3 hv3 hw3 hB3 hz3 hk3 hS3 => ?_)
  have hZ3 := zBack X ht3 hB3
  refine lv_aload_n hx hb d_7_17_13 rfl (lv_at hl 2 rfl) ?_
  refine lv_iconst (v := iI 1) hx hb d_7_17_14 rfl ?_
  refine lv_iconst (v := iI 2) hx hb d_7_17_15 rfl ?_
  obtain ⟨r4, F4, B4, hc4, hf⟩ := gbind hf
  refine va_callv (va_runV (As := [.int (iI 1), .int (iI 2)]) (rest := []) ⟨hx, hb, hml, hown, hts⟩ (c_ByteRow_putWide (l := l) hc4) (cwV 2 hts (gdV k_7_154 k_7_155 k_7_156 k_1_2 k_7_157) rfl rfl rfl (by decide +kernel) ⟨Nat.le_of_ble_eq_true rfl, Nat.le_of_ble_eq_true rfl⟩) (zPV X hZ3 hS3 (ci := 0) g1.1 g1.2 (r := (RX0, TX0, 3)) rfl [.int (iI 1), .int (iI 2)]) rfl rfl hl.1 rfl (lv_room (Nat.le_of_ble_eq_true rfl)) d_7_17_16 ⟨Nat.le_of_ble_eq_true rfl, Nat.le_of_ble_eq_true rfl⟩) hS3 (fun q _ h => zAin X hS3 q h) (zAin X hS3) (fun u4 t4 H4 locs4 ht4 hv4 hw4 hB4 hz4 hk4 hS4 => ?_)
  have hZ4 := zBack X ht4 hB4
  refine lv_aload_n hx hb d_7_17_19 rfl (lv_at hl 2 rfl) ?_
  refine lv_aload_n hx hb d_7_17_20 rfl (lv_at hl 1 rfl) ?_
  obtain ⟨g5, hf⟩ := gif hf
  refine zget (ci := 6) (C := RX6) (T := TX6) (v := .int (iI (F4 6 l1 1))) (k := 1) hx hb hts inW_6 hown hK hZ4 g5.1 g5.2 rfl (by decide) k_2_191 rfl d_7_17_21 ?_
  refine lv_iconst (v := iI 1) hx hb d_7_17_24 rfl ?_
  refine zadd hx hb d_7_17_25 ?_
  refine lv_iconst (v := iI 2) hx hb d_7_17_26 rfl ?_
  obtain ⟨r6, F6, B6, hc6, hf⟩ := gbind hf
  refine va_callv (va_runV (As := [.int (iI ((F4 6 l1 1) + 1)), .int (iI 2)]) (rest := []) ⟨hx, hb, hml, hown, hts⟩ (c_ByteRow_putWide (l := l) hc6) (cwV 2 hts (gdV k_7_154 k_7_155 k_7_156 k_1_2 k_7_157) rfl rfl rfl (by decide +kernel) ⟨Nat.le_of_ble_eq_true rfl, Nat.le_of_ble_eq_true rfl⟩) (zPV X hZ4 hS4 (ci := 0) g1.1 g1.2 (r := (RX0, TX0, 3)) rfl [.int (iI ((F4 6 l1 1) + 1)), .int (iI 2)]) rfl rfl hl.1 rfl (lv_room (Nat.le_of_ble_eq_true rfl)) d_7_17_27 ⟨Nat.le_of_ble_eq_true rfl, Nat.le_of_ble_eq_true rfl⟩) hS4 (fun q _ h => zAin X hS4 q h) (zAin X hS4) (fun u6 t6 H6 locs6 ht6 hv6 hw6 hB6 hz6 hk6 hS6 => ?_)
  have hZ6 := zBack X ht6 hB6
  refine lv_aload_n hx hb d_7_17_30 rfl (lv_at hl 2 rfl) ?_
  refine lv_bipush (v := iI 96) hx hb d_7_17_31 (by decide) ?_
  refine lv_iconst (v := iI 2) hx hb d_7_17_33 rfl ?_
  obtain ⟨r7, F7, B7, hc7, hf⟩ := gbind hf
  refine va_callv (va_runV (As := [.int (iI 96), .int (iI 2)]) (rest := []) ⟨hx, hb, hml, hown, hts⟩ (c_ByteRow_putWide (l := l) hc7) (cwV 2 hts (gdV k_7_154 k_7_155 k_7_156 k_1_2 k_7_157) rfl rfl rfl (by decide +kernel) ⟨Nat.le_of_ble_eq_true rfl, Nat.le_of_ble_eq_true rfl⟩) (zPV X hZ6 hS6 (ci := 0) g1.1 g1.2 (r := (RX0, TX0, 3)) rfl [.int (iI 96), .int (iI 2)]) rfl rfl hl.1 rfl (lv_room (Nat.le_of_ble_eq_true rfl)) d_7_17_34 ⟨Nat.le_of_ble_eq_true rfl, Nat.le_of_ble_eq_true rfl⟩) hS6 (fun q _ h => zAin X hS6 q h) (zAin X hS6) (fun u7 t7 H7 locs7 ht7 hv7 hw7 hB7 hz7 hk7 hS7 => ?_)
  have hZ7 := zBack X ht7 hB7
  refine lv_aload_n hx hb d_7_17_37 rfl (lv_at hl 1 rfl) ?_
  refine lv_aload_n hx hb d_7_17_38 rfl (lv_at hl 2 rfl) ?_
  obtain ⟨r8, F8, B8, hc8, hf⟩ := gbind hf
  refine va_callv (va_runS (As := [.ref (ad 6 l1 0), .ref (ad 0 l2 0)]) (rest := []) ⟨hx, hb, hml, hown, hts⟩ (c_Performance_writeHead (l := l) hc8) (va_cwS 2 hts (gdS k_7_158 k_7_159 k_1_20 k_7_160) rfl rfl rfl (by decide +kernel) ⟨Nat.le_of_ble_eq_true rfl, Nat.le_of_ble_eq_true rfl⟩) (zPS X hZ7 hS7 [.ref (ad 6 l1 0), .ref (ad 0 l2 0)]) rfl rfl hl.1 rfl (lv_room (Nat.le_of_ble_eq_true rfl)) d_7_17_39 ⟨Nat.le_of_ble_eq_true rfl, Nat.le_of_ble_eq_true rfl⟩) hS7 (fun q _ h => zAin X hS7 q h) (zAin X hS7) (fun u8 t8 H8 locs8 ht8 hv8 hw8 hB8 hz8 hk8 hS8 => ?_)
  have hZ8 := zBack X ht8 hB8
  refine lv_iconst (v := iI 0) hx hb d_7_17_42 rfl ?_
  refine lv_istore_n (lv' := [(3, .int (iI 0)), (0, .ref (ad 5 l0 0)), (1, .ref (ad 6 l1 0)), (2, .ref (ad 0 l2 0))]) hx hb d_7_17_43 rfl hl (by decide) rfl (fun ls hl => ?_)
  exact b_Performance_write_44 X hf hZ8 hS8 (lv_sub hl [0, 1, 2, 3] rfl)

noncomputable abbrev Q_SoundFile_load (K : zK) (D : va_G) (ca : Nat → ClassId) (ad : Nat → Int → Nat → Nat) (L : List Nat) (r : Int) (F : zF) (B : zB) (A : Nat → Prop) : Array Value → State → Outcome → State → Prop := va_Qi (S := Unit) (fun p _ => p = iI r) (fun _ => zPo D ca ad lnC K.2 L F B A) A
noncomputable def f_SoundFile_load_169 (K : zK) (l0 : Int) (F : zF) (B : zB) : zO := if 0 ≤ l0 ∧ l0 < K.2 8 then some (F 8 l0 7, F, B) else none
set_option maxHeartbeats 4000000 in
set_option maxRecDepth 100000 in
theorem b_SoundFile_load_169 {D : va_G} {ca : Nat → ClassId} {ad : Nat → Int → Nat → Nat} {L : List Nat} {aS vS : Nat → Nat} {A : Nat → Prop} {p : Program} {l : Launch} {e : Env} {s : State} {m : MethodId} {args : Array Value} {below : List Frame} {meth : Method} {c : Code} {K : zK} {r : Int} {F9 : zF} {B9 : zB} (X : zX D ca L aS vS A p s m args meth c prog_10_method_2_code 7 (Option.some Jvm.ClassFile.FieldType.int) "StaveHouse$SoundFile") {l0 : Int} {F : zF} {B : zB} {H : Heap} {locs : List Loc} {ls : Array Slot} (hf : f_SoundFile_load_169 K l0 F B = some (r, F9, B9)) (hZ : zH D ca ad lnC K.2 L F B A H) (hS : va_S A s.heap H locs) (hl : lv_has ls 7 [(0, .ref (ad 8 l0 0))]) : W p l e ({ frames := 6, cells := 0, slots := 0, locals := 138 } : Room) s m args below meth c H locs 0 0 (MQ below (Q_SoundFile_load K D ca ad L r F9 B9 A) args s 0 0 A) (F0 m 169 ls []) := by
  obtain ⟨hx, hb, hr, hml, hown, hts, hlk, hK, hA, hL, hX⟩ := id X
  replace hf : (if 0 ≤ l0 ∧ l0 < K.2 8 then some (F 8 l0 7, F, B) else none) = some (r, F9, B9) := hf
  refine lv_aload_n hx hb d_10_2_169 rfl (lv_at hl 0 rfl) ?_
  obtain ⟨g41, hf⟩ := gif hf
  refine zget (ci := 8) (C := RX8) (T := TX8) (v := .int (iI (F 8 l0 7))) (k := 7) hx hb hts inW_8 hown hK hZ g41.1 g41.2 rfl (by decide) k_7_231 rfl d_10_2_170 ?_
  cases hf
  exact W.iret hx hb hr (fun t ht hW => ⟨⟨_, (), rfl, rfl, by rw [ht]; exact hZ, va_K.moved hW.alike hK⟩, hS.F ht⟩) hS.2.2 d_10_2_173 hlk

noncomputable def f_SoundFile_load_143 (rec43 : Int → Int → Int → zF → zB → zO) (K : zK) (l5 : Int) (l2 : Int) (l0 : Int) (l1 : Int) (F : zF) (B : zB) : zO := if 0 ≤ l1 ∧ l1 < K.2 0 then if 0 ≤ l0 ∧ l0 < K.2 8 then if r32 (F 8 l0 5) then zbind (f_SoundFile_skip K l0 (l5 - (F 8 l0 5)) (zup3 F 8 l0 6 (F 0 l1 1)) B) (fun r40 F40 B40 => rec43 (l2 + 1) l0 l1 F40 B40) else none else none else none
set_option maxHeartbeats 4000000 in
set_option maxRecDepth 100000 in
theorem b_SoundFile_load_143 {D : va_G} {ca : Nat → ClassId} {ad : Nat → Int → Nat → Nat} {L : List Nat} {aS vS : Nat → Nat} {A : Nat → Prop} {p : Program} {l : Launch} {e : Env} {s : State} {m : MethodId} {args : Array Value} {below : List Frame} {meth : Method} {c : Code} {K : zK} {r : Int} {F9 : zF} {B9 : zB} (X : zX D ca L aS vS A p s m args meth c prog_10_method_2_code 7 (Option.some Jvm.ClassFile.FieldType.int) "StaveHouse$SoundFile") {rec43 : Int → Int → Int → zF → zB → zO} (hrec43 : ∀ {l2 : Int} {l0 : Int} {l1 : Int} {F : zF} {B : zB} {H : Heap} {locs : List Loc} {ls : Array Slot}, rec43 l2 l0 l1 F B = some (r, F9, B9) → zH D ca ad lnC K.2 L F B A H → va_S A s.heap H locs → lv_has ls 7 [(2, .int (iI l2)), (0, .ref (ad 8 l0 0)), (1, .ref (ad 0 l1 0))] → W p l e ({ frames := 6, cells := 0, slots := 0, locals := 138 } : Room) s m args below meth c H locs 0 0 (MQ below (Q_SoundFile_load K D ca ad L r F9 B9 A) args s 0 0 A) (F0 m 43 ls [])) {l5 : Int} {l2 : Int} {l0 : Int} {l1 : Int} {F : zF} {B : zB} {H : Heap} {locs : List Loc} {ls : Array Slot} (hf : f_SoundFile_load_143 rec43 K l5 l2 l0 l1 F B = some (r, F9, B9)) (hZ : zH D ca ad lnC K.2 L F B A H) (hS : va_S A s.heap H locs) (hl : lv_has ls 7 [(5, .long (lI l5)), (2, .int (iI l2)), (0, .ref (ad 8 l0 0)), (1, .ref (ad 0 l1 0))]) : W p l e ({ frames := 6, cells := 0, slots := 0, locals := 138 } : Room) s m args below meth c H locs 0 0 (MQ below (Q_SoundFile_load K D ca ad L r F9 B9 A) args s 0 0 A) (F0 m 143 ls []) := by
  obtain ⟨hx, hb, hr, hml, hown, hts, hlk, hK, hA, hL, hX⟩ := id X
  replace hf : (if 0 ≤ l1 ∧ l1 < K.2 0 then if 0 ≤ l0 ∧ l0 < K.2 8 then if r32 (F 8 l0 5) then zbind (f_SoundFile_skip K l0 (l5 - (F 8 l0 5)) (zup3 F 8 l0 6 (F 0 l1 1)) B) (fun r40 F40 B40 => rec43 (l2 + 1) l0 l1 F40 B40) else none else none else none) = some (r, F9, B9) := hf
  refine lv_aload_n hx hb d_10_2_143 rfl (lv_at hl 2 rfl) ?_
  refine lv_aload_n hx hb d_10_2_144 rfl (lv_at hl 3 rfl) ?_
  obtain ⟨g36, hf⟩ := gif hf
  refine zget (ci := 0) (C := RX0) (T := TX0) (v := .int (iI (F 0 l1 1))) (k := 1) hx hb hts inW_0 hown hK hZ g36.1 g36.2 rfl (by decide) k_1_43 rfl d_10_2_145 ?_
  obtain ⟨g37, hf⟩ := gif hf
  refine zput (ci := 8) (C := RX8) (T := TX8) (k := 6) (v := (F 0 l1 1)) (w := .int (iI (F 0 l1 1))) hx hb hts inW_8 tyX8 tyX8_ok nmX8 hown hK hZ hS g37.1 g37.2 rfl (by decide) k_7_230 rfl (fun G h => congrArg (fun q => Value.int (iI q)) h) rfl rfl (zno (by decide)) d_10_2_148 (fun H38 locs38 hZ38 hS38 => ?_)
  refine lv_aload_n hx hb d_10_2_151 rfl (lv_at hl 2 rfl) ?_
  refine lv_lload hx hb d_10_2_152 (lv_at hl 0 rfl) ?_
  refine lv_aload_n hx hb d_10_2_154 rfl (lv_at hl 2 rfl) ?_
  refine zget (ci := 8) (C := RX8) (T := TX8) (v := .int (iI (F 8 l0 5))) (k := 5) hx hb hts inW_8 hown hK hZ38 g37.1 g37.2 rfl (by decide) k_7_229 (congrArg (fun q : Int => Value.int (iI q)) (show (zup3 F 8 l0 6 (F 0 l1 1)) 8 l0 5 = F 8 l0 5 by simp [zup3])) d_10_2_155 ?_
  obtain ⟨g39, hf⟩ := gif hf
  refine zi2l hx hb g39 d_10_2_158 ?_
  refine zlsub hx hb d_10_2_159 ?_
  obtain ⟨r40, F40, B40, hc40, hf⟩ := gbind hf
  refine va_callv (va_runV (As := [.long (lI (l5 - (F 8 l0 5)))]) (rest := []) ⟨hx, hb, hml, hown, hts⟩ (c_SoundFile_skip (l := l) hc40) (cwV 1 hts (gdV k_8_70 k_8_72 ks_99 k_1_23 k_8_73) rfl rfl rfl (by decide +kernel) ⟨Nat.le_of_ble_eq_true rfl, Nat.le_of_ble_eq_true rfl⟩) (zPV X hZ38 hS38 (ci := 8) g37.1 g37.2 (r := (RX8, TX8, 15)) rfl [.long (lI (l5 - (F 8 l0 5)))]) rfl rfl hl.1 rfl (lv_room (Nat.le_of_ble_eq_true rfl)) d_10_2_160 ⟨Nat.le_of_ble_eq_true rfl, Nat.le_of_ble_eq_true rfl⟩) hS38 (fun q _ h => zAin X hS38 q h) (zAin X hS38) (fun u40 t40 H40 locs40 ht40 hv40 hw40 hB40 hz40 hk40 hS40 => ?_)
  have hZ40 := zBack X ht40 hB40
  refine lv_iinc (v := iI (l2 + 1)) (lv' := [(2, .int (iI (l2 + 1))), (5, .long (lI l5)), (0, .ref (ad 8 l0 0)), (1, .ref (ad 0 l1 0))]) hx hb d_10_2_163 hl (k := 1) rfl (iI_add _ 1) (by decide) rfl (fun ls hl => ?_)
  refine lv_goto (tgt := 43) hx hb d_10_2_166 (by decide) ?_
  exact hrec43 hf hZ40 hS40 (lv_sub hl [0, 2, 3] rfl)

noncomputable def f_SoundFile_load_43 (K : zK) : Nat → Int → Int → Int → zF → zB → zO
  | 0, _, _, _, _, _ => none
  | n + 1, l2, l0, l1, F, B => if r32 l2 then (if 3000 ≤ l2 then f_SoundFile_load_169 K l0 F B else if 0 ≤ l0 ∧ l0 < K.2 8 then if r32 (F 8 l0 7) then (if (F 8 l0 7) = 0 then if r32 (F 8 l0 8) then if r32 (B 8 l0 0 0) then (if (B 8 l0 0 0) ≤ (F 8 l0 8) then f_SoundFile_load_169 K l0 F B else if 0 ≤ l1 ∧ l1 < K.2 0 then zbind (f_SoundFile_takeWide K l0 4 (zup3 F 8 l0 6 (F 0 l1 1)) B) (fun r22 F22 B22 => zbind (f_SoundFile_takeWide K l0 4 F22 B22) (fun r23 F23 B23 => if r32 (F23 8 l0 5) then if r32 (F23 8 l0 7) then (if (F23 8 l0 7) = 0 then if r64 r22 then (if (zcmp r22 1297379947) = 0 then if r32 (F23 0 l1 1) then if r64 (r23 + (F23 8 l0 5)) then if r64 (F23 0 l1 1) then zbind (f_SoundFile_loadTrack K l0 (r23 + (F23 8 l0 5)) (zup3 F23 8 l0 6 (zmin (r23 + (F23 8 l0 5)) (F23 0 l1 1))) B23) (fun r34 F34 B34 => f_SoundFile_load_143 (f_SoundFile_load_43 K n) K (r23 + (F23 8 l0 5)) l2 l0 l1 (zup3 F34 8 l0 8 ((F34 8 l0 8) + 1)) B34) else none else none else none else f_SoundFile_load_143 (f_SoundFile_load_43 K n) K (r23 + (F23 8 l0 5)) l2 l0 l1 F23 B23) else none else f_SoundFile_load_143 (f_SoundFile_load_43 K n) K (r23 + (F23 8 l0 5)) l2 l0 l1 F23 B23) else none else none)) else none) else none else none else f_SoundFile_load_169 K l0 F B) else none else none) else none
set_option maxHeartbeats 4000000 in
set_option maxRecDepth 100000 in
theorem b_SoundFile_load_43 {D : va_G} {ca : Nat → ClassId} {ad : Nat → Int → Nat → Nat} {L : List Nat} {aS vS : Nat → Nat} {A : Nat → Prop} {p : Program} {l : Launch} {e : Env} {s : State} {m : MethodId} {args : Array Value} {below : List Frame} {meth : Method} {c : Code} {K : zK} {r : Int} {F9 : zF} {B9 : zB} (X : zX D ca L aS vS A p s m args meth c prog_10_method_2_code 7 (Option.some Jvm.ClassFile.FieldType.int) "StaveHouse$SoundFile") : ∀ {n : Nat} {l2 : Int} {l0 : Int} {l1 : Int} {F : zF} {B : zB} {H : Heap} {locs : List Loc} {ls : Array Slot}, f_SoundFile_load_43 K n l2 l0 l1 F B = some (r, F9, B9) → zH D ca ad lnC K.2 L F B A H → va_S A s.heap H locs → lv_has ls 7 [(2, .int (iI l2)), (0, .ref (ad 8 l0 0)), (1, .ref (ad 0 l1 0))] → W p l e ({ frames := 6, cells := 0, slots := 0, locals := 138 } : Room) s m args below meth c H locs 0 0 (MQ below (Q_SoundFile_load K D ca ad L r F9 B9 A) args s 0 0 A) (F0 m 43 ls []) := by
  obtain ⟨hx, hb, hr, hml, hown, hts, hlk, hK, hA, hL, hX⟩ := id X
  intro n
  induction n with
  | zero =>
    intros
    rename_i hf _ _ _
    cases hf
  | succ n ih =>
    intro l2 l0 l1 F B H locs ls hf hZ hS hl
    replace hf : (if r32 l2 then (if 3000 ≤ l2 then f_SoundFile_load_169 K l0 F B else if 0 ≤ l0 ∧ l0 < K.2 8 then if r32 (F 8 l0 7) then (if (F 8 l0 7) = 0 then if r32 (F 8 l0 8) then if r32 (B 8 l0 0 0) then (if (B 8 l0 0 0) ≤ (F 8 l0 8) then f_SoundFile_load_169 K l0 F B else if 0 ≤ l1 ∧ l1 < K.2 0 then zbind (f_SoundFile_takeWide K l0 4 (zup3 F 8 l0 6 (F 0 l1 1)) B) (fun r22 F22 B22 => zbind (f_SoundFile_takeWide K l0 4 F22 B22) (fun r23 F23 B23 => if r32 (F23 8 l0 5) then if r32 (F23 8 l0 7) then (if (F23 8 l0 7) = 0 then if r64 r22 then (if (zcmp r22 1297379947) = 0 then if r32 (F23 0 l1 1) then if r64 (r23 + (F23 8 l0 5)) then if r64 (F23 0 l1 1) then zbind (f_SoundFile_loadTrack K l0 (r23 + (F23 8 l0 5)) (zup3 F23 8 l0 6 (zmin (r23 + (F23 8 l0 5)) (F23 0 l1 1))) B23) (fun r34 F34 B34 => f_SoundFile_load_143 (f_SoundFile_load_43 K n) K (r23 + (F23 8 l0 5)) l2 l0 l1 (zup3 F34 8 l0 8 ((F34 8 l0 8) + 1)) B34) else none else none else none else f_SoundFile_load_143 (f_SoundFile_load_43 K n) K (r23 + (F23 8 l0 5)) l2 l0 l1 F23 B23) else none else f_SoundFile_load_143 (f_SoundFile_load_43 K n) K (r23 + (F23 8 l0 5)) l2 l0 l1 F23 B23) else none else none)) else none) else none else none else f_SoundFile_load_169 K l0 F B) else none else none) else none) = some (r, F9, B9) := hf
    refine lv_iload_n hx hb d_10_2_43 rfl (lv_at hl 0 rfl) ?_
    refine lv_sipush (v := iI 3000) hx hb d_10_2_44 (by decide) ?_
    obtain ⟨g12, hf⟩ := gif hf
    refine zge (tgt := 169) hx hb g12 (by decide) d_10_2_47 (by decide) (fun h13 => ?_) (fun h13 => ?_)
    · replace hf := gpos hf h13
      exact b_SoundFile_load_169 X hf hZ hS (lv_sub hl [1] rfl)
    · replace hf := gneg hf h13
      refine lv_aload_n hx hb d_10_2_50 rfl (lv_at hl 1 rfl) ?_
      obtain ⟨g14, hf⟩ := gif hf
      refine zget (ci := 8) (C := RX8) (T := TX8) (v := .int (iI (F 8 l0 7))) (k := 7) hx hb hts inW_8 hown hK hZ g14.1 g14.2 rfl (by decide) k_7_231 rfl d_10_2_51 ?_
      obtain ⟨g15, hf⟩ := gif hf
      refine z0ne (tgt := 169) hx hb g15 d_10_2_54 (by decide) (fun h16 => ?_) (fun h16 => ?_)
      · replace hf := gneg hf h16
        exact b_SoundFile_load_169 X hf hZ hS (lv_sub hl [1] rfl)
      · replace hf := gpos hf h16
        refine lv_aload_n hx hb d_10_2_57 rfl (lv_at hl 1 rfl) ?_
        refine zget (ci := 8) (C := RX8) (T := TX8) (v := .int (iI (F 8 l0 8))) (k := 8) hx hb hts inW_8 hown hK hZ g14.1 g14.2 rfl (by decide) k_7_232 rfl d_10_2_58 ?_
        refine lv_aload_n hx hb d_10_2_61 rfl (lv_at hl 1 rfl) ?_
        refine zget (ci := 8) (C := RX8) (T := TX8) (v := .ref (ad 8 l0 (0 + 1))) (k := 0) hx hb hts inW_8 hown hK hZ g14.1 g14.2 rfl (by decide) k_7_217 rfl d_10_2_62 ?_
        refine lv_iconst (v := iI 0) hx hb d_10_2_65 rfl ?_
        refine zald (ci := 8) (k := 0) hx hb hK rfl hZ g14.1 g14.2 rfl (Nat.le_of_ble_eq_true rfl) (by decide) (show (0 : Int) < 7 by decide) d_10_2_66 ?_
        obtain ⟨g17, hf⟩ := gif hf
        obtain ⟨g18, hf⟩ := gif hf
        refine zge (tgt := 169) hx hb g17 g18 d_10_2_67 (by decide) (fun h19 => ?_) (fun h19 => ?_)
        · replace hf := gpos hf h19
          exact b_SoundFile_load_169 X hf hZ hS (lv_sub hl [1] rfl)
        · replace hf := gneg hf h19
          refine lv_aload_n hx hb d_10_2_70 rfl (lv_at hl 1 rfl) ?_
          refine lv_aload_n hx hb d_10_2_71 rfl (lv_at hl 2 rfl) ?_
          obtain ⟨g20, hf⟩ := gif hf
          refine zget (ci := 0) (C := RX0) (T := TX0) (v := .int (iI (F 0 l1 1))) (k := 1) hx hb hts inW_0 hown hK hZ g20.1 g20.2 rfl (by decide) k_1_43 rfl d_10_2_72 ?_
          refine zput (ci := 8) (C := RX8) (T := TX8) (k := 6) (v := (F 0 l1 1)) (w := .int (iI (F 0 l1 1))) hx hb hts inW_8 tyX8 tyX8_ok nmX8 hown hK hZ hS g14.1 g14.2 rfl (by decide) k_7_230 rfl (fun G h => congrArg (fun q => Value.int (iI q)) h) rfl rfl (zno (by decide)) d_10_2_75 (fun H21 locs21 hZ21 hS21 => ?_)
          refine lv_aload_n hx hb d_10_2_78 rfl (lv_at hl 1 rfl) ?_
          refine lv_iconst (v := iI 4) hx hb d_10_2_79 rfl ?_
          obtain ⟨r22, F22, B22, hc22, hf⟩ := gbind hf
          refine va_calll (va_runV (As := [.int (iI 4)]) (rest := []) ⟨hx, hb, hml, hown, hts⟩ (c_SoundFile_takeWide (l := l) hc22) (cwV 1 hts (gdV k_8_58 k_8_60 ks_97 k_1_23 k_8_61) rfl rfl rfl (by decide +kernel) ⟨Nat.le_of_ble_eq_true rfl, Nat.le_of_ble_eq_true rfl⟩) (zPV X hZ21 hS21 (ci := 8) g14.1 g14.2 (r := (RX8, TX8, 15)) rfl [.int (iI 4)]) rfl rfl hl.1 rfl (lv_room (Nat.le_of_ble_eq_true rfl)) d_10_2_80 ⟨Nat.le_of_ble_eq_true rfl, Nat.le_of_ble_eq_true rfl⟩) hS21 (fun q _ h => zAin X hS21 q h) (zAin X hS21) (fun p22 u22 t22 H22 locs22 ht22 hv22 hw22 hB22 hz22 hk22 hS22 => ?_)
          have hZ22 := zBack X ht22 hB22
          subst hw22
          refine lv_lstore_n (lv' := [(3, .long (lI r22)), (2, .int (iI l2)), (0, .ref (ad 8 l0 0)), (1, .ref (ad 0 l1 0))]) hx hb d_10_2_83 rfl hl (by decide) rfl (fun ls hl => ?_)
          refine lv_aload_n hx hb d_10_2_84 rfl (lv_at hl 2 rfl) ?_
          refine lv_iconst (v := iI 4) hx hb d_10_2_85 rfl ?_
          obtain ⟨r23, F23, B23, hc23, hf⟩ := gbind hf
          refine va_calll (va_runV (As := [.int (iI 4)]) (rest := []) ⟨hx, hb, hml, hown, hts⟩ (c_SoundFile_takeWide (l := l) hc23) (cwV 1 hts (gdV k_8_58 k_8_60 ks_97 k_1_23 k_8_61) rfl rfl rfl (by decide +kernel) ⟨Nat.le_of_ble_eq_true rfl, Nat.le_of_ble_eq_true rfl⟩) (zPV X hZ22 hS22 (ci := 8) g14.1 g14.2 (r := (RX8, TX8, 15)) rfl [.int (iI 4)]) rfl rfl hl.1 rfl (lv_room (Nat.le_of_ble_eq_true rfl)) d_10_2_86 ⟨Nat.le_of_ble_eq_true rfl, Nat.le_of_ble_eq_true rfl⟩) hS22 (fun q _ h => zAin X hS22 q h) (zAin X hS22) (fun p23 u23 t23 H23 locs23 ht23 hv23 hw23 hB23 hz23 hk23 hS23 => ?_)
          have hZ23 := zBack X ht23 hB23
          subst hw23
          refine lv_aload_n hx hb d_10_2_89 rfl (lv_at hl 2 rfl) ?_
          refine zget (ci := 8) (C := RX8) (T := TX8) (v := .int (iI (F23 8 l0 5))) (k := 5) hx hb hts inW_8 hown hK hZ23 g14.1 g14.2 rfl (by decide) k_7_229 rfl d_10_2_90 ?_
          obtain ⟨g24, hf⟩ := gif hf
          refine zi2l hx hb g24 d_10_2_93 ?_
          refine zladd hx hb d_10_2_94 ?_
          refine lv_lstore (lv' := [(5, .long (lI (r23 + (F23 8 l0 5)))), (3, .long (lI r22)), (2, .int (iI l2)), (0, .ref (ad 8 l0 0)), (1, .ref (ad 0 l1 0))]) hx hb d_10_2_95 hl (by decide) rfl (fun ls hl => ?_)
          refine lv_aload_n hx hb d_10_2_97 rfl (lv_at hl 3 rfl) ?_
          refine zget (ci := 8) (C := RX8) (T := TX8) (v := .int (iI (F23 8 l0 7))) (k := 7) hx hb hts inW_8 hown hK hZ23 g14.1 g14.2 rfl (by decide) k_7_231 rfl d_10_2_98 ?_
          obtain ⟨g25, hf⟩ := gif hf
          refine z0ne (tgt := 143) hx hb g25 d_10_2_101 (by decide) (fun h26 => ?_) (fun h26 => ?_)
          · replace hf := gneg hf h26
            exact b_SoundFile_load_143 X ih hf hZ23 hS23 (lv_sub hl [0, 2, 3, 4] rfl)
          · replace hf := gpos hf h26
            refine lv_lload_n hx hb d_10_2_104 rfl (lv_at hl 1 rfl) ?_
            refine lv_ldc2 hx hb hown (hts _ k_8_74) d_10_2_105 ?_
            refine W.eq (g2 := F0 m 108 ls [.long (lI 1297379947), .long (lI r22)]) rfl ?_
            obtain ⟨g27, hf⟩ := gif hf
            refine zcmp_r hx hb g27 (by decide) d_10_2_108 ?_
            refine z0ne (tgt := 143) hx hb zcmp_32 d_10_2_109 (by decide) (fun h28 => ?_) (fun h28 => ?_)
            · replace hf := gneg hf h28
              exact b_SoundFile_load_143 X ih hf hZ23 hS23 (lv_sub hl [0, 2, 3, 4] rfl)
            · replace hf := gpos hf h28
              refine lv_aload_n hx hb d_10_2_112 rfl (lv_at hl 3 rfl) ?_
              refine lv_lload hx hb d_10_2_113 (lv_at hl 0 rfl) ?_
              refine lv_aload_n hx hb d_10_2_115 rfl (lv_at hl 4 rfl) ?_
              refine zget (ci := 0) (C := RX0) (T := TX0) (v := .int (iI (F23 0 l1 1))) (k := 1) hx hb hts inW_0 hown hK hZ23 g20.1 g20.2 rfl (by decide) k_1_43 rfl d_10_2_116 ?_
              obtain ⟨g29, hf⟩ := gif hf
              refine zi2l hx hb g29 d_10_2_119 ?_
              obtain ⟨g30, hf⟩ := gif hf
              obtain ⟨g31, hf⟩ := gif hf
              refine va_mmin_long hx hb (by rw [hml]; exact hl.1.symm) hown (hts _ k_8_75) (hts _ k_5_58) (hts _ k_1_3) (hts _ k_5_59) (Nat.le_of_ble_eq_true rfl) (Nat.le_of_ble_eq_true rfl) (Nat.le_of_ble_eq_true rfl) (Nat.le_of_ble_eq_true rfl) d_10_2_120 ?_
              rw [zlmin_e g30 g31]
              refine zl2iw hx hb d_10_2_123 ?_
              refine zput (ci := 8) (C := RX8) (T := TX8) (k := 6) (v := (zmin (r23 + (F23 8 l0 5)) (F23 0 l1 1))) (w := .int (iI (zmin (r23 + (F23 8 l0 5)) (F23 0 l1 1)))) hx hb hts inW_8 tyX8 tyX8_ok nmX8 hown hK hZ23 hS23 g14.1 g14.2 rfl (by decide) k_7_230 rfl (fun G h => congrArg (fun q => Value.int (iI q)) h) rfl rfl (zno (by decide)) d_10_2_124 (fun H33 locs33 hZ33 hS33 => ?_)
              refine lv_aload_n hx hb d_10_2_127 rfl (lv_at hl 3 rfl) ?_
              refine lv_lload hx hb d_10_2_128 (lv_at hl 0 rfl) ?_
              obtain ⟨r34, F34, B34, hc34, hf⟩ := gbind hf
              refine va_callv (va_runV (As := [.long (lI (r23 + (F23 8 l0 5)))]) (rest := []) ⟨hx, hb, hml, hown, hts⟩ (c_SoundFile_loadTrack (l := l) hc34) (cwV 1 hts (gdV k_8_76 k_8_78 ks_100 k_1_23 k_8_79) rfl rfl rfl (by decide +kernel) ⟨Nat.le_of_ble_eq_true rfl, Nat.le_of_ble_eq_true rfl⟩) (zPV X hZ33 hS33 (ci := 8) g14.1 g14.2 (r := (RX8, TX8, 15)) rfl [.long (lI (r23 + (F23 8 l0 5)))]) rfl rfl hl.1 rfl (lv_room (Nat.le_of_ble_eq_true rfl)) d_10_2_130 ⟨Nat.le_of_ble_eq_true rfl, Nat.le_of_ble_eq_true rfl⟩) hS33 (fun q _ h => zAin X hS33 q h) (zAin X hS33) (fun u34 t34 H34 locs34 ht34 hv34 hw34 hB34 hz34 hk34 hS34 => ?_)
              have hZ34 := zBack X ht34 hB34
              refine lv_aload_n hx hb d_10_2_133 rfl (lv_at hl 3 rfl) ?_
              refine lv_dup hx hb d_10_2_134 rfl ?_
              refine zget (ci := 8) (C := RX8) (T := TX8) (v := .int (iI (F34 8 l0 8))) (k := 8) hx hb hts inW_8 hown hK hZ34 g14.1 g14.2 rfl (by decide) k_7_232 rfl d_10_2_135 ?_
              refine lv_iconst (v := iI 1) hx hb d_10_2_138 rfl ?_
              refine zadd hx hb d_10_2_139 ?_
              refine zput (ci := 8) (C := RX8) (T := TX8) (k := 8) (v := ((F34 8 l0 8) + 1)) (w := .int (iI ((F34 8 l0 8) + 1))) hx hb hts inW_8 tyX8 tyX8_ok nmX8 hown hK hZ34 hS34 g14.1 g14.2 rfl (by decide) k_7_232 rfl (fun G h => congrArg (fun q => Value.int (iI q)) h) rfl rfl (zno (by decide)) d_10_2_140 (fun H35 locs35 hZ35 hS35 => ?_)
              exact b_SoundFile_load_143 X ih hf hZ35 hS35 (lv_sub hl [0, 2, 3, 4] rfl)

noncomputable def f_SoundFile_load (K : zK) (l0 : Int) (l1 : Int) (F : zF) (B : zB) : zO := if 0 ≤ l0 ∧ l0 < K.2 8 then if 0 ≤ l1 ∧ l1 < K.2 0 then if l1 < K.2 0 then zbind (f_SoundFile_setDefaults K l0 (zup3 (zup3 (zup3 (zup3 (zup3 F 8 l0 4 l1) 8 l0 5 0) 8 l0 6 (F 0 l1 1)) 8 l0 7 0) 8 l0 2 0) B) (fun r9 F9 B9 => zbind (f_SoundFile_loadHead K l0 F9 B9) (fun r10 F10 B10 => f_SoundFile_load_43 K K.1 0 l0 l1 (zup3 F10 8 l0 8 0) B10)) else none else none else none
