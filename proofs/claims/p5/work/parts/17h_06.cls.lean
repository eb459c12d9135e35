set_option maxHeartbeats 4000000 in
set_option maxRecDepth 100000 in
theorem c_Part_tiedPitches {l : Launch} {D : va_G} {ca : Nat → ClassId} {ad : Nat → Int → Nat → Nat} {L : List Nat} {aS vS : Nat → Nat} {sz : Nat} {K : zK}  {l0 : Int} {l1 : Int} {F F9 : zF} {B B9 : zB} {r : Int} (hf : f_Part_tiedPitches K l0 l1 F B = some (r, F9, B9)) : Met l ({ cls := "StaveHouse$Part", name := "tiedPitches", desc := "(I)I" } : Jvm.MethodName) (Cond.code ({ cls := "StaveHouse$Part", name := "tiedPitches", desc := "(I)I" } : Jvm.MethodName) prog_6_method_7_code 2 (Option.some Jvm.ClassFile.FieldType.int) :: wAll) ({ frames := 2, cells := 0, slots := 0, locals := 46 } : Room) (va_Pc [.ref (ad 4 l0 0), .int (iI l1)] (zPre D ca ad lnC K.2 L aS vS F B sz)) (Q_Part_tiedPitches K D ca ad L r F9 B9 (zA L sz)) 0 0 (zA L sz) := by
  refine zMet (Qc := Q_Part_tiedPitches K D ca ad L r F9 B9) (lv := [(0, .ref (ad 4 l0 0)), (1, .int (iI l1))]) (by decide) (Nat.le_of_ble_eq_true rfl) rfl (fun A p e s m below meth c ls X hZ hS hl => ?_)
  obtain ⟨hx, hb, hr, hml, hown, hts, hlk, hK, hA, hL, hX⟩ := id X
  replace hf : (if r32 l1 then (if l1 < 0 then f_Part_tiedPitches_27 K F B else if 0 ≤ l0 ∧ l0 < K.2 4 then if r32 (l1 + 1) then if r32 (F 4 l0 6) then (if (F 4 l0 6) ≤ (l1 + 1) then f_Part_tiedPitches_27 K F B else if 0 ≤ l1 ∧ l1 < 200 then if 0 ≤ (B 4 l0 5 l1) ∧ (B 4 l0 5 l1) < K.2 1 then zbind (f_Event_has K (B 4 l0 5 l1) 1 F B) (fun r9 F9 B9 => if r32 r9 then (if r9 = 0 then f_Part_tiedPitches_27 K F9 B9 else if 0 ≤ (l1 + 1) ∧ (l1 + 1) < 200 then if 0 ≤ (B9 4 l0 5 l1) ∧ (B9 4 l0 5 l1) < K.2 1 then if 0 ≤ (B9 4 l0 5 (l1 + 1)) ∧ (B9 4 l0 5 (l1 + 1)) < K.2 1 then zbind (f_Event_sharedWith K (B9 4 l0 5 l1) (B9 4 l0 5 (l1 + 1)) F9 B9) (fun r15 F15 B15 => some (r15, F15, B15)) else none else none else none) else none) else none else none) else none else none else none) else none) = some (r, F9, B9) := hf
  refine lv_iload_n hx hb d_6_7_0 rfl (lv_at hl 1 rfl) ?_
  obtain ⟨g1, hf⟩ := gif hf
  refine z0lt (tgt := 27) hx hb g1 d_6_7_1 (by decide) (fun h2 => ?_) (fun h2 => ?_)
  · replace hf := gpos hf h2
    exact b_Part_tiedPitches_27 X hf hZ hS (lv_sub hl [] rfl)
  · replace hf := gneg hf h2
    refine lv_iload_n hx hb d_6_7_4 rfl (lv_at hl 1 rfl) ?_
    refine lv_iconst (v := iI 1) hx hb d_6_7_5 rfl ?_
    refine zadd hx hb d_6_7_6 ?_
    refine lv_aload_n hx hb d_6_7_7 rfl (lv_at hl 0 rfl) ?_
    obtain ⟨g3, hf⟩ := gif hf
    refine zget (ci := 4) (C := RX4) (T := TX4) (v := .int (iI (F 4 l0 6))) (k := 6) hx hb hts inW_4 hown hK hZ g3.1 g3.2 rfl (by decide) k_4_135 rfl d_6_7_8 ?_
    obtain ⟨g4, hf⟩ := gif hf
    obtain ⟨g5, hf⟩ := gif hf
    refine zge (tgt := 27) hx hb g4 g5 d_6_7_11 (by decide) (fun h6 => ?_) (fun h6 => ?_)
    · replace hf := gpos hf h6
      exact b_Part_tiedPitches_27 X hf hZ hS (lv_sub hl [] rfl)
    · replace hf := gneg hf h6
      refine lv_aload_n hx hb d_6_7_14 rfl (lv_at hl 0 rfl) ?_
      refine zget (ci := 4) (C := RX4) (T := TX4) (v := .ref (ad 4 l0 (5 + 1))) (k := 5) hx hb hts inW_4 hown hK hZ g3.1 g3.2 rfl (by decide) k_4_130 rfl d_6_7_15 ?_
      refine lv_iload_n hx hb d_6_7_18 rfl (lv_at hl 1 rfl) ?_
      obtain ⟨g7, hf⟩ := gif hf
      refine zaldR (t := 1) (x := 7) (ci := 4) (k := 5) hx hb hK rfl rfl hZ g3.1 g3.2 rfl (Nat.le_of_ble_eq_true rfl) g7.1 g7.2 d_6_7_19 ?_
      refine lv_iconst (v := iI 1) hx hb d_6_7_20 rfl ?_
      obtain ⟨g8, hf⟩ := gif hf
      refine W.eq (g2 := F0 m 21 ls [.int (iI 1), .ref (ad 1 (B 4 l0 5 l1) 0)]) (by rw [zrf_pos (ad := ad) (t := 1) g8.1]; try rfl) ?_
      obtain ⟨r9, F9, B9, hc9, hf⟩ := gbind hf
      refine va_calli (va_runV (As := [.int (iI 1)]) (rest := []) ⟨hx, hb, hml, hown, hts⟩ (c_Event_has (l := l) hc9) (cwV 1 hts (gdV k_5_15 k_5_16 k_5_17 k_1_8 k_5_18) rfl rfl rfl (by decide +kernel) ⟨Nat.le_of_ble_eq_true rfl, Nat.le_of_ble_eq_true rfl⟩) (zPV X hZ hS (ci := 1) g8.1 g8.2 (r := (RX1, TX1, 14)) rfl [.int (iI 1)]) rfl rfl hl.1 rfl (lv_room (Nat.le_of_ble_eq_true rfl)) d_6_7_21 ⟨Nat.le_of_ble_eq_true rfl, Nat.le_of_ble_eq_true rfl⟩) hS (fun q _ h => zAin X hS q h) (zAin X hS) (fun p9 u9 t9 H9 locs9 ht9 hv9 hw9 hB9 hz9 hk9 hS9 => ?_)
      have hZ9 := zBack X ht9 hB9
      subst hw9
      obtain ⟨g10, hf⟩ := gif hf
      refine z0ne (tgt := 29) hx hb g10 d_6_7_24 (by decide) (fun h11 => ?_) (fun h11 => ?_)
      · replace hf := gneg hf h11
        refine lv_aload_n hx hb d_6_7_29 rfl (lv_at hl 0 rfl) ?_
        refine zget (ci := 4) (C := RX4) (T := TX4) (v := .ref (ad 4 l0 (5 + 1))) (k := 5) hx hb hts inW_4 hown hK hZ9 g3.1 g3.2 rfl (by decide) k_4_130 rfl d_6_7_30 ?_
        refine lv_iload_n hx hb d_6_7_33 rfl (lv_at hl 1 rfl) ?_
        refine zaldR (t := 1) (x := 7) (ci := 4) (k := 5) hx hb hK rfl rfl hZ9 g3.1 g3.2 rfl (Nat.le_of_ble_eq_true rfl) g7.1 g7.2 d_6_7_34 ?_
        refine lv_aload_n hx hb d_6_7_35 rfl (lv_at hl 0 rfl) ?_
        refine zget (ci := 4) (C := RX4) (T := TX4) (v := .ref (ad 4 l0 (5 + 1))) (k := 5) hx hb hts inW_4 hown hK hZ9 g3.1 g3.2 rfl (by decide) k_4_130 rfl d_6_7_36 ?_
        refine lv_iload_n hx hb d_6_7_39 rfl (lv_at hl 1 rfl) ?_
        refine lv_iconst (v := iI 1) hx hb d_6_7_40 rfl ?_
        refine zadd hx hb d_6_7_41 ?_
        obtain ⟨g12, hf⟩ := gif hf
        refine zaldR (t := 1) (x := 7) (ci := 4) (k := 5) hx hb hK rfl rfl hZ9 g3.1 g3.2 rfl (Nat.le_of_ble_eq_true rfl) g12.1 g12.2 d_6_7_42 ?_
        obtain ⟨g13, hf⟩ := gif hf
        refine W.eq (g2 := F0 m 43 ls [va_rf (zrf ad 1 (B9 4 l0 5 (l1 + 1))), .ref (ad 1 (B9 4 l0 5 l1) 0)]) (by rw [zrf_pos (ad := ad) (t := 1) g13.1]; try rfl) ?_
        obtain ⟨g14, hf⟩ := gif hf
        refine W.eq (g2 := F0 m 43 ls [.ref (ad 1 (B9 4 l0 5 (l1 + 1)) 0), .ref (ad 1 (B9 4 l0 5 l1) 0)]) (by rw [zrf_pos (ad := ad) (t := 1) g14.1]; try rfl) ?_
        obtain ⟨r15, F15, B15, hc15, hf⟩ := gbind hf
        refine va_calli (va_runV (As := [.ref (ad 1 (B9 4 l0 5 (l1 + 1)) 0)]) (rest := []) ⟨hx, hb, hml, hown, hts⟩ (c_Event_sharedWith (l := l) hc15) (cwV 1 hts (gdV k_5_41 k_5_42 k_5_43 k_1_8 k_5_44) rfl rfl rfl (by decide +kernel) ⟨Nat.le_of_ble_eq_true rfl, Nat.le_of_ble_eq_true rfl⟩) (zPV X hZ9 hS9 (ci := 1) g13.1 g13.2 (r := (RX1, TX1, 14)) rfl [.ref (ad 1 (B9 4 l0 5 (l1 + 1)) 0)]) rfl rfl hl.1 rfl (lv_room (Nat.le_of_ble_eq_true rfl)) d_6_7_43 ⟨Nat.le_of_ble_eq_true rfl, Nat.le_of_ble_eq_true rfl⟩) hS9 (fun q _ h => zAin X hS9 q h) (zAin X hS9) (fun p15 u15 t15 H15 locs15 ht15 hv15 hw15 hB15 hz15 hk15 hS15 => ?_)
        have hZ15 := zBack X ht15 hB15
        subst hw15
        cases hf
        exact W.iret hx hb hr (fun t ht hW => ⟨⟨_, (), rfl, rfl, by rw [ht]; exact hZ15, va_K.moved hW.alike hK⟩, hS15.F ht⟩) hS15.2.2 d_6_7_46 hlk
      · replace hf := gpos hf h11
        exact b_Part_tiedPitches_27 X hf hZ9 hS9 (lv_sub hl [] rfl)

noncomputable abbrev Q_Part_writeTuplet (K : zK) (D : va_G) (ca : Nat → ClassId) (ad : Nat → Int → Nat → Nat) (L : List Nat) (r : Int) (F : zF) (B : zB) (A : Nat → Prop) : Array Value → State → Outcome → State → Prop := va_Qv (S := Unit) (fun _ => True) (fun _ => zPo D ca ad lnC K.2 L F B A) A
noncomputable def f_Part_writeTuplet_109 (K : zK)  (F : zF) (B : zB) : zO := some (0, F, B)
set_option maxHeartbeats 4000000 in
set_option maxRecDepth 100000 in
theorem b_Part_writeTuplet_109 {D : va_G} {ca : Nat → ClassId} {ad : Nat → Int → Nat → Nat} {L : List Nat} {aS vS : Nat → Nat} {A : Nat → Prop} {p : Program} {l : Launch} {e : Env} {s : State} {m : MethodId} {args : Array Value} {below : List Frame} {meth : Method} {c : Code} {K : zK} {r : Int} {F9 : zF} {B9 : zB} (X : zX D ca L aS vS A p s m args meth c prog_6_method_12_code 11 (Option.none : Option Jvm.ClassFile.FieldType) "StaveHouse$Part")  {F : zF} {B : zB} {H : Heap} {locs : List Loc} {ls : Array Slot} (hf : f_Part_writeTuplet_109 K  F B = some (r, F9, B9)) (hZ : zH D ca ad lnC K.2 L F B A H) (hS : va_S A s.heap H locs) (hl : lv_has ls 11 []) : W p l e ({ frames := 2, cells := 0, slots := 0, locals := 41 } : Room) s m args below meth c H locs 0 0 (MQ below (Q_Part_writeTuplet K D ca ad L r F9 B9 A) args s 0 0 A) (F0 m 109 ls []) := by
  obtain ⟨hx, hb, hr, hml, hown, hts, hlk, hK, hA, hL, hX⟩ := id X
  replace hf : (some (0, F, B)) = some (r, F9, B9) := hf
  cases hf
  exact W.vret hx hb hr (fun t ht hW => ⟨⟨(), rfl, trivial, by rw [ht]; exact hZ, va_K.moved hW.alike hK⟩, hS.F ht⟩) hS.2.2 d_6_12_109 hlk

noncomputable def f_Part_writeTuplet_23 (K : zK) : Nat → Int → Int → Int → Int → Int → Int → Int → zF → zB → zO
  | 0, _, _, _, _, _, _, _, _, _ => none
  | n + 1, l9, l8, l6, l5, l0, l1, l2, F, B => if r32 l9 then (if 800 ≤ l9 then f_Part_writeTuplet_109 K F B else if r32 l8 then (if l8 ≤ 0 then f_Part_writeTuplet_109 K F B else if 0 ≤ l0 ∧ l0 < K.2 4 then if r32 (F 4 l0 11) then (if (F 4 l0 11) = 0 then zbind (f_S_greatestValue K l8 F B) (fun r11 F11 B11 => zbind (f_Part_addNote K l0 l1 l2 l6 r11 F11 B11) (fun r12 F12 B12 => zbind (f_S_fineValue K r11 F12 B12) (fun r13 F13 B13 => zbind (f_S_fineValue K r11 F13 B13) (fun r14 F14 B14 => if r32 r14 then if 0 ≤ l5 ∧ l5 < K.2 1 then if r32 (F14 1 l5 3) then if r32 (zmax (F14 1 l5 3) 1) then if ¬ lI (zmax (F14 1 l5 3) 1) = 0 then if r32 (F14 1 l5 4) then f_Part_writeTuplet_23 K n (l9 + 1) (l8 - r13) (l6 + ((zldv (1587600 * r14) (zmax (F14 1 l5 3) 1)) * (F14 1 l5 4))) l5 l0 l1 l2 F14 B14 else none else none else none else none else none else none)))) else f_Part_writeTuplet_109 K F B) else none else none) else none) else none
set_option maxHeartbeats 4000000 in
set_option maxRecDepth 100000 in
theorem b_Part_writeTuplet_23 {D : va_G} {ca : Nat → ClassId} {ad : Nat → Int → Nat → Nat} {L : List Nat} {aS vS : Nat → Nat} {A : Nat → Prop} {p : Program} {l : Launch} {e : Env} {s : State} {m : MethodId} {args : Array Value} {below : List Frame} {meth : Method} {c : Code} {K : zK} {r : Int} {F9 : zF} {B9 : zB} (X : zX D ca L aS vS A p s m args meth c prog_6_method_12_code 11 (Option.none : Option Jvm.ClassFile.FieldType) "StaveHouse$Part") : ∀ {n : Nat} {l9 : Int} {l8 : Int} {l6 : Int} {l5 : Int} {l0 : Int} {l1 : Int} {l2 : Int} {F : zF} {B : zB} {H : Heap} {locs : List Loc} {ls : Array Slot}, f_Part_writeTuplet_23 K n l9 l8 l6 l5 l0 l1 l2 F B = some (r, F9, B9) → zH D ca ad lnC K.2 L F B A H → va_S A s.heap H locs → lv_has ls 11 [(9, .int (iI l9)), (8, .int (iI l8)), (6, .long (lI l6)), (5, va_rf (zrf ad 1 l5)), (0, .ref (ad 4 l0 0)), (1, .int (iI l1)), (2, .int (iI l2))] → W p l e ({ frames := 2, cells := 0, slots := 0, locals := 41 } : Room) s m args below meth c H locs 0 0 (MQ below (Q_Part_writeTuplet K D ca ad L r F9 B9 A) args s 0 0 A) (F0 m 23 ls []) := by
  obtain ⟨hx, hb, hr, hml, hown, hts, hlk, hK, hA, hL, hX⟩ := id X
  intro n
  induction n with
  | zero =>
    intros
    rename_i hf _ _ _
    cases hf
  | succ n ih =>
    intro l9 l8 l6 l5 l0 l1 l2 F B H locs ls hf hZ hS hl
    replace hf : (if r32 l9 then (if 800 ≤ l9 then f_Part_writeTuplet_109 K F B else if r32 l8 then (if l8 ≤ 0 then f_Part_writeTuplet_109 K F B else if 0 ≤ l0 ∧ l0 < K.2 4 then if r32 (F 4 l0 11) then (if (F 4 l0 11) = 0 then zbind (f_S_greatestValue K l8 F B) (fun r11 F11 B11 => zbind (f_Part_addNote K l0 l1 l2 l6 r11 F11 B11) (fun r12 F12 B12 => zbind (f_S_fineValue K r11 F12 B12) (fun r13 F13 B13 => zbind (f_S_fineValue K r11 F13 B13) (fun r14 F14 B14 => if r32 r14 then if 0 ≤ l5 ∧ l5 < K.2 1 then if r32 (F14 1 l5 3) then if r32 (zmax (F14 1 l5 3) 1) then if ¬ lI (zmax (F14 1 l5 3) 1) = 0 then if r32 (F14 1 l5 4) then f_Part_writeTuplet_23 K n (l9 + 1) (l8 - r13) (l6 + ((zldv (1587600 * r14) (zmax (F14 1 l5 3) 1)) * (F14 1 l5 4))) l5 l0 l1 l2 F14 B14 else none else none else none else none else none else none)))) else f_Part_writeTuplet_109 K F B) else none else none) else none) else none) = some (r, F9, B9) := hf
    refine lv_iload hx hb d_6_12_23 (lv_at hl 0 rfl) ?_
    refine lv_sipush (v := iI 800) hx hb d_6_12_25 (by decide) ?_
    obtain ⟨g4, hf⟩ := gif hf
    refine zge (tgt := 109) hx hb g4 (by decide) d_6_12_28 (by decide) (fun h5 => ?_) (fun h5 => ?_)
    · replace hf := gpos hf h5
      exact b_Part_writeTuplet_109 X hf hZ hS (lv_sub hl [] rfl)
    · replace hf := gneg hf h5
      refine lv_iload hx hb d_6_12_31 (lv_at hl 1 rfl) ?_
      obtain ⟨g6, hf⟩ := gif hf
      refine z0le (tgt := 109) hx hb g6 d_6_12_33 (by decide) (fun h7 => ?_) (fun h7 => ?_)
      · replace hf := gpos hf h7
        exact b_Part_writeTuplet_109 X hf hZ hS (lv_sub hl [] rfl)
      · replace hf := gneg hf h7
        refine lv_aload_n hx hb d_6_12_36 rfl (lv_at hl 4 rfl) ?_
        obtain ⟨g8, hf⟩ := gif hf
        refine zget (ci := 4) (C := RX4) (T := TX4) (v := .int (iI (F 4 l0 11))) (k := 11) hx hb hts inW_4 hown hK hZ g8.1 g8.2 rfl (by decide) k_4_151 rfl d_6_12_37 ?_
        obtain ⟨g9, hf⟩ := gif hf
        refine z0ne (tgt := 109) hx hb g9 d_6_12_40 (by decide) (fun h10 => ?_) (fun h10 => ?_)
        · replace hf := gneg hf h10
          exact b_Part_writeTuplet_109 X hf hZ hS (lv_sub hl [] rfl)
        · replace hf := gpos hf h10
          refine lv_iload hx hb d_6_12_43 (lv_at hl 1 rfl) ?_
          obtain ⟨r11, F11, B11, hc11, hf⟩ := gbind hf
          refine va_calli (va_runSN (As := [.int (iI l8)]) (rest := []) ⟨hx, hb, hml, hown, hts⟩ (c_S_greatestValue (l := l) hc11) ⟨va_cnB 1 hts (gdC k_5_66) rfl rfl rfl (hX.1 _ (List.mem_of_getElem? (i := 14) rfl)) (hts _ k_1_1) (by decide +kernel) ⟨Nat.le_of_ble_eq_true rfl, Nat.le_of_ble_eq_true rfl⟩, hts _ k_5_65, trivial⟩ (zPS X hZ hS [.int (iI l8)]) rfl rfl hl.1 rfl (lv_room (Nat.le_of_ble_eq_true rfl)) d_6_12_45 ⟨Nat.le_of_ble_eq_true rfl, Nat.le_of_ble_eq_true rfl⟩) hS (fun q _ h => zAin X hS q h) (zAin X hS) (fun p11 u11 t11 H11 locs11 ht11 hv11 hw11 hB11 hz11 hk11 hS11 => ?_)
          have hZ11 := zBack X ht11 hB11
          subst hw11
          refine lv_istore (lv' := [(10, .int (iI r11)), (9, .int (iI l9)), (8, .int (iI l8)), (6, .long (lI l6)), (5, va_rf (zrf ad 1 l5)), (0, .ref (ad 4 l0 0)), (1, .int (iI l1)), (2, .int (iI l2))]) hx hb d_6_12_48 hl (by decide) rfl (fun ls hl => ?_)
          refine lv_aload_n hx hb d_6_12_50 rfl (lv_at hl 5 rfl) ?_
          refine lv_iload_n hx hb d_6_12_51 rfl (lv_at hl 6 rfl) ?_
          refine lv_iload_n hx hb d_6_12_52 rfl (lv_at hl 7 rfl) ?_
          refine lv_lload hx hb d_6_12_53 (lv_at hl 3 rfl) ?_
          refine lv_iload hx hb d_6_12_55 (lv_at hl 0 rfl) ?_
          obtain ⟨r12, F12, B12, hc12, hf⟩ := gbind hf
          refine va_callv (va_runV (As := [.int (iI l1), .int (iI l2), .long (lI l6), .int (iI r11)]) (rest := []) ⟨hx, hb, hml, hown, hts⟩ (c_Part_addNote (l := l) hc12) (cwV 4 hts (gdV k_5_71 k_5_73 ks_51 k_1_18 k_5_74) rfl rfl rfl (by decide +kernel) ⟨Nat.le_of_ble_eq_true rfl, Nat.le_of_ble_eq_true rfl⟩) (zPV X hZ11 hS11 (ci := 4) g8.1 g8.2 (r := (RX4, TX4, 13)) rfl [.int (iI l1), .int (iI l2), .long (lI l6), .int (iI r11)]) rfl rfl hl.1 rfl (lv_room (Nat.le_of_ble_eq_true rfl)) d_6_12_57 ⟨Nat.le_of_ble_eq_true rfl, Nat.le_of_ble_eq_true rfl⟩) hS11 (fun q _ h => zAin X hS11 q h) (zAin X hS11) (fun u12 t12 H12 locs12 ht12 hv12 hw12 hB12 hz12 hk12 hS12 => ?_)
          have hZ12 := zBack X ht12 hB12
          refine lv_iload hx hb d_6_12_60 (lv_at hl 2 rfl) ?_
          refine lv_iload hx hb d_6_12_62 (lv_at hl 0 rfl) ?_
          obtain ⟨r13, F13, B13, hc13, hf⟩ := gbind hf
          refine va_calli (va_runSN (As := [.int (iI r11)]) (rest := [.int (iI l8)]) ⟨hx, hb, hml, hown, hts⟩ (c_S_fineValue (l := l) hc13) ⟨va_cnB 1 hts (gdC k_5_69) rfl rfl rfl (hX.1 _ (List.mem_of_getElem? (i := 15) rfl)) (hts _ k_1_1) (by decide +kernel) ⟨Nat.le_of_ble_eq_true rfl, Nat.le_of_ble_eq_true rfl⟩, hts _ k_5_68, trivial⟩ (zPS X hZ12 hS12 [.int (iI r11)]) rfl rfl hl.1 rfl (lv_room (Nat.le_of_ble_eq_true rfl)) d_6_12_64 ⟨Nat.le_of_ble_eq_true rfl, Nat.le_of_ble_eq_true rfl⟩) hS12 (fun q _ h => zAin X hS12 q h) (zAin X hS12) (fun p13 u13 t13 H13 locs13 ht13 hv13 hw13 hB13 hz13 hk13 hS13 => ?_)
          have hZ13 := zBack X ht13 hB13
          subst hw13
          refine zsub hx hb d_6_12_67 ?_
          refine lv_istore (lv' := [(8, .int (iI (l8 - r13))), (10, .int (iI r11)), (9, .int (iI l9)), (6, .long (lI l6)), (5, va_rf (zrf ad 1 l5)), (0, .ref (ad 4 l0 0)), (1, .int (iI l1)), (2, .int (iI l2))]) hx hb d_6_12_68 hl (by decide) rfl (fun ls hl => ?_)
          refine lv_lload hx hb d_6_12_70 (lv_at hl 3 rfl) ?_
          refine lv_ldc2 hx hb hown (hts _ k_5_76) d_6_12_72 ?_
          refine W.eq (g2 := F0 m 75 ls [.long (lI 1587600), .long (lI l6)]) rfl ?_
          refine lv_iload hx hb d_6_12_75 (lv_at hl 1 rfl) ?_
          obtain ⟨r14, F14, B14, hc14, hf⟩ := gbind hf
          refine va_calli (va_runSN (As := [.int (iI r11)]) (rest := [.long (lI 1587600), .long (lI l6)]) ⟨hx, hb, hml, hown, hts⟩ (c_S_fineValue (l := l) hc14) ⟨va_cnB 1 hts (gdC k_5_69) rfl rfl rfl (hX.1 _ (List.mem_of_getElem? (i := 15) rfl)) (hts _ k_1_1) (by decide +kernel) ⟨Nat.le_of_ble_eq_true rfl, Nat.le_of_ble_eq_true rfl⟩, hts _ k_5_68, trivial⟩ (zPS X hZ13 hS13 [.int (iI r11)]) rfl rfl hl.1 rfl (lv_room (Nat.le_of_ble_eq_true rfl)) d_6_12_77 ⟨Nat.le_of_ble_eq_true rfl, Nat.le_of_ble_eq_true rfl⟩) hS13 (fun q _ h => zAin X hS13 q h) (zAin X hS13) (fun p14 u14 t14 H14 locs14 ht14 hv14 hw14 hB14 hz14 hk14 hS14 => ?_)
          have hZ14 := zBack X ht14 hB14
          subst hw14
          obtain ⟨g15, hf⟩ := gif hf
          refine zi2l hx hb g15 d_6_12_80 ?_
          refine zlmul hx hb d_6_12_81 ?_
          refine zaload hx hb d_6_12_82 (lv_at hl 4 rfl) ?_
          obtain ⟨g16, hf⟩ := gif hf
          refine zunrf g16.1 ?_
          refine zget (ci := 1) (C := RX1) (T := TX1) (v := .int (iI (F14 1 l5 3))) (k := 3) hx hb hts inW_1 hown hK hZ14 g16.1 g16.2 rfl (by decide) k_2_30 rfl d_6_12_84 ?_
          refine lv_iconst (v := iI 1) hx hb d_6_12_87 rfl ?_
          obtain ⟨g17, hf⟩ := gif hf
          refine va_mmax hx hb (by rw [hml]; exact hl.1.symm) hown (hts _ k_5_77) (hts _ k_1_39) (hts _ k_1_3) (hts _ k_1_40) (Nat.le_of_ble_eq_true rfl) (Nat.le_of_ble_eq_true rfl) (Nat.le_of_ble_eq_true rfl) (Nat.le_of_ble_eq_true rfl) d_6_12_88 ?_
          rw [zmax_e g17 (by decide)]
          obtain ⟨g18, hf⟩ := gif hf
          refine zi2l hx hb g18 d_6_12_91 ?_
          obtain ⟨g19, hf⟩ := gif hf
          refine zldv_r hx hb g19 d_6_12_92 ?_
          refine zaload hx hb d_6_12_93 (lv_at hl 4 rfl) ?_
          refine zunrf g16.1 ?_
          refine zget (ci := 1) (C := RX1) (T := TX1) (v := .int (iI (F14 1 l5 4))) (k := 4) hx hb hts inW_1 hown hK hZ14 g16.1 g16.2 rfl (by decide) k_2_32 rfl d_6_12_95 ?_
          obtain ⟨g20, hf⟩ := gif hf
          refine zi2l hx hb g20 d_6_12_98 ?_
          refine zlmul hx hb d_6_12_99 ?_
          refine zladd hx hb d_6_12_100 ?_
          refine lv_lstore (lv' := [(6, .long (lI (l6 + ((zldv (1587600 * r14) (zmax (F14 1 l5 3) 1)) * (F14 1 l5 4))))), (8, .int (iI (l8 - r13))), (10, .int (iI r11)), (9, .int (iI l9)), (5, va_rf (zrf ad 1 l5)), (0, .ref (ad 4 l0 0)), (1, .int (iI l1)), (2, .int (iI l2))]) hx hb d_6_12_101 hl (by decide) (by cases zrf ad 1 l5 <;> rfl) (fun ls hl => ?_)
          refine lv_iinc (v := iI (l9 + 1)) (lv' := [(9, .int (iI (l9 + 1))), (6, .long (lI (l6 + ((zldv (1587600 * r14) (zmax (F14 1 l5 3) 1)) * (F14 1 l5 4))))), (8, .int (iI (l8 - r13))), (10, .int (iI r11)), (5, va_rf (zrf ad 1 l5)), (0, .ref (ad 4 l0 0)), (1, .int (iI l1)), (2, .int (iI l2))]) hx hb d_6_12_103 hl (k := 3) rfl (iI_add _ 1) (by decide) rfl (fun ls hl => ?_)
          refine lv_goto (tgt := 23) hx hb d_6_12_106 (by decide) ?_
          exact ih hf hZ14 hS14 (lv_sub hl [0, 2, 1, 4, 5, 6, 7] rfl)

noncomputable def f_Part_writeTuplet (K : zK) (l0 : Int) (l1 : Int) (l2 : Int) (l3 : Int) (F : zF) (B : zB) : zO := if 0 ≤ l0 ∧ l0 < K.2 4 then if 0 ≤ l1 ∧ l1 < 200 then if 0 ≤ (B 4 l0 5 l1) ∧ (B 4 l0 5 l1) < K.2 1 then f_Part_writeTuplet_23 K K.1 0 ((F 1 (B 4 l0 5 l1) 2) * 4) l3 (B 4 l0 5 l1) l0 l1 l2 F B else none else none else none
set_option maxHeartbeats 4000000 in
set_option maxRecDepth 100000 in
theorem c_Part_writeTuplet {l : Launch} {D : va_G} {ca : Nat → ClassId} {ad : Nat → Int → Nat → Nat} {L : List Nat} {aS vS : Nat → Nat} {sz : Nat} {K : zK}  {l0 : Int} {l1 : Int} {l2 : Int} {l3 : Int} {F F9 : zF} {B B9 : zB} {r : Int} (hf : f_Part_writeTuplet K l0 l1 l2 l3 F B = some (r, F9, B9)) : Met l ({ cls := "StaveHouse$Part", name := "writeTuplet", desc := "(IIJ)V" } : Jvm.MethodName) (Cond.code ({ cls := "StaveHouse$Part", name := "writeTuplet", desc := "(IIJ)V" } : Jvm.MethodName) prog_6_method_12_code 11 (Option.none : Option Jvm.ClassFile.FieldType) :: wAll) ({ frames := 2, cells := 0, slots := 0, locals := 41 } : Room) (va_Pc [.ref (ad 4 l0 0), .int (iI l1), .int (iI l2), .long (lI l3)] (zPre D ca ad lnC K.2 L aS vS F B sz)) (Q_Part_writeTuplet K D ca ad L r F9 B9 (zA L sz)) 0 0 (zA L sz) := by
  refine zMet (Qc := Q_Part_writeTuplet K D ca ad L r F9 B9) (lv := [(0, .ref (ad 4 l0 0)), (1, .int (iI l1)), (2, .int (iI l2)), (3, .long (lI l3))]) (by decide) (Nat.le_of_ble_eq_true rfl) rfl (fun A p e s m below meth c ls X hZ hS hl => ?_)
  obtain ⟨hx, hb, hr, hml, hown, hts, hlk, hK, hA, hL, hX⟩ := id X
  replace hf : (if 0 ≤ l0 ∧ l0 < K.2 4 then if 0 ≤ l1 ∧ l1 < 200 then if 0 ≤ (B 4 l0 5 l1) ∧ (B 4 l0 5 l1) < K.2 1 then f_Part_writeTuplet_23 K K.1 0 ((F 1 (B 4 l0 5 l1) 2) * 4) l3 (B 4 l0 5 l1) l0 l1 l2 F B else none else none else none) = some (r, F9, B9) := hf
  refine lv_aload_n hx hb d_6_12_0 rfl (lv_at hl 0 rfl) ?_
  obtain ⟨g1, hf⟩ := gif hf
  refine zget (ci := 4) (C := RX4) (T := TX4) (v := .ref (ad 4 l0 (5 + 1))) (k := 5) hx hb hts inW_4 hown hK hZ g1.1 g1.2 rfl (by decide) k_4_130 rfl d_6_12_1 ?_
  refine lv_iload_n hx hb d_6_12_4 rfl (lv_at hl 1 rfl) ?_
  obtain ⟨g2, hf⟩ := gif hf
  refine zaldR (t := 1) (x := 7) (ci := 4) (k := 5) hx hb hK rfl rfl hZ g1.1 g1.2 rfl (Nat.le_of_ble_eq_true rfl) g2.1 g2.2 d_6_12_5 ?_
  refine zastore (lv' := [(0, .ref (ad 4 l0 0)), (1, .int (iI l1)), (2, .int (iI l2)), (3, .long (lI l3))]) hx hb d_6_12_6 hl (by decide) (fun _ _ => rfl) (fun ls hl => ?_)
  refine lv_lload_n hx hb d_6_12_8 rfl (lv_at hl 4 rfl) ?_
  refine lv_lstore (lv' := [(6, .long (lI l3)), (5, va_rf (zrf ad 1 (B 4 l0 5 l1))), (0, .ref (ad 4 l0 0)), (1, .int (iI l1)), (2, .int (iI l2)), (3, .long (lI l3))]) hx hb d_6_12_9 hl (by decide) (by cases zrf ad 1 (B 4 l0 5 l1) <;> rfl) (fun ls hl => ?_)
  refine zaload hx hb d_6_12_11 (lv_at hl 1 rfl) ?_
  obtain ⟨g3, hf⟩ := gif hf
  refine zunrf g3.1 ?_
  refine zget (ci := 1) (C := RX1) (T := TX1) (v := .int (iI (F 1 (B 4 l0 5 l1) 2))) (k := 2) hx hb hts inW_1 hown hK hZ g3.1 g3.2 rfl (by decide) k_2_28 rfl d_6_12_13 ?_
  refine lv_iconst (v := iI 4) hx hb d_6_12_16 rfl ?_
  refine zmul hx hb d_6_12_17 ?_
  refine lv_istore (lv' := [(8, .int (iI ((F 1 (B 4 l0 5 l1) 2) * 4))), (6, .long (lI l3)), (5, va_rf (zrf ad 1 (B 4 l0 5 l1))), (0, .ref (ad 4 l0 0)), (1, .int (iI l1)), (2, .int (iI l2)), (3, .long (lI l3))]) hx hb d_6_12_18 hl (by decide) rfl (fun ls hl => ?_)
  refine lv_iconst (v := iI 0) hx hb d_6_12_20 rfl ?_
  refine lv_istore (lv' := [(9, .int (iI 0)), (8, .int (iI ((F 1 (B 4 l0 5 l1) 2) * 4))), (6, .long (lI l3)), (5, va_rf (zrf ad 1 (B 4 l0 5 l1))), (0, .ref (ad 4 l0 0)), (1, .int (iI l1)), (2, .int (iI l2)), (3, .long (lI l3))]) hx hb d_6_12_21 hl (by decide) rfl (fun ls hl => ?_)
  exact b_Part_writeTuplet_23 X hf hZ hS (lv_sub hl [0, 1, 2, 3, 4, 5, 6] rfl)

noncomputable abbrev Q_Part_writeCut (K : zK) (D : va_G) (ca : Nat → ClassId) (ad : Nat → Int → Nat → Nat) (L : List Nat) (r : Int) (F : zF) (B : zB) (A : Nat → Prop) : Array Value → State → Outcome → State → Prop := va_Qv (S := Unit) (fun _ => True) (fun _ => zPo D ca ad lnC K.2 L F B A) A
noncomputable def f_Part_writeCut_121 (K : zK)  (F : zF) (B : zB) : zO := some (0, F, B)
set_option maxHeartbeats 4000000 in
set_option maxRecDepth 100000 in
theorem b_Part_writeCut_121 {D : va_G} {ca : Nat → ClassId} {ad : Nat → Int → Nat → Nat} {L : List Nat} {aS vS : Nat → Nat} {A : Nat → Prop} {p : Program} {l : Launch} {e : Env} {s : State} {m : MethodId} {args : Array Value} {below : List Frame} {meth : Method} {c : Code} {K : zK} {r : Int} {F9 : zF} {B9 : zB} (X : zX D ca L aS vS A p s m args meth c prog_6_method_11_code 16 (Option.none : Option Jvm.ClassFile.FieldType) "StaveHouse$Part")  {F : zF} {B : zB} {H : Heap} {locs : List Loc} {ls : Array Slot} (hf : f_Part_writeCut_121 K  F B = some (r, F9, B9)) (hZ : zH D ca ad lnC K.2 L F B A H) (hS : va_S A s.heap H locs) (hl : lv_has ls 16 []) : W p l e ({ frames := 3, cells := 0, slots := 0, locals := 71 } : Room) s m args below meth c H locs 0 0 (MQ below (Q_Part_writeCut K D ca ad L r F9 B9 A) args s 0 0 A) (F0 m 121 ls []) := by
  obtain ⟨hx, hb, hr, hml, hown, hts, hlk, hK, hA, hL, hX⟩ := id X
  replace hf : (some (0, F, B)) = some (r, F9, B9) := hf
  cases hf
  exact W.vret hx hb hr (fun t ht hW => ⟨⟨(), rfl, trivial, by rw [ht]; exact hZ, va_K.moved hW.alike hK⟩, hS.F ht⟩) hS.2.2 d_6_11_121 hlk

noncomputable def f_Part_writeCut_43 (K : zK) : Nat → Int → Int → Int → Int → Int → Int → Int → Int → zF → zB → zO
  | 0, _, _, _, _, _, _, _, _, _, _ => none
  | n + 1, l14, l13, l12, l11, l7, l0, l1, l2, F, B => if r32 l14 then (if 800 ≤ l14 then f_Part_writeCut_121 K F B else if r32 l13 then (if l13 ≤ 0 then f_Part_writeCut_121 K F B else if 0 ≤ l0 ∧ l0 < K.2 4 then if r32 (F 4 l0 11) then (if (F 4 l0 11) = 0 then if 0 ≤ l1 ∧ l1 < K.2 6 then zbind (f_S_nextValue K (F 6 l1 4) (F 6 l1 5) l12 l13 F B) (fun r13 F13 B13 => if r32 l12 then zbind (f_Part_addNote K l0 l2 l11 (l12 * l7) r13 F13 B13) (fun r15 F15 B15 => zbind (f_S_fineValue K r13 F15 B15) (fun r16 F16 B16 => zbind (f_S_fineValue K r13 F16 B16) (fun r17 F17 B17 => f_Part_writeCut_43 K n (l14 + 1) (l13 - r17) (l12 + r16) l11 l7 l0 l1 l2 F17 B17))) else none) else none else f_Part_writeCut_121 K F B) else none else none) else none) else none
set_option maxHeartbeats 4000000 in
set_option maxRecDepth 100000 in
theorem b_Part_writeCut_43 {D : va_G} {ca : Nat → ClassId} {ad : Nat → Int → Nat → Nat} {L : List Nat} {aS vS : Nat → Nat} {A : Nat → Prop} {p : Program} {l : Launch} {e : Env} {s : State} {m : MethodId} {args : Array Value} {below : List Frame} {meth : Method} {c : Code} {K : zK} {r : Int} {F9 : zF} {B9 : zB} (X : zX D ca L aS vS A p s m args meth c prog_6_method_11_code 16 (Option.none : Option Jvm.ClassFile.FieldType) "StaveHouse$Part") : ∀ {n : Nat} {l14 : Int} {l13 : Int} {l12 : Int} {l11 : Int} {l7 : Int} {l0 : Int} {l1 : Int} {l2 : Int} {F : zF} {B : zB} {H : Heap} {locs : List Loc} {ls : Array Slot}, f_Part_writeCut_43 K n l14 l13 l12 l11 l7 l0 l1 l2 F B = some (r, F9, B9) → zH D ca ad lnC K.2 L F B A H → va_S A s.heap H locs → lv_has ls 16 [(14, .int (iI l14)), (13, .int (iI l13)), (12, .int (iI l12)), (11, .int (iI l11)), (7, .long (lI l7)), (0, .ref (ad 4 l0 0)), (1, .ref (ad 6 l1 0)), (2, .int (iI l2))] → W p l e ({ frames := 3, cells := 0, slots := 0, locals := 71 } : Room) s m args below meth c H locs 0 0 (MQ below (Q_Part_writeCut K D ca ad L r F9 B9 A) args s 0 0 A) (F0 m 43 ls []) := by
  obtain ⟨hx, hb, hr, hml, hown, hts, hlk, hK, hA, hL, hX⟩ := id X
  intro n
  induction n with
  | zero =>
    intros
    rename_i hf _ _ _
    cases hf
  | succ n ih =>
    intro l14 l13 l12 l11 l7 l0 l1 l2 F B H locs ls hf hZ hS hl
    replace hf : (if r32 l14 then (if 800 ≤ l14 then f_Part_writeCut_121 K F B else if r32 l13 then (if l13 ≤ 0 then f_Part_writeCut_121 K F B else if 0 ≤ l0 ∧ l0 < K.2 4 then if r32 (F 4 l0 11) then (if (F 4 l0 11) = 0 then if 0 ≤ l1 ∧ l1 < K.2 6 then zbind (f_S_nextValue K (F 6 l1 4) (F 6 l1 5) l12 l13 F B) (fun r13 F13 B13 => if r32 l12 then zbind (f_Part_addNote K l0 l2 l11 (l12 * l7) r13 F13 B13) (fun r15 F15 B15 => zbind (f_S_fineValue K r13 F15 B15) (fun r16 F16 B16 => zbind (f_S_fineValue K r13 F16 B16) (fun r17 F17 B17 => f_Part_writeCut_43 K n (l14 + 1) (l13 - r17) (l12 + r16) l11 l7 l0 l1 l2 F17 B17))) else none) else none else f_Part_writeCut_121 K F B) else none else none) else none) else none) = some (r, F9, B9) := hf
    refine lv_iload hx hb d_6_11_43 (lv_at hl 0 rfl) ?_
    refine lv_sipush (v := iI 800) hx hb d_6_11_45 (by decide) ?_
    obtain ⟨g5, hf⟩ := gif hf
    refine zge (tgt := 121) hx hb g5 (by decide) d_6_11_48 (by decide) (fun h6 => ?_) (fun h6 => ?_)
    · replace hf := gpos hf h6
      exact b_Part_writeCut_121 X hf hZ hS (lv_sub hl [] rfl)
    · replace hf := gneg hf h6
      refine lv_iload hx hb d_6_11_51 (lv_at hl 1 rfl) ?_
      obtain ⟨g7, hf⟩ := gif hf
      refine z0le (tgt := 121) hx hb g7 d_6_11_53 (by decide) (fun h8 => ?_) (fun h8 => ?_)
      · replace hf := gpos hf h8
        exact b_Part_writeCut_121 X hf hZ hS (lv_sub hl [] rfl)
      · replace hf := gneg hf h8
        refine lv_aload_n hx hb d_6_11_56 rfl (lv_at hl 5 rfl) ?_
        obtain ⟨g9, hf⟩ := gif hf
        refine zget (ci := 4) (C := RX4) (T := TX4) (v := .int (iI (F 4 l0 11))) (k := 11) hx hb hts inW_4 hown hK hZ g9.1 g9.2 rfl (by decide) k_4_151 rfl d_6_11_57 ?_
        obtain ⟨g10, hf⟩ := gif hf
        refine z0ne (tgt := 121) hx hb g10 d_6_11_60 (by decide) (fun h11 => ?_) (fun h11 => ?_)
        · replace hf := gneg hf h11
          exact b_Part_writeCut_121 X hf hZ hS (lv_sub hl [] rfl)
        · replace hf := gpos hf h11
          refine lv_aload_n hx hb d_6_11_63 rfl (lv_at hl 6 rfl) ?_
          obtain ⟨g12, hf⟩ := gif hf
          refine zget (ci := 6) (C := RX6) (T := TX6) (v := .int (iI (F 6 l1 4))) (k := 4) hx hb hts inW_6 hown hK hZ g12.1 g12.2 rfl (by decide) k_2_210 rfl d_6_11_64 ?_
          refine lv_aload_n hx hb d_6_11_67 rfl (lv_at hl 6 rfl) ?_
          refine zget (ci := 6) (C := RX6) (T := TX6) (v := .int (iI (F 6 l1 5))) (k := 5) hx hb hts inW_6 hown hK hZ g12.1 g12.2 rfl (by decide) k_2_215 rfl d_6_11_68 ?_
          refine lv_iload hx hb d_6_11_71 (lv_at hl 2 rfl) ?_
          refine lv_iload hx hb d_6_11_73 (lv_at hl 1 rfl) ?_
          obtain ⟨r13, F13, B13, hc13, hf⟩ := gbind hf
          refine va_calli (va_runSN (As := [.int (iI (F 6 l1 4)), .int (iI (F 6 l1 5)), .int (iI l12), .int (iI l13)]) (rest := []) ⟨hx, hb, hml, hown, hts⟩ (c_S_nextValue (l := l) hc13) ⟨va_cnB 4 hts (gdC k_5_88) rfl rfl rfl (hX.1 _ (List.mem_of_getElem? (i := 16) rfl)) (hts _ k_1_1) (by decide +kernel) ⟨Nat.le_of_ble_eq_true rfl, Nat.le_of_ble_eq_true rfl⟩, hts _ k_5_87, trivial⟩ (zPS X hZ hS [.int (iI (F 6 l1 4)), .int (iI (F 6 l1 5)), .int (iI l12), .int (iI l13)]) rfl rfl hl.1 rfl (lv_room (Nat.le_of_ble_eq_true rfl)) d_6_11_75 ⟨Nat.le_of_ble_eq_true rfl, Nat.le_of_ble_eq_true rfl⟩) hS (fun q _ h => zAin X hS q h) (zAin X hS) (fun p13 u13 t13 H13 locs13 ht13 hv13 hw13 hB13 hz13 hk13 hS13 => ?_)
          have hZ13 := zBack X ht13 hB13
          subst hw13
          refine lv_istore (lv' := [(15, .int (iI r13)), (14, .int (iI l14)), (13, .int (iI l13)), (12, .int (iI l12)), (11, .int (iI l11)), (7, .long (lI l7)), (0, .ref (ad 4 l0 0)), (1, .ref (ad 6 l1 0)), (2, .int (iI l2))]) hx hb d_6_11_78 hl (by decide) rfl (fun ls hl => ?_)
          refine lv_aload_n hx hb d_6_11_80 rfl (lv_at hl 6 rfl) ?_
          refine lv_iload_n hx hb d_6_11_81 rfl (lv_at hl 8 rfl) ?_
          refine lv_iload hx hb d_6_11_82 (lv_at hl 4 rfl) ?_
          refine lv_iload hx hb d_6_11_84 (lv_at hl 3 rfl) ?_
          obtain ⟨g14, hf⟩ := gif hf
          refine zi2l hx hb g14 d_6_11_86 ?_
          refine lv_lload hx hb d_6_11_87 (lv_at hl 5 rfl) ?_
          refine zlmul hx hb d_6_11_89 ?_
          refine lv_iload hx hb d_6_11_90 (lv_at hl 0 rfl) ?_
          obtain ⟨r15, F15, B15, hc15, hf⟩ := gbind hf
          refine va_callv (va_runV (As := [.int (iI l2), .int (iI l11), .long (lI (l12 * l7)), .int (iI r13)]) (rest := []) ⟨hx, hb, hml, hown, hts⟩ (c_Part_addNote (l := l) hc15) (cwV 4 hts (gdV k_5_71 k_5_73 ks_51 k_1_18 k_5_74) rfl rfl rfl (by decide +kernel) ⟨Nat.le_of_ble_eq_true rfl, Nat.le_of_ble_eq_true rfl⟩) (zPV X hZ13 hS13 (ci := 4) g9.1 g9.2 (r := (RX4, TX4, 13)) rfl [.int (iI l2), .int (iI l11), .long (lI (l12 * l7)), .int (iI r13)]) rfl rfl hl.1 rfl (lv_room (Nat.le_of_ble_eq_true rfl)) d_6_11_92 ⟨Nat.le_of_ble_eq_true rfl, Nat.le_of_ble_eq_true rfl⟩) hS13 (fun q _ h => zAin X hS13 q h) (zAin X hS13) (fun u15 t15 H15 locs15 ht15 hv15 hw15 hB15 hz15 hk15 hS15 => ?_)
          have hZ15 := zBack X ht15 hB15
          refine lv_iload hx hb d_6_11_95 (lv_at hl 3 rfl) ?_
          refine lv_iload hx hb d_6_11_97 (lv_at hl 0 rfl) ?_
          obtain ⟨r16, F16, B16, hc16, hf⟩ := gbind hf
          refine va_calli (va_runSN (As := [.int (iI r13)]) (rest := [.int (iI l12)]) ⟨hx, hb, hml, hown, hts⟩ (c_S_fineValue (l := l) hc16) ⟨va_cnB 1 hts (gdC k_5_69) rfl rfl rfl (hX.1 _ (List.mem_of_getElem? (i := 15) rfl)) (hts _ k_1_1) (by decide +kernel) ⟨Nat.le_of_ble_eq_true rfl, Nat.le_of_ble_eq_true rfl⟩, hts _ k_5_68, trivial⟩ (zPS X hZ15 hS15 [.int (iI r13)]) rfl rfl hl.1 rfl (lv_room (Nat.le_of_ble_eq_true rfl)) d_6_11_99 ⟨Nat.le_of_ble_eq_true rfl, Nat.le_of_ble_eq_true rfl⟩) hS15 (fun q _ h => zAin X hS15 q h) (zAin X hS15) (fun p16 u16 t16 H16 locs16 ht16 hv16 hw16 hB16 hz16 hk16 hS16 => ?_)
          have hZ16 := zBack X ht16 hB16
          subst hw16
          refine zadd hx hb d_6_11_102 ?_
          refine lv_istore (lv' := [(12, .int (iI (l12 + r16))), (15, .int (iI r13)), (14, .int (iI l14)), (13, .int (iI l13)), (11, .int (iI l11)), (7, .long (lI l7)), (0, .ref (ad 4 l0 0)), (1, .ref (ad 6 l1 0)), (2, .int (iI l2))]) hx hb d_6_11_103 hl (by decide) rfl (fun ls hl => ?_)
          refine lv_iload hx hb d_6_11_105 (lv_at hl 3 rfl) ?_
          refine lv_iload hx hb d_6_11_107 (lv_at hl 1 rfl) ?_
          obtain ⟨r17, F17, B17, hc17, hf⟩ := gbind hf
          refine va_calli (va_runSN (As := [.int (iI r13)]) (rest := [.int (iI l13)]) ⟨hx, hb, hml, hown, hts⟩ (c_S_fineValue (l := l) hc17) ⟨va_cnB 1 hts (gdC k_5_69) rfl rfl rfl (hX.1 _ (List.mem_of_getElem? (i := 15) rfl)) (hts _ k_1_1) (by decide +kernel) ⟨Nat.le_of_ble_eq_true rfl, Nat.le_of_ble_eq_true rfl⟩, hts _ k_5_68, trivial⟩ (zPS X hZ16 hS16 [.int (iI r13)]) rfl rfl hl.1 rfl (lv_room (Nat.le_of_ble_eq_true rfl)) d_6_11_109 ⟨Nat.le_of_ble_eq_true rfl, Nat.le_of_ble_eq_true rfl⟩) hS16 (fun q _ h => zAin X hS16 q h) (zAin X hS16) (fun p17 u17 t17 H17 locs17 ht17 hv17 hw17 hB17 hz17 hk17 hS17 => ?_)
          have hZ17 := zBack X ht17 hB17
          subst hw17
          refine zsub hx hb d_6_11_112 ?_
          refine lv_istore (lv' := [(13, .int (iI (l13 - r17))), (12, .int (iI (l12 + r16))), (15, .int (iI r13)), (14, .int (iI l14)), (11, .int (iI l11)), (7, .long (lI l7)), (0, .ref (ad 4 l0 0)), (1, .ref (ad 6 l1 0)), (2, .int (iI l2))]) hx hb d_6_11_113 hl (by decide) rfl (fun ls hl => ?_)
          refine lv_iinc (v := iI (l14 + 1)) (lv' := [(14, .int (iI (l14 + 1))), (13, .int (iI (l13 - r17))), (12, .int (iI (l12 + r16))), (15, .int (iI r13)), (11, .int (iI l11)), (7, .long (lI l7)), (0, .ref (ad 4 l0 0)), (1, .ref (ad 6 l1 0)), (2, .int (iI l2))]) hx hb d_6_11_115 hl (k := 3) rfl (iI_add _ 1) (by decide) rfl (fun ls hl => ?_)
          refine lv_goto (tgt := 43) hx hb d_6_11_118 (by decide) ?_
          exact ih hf hZ17 hS17 (lv_sub hl [0, 1, 2, 4, 5, 6, 7, 8] rfl)

noncomputable def f_Part_writeCut (K : zK) (l0 : Int) (l1 : Int) (l2 : Int) (l3 : Int) (l5 : Int) (F : zF) (B : zB) : zO := if 0 ≤ l1 ∧ l1 < K.2 6 then zbind (f_Piece_barLength K l1 F B) (fun r2 F2 B2 => if ¬ lI r2 = 0 then if r32 (zldv l3 r2) then f_Part_writeCut_43 K K.1 0 (zldv l5 1587600) (zldv (l3 - ((zldv l3 r2) * r2)) 1587600) (zldv l3 r2) 1587600 l0 l1 l2 F2 B2 else none else none) else none
set_option maxHeartbeats 4000000 in
set_option maxRecDepth 100000 in
theorem c_Part_writeCut {l : Launch} {D : va_G} {ca : Nat → ClassId} {ad : Nat → Int → Nat → Nat} {L : List Nat} {aS vS : Nat → Nat} {sz : Nat} {K : zK}  {l0 : Int} {l1 : Int} {l2 : Int} {l3 : Int} {l5 : Int} {F F9 : zF} {B B9 : zB} {r : Int} (hf : f_Part_writeCut K l0 l1 l2 l3 l5 F B = some (r, F9, B9)) : Met l ({ cls := "StaveHouse$Part", name := "writeCut", desc := "(LStaveHouse$Piece;IJJ)V" } : Jvm.MethodName) (Cond.code ({ cls := "StaveHouse$Part", name := "writeCut", desc := "(LStaveHouse$Piece;IJJ)V" } : Jvm.MethodName) prog_6_method_11_code 16 (Option.none : Option Jvm.ClassFile.FieldType) :: wAll) ({ frames := 3, cells := 0, slots := 0, locals := 71 } : Room) (va_Pc [.ref (ad 4 l0 0), .ref (ad 6 l1 0), .int (iI l2), .long (lI l3), .long (lI l5)] (zPre D ca ad lnC K.2 L aS vS F B sz)) (Q_Part_writeCut K D ca ad L r F9 B9 (zA L sz)) 0 0 (zA L sz) := by
  refine zMet (Qc := Q_Part_writeCut K D ca ad L r F9 B9) (lv := [(0, .ref (ad 4 l0 0)), (1, .ref (ad 6 l1 0)), (2, .int (iI l2)), (3, .long (lI l3)), (5, .long (lI l5))]) (by decide) (Nat.le_of_ble_eq_true rfl) rfl (fun A p e s m below meth c ls X hZ hS hl => ?_)
  obtain ⟨hx, hb, hr, hml, hown, hts, hlk, hK, hA, hL, hX⟩ := id X
  replace hf : (if 0 ≤ l1 ∧ l1 < K.2 6 then zbind (f_Piece_barLength K l1 F B) (fun r2 F2 B2 => if ¬ lI r2 = 0 then if r32 (zldv l3 r2) then f_Part_writeCut_43 K K.1 0 (zldv l5 1587600) (zldv (l3 - ((zldv l3 r2) * r2)) 1587600) (zldv l3 r2) 1587600 l0 l1 l2 F2 B2 else none else none) else none) = some (r, F9, B9) := hf
  refine lv_ldc2 hx hb hown (hts _ k_5_76) d_6_11_0 ?_
  refine W.eq (g2 := F0 m 3 ls [.long (lI 1587600)]) rfl ?_
  refine lv_lstore (lv' := [(7, .long (lI 1587600)), (0, .ref (ad 4 l0 0)), (1, .ref (ad 6 l1 0)), (2, .int (iI l2)), (3, .long (lI l3)), (5, .long (lI l5))]) hx hb d_6_11_3 hl (by decide) rfl (fun ls hl => ?_)
  refine lv_aload_n hx hb d_6_11_5 rfl (lv_at hl 2 rfl) ?_
  obtain ⟨g1, hf⟩ := gif hf
  obtain ⟨r2, F2, B2, hc2, hf⟩ := gbind hf
  refine va_calll (va_runV (As := []) (rest := []) ⟨hx, hb, hml, hown, hts⟩ (c_Piece_barLength (l := l) hc2) (cwV 0 hts (gdV k_5_31 k_4_190 k_4_191 k_1_15 k_4_192) rfl rfl rfl (by decide +kernel) ⟨Nat.le_of_ble_eq_true rfl, Nat.le_of_ble_eq_true rfl⟩) (zPV X hZ hS (ci := 6) g1.1 g1.2 (r := (RX6, TX6, 14)) rfl []) rfl rfl hl.1 rfl (lv_room (Nat.le_of_ble_eq_true rfl)) d_6_11_6 ⟨Nat.le_of_ble_eq_true rfl, Nat.le_of_ble_eq_true rfl⟩) hS (fun q _ h => zAin X hS q h) (zAin X hS) (fun p2 u2 t2 H2 locs2 ht2 hv2 hw2 hB2 hz2 hk2 hS2 => ?_)
  have hZ2 := zBack X ht2 hB2
  subst hw2
  refine lv_lstore (lv' := [(9, .long (lI r2)), (7, .long (lI 1587600)), (0, .ref (ad 4 l0 0)), (1, .ref (ad 6 l1 0)), (2, .int (iI l2)), (3, .long (lI l3)), (5, .long (lI l5))]) hx hb d_6_11_9 hl (by decide) rfl (fun ls hl => ?_)
  refine lv_lload_n hx hb d_6_11_11 rfl (lv_at hl 5 rfl) ?_
  refine lv_lload hx hb d_6_11_12 (lv_at hl 0 rfl) ?_
  obtain ⟨g3, hf⟩ := gif hf
  refine zldv_r hx hb g3 d_6_11_14 ?_
  refine zl2iw hx hb d_6_11_15 ?_
  refine lv_istore (lv' := [(11, .int (iI (zldv l3 r2))), (9, .long (lI r2)), (7, .long (lI 1587600)), (0, .ref (ad 4 l0 0)), (1, .ref (ad 6 l1 0)), (2, .int (iI l2)), (3, .long (lI l3)), (5, .long (lI l5))]) hx hb d_6_11_16 hl (by decide) rfl (fun ls hl => ?_)
  refine lv_lload_n hx hb d_6_11_18 rfl (lv_at hl 6 rfl) ?_
  refine lv_iload hx hb d_6_11_19 (lv_at hl 0 rfl) ?_
  obtain ⟨g4, hf⟩ := gif hf
  refine zi2l hx hb g4 d_6_11_21 ?_
  refine lv_lload hx hb d_6_11_22 (lv_at hl 1 rfl) ?_
  refine zlmul hx hb d_6_11_24 ?_
  refine zlsub hx hb d_6_11_25 ?_
  refine lv_lload hx hb d_6_11_26 (lv_at hl 2 rfl) ?_
  refine zldv_r hx hb (by decide) d_6_11_28 ?_
  refine zl2iw hx hb d_6_11_29 ?_
  refine lv_istore (lv' := [(12, .int (iI (zldv (l3 - ((zldv l3 r2) * r2)) 1587600))), (11, .int (iI (zldv l3 r2))), (9, .long (lI r2)), (7, .long (lI 1587600)), (0, .ref (ad 4 l0 0)), (1, .ref (ad 6 l1 0)), (2, .int (iI l2)), (3, .long (lI l3)), (5, .long (lI l5))]) hx hb d_6_11_30 hl (by decide) rfl (fun ls hl => ?_)
  refine lv_lload hx hb d_6_11_32 (lv_at hl 8 rfl) ?_
  refine lv_lload hx hb d_6_11_34 (lv_at hl 3 rfl) ?_
  refine zldv_r hx hb (by decide) d_6_11_36 ?_
  refine zl2iw hx hb d_6_11_37 ?_
  refine lv_istore (lv' := [(13, .int (iI (zldv l5 1587600))), (12, .int (iI (zldv (l3 - ((zldv l3 r2) * r2)) 1587600))), (11, .int (iI (zldv l3 r2))), (9, .long (lI r2)), (7, .long (lI 1587600)), (0, .ref (ad 4 l0 0)), (1, .ref (ad 6 l1 0)), (2, .int (iI l2)), (3, .long (lI l3)), (5, .long (lI l5))]) hx hb d_6_11_38 hl (by decide) rfl (fun ls hl => ?_)
  refine lv_iconst (v := iI 0) hx hb d_6_11_40 rfl ?_
  refine lv_istore (lv' := [(14, .int (iI 0)), (13, .int (iI (zldv l5 1587600))), (12, .int (iI (zldv (l3 - ((zldv l3 r2) * r2)) 1587600))), (11, .int (iI (zldv l3 r2))), (9, .long (lI r2)), (7, .long (lI 1587600)), (0, .ref (ad 4 l0 0)), (1, .ref (ad 6 l1 0)), (2, .int (iI l2)), (3, .long (lI l3)), (5, .long (lI l5))]) hx hb d_6_11_41 hl (by decide) rfl (fun ls hl => ?_)
  exact b_Part_writeCut_43 X hf hZ2 hS2 (lv_sub hl [0, 1, 2, 3, 5, 6, 7, 8] rfl)

noncomputable abbrev Q_Part_hold (K : zK) (D : va_G) (ca : Nat → ClassId) (ad : Nat → Int → Nat → Nat) (L : List Nat) (r : Int) (F : zF) (B : zB) (A : Nat → Prop) : Array Value → State → Outcome → State → Prop := va_Qv (S := Unit) (fun _ => True) (fun _ => zPo D ca ad lnC K.2 L F B A) A
noncomputable def f_Part_hold_89 (rec2 : Int → Int → zF → zB → zO) (K : zK) (l1 : Int) (l0 : Int) (F : zF) (B : zB) : zO := rec2 (l1 + 1) l0 F B
set_option maxHeartbeats 4000000 in
set_option maxRecDepth 100000 in
theorem b_Part_hold_89 {D : va_G} {ca : Nat → ClassId} {ad : Nat → Int → Nat → Nat} {L : List Nat} {aS vS : Nat → Nat} {A : Nat → Prop} {p : Program} {l : Launch} {e : Env} {s : State} {m : MethodId} {args : Array Value} {below : List Frame} {meth : Method} {c : Code} {K : zK} {r : Int} {F9 : zF} {B9 : zB} (X : zX D ca L aS vS A p s m args meth c prog_6_method_16_code 3 (Option.none : Option Jvm.ClassFile.FieldType) "StaveHouse$Part") {rec2 : Int → Int → zF → zB → zO} (hrec2 : ∀ {l1 : Int} {l0 : Int} {F : zF} {B : zB} {H : Heap} {locs : List Loc} {ls : Array Slot}, rec2 l1 l0 F B = some (r, F9, B9) → zH D ca ad lnC K.2 L F B A H → va_S A s.heap H locs → lv_has ls 3 [(1, .int (iI l1)), (0, .ref (ad 4 l0 0))] → W p l e ({ frames := 3, cells := 0, slots := 0, locals := 67 } : Room) s m args below meth c H locs 0 0 (MQ below (Q_Part_hold K D ca ad L r F9 B9 A) args s 0 0 A) (F0 m 2 ls [])) {l1 : Int} {l0 : Int} {F : zF} {B : zB} {H : Heap} {locs : List Loc} {ls : Array Slot} (hf : f_Part_hold_89 rec2 K l1 l0 F B = some (r, F9, B9)) (hZ : zH D ca ad lnC K.2 L F B A H) (hS : va_S A s.heap H locs) (hl : lv_has ls 3 [(1, .int (iI l1)), (0, .ref (ad 4 l0 0))]) : W p l e ({ frames := 3, cells := 0, slots := 0, locals := 67 } : Room) s m args below meth c H locs 0 0 (MQ below (Q_Part_hold K D ca ad L r F9 B9 A) args s 0 0 A) (F0 m 89 ls []) := by
  obtain ⟨hx, hb, hr, hml, hown, hts, hlk, hK, hA, hL, hX⟩ := id X
  replace hf : (rec2 (l1 + 1) l0 F B) = some (r, F9, B9) := hf
  refine lv_iinc (v := iI (l1 + 1)) (lv' := [(1, .int (iI (l1 + 1))), (0, .ref (ad 4 l0 0))]) hx hb d_6_16_89 hl (k := 0) rfl (iI_add _ 1) (by decide) rfl (fun ls hl => ?_)
  refine lv_goto (tgt := 2) hx hb d_6_16_92 (by decide) ?_
  exact hrec2 hf hZ hS (lv_sub hl [0, 1] rfl)

noncomputable def f_Part_hold_2 (K : zK) : Nat → Int → Int → zF → zB → zO
  | 0, _, _, _, _ => none
  | n + 1, l1, l0, F, B => if 0 ≤ l0 ∧ l0 < K.2 4 then if r32 l1 then if r32 (F 4 l0 10) then (if (F 4 l0 10) ≤ l1 then some (0, F, B) else if 0 ≤ l1 ∧ l1 < 800 then zbind (f_Part_isRestNote K l0 l1 F B) (fun r6 F6 B6 => if r32 r6 then (if r6 = 0 then zbind (f_Part_continues K l0 (l1 + 1) F6 B6) (fun r9 F9 B9 => if r32 r9 then (if r9 = 0 then zbind (f_Part_tiedPitches K l0 (B 4 l0 360 l1) F9 B9) (fun r12 F12 B12 => f_Part_hold_89 (f_Part_hold_2 K n) K l1 l0 F12 (zup4 B12 4 l0 366 l1 r12)) else if 0 ≤ (B 4 l0 360 l1) ∧ (B 4 l0 360 l1) < 200 then if 0 ≤ (B9 4 l0 5 (B 4 l0 360 l1)) ∧ (B9 4 l0 5 (B 4 l0 360 l1)) < K.2 1 then f_Part_hold_89 (f_Part_hold_2 K n) K l1 l0 F9 (zup4 B9 4 l0 366 l1 ((zshl 1 (F9 1 (B9 4 l0 5 (B 4 l0 360 l1)) 10)) - 1)) else none else none) else none) else f_Part_hold_89 (f_Part_hold_2 K n) K l1 l0 F6 (zup4 B6 4 l0 366 l1 0)) else none) else none) else none else none else none
set_option maxHeartbeats 4000000 in
set_option maxRecDepth 100000 in
theorem b_Part_hold_2 {D : va_G} {ca : Nat → ClassId} {ad : Nat → Int → Nat → Nat} {L : List Nat} {aS vS : Nat → Nat} {A : Nat → Prop} {p : Program} {l : Launch} {e : Env} {s : State} {m : MethodId} {args : Array Value} {below : List Frame} {meth : Method} {c : Code} {K : zK} {r : Int} {F9 : zF} {B9 : zB} (X : zX D ca L aS vS A p s m args meth c prog_6_method_16_code 3 (Option.none : Option Jvm.ClassFile.FieldType) "StaveHouse$Part") : ∀ {n : Nat} {l1 : Int} {l0 : Int} {F : zF} {B : zB} {H : Heap} {locs : List Loc} {ls : Array Slot}, f_Part_hold_2 K n l1 l0 F B = some (r, F9, B9) → zH D ca ad lnC K.2 L F B A H → va_S A s.heap H locs → lv_has ls 3 [(1, .int (iI l1)), (0, .ref (ad 4 l0 0))] → W p l e ({ frames := 3, cells := 0, slots := 0, locals := 67 } : Room) s m args below meth c H locs 0 0 (MQ below (Q_Part_hold K D ca ad L r F9 B9 A) args s 0 0 A) (F0 m 2 ls []) := by
  obtain ⟨hx, hb, hr, hml, hown, hts, hlk, hK, hA, hL, hX⟩ := id X
  intro n
  induction n with
  | zero =>
    intros
    rename_i hf _ _ _
    cases hf
  | succ n ih =>
    intro l1 l0 F B H locs ls hf hZ hS hl
    replace hf : (if 0 ≤ l0 ∧ l0 < K.2 4 then if r32 l1 then if r32 (F 4 l0 10) then (if (F 4 l0 10) ≤ l1 then some (0, F, B) else if 0 ≤ l1 ∧ l1 < 800 then zbind (f_Part_isRestNote K l0 l1 F B) (fun r6 F6 B6 => if r32 r6 then (if r6 = 0 then zbind (f_Part_continues K l0 (l1 + 1) F6 B6) (fun r9 F9 B9 => if r32 r9 then (if r9 = 0 then zbind (f_Part_tiedPitches K l0 (B 4 l0 360 l1) F9 B9) (fun r12 F12 B12 => f_Part_hold_89 (f_Part_hold_2 K n) K l1 l0 F12 (zup4 B12 4 l0 366 l1 r12)) else if 0 ≤ (B 4 l0 360 l1) ∧ (B 4 l0 360 l1) < 200 then if 0 ≤ (B9 4 l0 5 (B 4 l0 360 l1)) ∧ (B9 4 l0 5 (B 4 l0 360 l1)) < K.2 1 then f_Part_hold_89 (f_Part_hold_2 K n) K l1 l0 F9 (zup4 B9 4 l0 366 l1 ((zshl 1 (F9 1 (B9 4 l0 5 (B 4 l0 360 l1)) 10)) - 1)) else none else none) else none) else f_Part_hold_89 (f_Part_hold_2 K n) K l1 l0 F6 (zup4 B6 4 l0 366 l1 0)) else none) else none) else none else none else none) = some (r, F9, B9) := hf
    refine lv_iload_n hx hb d_6_16_2 rfl (lv_at hl 0 rfl) ?_
    refine lv_aload_n hx hb d_6_16_3 rfl (lv_at hl 1 rfl) ?_
    obtain ⟨g1, hf⟩ := gif hf
    refine zget (ci := 4) (C := RX4) (T := TX4) (v := .int (iI (F 4 l0 10))) (k := 10) hx hb hts inW_4 hown hK hZ g1.1 g1.2 rfl (by decide) k_4_148 rfl d_6_16_4 ?_
    obtain ⟨g2, hf⟩ := gif hf
    obtain ⟨g3, hf⟩ := gif hf
    refine zge (tgt := 95) hx hb g2 g3 d_6_16_7 (by decide) (fun h4 => ?_) (fun h4 => ?_)
    · replace hf := gpos hf h4
      cases hf
      exact W.vret hx hb hr (fun t ht hW => ⟨⟨(), rfl, trivial, by rw [ht]; exact hZ, va_K.moved hW.alike hK⟩, hS.F ht⟩) hS.2.2 d_6_16_95 hlk
    · replace hf := gneg hf h4
      refine lv_aload_n hx hb d_6_16_10 rfl (lv_at hl 1 rfl) ?_
      refine zget (ci := 4) (C := RX4) (T := TX4) (v := .ref (ad 4 l0 (8 + 1))) (k := 8) hx hb hts inW_4 hown hK hZ g1.1 g1.2 rfl (by decide) k_4_142 rfl d_6_16_11 ?_
      refine lv_iconst (v := iI 0) hx hb d_6_16_14 rfl ?_
      refine zaldQ (t := 0) (ci := 4) (k := 8) hx hb hK rfl hZ g1.1 g1.2 rfl (Nat.le_of_ble_eq_true rfl) (by decide) (by decide) d_6_16_15 ?_
      refine W.eq (g2 := F0 m 16 ls [.ref (ad 4 l0 (360 + 1))]) rfl ?_
      refine lv_iload_n hx hb d_6_16_16 rfl (lv_at hl 0 rfl) ?_
      obtain ⟨g5, hf⟩ := gif hf
      refine zald (ci := 4) (k := 360) hx hb hK rfl hZ g1.1 g1.2 rfl (Nat.le_of_ble_eq_true rfl) g5.1 g5.2 d_6_16_17 ?_
      refine lv_istore_n (lv' := [(2, .int (iI (B 4 l0 360 l1))), (1, .int (iI l1)), (0, .ref (ad 4 l0 0))]) hx hb d_6_16_18 rfl hl (by decide) rfl (fun ls hl => ?_)
      refine lv_aload_n hx hb d_6_16_19 rfl (lv_at hl 2 rfl) ?_
      refine lv_iload_n hx hb d_6_16_20 rfl (lv_at hl 1 rfl) ?_
      obtain ⟨r6, F6, B6, hc6, hf⟩ := gbind hf
      refine va_calli (va_runV (As := [.int (iI l1)]) (rest := []) ⟨hx, hb, hml, hown, hts⟩ (c_Part_isRestNote (l := l) hc6) (cwV 1 hts (gdV k_5_104 k_5_106 ks_54 k_1_18 k_5_107) rfl rfl rfl (by decide +kernel) ⟨Nat.le_of_ble_eq_true rfl, Nat.le_of_ble_eq_true rfl⟩) (zPV X hZ hS (ci := 4) g1.1 g1.2 (r := (RX4, TX4, 13)) rfl [.int (iI l1)]) rfl rfl hl.1 rfl (lv_room (Nat.le_of_ble_eq_true rfl)) d_6_16_21 ⟨Nat.le_of_ble_eq_true rfl, Nat.le_of_ble_eq_true rfl⟩) hS (fun q _ h => zAin X hS q h) (zAin X hS) (fun p6 u6 t6 H6 locs6 ht6 hv6 hw6 hB6 hz6 hk6 hS6 => ?_)
      have hZ6 := zBack X ht6 hB6
      subst hw6
      obtain ⟨g7, hf⟩ := gif hf
      refine z0eq (tgt := 40) hx hb g7 d_6_16_24 (by decide) (fun h8 => ?_) (fun h8 => ?_)
      · replace hf := gpos hf h8
        refine lv_aload_n hx hb d_6_16_40 rfl (lv_at hl 2 rfl) ?_
        refine lv_iload_n hx hb d_6_16_41 rfl (lv_at hl 1 rfl) ?_
        refine lv_iconst (v := iI 1) hx hb d_6_16_42 rfl ?_
        refine zadd hx hb d_6_16_43 ?_
        obtain ⟨r9, F9, B9, hc9, hf⟩ := gbind hf
        refine va_calli (va_runV (As := [.int (iI (l1 + 1))]) (rest := []) ⟨hx, hb, hml, hown, hts⟩ (c_Part_continues (l := l) hc9) (cwV 1 hts (gdV k_5_108 k_5_110 ks_55 k_1_18 k_5_111) rfl rfl rfl (by decide +kernel) ⟨Nat.le_of_ble_eq_true rfl, Nat.le_of_ble_eq_true rfl⟩) (zPV X hZ6 hS6 (ci := 4) g1.1 g1.2 (r := (RX4, TX4, 13)) rfl [.int (iI (l1 + 1))]) rfl rfl hl.1 rfl (lv_room (Nat.le_of_ble_eq_true rfl)) d_6_16_44 ⟨Nat.le_of_ble_eq_true rfl, Nat.le_of_ble_eq_true rfl⟩) hS6 (fun q _ h => zAin X hS6 q h) (zAin X hS6) (fun p9 u9 t9 H9 locs9 ht9 hv9 hw9 hB9 hz9 hk9 hS9 => ?_)
        have hZ9 := zBack X ht9 hB9
        subst hw9
        obtain ⟨g10, hf⟩ := gif hf
        refine z0eq (tgt := 75) hx hb g10 d_6_16_47 (by decide) (fun h11 => ?_) (fun h11 => ?_)
        · replace hf := gpos hf h11
          refine lv_aload_n hx hb d_6_16_75 rfl (lv_at hl 2 rfl) ?_
          refine zget (ci := 4) (C := RX4) (T := TX4) (v := .ref (ad 4 l0 (8 + 1))) (k := 8) hx hb hts inW_4 hown hK hZ9 g1.1 g1.2 rfl (by decide) k_4_142 rfl d_6_16_76 ?_
          refine lv_bipush (v := iI 6) hx hb d_6_16_79 (by decide) ?_
          refine zaldQ (t := 0) (ci := 4) (k := 8) hx hb hK rfl hZ9 g1.1 g1.2 rfl (Nat.le_of_ble_eq_true rfl) (by decide) (by decide) d_6_16_81 ?_
          refine W.eq (g2 := F0 m 82 ls [.ref (ad 4 l0 (366 + 1))]) rfl ?_
          refine lv_iload_n hx hb d_6_16_82 rfl (lv_at hl 1 rfl) ?_
          refine lv_aload_n hx hb d_6_16_83 rfl (lv_at hl 2 rfl) ?_
          refine lv_iload_n hx hb d_6_16_84 rfl (lv_at hl 0 rfl) ?_
          obtain ⟨r12, F12, B12, hc12, hf⟩ := gbind hf
          refine va_calli (va_runV (As := [.int (iI (B 4 l0 360 l1))]) (rest := [.int (iI l1), .ref (ad 4 l0 (366 + 1))]) ⟨hx, hb, hml, hown, hts⟩ (c_Part_tiedPitches (l := l) hc12) (cwV 1 hts (gdV k_5_37 k_5_38 k_5_39 k_1_18 k_5_40) rfl rfl rfl (by decide +kernel) ⟨Nat.le_of_ble_eq_true rfl, Nat.le_of_ble_eq_true rfl⟩) (zPV X hZ9 hS9 (ci := 4) g1.1 g1.2 (r := (RX4, TX4, 13)) rfl [.int (iI (B 4 l0 360 l1))]) rfl rfl hl.1 rfl (lv_room (Nat.le_of_ble_eq_true rfl)) d_6_16_85 ⟨Nat.le_of_ble_eq_true rfl, Nat.le_of_ble_eq_true rfl⟩) hS9 (fun q _ h => zAin X hS9 q h) (zAin X hS9) (fun p12 u12 t12 H12 locs12 ht12 hv12 hw12 hB12 hz12 hk12 hS12 => ?_)
          have hZ12 := zBack X ht12 hB12
          subst hw12
          refine zast (ci := 4) (k := 366) hx hb hK rfl hZ12 hS12 g1.1 g1.2 rfl (Nat.le_of_ble_eq_true rfl) g5.1 g5.2 d_6_16_88 (fun H13 locs13 hZ13 hS13 => ?_)
          exact b_Part_hold_89 X ih hf hZ13 hS13 (lv_sub hl [1, 2] rfl)
        · replace hf := gneg hf h11
          refine lv_aload_n hx hb d_6_16_50 rfl (lv_at hl 2 rfl) ?_
          refine zget (ci := 4) (C := RX4) (T := TX4) (v := .ref (ad 4 l0 (8 + 1))) (k := 8) hx hb hts inW_4 hown hK hZ9 g1.1 g1.2 rfl (by decide) k_4_142 rfl d_6_16_51 ?_
          refine lv_bipush (v := iI 6) hx hb d_6_16_54 (by decide) ?_
          refine zaldQ (t := 0) (ci := 4) (k := 8) hx hb hK rfl hZ9 g1.1 g1.2 rfl (Nat.le_of_ble_eq_true rfl) (by decide) (by decide) d_6_16_56 ?_
          refine W.eq (g2 := F0 m 57 ls [.ref (ad 4 l0 (366 + 1))]) rfl ?_
          refine lv_iload_n hx hb d_6_16_57 rfl (lv_at hl 1 rfl) ?_
          refine lv_iconst (v := iI 1) hx hb d_6_16_58 rfl ?_
          refine lv_aload_n hx hb d_6_16_59 rfl (lv_at hl 2 rfl) ?_
          refine zget (ci := 4) (C := RX4) (T := TX4) (v := .ref (ad 4 l0 (5 + 1))) (k := 5) hx hb hts inW_4 hown hK hZ9 g1.1 g1.2 rfl (by decide) k_4_130 rfl d_6_16_60 ?_
          refine lv_iload_n hx hb d_6_16_63 rfl (lv_at hl 0 rfl) ?_
          obtain ⟨g14, hf⟩ := gif hf
          refine zaldR (t := 1) (x := 7) (ci := 4) (k := 5) hx hb hK rfl rfl hZ9 g1.1 g1.2 rfl (Nat.le_of_ble_eq_true rfl) g14.1 g14.2 d_6_16_64 ?_
          obtain ⟨g15, hf⟩ := gif hf
          refine zunrf g15.1 ?_
          refine zget (ci := 1) (C := RX1) (T := TX1) (v := .int (iI (F9 1 (B9 4 l0 5 (B 4 l0 360 l1)) 10))) (k := 10) hx hb hts inW_1 hown hK hZ9 g15.1 g15.2 rfl (by decide) k_2_54 rfl d_6_16_65 ?_
          refine zshl_r hx hb d_6_16_68 ?_
          refine lv_iconst (v := iI 1) hx hb d_6_16_69 rfl ?_
          refine zsub hx hb d_6_16_70 ?_
          refine zast (ci := 4) (k := 366) hx hb hK rfl hZ9 hS9 g1.1 g1.2 rfl (Nat.le_of_ble_eq_true rfl) g5.1 g5.2 d_6_16_71 (fun H16 locs16 hZ16 hS16 => ?_)
          refine lv_goto (tgt := 89) hx hb d_6_16_72 (by decide) ?_
          exact b_Part_hold_89 X ih hf hZ16 hS16 (lv_sub hl [1, 2] rfl)
      · replace hf := gneg hf h8
        refine lv_aload_n hx hb d_6_16_27 rfl (lv_at hl 2 rfl) ?_
        refine zget (ci := 4) (C := RX4) (T := TX4) (v := .ref (ad 4 l0 (8 + 1))) (k := 8) hx hb hts inW_4 hown hK hZ6 g1.1 g1.2 rfl (by decide) k_4_142 rfl d_6_16_28 ?_
        refine lv_bipush (v := iI 6) hx hb d_6_16_31 (by decide) ?_
        refine zaldQ (t := 0) (ci := 4) (k := 8) hx hb hK rfl hZ6 g1.1 g1.2 rfl (Nat.le_of_ble_eq_true rfl) (by decide) (by decide) d_6_16_33 ?_
        refine W.eq (g2 := F0 m 34 ls [.ref (ad 4 l0 (366 + 1))]) rfl ?_
        refine lv_iload_n hx hb d_6_16_34 rfl (lv_at hl 1 rfl) ?_
        refine lv_iconst (v := iI 0) hx hb d_6_16_35 rfl ?_
        refine zast (ci := 4) (k := 366) hx hb hK rfl hZ6 hS6 g1.1 g1.2 rfl (Nat.le_of_ble_eq_true rfl) g5.1 g5.2 d_6_16_36 (fun H17 locs17 hZ17 hS17 => ?_)
        refine lv_goto (tgt := 89) hx hb d_6_16_37 (by decide) ?_
        exact b_Part_hold_89 X ih hf hZ17 hS17 (lv_sub hl [1, 2] rfl)

noncomputable def f_Part_hold (K : zK) (l0 : Int) (F : zF) (B : zB) : zO := f_Part_hold_2 K K.1 0 l0 F B
set_option maxHeartbeats 4000000 in
set_option maxRecDepth 100000 in
theorem c_Part_hold {l : Launch} {D : va_G} {ca : Nat → ClassId} {ad : Nat → Int → Nat → Nat} {L : List Nat} {aS vS : Nat → Nat} {sz : Nat} {K : zK}  {l0 : Int} {F F9 : zF} {B B9 : zB} {r : Int} (hf : f_Part_hold K l0 F B = some (r, F9, B9)) : Met l ({ cls := "StaveHouse$Part", name := "hold", desc := "()V" } : Jvm.MethodName) (Cond.code ({ cls := "StaveHouse$Part", name := "hold", desc := "()V" } : Jvm.MethodName) prog_6_method_16_code 3 (Option.none : Option Jvm.ClassFile.FieldType) :: wAll) ({ frames := 3, cells := 0, slots := 0, locals := 67 } : Room) (va_Pc [.ref (ad 4 l0 0)] (zPre D ca ad lnC K.2 L aS vS F B sz)) (Q_Part_hold K D ca ad L r F9 B9 (zA L sz)) 0 0 (zA L sz) := by
  refine zMet (Qc := Q_Part_hold K D ca ad L r F9 B9) (lv := [(0, .ref (ad 4 l0 0))]) (by decide) (Nat.le_of_ble_eq_true rfl) rfl (fun A p e s m below meth c ls X hZ hS hl => ?_)
  obtain ⟨hx, hb, hr, hml, hown, hts, hlk, hK, hA, hL, hX⟩ := id X
  replace hf : (f_Part_hold_2 K K.1 0 l0 F B) = some (r, F9, B9) := hf
  refine lv_iconst (v := iI 0) hx hb d_6_16_0 rfl ?_
  refine lv_istore_n (lv' := [(1, .int (iI 0)), (0, .ref (ad 4 l0 0))]) hx hb d_6_16_1 rfl hl (by decide) rfl (fun ls hl => ?_)
  exact b_Part_hold_2 X hf hZ hS (lv_sub hl [0, 1] rfl)


