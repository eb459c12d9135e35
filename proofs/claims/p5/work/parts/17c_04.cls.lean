set_option maxHeartbeats 4000000 in
set_option maxRecDepth 100000 in
theorem b_Performance_force_25 {D : va_G} {ca : Nat → ClassId} {ad : Nat → Int → Nat → Nat} {L : List Nat} {aS vS : Nat → Nat} {A : Nat → Prop} {p : Program} {l : Launch} {e : Env} {s : State} {m : MethodId} {args : Array Value} {below : List Frame} {meth : Method} {c : Code} {K : zK} {r : Int} {F9 : zF} {B9 : zB} (X : zX D ca L aS vS A p s m args meth c prog_7_method_5_code 1 (Option.some Jvm.ClassFile.FieldType.int) "StaveHouse$Performance") {s0 : Int} {s1 : Int} {F : zF} {B : zB} {H : Heap} {locs : List Loc} {ls : Array Slot} (hf : f_Performance_force_25 K s0 s1 F B = some (r, F9, B9)) (hZ : zH D ca ad lnC K.2 L F B A H) (hS : va_S A s.heap H locs) (hl : lv_has ls 1 []) : W p l e ({ frames := 1, cells := 0, slots := 0, locals := 21 } : Room) s m args below meth c H locs 0 0 (MQ below (Q_Performance_force K D ca ad L r F9 B9 A) args s 0 0 A) (F0 m 25 ls [.int (iI s1), .int (iI s0)]) := by
  obtain ⟨hx, hb, hr, hml, hown, hts, hlk, hK, hA, hL, hX⟩ := id X
  replace hf : (if r32 (s0 + s1) then some (zmin (s0 + s1) 127, F, B) else none) = some (r, F9, B9) := hf
  refine zadd hx hb d_7_5_25 ?_
  refine lv_bipush (v := iI 127) hx hb d_7_5_26 (by decide) ?_
  obtain ⟨g5, hf⟩ := gif hf
  refine va_mmin hx hb (by rw [hml]; exact hl.1.symm) hown (hts _ k_6_134) (hts _ k_3_97) (hts _ k_1_3) (hts _ k_3_98) (Nat.le_of_ble_eq_true rfl) (Nat.le_of_ble_eq_true rfl) (Nat.le_of_ble_eq_true rfl) (Nat.le_of_ble_eq_true rfl) d_7_5_28 ?_
  rw [zmin_e g5 (by decide)]
  cases hf
  exact W.iret hx hb hr (fun t ht hW => ⟨⟨_, (), rfl, rfl, by rw [ht]; exact hZ, va_K.moved hW.alike hK⟩, hS.F ht⟩) hS.2.2 d_7_5_31 hlk

noncomputable def f_Performance_force (K : zK) (l0 : Int) (F : zF) (B : zB) : zO := if 0 ≤ l0 ∧ l0 < K.2 1 then zbind (f_Event_has K l0 16 F B) (fun r2 F2 B2 => if r32 r2 then (if r2 = 0 then f_Performance_force_25 K (20 + (13 * (F 1 l0 8))) 0 F2 B2 else f_Performance_force_25 K (20 + (13 * (F 1 l0 8))) 15 F2 B2) else none) else none
set_option maxHeartbeats 4000000 in
set_option maxRecDepth 100000 in
theorem c_Performance_force {l : Launch} {D : va_G} {ca : Nat → ClassId} {ad : Nat → Int → Nat → Nat} {L : List Nat} {aS vS : Nat → Nat} {sz : Nat} {K : zK}  {l0 : Int} {F F9 : zF} {B B9 : zB} {r : Int} (hf : f_Performance_force K l0 F B = some (r, F9, B9)) : Met l ({ cls := "StaveHouse$Performance", name := "force", desc := "(LStaveHouse$Event;)I" } : Jvm.MethodName) (Cond.code ({ cls := "StaveHouse$Performance", name := "force", desc := "(LStaveHouse$Event;)I" } : Jvm.MethodName) prog_7_method_5_code 1 (Option.some Jvm.ClassFile.FieldType.int) :: wAll) ({ frames := 1, cells := 0, slots := 0, locals := 21 } : Room) (va_Pc [.ref (ad 1 l0 0)] (zPre D ca ad lnC K.2 L aS vS F B sz)) (Q_Performance_force K D ca ad L r F9 B9 (zA L sz)) 0 0 (zA L sz) := by
  refine zMet (Qc := Q_Performance_force K D ca ad L r F9 B9) (lv := [(0, .ref (ad 1 l0 0))]) (by decide) (Nat.le_of_ble_eq_true rfl) rfl (fun A p e s m below meth c ls X hZ hS hl => ?_)
  obtain ⟨hx, hb, hr, hml, hown, hts, hlk, hK, hA, hL, hX⟩ := id X
  replace hf : (if 0 ≤ l0 ∧ l0 < K.2 1 then zbind (f_Event_has K l0 16 F B) (fun r2 F2 B2 => if r32 r2 then (if r2 = 0 then f_Performance_force_25 K (20 + (13 * (F 1 l0 8))) 0 F2 B2 else f_Performance_force_25 K (20 + (13 * (F 1 l0 8))) 15 F2 B2) else none) else none) = some (r, F9, B9) := hf
  refine lv_bipush (v := iI 20) hx hb d_7_5_0 (by decide) ?_
  refine lv_bipush (v := iI 13) hx hb d_7_5_2 (by decide) ?_
  refine lv_aload_n hx hb d_7_5_4 rfl (lv_at hl 0 rfl) ?_
  obtain ⟨g1, hf⟩ := gif hf
  refine zget (ci := 1) (C := RX1) (T := TX1) (v := .int (iI (F 1 l0 8))) (k := 8) hx hb hts inW_1 hown hK hZ g1.1 g1.2 rfl (by decide) k_2_42 rfl d_7_5_5 ?_
  refine zmul hx hb d_7_5_8 ?_
  refine zadd hx hb d_7_5_9 ?_
  refine lv_aload_n hx hb d_7_5_10 rfl (lv_at hl 0 rfl) ?_
  refine lv_bipush (v := iI 16) hx hb d_7_5_11 (by decide) ?_
  obtain ⟨r2, F2, B2, hc2, hf⟩ := gbind hf
  refine va_calli (va_runV (As := [.int (iI 16)]) (rest := [.int (iI (20 + (13 * (F 1 l0 8))))]) ⟨hx, hb, hml, hown, hts⟩ (c_Event_has (l := l) hc2) (cwV 1 hts (gdV k_6_119 k_5_16 k_5_17 k_1_8 k_5_18) rfl rfl rfl (by decide +kernel) ⟨Nat.le_of_ble_eq_true rfl, Nat.le_of_ble_eq_true rfl⟩) (zPV X hZ hS (ci := 1) g1.1 g1.2 (r := (RX1, TX1, 14)) rfl [.int (iI 16)]) rfl rfl hl.1 rfl (lv_room (Nat.le_of_ble_eq_true rfl)) d_7_5_13 ⟨Nat.le_of_ble_eq_true rfl, Nat.le_of_ble_eq_true rfl⟩) hS (fun q _ h => zAin X hS q h) (zAin X hS) (fun p2 u2 t2 H2 locs2 ht2 hv2 hw2 hB2 hz2 hk2 hS2 => ?_)
  have hZ2 := zBack X ht2 hB2
  subst hw2
  obtain ⟨g3, hf⟩ := gif hf
  refine z0eq (tgt := 24) hx hb g3 d_7_5_16 (by decide) (fun h4 => ?_) (fun h4 => ?_)
  · replace hf := gpos hf h4
    refine lv_iconst (v := iI 0) hx hb d_7_5_24 rfl ?_
    exact b_Performance_force_25 X hf hZ2 hS2 (lv_sub hl [] rfl)
  · replace hf := gneg hf h4
    refine lv_bipush (v := iI 15) hx hb d_7_5_19 (by decide) ?_
    refine lv_goto (tgt := 25) hx hb d_7_5_21 (by decide) ?_
    exact b_Performance_force_25 X hf hZ2 hS2 (lv_sub hl [] rfl)

noncomputable abbrev Q_Performance_lastTied (K : zK) (D : va_G) (ca : Nat → ClassId) (ad : Nat → Int → Nat → Nat) (L : List Nat) (r : Int) (F : zF) (B : zB) (A : Nat → Prop) : Array Value → State → Outcome → State → Prop := va_Qi (S := Unit) (fun p _ => p = iI r) (fun _ => zPo D ca ad lnC K.2 L F B A) A
noncomputable def f_Performance_lastTied_77 (K : zK) (l5 : Int) (F : zF) (B : zB) : zO := some (l5, F, B)
set_option maxHeartbeats 4000000 in
set_option maxRecDepth 100000 in
theorem b_Performance_lastTied_77 {D : va_G} {ca : Nat → ClassId} {ad : Nat → Int → Nat → Nat} {L : List Nat} {aS vS : Nat → Nat} {A : Nat → Prop} {p : Program} {l : Launch} {e : Env} {s : State} {m : MethodId} {args : Array Value} {below : List Frame} {meth : Method} {c : Code} {K : zK} {r : Int} {F9 : zF} {B9 : zB} (X : zX D ca L aS vS A p s m args meth c prog_7_method_8_code 6 (Option.some Jvm.ClassFile.FieldType.int) "StaveHouse$Performance") {l5 : Int} {F : zF} {B : zB} {H : Heap} {locs : List Loc} {ls : Array Slot} (hf : f_Performance_lastTied_77 K l5 F B = some (r, F9, B9)) (hZ : zH D ca ad lnC K.2 L F B A H) (hS : va_S A s.heap H locs) (hl : lv_has ls 6 [(5, .int (iI l5))]) : W p l e ({ frames := 1, cells := 0, slots := 0, locals := 23 } : Room) s m args below meth c H locs 0 0 (MQ below (Q_Performance_lastTied K D ca ad L r F9 B9 A) args s 0 0 A) (F0 m 77 ls []) := by
  obtain ⟨hx, hb, hr, hml, hown, hts, hlk, hK, hA, hL, hX⟩ := id X
  replace hf : (some (l5, F, B)) = some (r, F9, B9) := hf
  refine lv_iload hx hb d_7_8_77 (lv_at hl 0 rfl) ?_
  cases hf
  exact W.iret hx hb hr (fun t ht hW => ⟨⟨_, (), rfl, rfl, by rw [ht]; exact hZ, va_K.moved hW.alike hK⟩, hS.F ht⟩) hS.2.2 d_7_8_79 hlk

noncomputable def f_Performance_lastTied_28 (K : zK) : Nat → Int → Int → Int → Int → zF → zB → zO
  | 0, _, _, _, _, _, _ => none
  | n + 1, l5, l4, l3, l0, F, B => if 0 ≤ l0 ∧ l0 < K.2 4 then if r32 (l5 + 1) then if r32 (F 4 l0 6) then (if (F 4 l0 6) ≤ (l5 + 1) then f_Performance_lastTied_77 K l5 F B else if 0 ≤ l5 ∧ l5 < 200 then if 0 ≤ (B 4 l0 5 l5) ∧ (B 4 l0 5 l5) < K.2 1 then zbind (f_Event_has K (B 4 l0 5 l5) 1 F B) (fun r11 F11 B11 => if r32 r11 then (if r11 = 0 then f_Performance_lastTied_77 K l5 F11 B11 else if 0 ≤ (l5 + 1) ∧ (l5 + 1) < 200 then if 0 ≤ (B11 4 l0 5 (l5 + 1)) ∧ (B11 4 l0 5 (l5 + 1)) < K.2 1 then zbind (f_Event_hasPitch K (B11 4 l0 5 (l5 + 1)) l3 l4 F11 B11) (fun r16 F16 B16 => if r32 r16 then (if r16 = 0 then f_Performance_lastTied_77 K l5 F16 B16 else f_Performance_lastTied_28 K n (l5 + 1) l4 l3 l0 F16 B16) else none) else none else none) else none) else none else none) else none else none else none
set_option maxHeartbeats 4000000 in
set_option maxRecDepth 100000 in
theorem b_Performance_lastTied_28 {D : va_G} {ca : Nat → ClassId} {ad : Nat → Int → Nat → Nat} {L : List Nat} {aS vS : Nat → Nat} {A : Nat → Prop} {p : Program} {l : Launch} {e : Env} {s : State} {m : MethodId} {args : Array Value} {below : List Frame} {meth : Method} {c : Code} {K : zK} {r : Int} {F9 : zF} {B9 : zB} (X : zX D ca L aS vS A p s m args meth c prog_7_method_8_code 6 (Option.some Jvm.ClassFile.FieldType.int) "StaveHouse$Performance") : ∀ {n : Nat} {l5 : Int} {l4 : Int} {l3 : Int} {l0 : Int} {F : zF} {B : zB} {H : Heap} {locs : List Loc} {ls : Array Slot}, f_Performance_lastTied_28 K n l5 l4 l3 l0 F B = some (r, F9, B9) → zH D ca ad lnC K.2 L F B A H → va_S A s.heap H locs → lv_has ls 6 [(5, .int (iI l5)), (4, .int (iI l4)), (3, .int (iI l3)), (0, .ref (ad 4 l0 0))] → W p l e ({ frames := 1, cells := 0, slots := 0, locals := 23 } : Room) s m args below meth c H locs 0 0 (MQ below (Q_Performance_lastTied K D ca ad L r F9 B9 A) args s 0 0 A) (F0 m 28 ls []) := by
  obtain ⟨hx, hb, hr, hml, hown, hts, hlk, hK, hA, hL, hX⟩ := id X
  intro n
  induction n with
  | zero =>
    intros
    rename_i hf _ _ _
    cases hf
  | succ n ih =>
    intro l5 l4 l3 l0 F B H locs ls hf hZ hS hl
    replace hf : (if 0 ≤ l0 ∧ l0 < K.2 4 then if r32 (l5 + 1) then if r32 (F 4 l0 6) then (if (F 4 l0 6) ≤ (l5 + 1) then f_Performance_lastTied_77 K l5 F B else if 0 ≤ l5 ∧ l5 < 200 then if 0 ≤ (B 4 l0 5 l5) ∧ (B 4 l0 5 l5) < K.2 1 then zbind (f_Event_has K (B 4 l0 5 l5) 1 F B) (fun r11 F11 B11 => if r32 r11 then (if r11 = 0 then f_Performance_lastTied_77 K l5 F11 B11 else if 0 ≤ (l5 + 1) ∧ (l5 + 1) < 200 then if 0 ≤ (B11 4 l0 5 (l5 + 1)) ∧ (B11 4 l0 5 (l5 + 1)) < K.2 1 then zbind (f_Event_hasPitch K (B11 4 l0 5 (l5 + 1)) l3 l4 F11 B11) (fun r16 F16 B16 => if r32 r16 then (if r16 = 0 then f_Performance_lastTied_77 K l5 F16 B16 else f_Performance_lastTied_28 K n (l5 + 1) l4 l3 l0 F16 B16) else none) else none else none) else none) else none else none) else none else none else none) = some (r, F9, B9) := hf
    refine lv_iload hx hb d_7_8_28 (lv_at hl 0 rfl) ?_
    refine lv_iconst (v := iI 1) hx hb d_7_8_30 rfl ?_
    refine zadd hx hb d_7_8_31 ?_
    refine lv_aload_n hx hb d_7_8_32 rfl (lv_at hl 3 rfl) ?_
    obtain ⟨g5, hf⟩ := gif hf
    refine zget (ci := 4) (C := RX4) (T := TX4) (v := .int (iI (F 4 l0 6))) (k := 6) hx hb hts inW_4 hown hK hZ g5.1 g5.2 rfl (by decide) k_4_136 rfl d_7_8_33 ?_
    obtain ⟨g6, hf⟩ := gif hf
    obtain ⟨g7, hf⟩ := gif hf
    refine zge (tgt := 77) hx hb g6 g7 d_7_8_36 (by decide) (fun h8 => ?_) (fun h8 => ?_)
    · replace hf := gpos hf h8
      exact b_Performance_lastTied_77 X hf hZ hS (lv_sub hl [0] rfl)
    · replace hf := gneg hf h8
      refine lv_aload_n hx hb d_7_8_39 rfl (lv_at hl 3 rfl) ?_
      refine zget (ci := 4) (C := RX4) (T := TX4) (v := .ref (ad 4 l0 (5 + 1))) (k := 5) hx hb hts inW_4 hown hK hZ g5.1 g5.2 rfl (by decide) k_4_131 rfl d_7_8_40 ?_
      refine lv_iload hx hb d_7_8_43 (lv_at hl 0 rfl) ?_
      obtain ⟨g9, hf⟩ := gif hf
      refine zaldR (t := 1) (x := 7) (ci := 4) (k := 5) hx hb hK rfl rfl hZ g5.1 g5.2 rfl (Nat.le_of_ble_eq_true rfl) g9.1 g9.2 d_7_8_45 ?_
      refine lv_iconst (v := iI 1) hx hb d_7_8_46 rfl ?_
      obtain ⟨g10, hf⟩ := gif hf
      refine W.eq (g2 := F0 m 47 ls [.int (iI 1), .ref (ad 1 (B 4 l0 5 l5) 0)]) (by rw [zrf_pos (ad := ad) (t := 1) g10.1]; try rfl) ?_
      obtain ⟨r11, F11, B11, hc11, hf⟩ := gbind hf
      refine va_calli (va_runV (As := [.int (iI 1)]) (rest := []) ⟨hx, hb, hml, hown, hts⟩ (c_Event_has (l := l) hc11) (cwV 1 hts (gdV k_6_119 k_5_16 k_5_17 k_1_8 k_5_18) rfl rfl rfl (by decide +kernel) ⟨Nat.le_of_ble_eq_true rfl, Nat.le_of_ble_eq_true rfl⟩) (zPV X hZ hS (ci := 1) g10.1 g10.2 (r := (RX1, TX1, 14)) rfl [.int (iI 1)]) rfl rfl hl.1 rfl (lv_room (Nat.le_of_ble_eq_true rfl)) d_7_8_47 ⟨Nat.le_of_ble_eq_true rfl, Nat.le_of_ble_eq_true rfl⟩) hS (fun q _ h => zAin X hS q h) (zAin X hS) (fun p11 u11 t11 H11 locs11 ht11 hv11 hw11 hB11 hz11 hk11 hS11 => ?_)
      have hZ11 := zBack X ht11 hB11
      subst hw11
      obtain ⟨g12, hf⟩ := gif hf
      refine z0eq (tgt := 77) hx hb g12 d_7_8_50 (by decide) (fun h13 => ?_) (fun h13 => ?_)
      · replace hf := gpos hf h13
        exact b_Performance_lastTied_77 X hf hZ11 hS11 (lv_sub hl [0] rfl)
      · replace hf := gneg hf h13
        refine lv_aload_n hx hb d_7_8_53 rfl (lv_at hl 3 rfl) ?_
        refine zget (ci := 4) (C := RX4) (T := TX4) (v := .ref (ad 4 l0 (5 + 1))) (k := 5) hx hb hts inW_4 hown hK hZ11 g5.1 g5.2 rfl (by decide) k_4_131 rfl d_7_8_54 ?_
        refine lv_iload hx hb d_7_8_57 (lv_at hl 0 rfl) ?_
        refine lv_iconst (v := iI 1) hx hb d_7_8_59 rfl ?_
        refine zadd hx hb d_7_8_60 ?_
        obtain ⟨g14, hf⟩ := gif hf
        refine zaldR (t := 1) (x := 7) (ci := 4) (k := 5) hx hb hK rfl rfl hZ11 g5.1 g5.2 rfl (Nat.le_of_ble_eq_true rfl) g14.1 g14.2 d_7_8_61 ?_
        refine lv_iload_n hx hb d_7_8_62 rfl (lv_at hl 2 rfl) ?_
        refine lv_iload hx hb d_7_8_63 (lv_at hl 1 rfl) ?_
        obtain ⟨g15, hf⟩ := gif hf
        refine W.eq (g2 := F0 m 65 ls [.int (iI l4), .int (iI l3), .ref (ad 1 (B11 4 l0 5 (l5 + 1)) 0)]) (by rw [zrf_pos (ad := ad) (t := 1) g15.1]; try rfl) ?_
        obtain ⟨r16, F16, B16, hc16, hf⟩ := gbind hf
        refine va_calli (va_runV (As := [.int (iI l3), .int (iI l4)]) (rest := []) ⟨hx, hb, hml, hown, hts⟩ (c_Event_hasPitch (l := l) hc16) (cwV 2 hts (gdV k_6_149 k_5_46 k_5_47 k_1_8 k_5_48) rfl rfl rfl (by decide +kernel) ⟨Nat.le_of_ble_eq_true rfl, Nat.le_of_ble_eq_true rfl⟩) (zPV X hZ11 hS11 (ci := 1) g15.1 g15.2 (r := (RX1, TX1, 14)) rfl [.int (iI l3), .int (iI l4)]) rfl rfl hl.1 rfl (lv_room (Nat.le_of_ble_eq_true rfl)) d_7_8_65 ⟨Nat.le_of_ble_eq_true rfl, Nat.le_of_ble_eq_true rfl⟩) hS11 (fun q _ h => zAin X hS11 q h) (zAin X hS11) (fun p16 u16 t16 H16 locs16 ht16 hv16 hw16 hB16 hz16 hk16 hS16 => ?_)
        have hZ16 := zBack X ht16 hB16
        subst hw16
        obtain ⟨g17, hf⟩ := gif hf
        refine z0eq (tgt := 77) hx hb g17 d_7_8_68 (by decide) (fun h18 => ?_) (fun h18 => ?_)
        · replace hf := gpos hf h18
          exact b_Performance_lastTied_77 X hf hZ16 hS16 (lv_sub hl [0] rfl)
        · replace hf := gneg hf h18
          refine lv_iinc (v := iI (l5 + 1)) (lv' := [(5, .int (iI (l5 + 1))), (4, .int (iI l4)), (3, .int (iI l3)), (0, .ref (ad 4 l0 0))]) hx hb d_7_8_71 hl (k := 0) rfl (iI_add _ 1) (by decide) rfl (fun ls hl => ?_)
          refine lv_goto (tgt := 28) hx hb d_7_8_74 (by decide) ?_
          exact ih hf hZ16 hS16 (lv_sub hl [0, 1, 2, 3] rfl)

noncomputable def f_Performance_lastTied (K : zK) (l0 : Int) (l1 : Int) (l2 : Int) (F : zF) (B : zB) : zO := if 0 ≤ l0 ∧ l0 < K.2 4 then if 0 ≤ l1 ∧ l1 < 200 then if 0 ≤ (B 4 l0 5 l1) ∧ (B 4 l0 5 l1) < K.2 1 then if 0 ≤ l2 ∧ l2 < 6 then f_Performance_lastTied_28 K K.1 l1 (B 1 (B 4 l0 5 l1) 13 l2) (B 1 (B 4 l0 5 l1) 12 l2) l0 F B else none else none else none else none
set_option maxHeartbeats 4000000 in
set_option maxRecDepth 100000 in
theorem c_Performance_lastTied {l : Launch} {D : va_G} {ca : Nat → ClassId} {ad : Nat → Int → Nat → Nat} {L : List Nat} {aS vS : Nat → Nat} {sz : Nat} {K : zK}  {l0 : Int} {l1 : Int} {l2 : Int} {F F9 : zF} {B B9 : zB} {r : Int} (hf : f_Performance_lastTied K l0 l1 l2 F B = some (r, F9, B9)) : Met l ({ cls := "StaveHouse$Performance", name := "lastTied", desc := "(LStaveHouse$Part;II)I" } : Jvm.MethodName) (Cond.code ({ cls := "StaveHouse$Performance", name := "lastTied", desc := "(LStaveHouse$Part;II)I" } : Jvm.MethodName) prog_7_method_8_code 6 (Option.some Jvm.ClassFile.FieldType.int) :: wAll) ({ frames := 1, cells := 0, slots := 0, locals := 23 } : Room) (va_Pc [.ref (ad 4 l0 0), .int (iI l1), .int (iI l2)] (zPre D ca ad lnC K.2 L aS vS F B sz)) (Q_Performance_lastTied K D ca ad L r F9 B9 (zA L sz)) 0 0 (zA L sz) := by
  refine zMet (Qc := Q_Performance_lastTied K D ca ad L r F9 B9) (lv := [(0, .ref (ad 4 l0 0)), (1, .int (iI l1)), (2, .int (iI l2))]) (by decide) (Nat.le_of_ble_eq_true rfl) rfl (fun A p e s m below meth c ls X hZ hS hl => ?_)
  obtain ⟨hx, hb, hr, hml, hown, hts, hlk, hK, hA, hL, hX⟩ := id X
  replace hf : (if 0 ≤ l0 ∧ l0 < K.2 4 then if 0 ≤ l1 ∧ l1 < 200 then if 0 ≤ (B 4 l0 5 l1) ∧ (B 4 l0 5 l1) < K.2 1 then if 0 ≤ l2 ∧ l2 < 6 then f_Performance_lastTied_28 K K.1 l1 (B 1 (B 4 l0 5 l1) 13 l2) (B 1 (B 4 l0 5 l1) 12 l2) l0 F B else none else none else none else none) = some (r, F9, B9) := hf
  refine lv_aload_n hx hb d_7_8_0 rfl (lv_at hl 0 rfl) ?_
  obtain ⟨g1, hf⟩ := gif hf
  refine zget (ci := 4) (C := RX4) (T := TX4) (v := .ref (ad 4 l0 (5 + 1))) (k := 5) hx hb hts inW_4 hown hK hZ g1.1 g1.2 rfl (by decide) k_4_131 rfl d_7_8_1 ?_
  refine lv_iload_n hx hb d_7_8_4 rfl (lv_at hl 1 rfl) ?_
  obtain ⟨g2, hf⟩ := gif hf
  refine zaldR (t := 1) (x := 7) (ci := 4) (k := 5) hx hb hK rfl rfl hZ g1.1 g1.2 rfl (Nat.le_of_ble_eq_true rfl) g2.1 g2.2 d_7_8_5 ?_
  obtain ⟨g3, hf⟩ := gif hf
  refine zunrf g3.1 ?_
  refine zget (ci := 1) (C := RX1) (T := TX1) (v := .ref (ad 1 (B 4 l0 5 l1) (12 + 1))) (k := 12) hx hb hts inW_1 hown hK hZ g3.1 g3.2 rfl (by decide) k_2_59 rfl d_7_8_6 ?_
  refine lv_iload_n hx hb d_7_8_9 rfl (lv_at hl 2 rfl) ?_
  obtain ⟨g4, hf⟩ := gif hf
  refine zald (ci := 1) (k := 12) hx hb hK rfl hZ g3.1 g3.2 rfl (Nat.le_of_ble_eq_true rfl) g4.1 g4.2 d_7_8_10 ?_
  refine lv_istore_n (lv' := [(3, .int (iI (B 1 (B 4 l0 5 l1) 12 l2))), (0, .ref (ad 4 l0 0)), (1, .int (iI l1)), (2, .int (iI l2))]) hx hb d_7_8_11 rfl hl (by decide) rfl (fun ls hl => ?_)
  refine lv_aload_n hx hb d_7_8_12 rfl (lv_at hl 1 rfl) ?_
  refine zget (ci := 4) (C := RX4) (T := TX4) (v := .ref (ad 4 l0 (5 + 1))) (k := 5) hx hb hts inW_4 hown hK hZ g1.1 g1.2 rfl (by decide) k_4_131 rfl d_7_8_13 ?_
  refine lv_iload_n hx hb d_7_8_16 rfl (lv_at hl 2 rfl) ?_
  refine zaldR (t := 1) (x := 7) (ci := 4) (k := 5) hx hb hK rfl rfl hZ g1.1 g1.2 rfl (Nat.le_of_ble_eq_true rfl) g2.1 g2.2 d_7_8_17 ?_
  refine zunrf g3.1 ?_
  refine zget (ci := 1) (C := RX1) (T := TX1) (v := .ref (ad 1 (B 4 l0 5 l1) (13 + 1))) (k := 13) hx hb hts inW_1 hown hK hZ g3.1 g3.2 rfl (by decide) k_2_64 rfl d_7_8_18 ?_
  refine lv_iload_n hx hb d_7_8_21 rfl (lv_at hl 3 rfl) ?_
  refine zald (ci := 1) (k := 13) hx hb hK rfl hZ g3.1 g3.2 rfl (Nat.le_of_ble_eq_true rfl) g4.1 g4.2 d_7_8_22 ?_
  refine lv_istore (lv' := [(4, .int (iI (B 1 (B 4 l0 5 l1) 13 l2))), (3, .int (iI (B 1 (B 4 l0 5 l1) 12 l2))), (0, .ref (ad 4 l0 0)), (1, .int (iI l1)), (2, .int (iI l2))]) hx hb d_7_8_23 hl (by decide) rfl (fun ls hl => ?_)
  refine lv_iload_n hx hb d_7_8_25 rfl (lv_at hl 3 rfl) ?_
  refine lv_istore (lv' := [(5, .int (iI l1)), (4, .int (iI (B 1 (B 4 l0 5 l1) 13 l2))), (3, .int (iI (B 1 (B 4 l0 5 l1) 12 l2))), (0, .ref (ad 4 l0 0)), (1, .int (iI l1)), (2, .int (iI l2))]) hx hb d_7_8_26 hl (by decide) rfl (fun ls hl => ?_)
  exact b_Performance_lastTied_28 X hf hZ hS (lv_sub hl [0, 1, 2, 3] rfl)

noncomputable abbrev Q_Performance_sounded (K : zK) (D : va_G) (ca : Nat → ClassId) (ad : Nat → Int → Nat → Nat) (L : List Nat) (r : Int) (F : zF) (B : zB) (A : Nat → Prop) : Array Value → State → Outcome → State → Prop := va_Qi (S := Unit) (fun p _ => p = iI r) (fun _ => zPo D ca ad lnC K.2 L F B A) A
noncomputable def f_Performance_sounded_43 (K : zK) (s0 : Int) (F : zF) (B : zB) : zO := some (s0, F, B)
set_option maxHeartbeats 4000000 in
set_option maxRecDepth 100000 in
theorem b_Performance_sounded_43 {D : va_G} {ca : Nat → ClassId} {ad : Nat → Int → Nat → Nat} {L : List Nat} {aS vS : Nat → Nat} {A : Nat → Prop} {p : Program} {l : Launch} {e : Env} {s : State} {m : MethodId} {args : Array Value} {below : List Frame} {meth : Method} {c : Code} {K : zK} {r : Int} {F9 : zF} {B9 : zB} (X : zX D ca L aS vS A p s m args meth c prog_7_method_9_code 2 (Option.some Jvm.ClassFile.FieldType.int) "StaveHouse$Performance") {s0 : Int} {F : zF} {B : zB} {H : Heap} {locs : List Loc} {ls : Array Slot} (hf : f_Performance_sounded_43 K s0 F B = some (r, F9, B9)) (hZ : zH D ca ad lnC K.2 L F B A H) (hS : va_S A s.heap H locs) (hl : lv_has ls 2 []) : W p l e ({ frames := 1, cells := 0, slots := 0, locals := 21 } : Room) s m args below meth c H locs 0 0 (MQ below (Q_Performance_sounded K D ca ad L r F9 B9 A) args s 0 0 A) (F0 m 43 ls [.int (iI s0)]) := by
  obtain ⟨hx, hb, hr, hml, hown, hts, hlk, hK, hA, hL, hX⟩ := id X
  replace hf : (some (s0, F, B)) = some (r, F9, B9) := hf
  cases hf
  exact W.iret hx hb hr (fun t ht hW => ⟨⟨_, (), rfl, rfl, by rw [ht]; exact hZ, va_K.moved hW.alike hK⟩, hS.F ht⟩) hS.2.2 d_7_9_43 hlk

noncomputable def f_Performance_sounded_33 (K : zK) (l1 : Int) (F : zF) (B : zB) : zO := f_Performance_sounded_43 K l1 F B
set_option maxHeartbeats 4000000 in
set_option maxRecDepth 100000 in
theorem b_Performance_sounded_33 {D : va_G} {ca : Nat → ClassId} {ad : Nat → Int → Nat → Nat} {L : List Nat} {aS vS : Nat → Nat} {A : Nat → Prop} {p : Program} {l : Launch} {e : Env} {s : State} {m : MethodId} {args : Array Value} {below : List Frame} {meth : Method} {c : Code} {K : zK} {r : Int} {F9 : zF} {B9 : zB} (X : zX D ca L aS vS A p s m args meth c prog_7_method_9_code 2 (Option.some Jvm.ClassFile.FieldType.int) "StaveHouse$Performance") {l1 : Int} {F : zF} {B : zB} {H : Heap} {locs : List Loc} {ls : Array Slot} (hf : f_Performance_sounded_33 K l1 F B = some (r, F9, B9)) (hZ : zH D ca ad lnC K.2 L F B A H) (hS : va_S A s.heap H locs) (hl : lv_has ls 2 [(1, .int (iI l1))]) : W p l e ({ frames := 1, cells := 0, slots := 0, locals := 21 } : Room) s m args below meth c H locs 0 0 (MQ below (Q_Performance_sounded K D ca ad L r F9 B9 A) args s 0 0 A) (F0 m 33 ls []) := by
  obtain ⟨hx, hb, hr, hml, hown, hts, hlk, hK, hA, hL, hX⟩ := id X
  replace hf : (f_Performance_sounded_43 K l1 F B) = some (r, F9, B9) := hf
  refine lv_iload_n hx hb d_7_9_33 rfl (lv_at hl 0 rfl) ?_
  refine lv_goto (tgt := 43) hx hb d_7_9_34 (by decide) ?_
  exact b_Performance_sounded_43 X hf hZ hS (lv_sub hl [] rfl)

noncomputable def f_Performance_sounded (K : zK) (l0 : Int) (l1 : Int) (F : zF) (B : zB) : zO := if 0 ≤ l0 ∧ l0 < K.2 1 then zbind (f_Event_has K l0 8 F B) (fun r2 F2 B2 => if r32 r2 then (if r2 = 0 then zbind (f_Event_has K l0 32 F2 B2) (fun r5 F5 B5 => if r32 r5 then (if r5 = 0 then if r32 (F5 1 l0 11) then (if (F5 1 l0 11) = 0 then f_Performance_sounded_43 K (l1 - (zdv l1 8)) F5 B5 else f_Performance_sounded_33 K l1 F5 B5) else none else f_Performance_sounded_33 K l1 F5 B5) else none) else if r32 (zdv l1 2) then some (zmax 1 (zdv l1 2), F2, B2) else none) else none) else none
set_option maxHeartbeats 4000000 in
set_option maxRecDepth 100000 in
theorem c_Performance_sounded {l : Launch} {D : va_G} {ca : Nat → ClassId} {ad : Nat → Int → Nat → Nat} {L : List Nat} {aS vS : Nat → Nat} {sz : Nat} {K : zK}  {l0 : Int} {l1 : Int} {F F9 : zF} {B B9 : zB} {r : Int} (hf : f_Performance_sounded K l0 l1 F B = some (r, F9, B9)) : Met l ({ cls := "StaveHouse$Performance", name := "sounded", desc := "(LStaveHouse$Event;I)I" } : Jvm.MethodName) (Cond.code ({ cls := "StaveHouse$Performance", name := "sounded", desc := "(LStaveHouse$Event;I)I" } : Jvm.MethodName) prog_7_method_9_code 2 (Option.some Jvm.ClassFile.FieldType.int) :: wAll) ({ frames := 1, cells := 0, slots := 0, locals := 21 } : Room) (va_Pc [.ref (ad 1 l0 0), .int (iI l1)] (zPre D ca ad lnC K.2 L aS vS F B sz)) (Q_Performance_sounded K D ca ad L r F9 B9 (zA L sz)) 0 0 (zA L sz) := by
  refine zMet (Qc := Q_Performance_sounded K D ca ad L r F9 B9) (lv := [(0, .ref (ad 1 l0 0)), (1, .int (iI l1))]) (by decide) (Nat.le_of_ble_eq_true rfl) rfl (fun A p e s m below meth c ls X hZ hS hl => ?_)
  obtain ⟨hx, hb, hr, hml, hown, hts, hlk, hK, hA, hL, hX⟩ := id X
  replace hf : (if 0 ≤ l0 ∧ l0 < K.2 1 then zbind (f_Event_has K l0 8 F B) (fun r2 F2 B2 => if r32 r2 then (if r2 = 0 then zbind (f_Event_has K l0 32 F2 B2) (fun r5 F5 B5 => if r32 r5 then (if r5 = 0 then if r32 (F5 1 l0 11) then (if (F5 1 l0 11) = 0 then f_Performance_sounded_43 K (l1 - (zdv l1 8)) F5 B5 else f_Performance_sounded_33 K l1 F5 B5) else none else f_Performance_sounded_33 K l1 F5 B5) else none) else if r32 (zdv l1 2) then some (zmax 1 (zdv l1 2), F2, B2) else none) else none) else none) = some (r, F9, B9) := hf
  refine lv_aload_n hx hb d_7_9_0 rfl (lv_at hl 0 rfl) ?_
  refine lv_bipush (v := iI 8) hx hb d_7_9_1 (by decide) ?_
  obtain ⟨g1, hf⟩ := gif hf
  obtain ⟨r2, F2, B2, hc2, hf⟩ := gbind hf
  refine va_calli (va_runV (As := [.int (iI 8)]) (rest := []) ⟨hx, hb, hml, hown, hts⟩ (c_Event_has (l := l) hc2) (cwV 1 hts (gdV k_6_119 k_5_16 k_5_17 k_1_8 k_5_18) rfl rfl rfl (by decide +kernel) ⟨Nat.le_of_ble_eq_true rfl, Nat.le_of_ble_eq_true rfl⟩) (zPV X hZ hS (ci := 1) g1.1 g1.2 (r := (RX1, TX1, 14)) rfl [.int (iI 8)]) rfl rfl hl.1 rfl (lv_room (Nat.le_of_ble_eq_true rfl)) d_7_9_3 ⟨Nat.le_of_ble_eq_true rfl, Nat.le_of_ble_eq_true rfl⟩) hS (fun q _ h => zAin X hS q h) (zAin X hS) (fun p2 u2 t2 H2 locs2 ht2 hv2 hw2 hB2 hz2 hk2 hS2 => ?_)
  have hZ2 := zBack X ht2 hB2
  subst hw2
  obtain ⟨g3, hf⟩ := gif hf
  refine z0eq (tgt := 17) hx hb g3 d_7_9_6 (by decide) (fun h4 => ?_) (fun h4 => ?_)
  · replace hf := gpos hf h4
    refine lv_aload_n hx hb d_7_9_17 rfl (lv_at hl 0 rfl) ?_
    refine lv_bipush (v := iI 32) hx hb d_7_9_18 (by decide) ?_
    obtain ⟨r5, F5, B5, hc5, hf⟩ := gbind hf
    refine va_calli (va_runV (As := [.int (iI 32)]) (rest := []) ⟨hx, hb, hml, hown, hts⟩ (c_Event_has (l := l) hc5) (cwV 1 hts (gdV k_6_119 k_5_16 k_5_17 k_1_8 k_5_18) rfl rfl rfl (by decide +kernel) ⟨Nat.le_of_ble_eq_true rfl, Nat.le_of_ble_eq_true rfl⟩) (zPV X hZ2 hS2 (ci := 1) g1.1 g1.2 (r := (RX1, TX1, 14)) rfl [.int (iI 32)]) rfl rfl hl.1 rfl (lv_room (Nat.le_of_ble_eq_true rfl)) d_7_9_20 ⟨Nat.le_of_ble_eq_true rfl, Nat.le_of_ble_eq_true rfl⟩) hS2 (fun q _ h => zAin X hS2 q h) (zAin X hS2) (fun p5 u5 t5 H5 locs5 ht5 hv5 hw5 hB5 hz5 hk5 hS5 => ?_)
    have hZ5 := zBack X ht5 hB5
    subst hw5
    obtain ⟨g6, hf⟩ := gif hf
    refine z0ne (tgt := 33) hx hb g6 d_7_9_23 (by decide) (fun h7 => ?_) (fun h7 => ?_)
    · replace hf := gneg hf h7
      exact b_Performance_sounded_33 X hf hZ5 hS5 (lv_sub hl [1] rfl)
    · replace hf := gpos hf h7
      refine lv_aload_n hx hb d_7_9_26 rfl (lv_at hl 0 rfl) ?_
      refine zget (ci := 1) (C := RX1) (T := TX1) (v := .int (iI (F5 1 l0 11))) (k := 11) hx hb hts inW_1 hown hK hZ5 g1.1 g1.2 rfl (by decide) k_2_56 rfl d_7_9_27 ?_
      obtain ⟨g8, hf⟩ := gif hf
      refine z0eq (tgt := 37) hx hb g8 d_7_9_30 (by decide) (fun h9 => ?_) (fun h9 => ?_)
      · replace hf := gpos hf h9
        refine lv_iload_n hx hb d_7_9_37 rfl (lv_at hl 1 rfl) ?_
        refine lv_iload_n hx hb d_7_9_38 rfl (lv_at hl 1 rfl) ?_
        refine lv_bipush (v := iI 8) hx hb d_7_9_39 (by decide) ?_
        refine zdv_r hx hb (by decide) d_7_9_41 ?_
        refine zsub hx hb d_7_9_42 ?_
        exact b_Performance_sounded_43 X hf hZ5 hS5 (lv_sub hl [] rfl)
      · replace hf := gneg hf h9
        exact b_Performance_sounded_33 X hf hZ5 hS5 (lv_sub hl [1] rfl)
  · replace hf := gneg hf h4
    refine lv_iconst (v := iI 1) hx hb d_7_9_9 rfl ?_
    refine lv_iload_n hx hb d_7_9_10 rfl (lv_at hl 1 rfl) ?_
    refine lv_iconst (v := iI 2) hx hb d_7_9_11 rfl ?_
    refine zdv_r hx hb (by decide) d_7_9_12 ?_
    obtain ⟨g10, hf⟩ := gif hf
    refine va_mmax hx hb (by rw [hml]; exact hl.1.symm) hown (hts _ k_6_153) (hts _ k_1_39) (hts _ k_1_3) (hts _ k_1_40) (Nat.le_of_ble_eq_true rfl) (Nat.le_of_ble_eq_true rfl) (Nat.le_of_ble_eq_true rfl) (Nat.le_of_ble_eq_true rfl) d_7_9_13 ?_
    rw [zmax_e (by decide) g10]
    cases hf
    exact W.iret hx hb hr (fun t ht hW => ⟨⟨_, (), rfl, rfl, by rw [ht]; exact hZ2, va_K.moved hW.alike hK⟩, hS2.F ht⟩) hS2.2.2 d_7_9_16 hlk

noncomputable abbrev Q_Performance_keyHeard (K : zK) (D : va_G) (ca : Nat → ClassId) (ad : Nat → Int → Nat → Nat) (L : List Nat) (r : Int) (F : zF) (B : zB) (A : Nat → Prop) : Array Value → State → Outcome → State → Prop := va_Qi (S := Unit) (fun p _ => p = iI r) (fun _ => zPo D ca ad lnC K.2 L F B A) A
noncomputable def f_Performance_keyHeard_186 (rec99 : Int → Int → Int → Int → zF → zB → zO) (K : zK) (l4 : Int) (l2 : Int) (l1 : Int) (l0 : Int) (F : zF) (B : zB) : zO := rec99 (l4 + 1) l2 l1 l0 F B
set_option maxHeartbeats 4000000 in
set_option maxRecDepth 100000 in
theorem b_Performance_keyHeard_186 {D : va_G} {ca : Nat → ClassId} {ad : Nat → Int → Nat → Nat} {L : List Nat} {aS vS : Nat → Nat} {A : Nat → Prop} {p : Program} {l : Launch} {e : Env} {s : State} {m : MethodId} {args : Array Value} {below : List Frame} {meth : Method} {c : Code} {K : zK} {r : Int} {F9 : zF} {B9 : zB} (X : zX D ca L aS vS A p s m args meth c prog_7_method_16_code 9 (Option.some Jvm.ClassFile.FieldType.int) "StaveHouse$Performance") {rec99 : Int → Int → Int → Int → zF → zB → zO} (hrec99 : ∀ {l4 : Int} {l2 : Int} {l1 : Int} {l0 : Int} {F : zF} {B : zB} {H : Heap} {locs : List Loc} {ls : Array Slot}, rec99 l4 l2 l1 l0 F B = some (r, F9, B9) → zH D ca ad lnC K.2 L F B A H → va_S A s.heap H locs → lv_has ls 9 [(4, .int (iI l4)), (2, .long (lI l2)), (1, .int (iI l1)), (0, .ref (ad 5 l0 0))] → W p l e ({ frames := 1, cells := 0, slots := 0, locals := 22 } : Room) s m args below meth c H locs 0 0 (MQ below (Q_Performance_keyHeard K D ca ad L r F9 B9 A) args s 0 0 A) (F0 m 99 ls [])) {l4 : Int} {l2 : Int} {l1 : Int} {l0 : Int} {F : zF} {B : zB} {H : Heap} {locs : List Loc} {ls : Array Slot} (hf : f_Performance_keyHeard_186 rec99 K l4 l2 l1 l0 F B = some (r, F9, B9)) (hZ : zH D ca ad lnC K.2 L F B A H) (hS : va_S A s.heap H locs) (hl : lv_has ls 9 [(4, .int (iI l4)), (2, .long (lI l2)), (1, .int (iI l1)), (0, .ref (ad 5 l0 0))]) : W p l e ({ frames := 1, cells := 0, slots := 0, locals := 22 } : Room) s m args below meth c H locs 0 0 (MQ below (Q_Performance_keyHeard K D ca ad L r F9 B9 A) args s 0 0 A) (F0 m 186 ls []) := by
  obtain ⟨hx, hb, hr, hml, hown, hts, hlk, hK, hA, hL, hX⟩ := id X
  replace hf : (rec99 (l4 + 1) l2 l1 l0 F B) = some (r, F9, B9) := hf
  refine lv_iinc (v := iI (l4 + 1)) (lv' := [(4, .int (iI (l4 + 1))), (2, .long (lI l2)), (1, .int (iI l1)), (0, .ref (ad 5 l0 0))]) hx hb d_7_16_186 hl (k := 0) rfl (iI_add _ 1) (by decide) rfl (fun ls hl => ?_)
  refine lv_goto (tgt := 99) hx hb d_7_16_189 (by decide) ?_
  exact hrec99 hf hZ hS (lv_sub hl [0, 1, 2, 3] rfl)

noncomputable def f_Performance_keyHeard_162 (rec99 : Int → Int → Int → Int → zF → zB → zO) (rec112 : Int → Int → Int → Int → Int → Int → zF → zB → zO) (K : zK) (l7 : Int) (l4 : Int) (l2 : Int) (l1 : Int) (l0 : Int) (s0 : Int) (s1 : Int) (s2 : Int) (F : zF) (B : zB) : zO := if r32 s2 then rec112 (l7 + 1) (s0 + (s1 * s2)) l4 l2 l1 l0 F B else none
set_option maxHeartbeats 4000000 in
set_option maxRecDepth 100000 in
theorem b_Performance_keyHeard_162 {D : va_G} {ca : Nat → ClassId} {ad : Nat → Int → Nat → Nat} {L : List Nat} {aS vS : Nat → Nat} {A : Nat → Prop} {p : Program} {l : Launch} {e : Env} {s : State} {m : MethodId} {args : Array Value} {below : List Frame} {meth : Method} {c : Code} {K : zK} {r : Int} {F9 : zF} {B9 : zB} (X : zX D ca L aS vS A p s m args meth c prog_7_method_16_code 9 (Option.some Jvm.ClassFile.FieldType.int) "StaveHouse$Performance") {rec99 : Int → Int → Int → Int → zF → zB → zO} {rec112 : Int → Int → Int → Int → Int → Int → zF → zB → zO} (hrec99 : ∀ {l4 : Int} {l2 : Int} {l1 : Int} {l0 : Int} {F : zF} {B : zB} {H : Heap} {locs : List Loc} {ls : Array Slot}, rec99 l4 l2 l1 l0 F B = some (r, F9, B9) → zH D ca ad lnC K.2 L F B A H → va_S A s.heap H locs → lv_has ls 9 [(4, .int (iI l4)), (2, .long (lI l2)), (1, .int (iI l1)), (0, .ref (ad 5 l0 0))] → W p l e ({ frames := 1, cells := 0, slots := 0, locals := 22 } : Room) s m args below meth c H locs 0 0 (MQ below (Q_Performance_keyHeard K D ca ad L r F9 B9 A) args s 0 0 A) (F0 m 99 ls [])) (hrec112 : ∀ {l7 : Int} {l5 : Int} {l4 : Int} {l2 : Int} {l1 : Int} {l0 : Int} {F : zF} {B : zB} {H : Heap} {locs : List Loc} {ls : Array Slot}, rec112 l7 l5 l4 l2 l1 l0 F B = some (r, F9, B9) → zH D ca ad lnC K.2 L F B A H → va_S A s.heap H locs → lv_has ls 9 [(7, .int (iI l7)), (5, .long (lI l5)), (4, .int (iI l4)), (2, .long (lI l2)), (1, .int (iI l1)), (0, .ref (ad 5 l0 0))] → W p l e ({ frames := 1, cells := 0, slots := 0, locals := 22 } : Room) s m args below meth c H locs 0 0 (MQ below (Q_Performance_keyHeard K D ca ad L r F9 B9 A) args s 0 0 A) (F0 m 112 ls [])) {l7 : Int} {l4 : Int} {l2 : Int} {l1 : Int} {l0 : Int} {s0 : Int} {s1 : Int} {s2 : Int} {F : zF} {B : zB} {H : Heap} {locs : List Loc} {ls : Array Slot} (hf : f_Performance_keyHeard_162 rec99 rec112 K l7 l4 l2 l1 l0 s0 s1 s2 F B = some (r, F9, B9)) (hZ : zH D ca ad lnC K.2 L F B A H) (hS : va_S A s.heap H locs) (hl : lv_has ls 9 [(7, .int (iI l7)), (4, .int (iI l4)), (2, .long (lI l2)), (1, .int (iI l1)), (0, .ref (ad 5 l0 0))]) : W p l e ({ frames := 1, cells := 0, slots := 0, locals := 22 } : Room) s m args below meth c H locs 0 0 (MQ below (Q_Performance_keyHeard K D ca ad L r F9 B9 A) args s 0 0 A) (F0 m 162 ls [.int (iI s2), .long (lI s1), .long (lI s0)]) := by
  obtain ⟨hx, hb, hr, hml, hown, hts, hlk, hK, hA, hL, hX⟩ := id X
  replace hf : (if r32 s2 then rec112 (l7 + 1) (s0 + (s1 * s2)) l4 l2 l1 l0 F B else none) = some (r, F9, B9) := hf
  obtain ⟨g34, hf⟩ := gif hf
  refine zi2l hx hb g34 d_7_16_162 ?_
  refine zlmul hx hb d_7_16_163 ?_
  refine zladd hx hb d_7_16_164 ?_
  refine lv_lstore (lv' := [(5, .long (lI (s0 + (s1 * s2)))), (7, .int (iI l7)), (4, .int (iI l4)), (2, .long (lI l2)), (1, .int (iI l1)), (0, .ref (ad 5 l0 0))]) hx hb d_7_16_165 hl (by decide) rfl (fun ls hl => ?_)
  refine lv_iinc (v := iI (l7 + 1)) (lv' := [(7, .int (iI (l7 + 1))), (5, .long (lI (s0 + (s1 * s2)))), (4, .int (iI l4)), (2, .long (lI l2)), (1, .int (iI l1)), (0, .ref (ad 5 l0 0))]) hx hb d_7_16_167 hl (k := 1) rfl (iI_add _ 1) (by decide) rfl (fun ls hl => ?_)
  refine lv_goto (tgt := 112) hx hb d_7_16_170 (by decide) ?_
  exact hrec112 hf hZ hS (lv_sub hl [0, 1, 2, 3, 4, 5] rfl)

noncomputable def f_Performance_keyHeard_112 (rec99 : Int → Int → Int → Int → zF → zB → zO) (K : zK) : Nat → Int → Int → Int → Int → Int → Int → zF → zB → zO
  | 0, _, _, _, _, _, _, _, _ => none
  | n + 1, l7, l5, l4, l2, l1, l0, F, B => if r32 l7 then (if 12 ≤ l7 then if r64 l5 then if r64 l2 then (if (zcmp l5 l2) ≤ 0 then f_Performance_keyHeard_186 rec99 K l4 l2 l1 l0 F B else f_Performance_keyHeard_186 rec99 K l4 l5 l4 l0 F B) else none else none else zbind (f_Math_floorMod K (l7 - l4) 12 F B) (fun r26 F26 B26 => if 0 ≤ l0 ∧ l0 < K.2 5 then if 0 ≤ l7 ∧ l7 < 12 then if r32 l4 then (if 12 ≤ l4 then if 0 ≤ r26 ∧ r26 < ztl 12 then f_Performance_keyHeard_162 rec99 (f_Performance_keyHeard_112 rec99 K n) K l7 l4 l2 l1 l0 l5 (B26 5 l0 10 l7) (ztv 12 r26) F26 B26 else none else if 0 ≤ r26 ∧ r26 < ztl 11 then f_Performance_keyHeard_162 rec99 (f_Performance_keyHeard_112 rec99 K n) K l7 l4 l2 l1 l0 l5 (B26 5 l0 10 l7) (ztv 11 r26) F26 B26 else none) else none else none else none)) else none
set_option maxHeartbeats 4000000 in
set_option maxRecDepth 100000 in
theorem b_Performance_keyHeard_112 {D : va_G} {ca : Nat → ClassId} {ad : Nat → Int → Nat → Nat} {L : List Nat} {aS vS : Nat → Nat} {A : Nat → Prop} {p : Program} {l : Launch} {e : Env} {s : State} {m : MethodId} {args : Array Value} {below : List Frame} {meth : Method} {c : Code} {K : zK} {r : Int} {F9 : zF} {B9 : zB} (X : zX D ca L aS vS A p s m args meth c prog_7_method_16_code 9 (Option.some Jvm.ClassFile.FieldType.int) "StaveHouse$Performance") {rec99 : Int → Int → Int → Int → zF → zB → zO} (hrec99 : ∀ {l4 : Int} {l2 : Int} {l1 : Int} {l0 : Int} {F : zF} {B : zB} {H : Heap} {locs : List Loc} {ls : Array Slot}, rec99 l4 l2 l1 l0 F B = some (r, F9, B9) → zH D ca ad lnC K.2 L F B A H → va_S A s.heap H locs → lv_has ls 9 [(4, .int (iI l4)), (2, .long (lI l2)), (1, .int (iI l1)), (0, .ref (ad 5 l0 0))] → W p l e ({ frames := 1, cells := 0, slots := 0, locals := 22 } : Room) s m args below meth c H locs 0 0 (MQ below (Q_Performance_keyHeard K D ca ad L r F9 B9 A) args s 0 0 A) (F0 m 99 ls [])) : ∀ {n : Nat} {l7 : Int} {l5 : Int} {l4 : Int} {l2 : Int} {l1 : Int} {l0 : Int} {F : zF} {B : zB} {H : Heap} {locs : List Loc} {ls : Array Slot}, f_Performance_keyHeard_112 rec99 K n l7 l5 l4 l2 l1 l0 F B = some (r, F9, B9) → zH D ca ad lnC K.2 L F B A H → va_S A s.heap H locs → lv_has ls 9 [(7, .int (iI l7)), (5, .long (lI l5)), (4, .int (iI l4)), (2, .long (lI l2)), (1, .int (iI l1)), (0, .ref (ad 5 l0 0))] → W p l e ({ frames := 1, cells := 0, slots := 0, locals := 22 } : Room) s m args below meth c H locs 0 0 (MQ below (Q_Performance_keyHeard K D ca ad L r F9 B9 A) args s 0 0 A) (F0 m 112 ls []) := by
  obtain ⟨hx, hb, hr, hml, hown, hts, hlk, hK, hA, hL, hX⟩ := id X
  intro n
  induction n with
  | zero =>
    intros
    rename_i hf _ _ _
    cases hf
  | succ n ih =>
    intro l7 l5 l4 l2 l1 l0 F B H locs ls hf hZ hS hl
    replace hf : (if r32 l7 then (if 12 ≤ l7 then if r64 l5 then if r64 l2 then (if (zcmp l5 l2) ≤ 0 then f_Performance_keyHeard_186 rec99 K l4 l2 l1 l0 F B else f_Performance_keyHeard_186 rec99 K l4 l5 l4 l0 F B) else none else none else zbind (f_Math_floorMod K (l7 - l4) 12 F B) (fun r26 F26 B26 => if 0 ≤ l0 ∧ l0 < K.2 5 then if 0 ≤ l7 ∧ l7 < 12 then if r32 l4 then (if 12 ≤ l4 then if 0 ≤ r26 ∧ r26 < ztl 12 then f_Performance_keyHeard_162 rec99 (f_Performance_keyHeard_112 rec99 K n) K l7 l4 l2 l1 l0 l5 (B26 5 l0 10 l7) (ztv 12 r26) F26 B26 else none else if 0 ≤ r26 ∧ r26 < ztl 11 then f_Performance_keyHeard_162 rec99 (f_Performance_keyHeard_112 rec99 K n) K l7 l4 l2 l1 l0 l5 (B26 5 l0 10 l7) (ztv 11 r26) F26 B26 else none) else none else none else none)) else none) = some (r, F9, B9) := hf
    refine lv_iload hx hb d_7_16_112 (lv_at hl 0 rfl) ?_
    refine lv_bipush (v := iI 12) hx hb d_7_16_114 (by decide) ?_
    obtain ⟨g21, hf⟩ := gif hf
    refine zge (tgt := 173) hx hb g21 (by decide) d_7_16_116 (by decide) (fun h22 => ?_) (fun h22 => ?_)
    · replace hf := gpos hf h22
      refine lv_lload hx hb d_7_16_173 (lv_at hl 1 rfl) ?_
      refine lv_lload_n hx hb d_7_16_175 rfl (lv_at hl 3 rfl) ?_
      obtain ⟨g23, hf⟩ := gif hf
      obtain ⟨g24, hf⟩ := gif hf
      refine zcmp_r hx hb g23 g24 d_7_16_176 ?_
      refine z0le (tgt := 186) hx hb zcmp_32 d_7_16_177 (by decide) (fun h25 => ?_) (fun h25 => ?_)
      · replace hf := gpos hf h25
        exact b_Performance_keyHeard_186 X hrec99 hf hZ hS (lv_sub hl [2, 3, 4, 5] rfl)
      · replace hf := gneg hf h25
        refine lv_lload hx hb d_7_16_180 (lv_at hl 1 rfl) ?_
        refine lv_lstore_n (lv' := [(2, .long (lI l5)), (7, .int (iI l7)), (5, .long (lI l5)), (4, .int (iI l4)), (1, .int (iI l1)), (0, .ref (ad 5 l0 0))]) hx hb d_7_16_182 rfl hl (by decide) rfl (fun ls hl => ?_)
        refine lv_iload hx hb d_7_16_183 (lv_at hl 3 rfl) ?_
        refine lv_istore_n (lv' := [(1, .int (iI l4)), (2, .long (lI l5)), (7, .int (iI l7)), (5, .long (lI l5)), (4, .int (iI l4)), (0, .ref (ad 5 l0 0))]) hx hb d_7_16_185 rfl hl (by decide) rfl (fun ls hl => ?_)
        exact b_Performance_keyHeard_186 X hrec99 hf hZ hS (lv_sub hl [4, 1, 0, 5] rfl)
    · replace hf := gneg hf h22
      refine lv_iload hx hb d_7_16_119 (lv_at hl 0 rfl) ?_
      refine lv_iload hx hb d_7_16_121 (lv_at hl 2 rfl) ?_
      refine zsub hx hb d_7_16_123 ?_
      refine lv_bipush (v := iI 12) hx hb d_7_16_124 (by decide) ?_
      obtain ⟨r26, F26, B26, hc26, hf⟩ := gbind hf
      refine va_calli (va_runS (As := [.int (iI (l7 - l4)), .int (iI 12)]) (rest := []) ⟨hx, hb, hml, hown, hts⟩ (c_Math_floorMod (l := l) hc26) (va_cwS 2 hts (gdS k_6_159 k_4_71 k_1_3 k_4_72) rfl rfl rfl (by decide +kernel) ⟨Nat.le_of_ble_eq_true rfl, Nat.le_of_ble_eq_true rfl⟩) (zPS X hZ hS [.int (iI (l7 - l4)), .int (iI 12)]) rfl rfl hl.1 rfl (lv_room (Nat.le_of_ble_eq_true rfl)) d_7_16_126 ⟨Nat.le_of_ble_eq_true rfl, Nat.le_of_ble_eq_true rfl⟩) hS (fun q _ h => zAin X hS q h) (zAin X hS) (fun p26 u26 t26 H26 locs26 ht26 hv26 hw26 hB26 hz26 hk26 hS26 => ?_)
      have hZ26 := zBack X ht26 hB26
      subst hw26
      refine lv_istore (lv' := [(8, .int (iI r26)), (7, .int (iI l7)), (5, .long (lI l5)), (4, .int (iI l4)), (2, .long (lI l2)), (1, .int (iI l1)), (0, .ref (ad 5 l0 0))]) hx hb d_7_16_129 hl (by decide) rfl (fun ls hl => ?_)
      refine lv_lload hx hb d_7_16_131 (lv_at hl 2 rfl) ?_
      refine lv_aload_n hx hb d_7_16_133 rfl (lv_at hl 6 rfl) ?_
      obtain ⟨g27, hf⟩ := gif hf
      refine zget (ci := 5) (C := RX5) (T := TX5) (v := .ref (ad 5 l0 (10 + 1))) (k := 10) hx hb hts inW_5 hown hK hZ26 g27.1 g27.2 rfl (by decide) k_6_79 rfl d_7_16_134 ?_
      refine lv_iload hx hb d_7_16_137 (lv_at hl 1 rfl) ?_
      obtain ⟨g28, hf⟩ := gif hf
      refine zlald (ci := 5) (k := 10) hx hb hK rfl hZ26 g27.1 g27.2 rfl (Nat.le_of_ble_eq_true rfl) g28.1 g28.2 d_7_16_139 ?_
      refine lv_iload hx hb d_7_16_140 (lv_at hl 3 rfl) ?_
      refine lv_bipush (v := iI 12) hx hb d_7_16_142 (by decide) ?_
      obtain ⟨g29, hf⟩ := gif hf
      refine zge (tgt := 156) hx hb g29 (by decide) d_7_16_144 (by decide) (fun h30 => ?_) (fun h30 => ?_)
      · replace hf := gpos hf h30
        refine va_gets hx hb (hX.2.2.2.2.2.2 12 _ rfl).1 hS26 hown (hts _ k_6_162) (fun _ h => h) d_7_16_156 ?_
        refine W.eq (g2 := F0 m 159 ls [.ref (vS (1000 + 12)), .long (lI (B26 5 l0 10 l7)), .long (lI l5)]) rfl ?_
        refine lv_iload hx hb d_7_16_159 (lv_at hl 0 rfl) ?_
        obtain ⟨g31, hf⟩ := gif hf
        refine va_ti (v := .int (iI (ztv 12 r26))) hx hb (ztI hX (by decide) (by decide)) hS26 (zt_in (by decide) g31) (ztI_v (by decide) g31) d_7_16_161 ?_
        exact b_Performance_keyHeard_162 X hrec99 ih hf hZ26 hS26 (lv_sub hl [1, 3, 4, 5, 6] rfl)
      · replace hf := gneg hf h30
        refine va_gets hx hb (hX.2.2.2.2.2.2 11 _ rfl).1 hS26 hown (hts _ k_6_160) (fun _ h => h) d_7_16_147 ?_
        refine W.eq (g2 := F0 m 150 ls [.ref (vS (1000 + 11)), .long (lI (B26 5 l0 10 l7)), .long (lI l5)]) rfl ?_
        refine lv_iload hx hb d_7_16_150 (lv_at hl 0 rfl) ?_
        obtain ⟨g33, hf⟩ := gif hf
        refine va_ti (v := .int (iI (ztv 11 r26))) hx hb (ztI hX (by decide) (by decide)) hS26 (zt_in (by decide) g33) (ztI_v (by decide) g33) d_7_16_152 ?_
        refine lv_goto (tgt := 162) hx hb d_7_16_153 (by decide) ?_
        exact b_Performance_keyHeard_162 X hrec99 ih hf hZ26 hS26 (lv_sub hl [1, 3, 4, 5, 6] rfl)

noncomputable def f_Performance_keyHeard_99 (K : zK) : Nat → Int → Int → Int → Int → zF → zB → zO
  | 0, _, _, _, _, _, _ => none
  | n + 1, l4, l2, l1, l0, F, B => if r32 l4 then (if 24 ≤ l4 then some (l1, F, B) else f_Performance_keyHeard_112 (f_Performance_keyHeard_99 K n) K K.1 0 0 l4 l2 l1 l0 F B) else none
set_option maxHeartbeats 4000000 in
set_option maxRecDepth 100000 in
theorem b_Performance_keyHeard_99 {D : va_G} {ca : Nat → ClassId} {ad : Nat → Int → Nat → Nat} {L : List Nat} {aS vS : Nat → Nat} {A : Nat → Prop} {p : Program} {l : Launch} {e : Env} {s : State} {m : MethodId} {args : Array Value} {below : List Frame} {meth : Method} {c : Code} {K : zK} {r : Int} {F9 : zF} {B9 : zB} (X : zX D ca L aS vS A p s m args meth c prog_7_method_16_code 9 (Option.some Jvm.ClassFile.FieldType.int) "StaveHouse$Performance") : ∀ {n : Nat} {l4 : Int} {l2 : Int} {l1 : Int} {l0 : Int} {F : zF} {B : zB} {H : Heap} {locs : List Loc} {ls : Array Slot}, f_Performance_keyHeard_99 K n l4 l2 l1 l0 F B = some (r, F9, B9) → zH D ca ad lnC K.2 L F B A H → va_S A s.heap H locs → lv_has ls 9 [(4, .int (iI l4)), (2, .long (lI l2)), (1, .int (iI l1)), (0, .ref (ad 5 l0 0))] → W p l e ({ frames := 1, cells := 0, slots := 0, locals := 22 } : Room) s m args below meth c H locs 0 0 (MQ below (Q_Performance_keyHeard K D ca ad L r F9 B9 A) args s 0 0 A) (F0 m 99 ls []) := by
  obtain ⟨hx, hb, hr, hml, hown, hts, hlk, hK, hA, hL, hX⟩ := id X
  intro n
  induction n with
  | zero =>
    intros
    rename_i hf _ _ _
    cases hf
  | succ n ih =>
    intro l4 l2 l1 l0 F B H locs ls hf hZ hS hl
    replace hf : (if r32 l4 then (if 24 ≤ l4 then some (l1, F, B) else f_Performance_keyHeard_112 (f_Performance_keyHeard_99 K n) K K.1 0 0 l4 l2 l1 l0 F B) else none) = some (r, F9, B9) := hf
    refine lv_iload hx hb d_7_16_99 (lv_at hl 0 rfl) ?_
    refine lv_bipush (v := iI 24) hx hb d_7_16_101 (by decide) ?_
    obtain ⟨g19, hf⟩ := gif hf
    refine zge (tgt := 192) hx hb g19 (by decide) d_7_16_103 (by decide) (fun h20 => ?_) (fun h20 => ?_)
    · replace hf := gpos hf h20
      refine lv_iload_n hx hb d_7_16_192 rfl (lv_at hl 2 rfl) ?_
      cases hf
      exact W.iret hx hb hr (fun t ht hW => ⟨⟨_, (), rfl, rfl, by rw [ht]; exact hZ, va_K.moved hW.alike hK⟩, hS.F ht⟩) hS.2.2 d_7_16_193 hlk
    · replace hf := gneg hf h20
      refine lv_lconst (v := lI 0) hx hb d_7_16_106 (by decide) ?_
      refine lv_lstore (lv' := [(5, .long (lI 0)), (4, .int (iI l4)), (2, .long (lI l2)), (1, .int (iI l1)), (0, .ref (ad 5 l0 0))]) hx hb d_7_16_107 hl (by decide) rfl (fun ls hl => ?_)
      refine lv_iconst (v := iI 0) hx hb d_7_16_109 rfl ?_
      refine lv_istore (lv' := [(7, .int (iI 0)), (5, .long (lI 0)), (4, .int (iI l4)), (2, .long (lI l2)), (1, .int (iI l1)), (0, .ref (ad 5 l0 0))]) hx hb d_7_16_110 hl (by decide) rfl (fun ls hl => ?_)
      exact b_Performance_keyHeard_112 X ih hf hZ hS (lv_sub hl [0, 1, 2, 3, 4, 5] rfl)

noncomputable def f_Performance_keyHeard_39 (K : zK) : Nat → Int → Int → zF → zB → zO
  | 0, _, _, _, _ => none
  | n + 1, l1, l0, F, B => if 0 ≤ l0 ∧ l0 < K.2 5 then if r32 l1 then if r32 (F 5 l0 0) then (if (F 5 l0 0) ≤ l1 then f_Performance_keyHeard_99 K K.1 0 (-1) 0 l0 F B else if 0 ≤ l1 ∧ l1 < 2000 then if 0 ≤ (zrm (B 5 l0 342 l1) 12) ∧ (zrm (B 5 l0 342 l1) 12) < 12 then if r32 ((B 5 l0 345 l1) - (B 5 l0 344 l1)) then f_Performance_keyHeard_39 K n (l1 + 1) l0 F (zup4 B 5 l0 10 (zrm (B 5 l0 342 l1) 12) ((B 5 l0 10 (zrm (B 5 l0 342 l1) 12)) + ((B 5 l0 345 l1) - (B 5 l0 344 l1)))) else none else none else none) else none else none else none
set_option maxHeartbeats 4000000 in
set_option maxRecDepth 100000 in
theorem b_Performance_keyHeard_39 {D : va_G} {ca : Nat → ClassId} {ad : Nat → Int → Nat → Nat} {L : List Nat} {aS vS : Nat → Nat} {A : Nat → Prop} {p : Program} {l : Launch} {e : Env} {s : State} {m : MethodId} {args : Array Value} {below : List Frame} {meth : Method} {c : Code} {K : zK} {r : Int} {F9 : zF} {B9 : zB} (X : zX D ca L aS vS A p s m args meth c prog_7_method_16_code 9 (Option.some Jvm.ClassFile.FieldType.int) "StaveHouse$Performance") : ∀ {n : Nat} {l1 : Int} {l0 : Int} {F : zF} {B : zB} {H : Heap} {locs : List Loc} {ls : Array Slot}, f_Performance_keyHeard_39 K n l1 l0 F B = some (r, F9, B9) → zH D ca ad lnC K.2 L F B A H → va_S A s.heap H locs → lv_has ls 9 [(1, .int (iI l1)), (0, .ref (ad 5 l0 0))] → W p l e ({ frames := 1, cells := 0, slots := 0, locals := 22 } : Room) s m args below meth c H locs 0 0 (MQ below (Q_Performance_keyHeard K D ca ad L r F9 B9 A) args s 0 0 A) (F0 m 39 ls []) := by
  obtain ⟨hx, hb, hr, hml, hown, hts, hlk, hK, hA, hL, hX⟩ := id X
  intro n
  induction n with
  | zero =>
    intros
    rename_i hf _ _ _
    cases hf
  | succ n ih =>
    intro l1 l0 F B H locs ls hf hZ hS hl
    replace hf : (if 0 ≤ l0 ∧ l0 < K.2 5 then if r32 l1 then if r32 (F 5 l0 0) then (if (F 5 l0 0) ≤ l1 then f_Performance_keyHeard_99 K K.1 0 (-1) 0 l0 F B else if 0 ≤ l1 ∧ l1 < 2000 then if 0 ≤ (zrm (B 5 l0 342 l1) 12) ∧ (zrm (B 5 l0 342 l1) 12) < 12 then if r32 ((B 5 l0 345 l1) - (B 5 l0 344 l1)) then f_Performance_keyHeard_39 K n (l1 + 1) l0 F (zup4 B 5 l0 10 (zrm (B 5 l0 342 l1) 12) ((B 5 l0 10 (zrm (B 5 l0 342 l1) 12)) + ((B 5 l0 345 l1) - (B 5 l0 344 l1)))) else none else none else none) else none else none else none) = some (r, F9, B9) := hf
    refine lv_iload_n hx hb d_7_16_39 rfl (lv_at hl 0 rfl) ?_
    refine lv_aload_n hx hb d_7_16_40 rfl (lv_at hl 1 rfl) ?_
    obtain ⟨g11, hf⟩ := gif hf
    refine zget (ci := 5) (C := RX5) (T := TX5) (v := .int (iI (F 5 l0 0))) (k := 0) hx hb hts inW_5 hown hK hZ g11.1 g11.2 rfl (by decide) k_6_63 rfl d_7_16_41 ?_
    obtain ⟨g12, hf⟩ := gif hf
    obtain ⟨g13, hf⟩ := gif hf
    refine zge (tgt := 90) hx hb g12 g13 d_7_16_44 (by decide) (fun h14 => ?_) (fun h14 => ?_)
    · replace hf := gpos hf h14
      refine lv_iconst (v := iI 0) hx hb d_7_16_90 rfl ?_
      refine lv_istore_n (lv' := [(1, .int (iI 0)), (0, .ref (ad 5 l0 0))]) hx hb d_7_16_91 rfl hl (by decide) rfl (fun ls hl => ?_)
      refine lv_ldc2 hx hb hown (hts _ k_6_158) d_7_16_92 ?_
      refine W.eq (g2 := F0 m 95 ls [.long (lI (-1))]) rfl ?_
      refine lv_lstore_n (lv' := [(2, .long (lI (-1))), (1, .int (iI 0)), (0, .ref (ad 5 l0 0))]) hx hb d_7_16_95 rfl hl (by decide) rfl (fun ls hl => ?_)
      refine lv_iconst (v := iI 0) hx hb d_7_16_96 rfl ?_
      refine lv_istore (lv' := [(4, .int (iI 0)), (2, .long (lI (-1))), (1, .int (iI 0)), (0, .ref (ad 5 l0 0))]) hx hb d_7_16_97 hl (by decide) rfl (fun ls hl => ?_)
      exact b_Performance_keyHeard_99 X hf hZ hS (lv_sub hl [0, 1, 2, 3] rfl)
    · replace hf := gneg hf h14
      refine lv_aload_n hx hb d_7_16_47 rfl (lv_at hl 1 rfl) ?_
      refine zget (ci := 5) (C := RX5) (T := TX5) (v := .ref (ad 5 l0 (10 + 1))) (k := 10) hx hb hts inW_5 hown hK hZ g11.1 g11.2 rfl (by decide) k_6_79 rfl d_7_16_48 ?_
      refine lv_aload_n hx hb d_7_16_51 rfl (lv_at hl 1 rfl) ?_
      refine zget (ci := 5) (C := RX5) (T := TX5) (v := .ref (ad 5 l0 (7 + 1))) (k := 7) hx hb hts inW_5 hown hK hZ g11.1 g11.2 rfl (by decide) k_6_76 rfl d_7_16_52 ?_
      refine lv_iconst (v := iI 2) hx hb d_7_16_55 rfl ?_
      refine zaldQ (t := 0) (ci := 5) (k := 7) hx hb hK rfl hZ g11.1 g11.2 rfl (Nat.le_of_ble_eq_true rfl) (by decide) (by decide) d_7_16_56 ?_
      refine W.eq (g2 := F0 m 57 ls [.ref (ad 5 l0 (342 + 1)), .ref (ad 5 l0 (10 + 1))]) rfl ?_
      refine lv_iload_n hx hb d_7_16_57 rfl (lv_at hl 0 rfl) ?_
      obtain ⟨g15, hf⟩ := gif hf
      refine zald (ci := 5) (k := 342) hx hb hK rfl hZ g11.1 g11.2 rfl (Nat.le_of_ble_eq_true rfl) g15.1 g15.2 d_7_16_58 ?_
      refine lv_bipush (v := iI 12) hx hb d_7_16_59 (by decide) ?_
      refine zrm_r hx hb (by decide) d_7_16_61 ?_
      refine lv_dup2_11 hx hb d_7_16_62 rfl rfl ?_
      obtain ⟨g16, hf⟩ := gif hf
      refine zlald (ci := 5) (k := 10) hx hb hK rfl hZ g11.1 g11.2 rfl (Nat.le_of_ble_eq_true rfl) g16.1 g16.2 d_7_16_63 ?_
      refine lv_aload_n hx hb d_7_16_64 rfl (lv_at hl 1 rfl) ?_
      refine zget (ci := 5) (C := RX5) (T := TX5) (v := .ref (ad 5 l0 (7 + 1))) (k := 7) hx hb hts inW_5 hown hK hZ g11.1 g11.2 rfl (by decide) k_6_76 rfl d_7_16_65 ?_
      refine lv_iconst (v := iI 5) hx hb d_7_16_68 rfl ?_
      refine zaldQ (t := 0) (ci := 5) (k := 7) hx hb hK rfl hZ g11.1 g11.2 rfl (Nat.le_of_ble_eq_true rfl) (by decide) (by decide) d_7_16_69 ?_
      refine W.eq (g2 := F0 m 70 ls [.ref (ad 5 l0 (345 + 1)), .long (lI (B 5 l0 10 (zrm (B 5 l0 342 l1) 12))), .int (iI (zrm (B 5 l0 342 l1) 12)), .ref (ad 5 l0 (10 + 1))]) rfl ?_
      refine lv_iload_n hx hb d_7_16_70 rfl (lv_at hl 0 rfl) ?_
      refine zald (ci := 5) (k := 345) hx hb hK rfl hZ g11.1 g11.2 rfl (Nat.le_of_ble_eq_true rfl) g15.1 g15.2 d_7_16_71 ?_
      refine lv_aload_n hx hb d_7_16_72 rfl (lv_at hl 1 rfl) ?_
      refine zget (ci := 5) (C := RX5) (T := TX5) (v := .ref (ad 5 l0 (7 + 1))) (k := 7) hx hb hts inW_5 hown hK hZ g11.1 g11.2 rfl (by decide) k_6_76 rfl d_7_16_73 ?_
      refine lv_iconst (v := iI 4) hx hb d_7_16_76 rfl ?_
      refine zaldQ (t := 0) (ci := 5) (k := 7) hx hb hK rfl hZ g11.1 g11.2 rfl (Nat.le_of_ble_eq_true rfl) (by decide) (by decide) d_7_16_77 ?_
      refine W.eq (g2 := F0 m 78 ls [.ref (ad 5 l0 (344 + 1)), .int (iI (B 5 l0 345 l1)), .long (lI (B 5 l0 10 (zrm (B 5 l0 342 l1) 12))), .int (iI (zrm (B 5 l0 342 l1) 12)), .ref (ad 5 l0 (10 + 1))]) rfl ?_
      refine lv_iload_n hx hb d_7_16_78 rfl (lv_at hl 0 rfl) ?_
      refine zald (ci := 5) (k := 344) hx hb hK rfl hZ g11.1 g11.2 rfl (Nat.le_of_ble_eq_true rfl) g15.1 g15.2 d_7_16_79 ?_
      refine zsub hx hb d_7_16_80 ?_
      obtain ⟨g17, hf⟩ := gif hf
      refine zi2l hx hb g17 d_7_16_81 ?_
      refine zladd hx hb d_7_16_82 ?_
      refine zlast (ci := 5) (k := 10) hx hb hK rfl hZ hS g11.1 g11.2 rfl (Nat.le_of_ble_eq_true rfl) g16.1 g16.2 d_7_16_83 (fun H18 locs18 hZ18 hS18 => ?_)
      refine lv_iinc (v := iI (l1 + 1)) (lv' := [(1, .int (iI (l1 + 1))), (0, .ref (ad 5 l0 0))]) hx hb d_7_16_84 hl (k := 0) rfl (iI_add _ 1) (by decide) rfl (fun ls hl => ?_)
      refine lv_goto (tgt := 39) hx hb d_7_16_87 (by decide) ?_
      exact ih hf hZ18 hS18 (lv_sub hl [0, 1] rfl)

noncomputable def f_Performance_keyHeard_18 (K : zK) : Nat → Int → Int → zF → zB → zO
  | 0, _, _, _, _ => none
  | n + 1, l1, l0, F, B => if r32 l1 then (if 12 ≤ l1 then f_Performance_keyHeard_39 K K.1 0 l0 F B else if 0 ≤ l0 ∧ l0 < K.2 5 then if 0 ≤ l1 ∧ l1 < 12 then f_Performance_keyHeard_18 K n (l1 + 1) l0 F (zup4 B 5 l0 10 l1 0) else none else none) else none
set_option maxHeartbeats 4000000 in
set_option maxRecDepth 100000 in
theorem b_Performance_keyHeard_18 {D : va_G} {ca : Nat → ClassId} {ad : Nat → Int → Nat → Nat} {L : List Nat} {aS vS : Nat → Nat} {A : Nat → Prop} {p : Program} {l : Launch} {e : Env} {s : State} {m : MethodId} {args : Array Value} {below : List Frame} {meth : Method} {c : Code} {K : zK} {r : Int} {F9 : zF} {B9 : zB} (X : zX D ca L aS vS A p s m args meth c prog_7_method_16_code 9 (Option.some Jvm.ClassFile.FieldType.int) "StaveHouse$Performance") : ∀ {n : Nat} {l1 : Int} {l0 : Int} {F : zF} {B : zB} {H : Heap} {locs : List Loc} {ls : Array Slot}, f_Performance_keyHeard_18 K n l1 l0 F B = some (r, F9, B9) → zH D ca ad lnC K.2 L F B A H → va_S A s.heap H locs → lv_has ls 9 [(1, .int (iI l1)), (0, .ref (ad 5 l0 0))] → W p l e ({ frames := 1, cells := 0, slots := 0, locals := 22 } : Room) s m args below meth c H locs 0 0 (MQ below (Q_Performance_keyHeard K D ca ad L r F9 B9 A) args s 0 0 A) (F0 m 18 ls []) := by
  obtain ⟨hx, hb, hr, hml, hown, hts, hlk, hK, hA, hL, hX⟩ := id X
  intro n
  induction n with
  | zero =>
    intros
    rename_i hf _ _ _
    cases hf
  | succ n ih =>
    intro l1 l0 F B H locs ls hf hZ hS hl
    replace hf : (if r32 l1 then (if 12 ≤ l1 then f_Performance_keyHeard_39 K K.1 0 l0 F B else if 0 ≤ l0 ∧ l0 < K.2 5 then if 0 ≤ l1 ∧ l1 < 12 then f_Performance_keyHeard_18 K n (l1 + 1) l0 F (zup4 B 5 l0 10 l1 0) else none else none) else none) = some (r, F9, B9) := hf
    refine lv_iload_n hx hb d_7_16_18 rfl (lv_at hl 0 rfl) ?_
    refine lv_bipush (v := iI 12) hx hb d_7_16_19 (by decide) ?_
    obtain ⟨g6, hf⟩ := gif hf
    refine zge (tgt := 37) hx hb g6 (by decide) d_7_16_21 (by decide) (fun h7 => ?_) (fun h7 => ?_)
    · replace hf := gpos hf h7
      refine lv_iconst (v := iI 0) hx hb d_7_16_37 rfl ?_
      refine lv_istore_n (lv' := [(1, .int (iI 0)), (0, .ref (ad 5 l0 0))]) hx hb d_7_16_38 rfl hl (by decide) rfl (fun ls hl => ?_)
      exact b_Performance_keyHeard_39 X hf hZ hS (lv_sub hl [0, 1] rfl)
    · replace hf := gneg hf h7
      refine lv_aload_n hx hb d_7_16_24 rfl (lv_at hl 1 rfl) ?_
      obtain ⟨g8, hf⟩ := gif hf
      refine zget (ci := 5) (C := RX5) (T := TX5) (v := .ref (ad 5 l0 (10 + 1))) (k := 10) hx hb hts inW_5 hown hK hZ g8.1 g8.2 rfl (by decide) k_6_79 rfl d_7_16_25 ?_
      refine lv_iload_n hx hb d_7_16_28 rfl (lv_at hl 0 rfl) ?_
      refine lv_lconst (v := lI 0) hx hb d_7_16_29 (by decide) ?_
      obtain ⟨g9, hf⟩ := gif hf
      refine zlast (ci := 5) (k := 10) hx hb hK rfl hZ hS g8.1 g8.2 rfl (Nat.le_of_ble_eq_true rfl) g9.1 g9.2 d_7_16_30 (fun H10 locs10 hZ10 hS10 => ?_)
      refine lv_iinc (v := iI (l1 + 1)) (lv' := [(1, .int (iI (l1 + 1))), (0, .ref (ad 5 l0 0))]) hx hb d_7_16_31 hl (k := 0) rfl (iI_add _ 1) (by decide) rfl (fun ls hl => ?_)
      refine lv_goto (tgt := 18) hx hb d_7_16_34 (by decide) ?_
      exact ih hf hZ10 hS10 (lv_sub hl [0, 1] rfl)

noncomputable def f_Performance_keyHeard_14 (K : zK)  (F : zF) (B : zB) : zO := some ((-1), F, B)
set_option maxHeartbeats 4000000 in
set_option maxRecDepth 100000 in
theorem b_Performance_keyHeard_14 {D : va_G} {ca : Nat → ClassId} {ad : Nat → Int → Nat → Nat} {L : List Nat} {aS vS : Nat → Nat} {A : Nat → Prop} {p : Program} {l : Launch} {e : Env} {s : State} {m : MethodId} {args : Array Value} {below : List Frame} {meth : Method} {c : Code} {K : zK} {r : Int} {F9 : zF} {B9 : zB} (X : zX D ca L aS vS A p s m args meth c prog_7_method_16_code 9 (Option.some Jvm.ClassFile.FieldType.int) "StaveHouse$Performance")  {F : zF} {B : zB} {H : Heap} {locs : List Loc} {ls : Array Slot} (hf : f_Performance_keyHeard_14 K  F B = some (r, F9, B9)) (hZ : zH D ca ad lnC K.2 L F B A H) (hS : va_S A s.heap H locs) (hl : lv_has ls 9 []) : W p l e ({ frames := 1, cells := 0, slots := 0, locals := 22 } : Room) s m args below meth c H locs 0 0 (MQ below (Q_Performance_keyHeard K D ca ad L r F9 B9 A) args s 0 0 A) (F0 m 14 ls []) := by
  obtain ⟨hx, hb, hr, hml, hown, hts, hlk, hK, hA, hL, hX⟩ := id X
  replace hf : (some ((-1), F, B)) = some (r, F9, B9) := hf
  refine lv_iconst (v := iI (-1)) hx hb d_7_16_14 rfl ?_
  cases hf
  exact W.iret hx hb hr (fun t ht hW => ⟨⟨_, (), rfl, rfl, by rw [ht]; exact hZ, va_K.moved hW.alike hK⟩, hS.F ht⟩) hS.2.2 d_7_16_15 hlk

noncomputable def f_Performance_keyHeard (K : zK) (l0 : Int) (F : zF) (B : zB) : zO := if 0 ≤ l0 ∧ l0 < K.2 5 then if r32 (F 5 l0 1) then (if (F 5 l0 1) = 0 then if r32 (F 5 l0 0) then (if (F 5 l0 0) = 0 then f_Performance_keyHeard_14 K F B else f_Performance_keyHeard_18 K K.1 0 l0 F B) else none else f_Performance_keyHeard_14 K F B) else none else none
set_option maxHeartbeats 4000000 in
set_option maxRecDepth 100000 in
theorem c_Performance_keyHeard {l : Launch} {D : va_G} {ca : Nat → ClassId} {ad : Nat → Int → Nat → Nat} {L : List Nat} {aS vS : Nat → Nat} {sz : Nat} {K : zK}  {l0 : Int} {F F9 : zF} {B B9 : zB} {r : Int} (hf : f_Performance_keyHeard K l0 F B = some (r, F9, B9)) : Met l ({ cls := "StaveHouse$Performance", name := "keyHeard", desc := "()I" } : Jvm.MethodName) (Cond.code ({ cls := "StaveHouse$Performance", name := "keyHeard", desc := "()I" } : Jvm.MethodName) prog_7_method_16_code 9 (Option.some Jvm.ClassFile.FieldType.int) :: wAll) ({ frames := 1, cells := 0, slots := 0, locals := 22 } : Room) (va_Pc [.ref (ad 5 l0 0)] (zPre D ca ad lnC K.2 L aS vS F B sz)) (Q_Performance_keyHeard K D ca ad L r F9 B9 (zA L sz)) 0 0 (zA L sz) := by
  refine zMet (Qc := Q_Performance_keyHeard K D ca ad L r F9 B9) (lv := [(0, .ref (ad 5 l0 0))]) (by decide) (Nat.le_of_ble_eq_true rfl) rfl (fun A p e s m below meth c ls X hZ hS hl => ?_)
  obtain ⟨hx, hb, hr, hml, hown, hts, hlk, hK, hA, hL, hX⟩ := id X
  replace hf : (if 0 ≤ l0 ∧ l0 < K.2 5 then if r32 (F 5 l0 1) then (if (F 5 l0 1) = 0 then if r32 (F 5 l0 0) then (if (F 5 l0 0) = 0 then f_Performance_keyHeard_14 K F B else f_Performance_keyHeard_18 K K.1 0 l0 F B) else none else f_Performance_keyHeard_14 K F B) else none else none) = some (r, F9, B9) := hf
  refine lv_aload_n hx hb d_7_16_0 rfl (lv_at hl 0 rfl) ?_
  obtain ⟨g1, hf⟩ := gif hf
  refine zget (ci := 5) (C := RX5) (T := TX5) (v := .int (iI (F 5 l0 1))) (k := 1) hx hb hts inW_5 hown hK hZ g1.1 g1.2 rfl (by decide) k_6_65 rfl d_7_16_1 ?_
  obtain ⟨g2, hf⟩ := gif hf
  refine z0ne (tgt := 14) hx hb g2 d_7_16_4 (by decide) (fun h3 => ?_) (fun h3 => ?_)
  · replace hf := gneg hf h3
    exact b_Performance_keyHeard_14 X hf hZ hS (lv_sub hl [] rfl)
  · replace hf := gpos hf h3
    refine lv_aload_n hx hb d_7_16_7 rfl (lv_at hl 0 rfl) ?_
    refine zget (ci := 5) (C := RX5) (T := TX5) (v := .int (iI (F 5 l0 0))) (k := 0) hx hb hts inW_5 hown hK hZ g1.1 g1.2 rfl (by decide) k_6_63 rfl d_7_16_8 ?_
    obtain ⟨g4, hf⟩ := gif hf
    refine z0ne (tgt := 16) hx hb g4 d_7_16_11 (by decide) (fun h5 => ?_) (fun h5 => ?_)
    · replace hf := gneg hf h5
      refine lv_iconst (v := iI 0) hx hb d_7_16_16 rfl ?_
      refine lv_istore_n (lv' := [(1, .int (iI 0)), (0, .ref (ad 5 l0 0))]) hx hb d_7_16_17 rfl hl (by decide) rfl (fun ls hl => ?_)
      exact b_Performance_keyHeard_18 X hf hZ hS (lv_sub hl [0, 1] rfl)
    · replace hf := gpos hf h5
      exact b_Performance_keyHeard_14 X hf hZ hS (lv_sub hl [] rfl)

