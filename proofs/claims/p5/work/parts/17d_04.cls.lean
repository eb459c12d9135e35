set_option maxHeartbeats 4000000 in
set_option maxRecDepth 100000 in
theorem c_ByteRow_setWide {l : Launch} {D : va_G} {ca : Nat → ClassId} {ad : Nat → Int → Nat → Nat} {L : List Nat} {aS vS : Nat → Nat} {sz : Nat} {K : zK}  {l0 : Int} {l1 : Int} {l2 : Int} {F F9 : zF} {B B9 : zB} {r : Int} (hf : f_ByteRow_setWide K l0 l1 l2 F B = some (r, F9, B9)) : Met l ({ cls := "StaveHouse$ByteRow", name := "setWide", desc := "(II)V" } : Jvm.MethodName) (Cond.code ({ cls := "StaveHouse$ByteRow", name := "setWide", desc := "(II)V" } : Jvm.MethodName) prog_2_method_9_code 4 (Option.none : Option Jvm.ClassFile.FieldType) :: wAll) ({ frames := 0, cells := 0, slots := 0, locals := 0 } : Room) (va_Pc [.ref (ad 0 l0 0), .int (iI l1), .int (iI l2)] (zPre D ca ad lnC K.2 L aS vS F B sz)) (Q_ByteRow_setWide K D ca ad L r F9 B9 (zA L sz)) 0 0 (zA L sz) := by
  refine zMet (Qc := Q_ByteRow_setWide K D ca ad L r F9 B9) (lv := [(0, .ref (ad 0 l0 0)), (1, .int (iI l1)), (2, .int (iI l2))]) (by decide) (Nat.le_of_ble_eq_true rfl) rfl (fun A p e s m below meth c ls X hZ hS hl => ?_)
  obtain ⟨hx, hb, hr, hml, hown, hts, hlk, hK, hA, hL, hX⟩ := id X
  replace hf : (f_ByteRow_setWide_2 K K.1 0 l0 l1 l2 F B) = some (r, F9, B9) := hf
  refine lv_iconst (v := iI 0) hx hb d_2_9_0 rfl ?_
  refine lv_istore_n (lv' := [(3, .int (iI 0)), (0, .ref (ad 0 l0 0)), (1, .int (iI l1)), (2, .int (iI l2))]) hx hb d_2_9_1 rfl hl (by decide) rfl (fun ls hl => ?_)
  exact b_ByteRow_setWide_2 X hf hZ hS (lv_sub hl [0, 1, 2, 3] rfl)

noncomputable abbrev Q_ByteRow_putDelta (K : zK) (D : va_G) (ca : Nat → ClassId) (ad : Nat → Int → Nat → Nat) (L : List Nat) (r : Int) (F : zF) (B : zB) (A : Nat → Prop) : Array Value → State → Outcome → State → Prop := va_Qv (S := Unit) (fun _ => True) (fun _ => zPo D ca ad lnC K.2 L F B A) A
noncomputable def f_ByteRow_putDelta_32 (rec2 : Int → Int → Int → zF → zB → zO) (K : zK) (l2 : Int) (l0 : Int) (l1 : Int) (F : zF) (B : zB) : zO := rec2 (l2 - 1) l0 l1 F B
set_option maxHeartbeats 4000000 in
set_option maxRecDepth 100000 in
theorem b_ByteRow_putDelta_32 {D : va_G} {ca : Nat → ClassId} {ad : Nat → Int → Nat → Nat} {L : List Nat} {aS vS : Nat → Nat} {A : Nat → Prop} {p : Program} {l : Launch} {e : Env} {s : State} {m : MethodId} {args : Array Value} {below : List Frame} {meth : Method} {c : Code} {K : zK} {r : Int} {F9 : zF} {B9 : zB} (X : zX D ca L aS vS A p s m args meth c prog_2_method_8_code 3 (Option.none : Option Jvm.ClassFile.FieldType) "StaveHouse$ByteRow") {rec2 : Int → Int → Int → zF → zB → zO} (hrec2 : ∀ {l2 : Int} {l0 : Int} {l1 : Int} {F : zF} {B : zB} {H : Heap} {locs : List Loc} {ls : Array Slot}, rec2 l2 l0 l1 F B = some (r, F9, B9) → zH D ca ad lnC K.2 L F B A H → va_S A s.heap H locs → lv_has ls 3 [(2, .int (iI l2)), (0, .ref (ad 0 l0 0)), (1, .int (iI l1))] → W p l e ({ frames := 1, cells := 0, slots := 0, locals := 21 } : Room) s m args below meth c H locs 0 0 (MQ below (Q_ByteRow_putDelta K D ca ad L r F9 B9 A) args s 0 0 A) (F0 m 2 ls [])) {l2 : Int} {l0 : Int} {l1 : Int} {F : zF} {B : zB} {H : Heap} {locs : List Loc} {ls : Array Slot} (hf : f_ByteRow_putDelta_32 rec2 K l2 l0 l1 F B = some (r, F9, B9)) (hZ : zH D ca ad lnC K.2 L F B A H) (hS : va_S A s.heap H locs) (hl : lv_has ls 3 [(2, .int (iI l2)), (0, .ref (ad 0 l0 0)), (1, .int (iI l1))]) : W p l e ({ frames := 1, cells := 0, slots := 0, locals := 21 } : Room) s m args below meth c H locs 0 0 (MQ below (Q_ByteRow_putDelta K D ca ad L r F9 B9 A) args s 0 0 A) (F0 m 32 ls []) := by
  obtain ⟨hx, hb, hr, hml, hown, hts, hlk, hK, hA, hL, hX⟩ := id X
  replace hf : (rec2 (l2 - 1) l0 l1 F B) = some (r, F9, B9) := hf
  refine lv_iinc (v := iI (l2 - 1)) (lv' := [(2, .int (iI (l2 - 1))), (0, .ref (ad 0 l0 0)), (1, .int (iI l1))]) hx hb d_2_8_32 hl (k := 0) rfl (by rw [show Int32.ofInt (-1) = iI (-1) from rfl, iI_add]; congr 1) (by decide) rfl (fun ls hl => ?_)
  refine lv_goto (tgt := 2) hx hb d_2_8_35 (by decide) ?_
  exact hrec2 hf hZ hS (lv_sub hl [0, 1, 2] rfl)

noncomputable def f_ByteRow_putDelta_2 (K : zK) : Nat → Int → Int → Int → zF → zB → zO
  | 0, _, _, _, _, _ => none
  | n + 1, l2, l0, l1, F, B => if r32 l2 then (if l2 ≤ 0 then if 0 ≤ l0 ∧ l0 < K.2 0 then zbind (f_ByteRow_put K l0 (zand l1 127) F B) (fun r4 F4 B4 => some (0, F4, B4)) else none else if r32 (zushr l1 (7 * l2)) then (if (zushr l1 (7 * l2)) = 0 then f_ByteRow_putDelta_32 (f_ByteRow_putDelta_2 K n) K l2 l0 l1 F B else if 0 ≤ l0 ∧ l0 < K.2 0 then zbind (f_ByteRow_put K l0 (zor (zand (zushr l1 (7 * l2)) 127) 128) F B) (fun r8 F8 B8 => f_ByteRow_putDelta_32 (f_ByteRow_putDelta_2 K n) K l2 l0 l1 F8 B8) else none) else none) else none
set_option maxHeartbeats 4000000 in
set_option maxRecDepth 100000 in
theorem b_ByteRow_putDelta_2 {D : va_G} {ca : Nat → ClassId} {ad : Nat → Int → Nat → Nat} {L : List Nat} {aS vS : Nat → Nat} {A : Nat → Prop} {p : Program} {l : Launch} {e : Env} {s : State} {m : MethodId} {args : Array Value} {below : List Frame} {meth : Method} {c : Code} {K : zK} {r : Int} {F9 : zF} {B9 : zB} (X : zX D ca L aS vS A p s m args meth c prog_2_method_8_code 3 (Option.none : Option Jvm.ClassFile.FieldType) "StaveHouse$ByteRow") : ∀ {n : Nat} {l2 : Int} {l0 : Int} {l1 : Int} {F : zF} {B : zB} {H : Heap} {locs : List Loc} {ls : Array Slot}, f_ByteRow_putDelta_2 K n l2 l0 l1 F B = some (r, F9, B9) → zH D ca ad lnC K.2 L F B A H → va_S A s.heap H locs → lv_has ls 3 [(2, .int (iI l2)), (0, .ref (ad 0 l0 0)), (1, .int (iI l1))] → W p l e ({ frames := 1, cells := 0, slots := 0, locals := 21 } : Room) s m args below meth c H locs 0 0 (MQ below (Q_ByteRow_putDelta K D ca ad L r F9 B9 A) args s 0 0 A) (F0 m 2 ls []) := by
  obtain ⟨hx, hb, hr, hml, hown, hts, hlk, hK, hA, hL, hX⟩ := id X
  intro n
  induction n with
  | zero =>
    intros
    rename_i hf _ _ _
    cases hf
  | succ n ih =>
    intro l2 l0 l1 F B H locs ls hf hZ hS hl
    replace hf : (if r32 l2 then (if l2 ≤ 0 then if 0 ≤ l0 ∧ l0 < K.2 0 then zbind (f_ByteRow_put K l0 (zand l1 127) F B) (fun r4 F4 B4 => some (0, F4, B4)) else none else if r32 (zushr l1 (7 * l2)) then (if (zushr l1 (7 * l2)) = 0 then f_ByteRow_putDelta_32 (f_ByteRow_putDelta_2 K n) K l2 l0 l1 F B else if 0 ≤ l0 ∧ l0 < K.2 0 then zbind (f_ByteRow_put K l0 (zor (zand (zushr l1 (7 * l2)) 127) 128) F B) (fun r8 F8 B8 => f_ByteRow_putDelta_32 (f_ByteRow_putDelta_2 K n) K l2 l0 l1 F8 B8) else none) else none) else none) = some (r, F9, B9) := hf
    refine lv_iload_n hx hb d_2_8_2 rfl (lv_at hl 0 rfl) ?_
    obtain ⟨g1, hf⟩ := gif hf
    refine z0le (tgt := 38) hx hb g1 d_2_8_3 (by decide) (fun h2 => ?_) (fun h2 => ?_)
    · replace hf := gpos hf h2
      refine lv_aload_n hx hb d_2_8_38 rfl (lv_at hl 1 rfl) ?_
      refine lv_iload_n hx hb d_2_8_39 rfl (lv_at hl 2 rfl) ?_
      refine lv_bipush (v := iI 127) hx hb d_2_8_40 (by decide) ?_
      refine zand_r hx hb d_2_8_42 ?_
      obtain ⟨g3, hf⟩ := gif hf
      obtain ⟨r4, F4, B4, hc4, hf⟩ := gbind hf
      refine va_callv (va_runV (As := [.int (iI (zand l1 127))]) (rest := []) ⟨hx, hb, hml, hown, hts⟩ (c_ByteRow_put (l := l) hc4) (cwV 1 hts (gdV k_7_153 k_2_171 k_2_172 k_1_2 k_2_173) rfl rfl rfl (by decide +kernel) ⟨Nat.le_of_ble_eq_true rfl, Nat.le_of_ble_eq_true rfl⟩) (zPV X hZ hS (ci := 0) g3.1 g3.2 (r := (RX0, TX0, 3)) rfl [.int (iI (zand l1 127))]) rfl rfl hl.1 rfl (lv_room (Nat.le_of_ble_eq_true rfl)) d_2_8_43 ⟨Nat.le_of_ble_eq_true rfl, Nat.le_of_ble_eq_true rfl⟩) hS (fun q _ h => zAin X hS q h) (zAin X hS) (fun u4 t4 H4 locs4 ht4 hv4 hw4 hB4 hz4 hk4 hS4 => ?_)
      have hZ4 := zBack X ht4 hB4
      cases hf
      exact W.vret hx hb hr (fun t ht hW => ⟨⟨(), rfl, trivial, by rw [ht]; exact hZ4, va_K.moved hW.alike hK⟩, hS4.F ht⟩) hS4.2.2 d_2_8_46 hlk
    · replace hf := gneg hf h2
      refine lv_iload_n hx hb d_2_8_6 rfl (lv_at hl 2 rfl) ?_
      refine lv_bipush (v := iI 7) hx hb d_2_8_7 (by decide) ?_
      refine lv_iload_n hx hb d_2_8_9 rfl (lv_at hl 0 rfl) ?_
      refine zmul hx hb d_2_8_10 ?_
      refine zushr_r hx hb d_2_8_11 ?_
      obtain ⟨g5, hf⟩ := gif hf
      refine z0eq (tgt := 32) hx hb g5 d_2_8_12 (by decide) (fun h6 => ?_) (fun h6 => ?_)
      · replace hf := gpos hf h6
        exact b_ByteRow_putDelta_32 X ih hf hZ hS (lv_sub hl [0, 1, 2] rfl)
      · replace hf := gneg hf h6
        refine lv_aload_n hx hb d_2_8_15 rfl (lv_at hl 1 rfl) ?_
        refine lv_iload_n hx hb d_2_8_16 rfl (lv_at hl 2 rfl) ?_
        refine lv_bipush (v := iI 7) hx hb d_2_8_17 (by decide) ?_
        refine lv_iload_n hx hb d_2_8_19 rfl (lv_at hl 0 rfl) ?_
        refine zmul hx hb d_2_8_20 ?_
        refine zushr_r hx hb d_2_8_21 ?_
        refine lv_bipush (v := iI 127) hx hb d_2_8_22 (by decide) ?_
        refine zand_r hx hb d_2_8_24 ?_
        refine lv_sipush (v := iI 128) hx hb d_2_8_25 (by decide) ?_
        refine zor_r hx hb d_2_8_28 ?_
        obtain ⟨g7, hf⟩ := gif hf
        obtain ⟨r8, F8, B8, hc8, hf⟩ := gbind hf
        refine va_callv (va_runV (As := [.int (iI (zor (zand (zushr l1 (7 * l2)) 127) 128))]) (rest := []) ⟨hx, hb, hml, hown, hts⟩ (c_ByteRow_put (l := l) hc8) (cwV 1 hts (gdV k_7_153 k_2_171 k_2_172 k_1_2 k_2_173) rfl rfl rfl (by decide +kernel) ⟨Nat.le_of_ble_eq_true rfl, Nat.le_of_ble_eq_true rfl⟩) (zPV X hZ hS (ci := 0) g7.1 g7.2 (r := (RX0, TX0, 3)) rfl [.int (iI (zor (zand (zushr l1 (7 * l2)) 127) 128))]) rfl rfl hl.1 rfl (lv_room (Nat.le_of_ble_eq_true rfl)) d_2_8_29 ⟨Nat.le_of_ble_eq_true rfl, Nat.le_of_ble_eq_true rfl⟩) hS (fun q _ h => zAin X hS q h) (zAin X hS) (fun u8 t8 H8 locs8 ht8 hv8 hw8 hB8 hz8 hk8 hS8 => ?_)
        have hZ8 := zBack X ht8 hB8
        exact b_ByteRow_putDelta_32 X ih hf hZ8 hS8 (lv_sub hl [0, 1, 2] rfl)

noncomputable def f_ByteRow_putDelta (K : zK) (l0 : Int) (l1 : Int) (F : zF) (B : zB) : zO := f_ByteRow_putDelta_2 K K.1 3 l0 l1 F B
set_option maxHeartbeats 4000000 in
set_option maxRecDepth 100000 in
theorem c_ByteRow_putDelta {l : Launch} {D : va_G} {ca : Nat → ClassId} {ad : Nat → Int → Nat → Nat} {L : List Nat} {aS vS : Nat → Nat} {sz : Nat} {K : zK}  {l0 : Int} {l1 : Int} {F F9 : zF} {B B9 : zB} {r : Int} (hf : f_ByteRow_putDelta K l0 l1 F B = some (r, F9, B9)) : Met l ({ cls := "StaveHouse$ByteRow", name := "putDelta", desc := "(I)V" } : Jvm.MethodName) (Cond.code ({ cls := "StaveHouse$ByteRow", name := "putDelta", desc := "(I)V" } : Jvm.MethodName) prog_2_method_8_code 3 (Option.none : Option Jvm.ClassFile.FieldType) :: wAll) ({ frames := 1, cells := 0, slots := 0, locals := 21 } : Room) (va_Pc [.ref (ad 0 l0 0), .int (iI l1)] (zPre D ca ad lnC K.2 L aS vS F B sz)) (Q_ByteRow_putDelta K D ca ad L r F9 B9 (zA L sz)) 0 0 (zA L sz) := by
  refine zMet (Qc := Q_ByteRow_putDelta K D ca ad L r F9 B9) (lv := [(0, .ref (ad 0 l0 0)), (1, .int (iI l1))]) (by decide) (Nat.le_of_ble_eq_true rfl) rfl (fun A p e s m below meth c ls X hZ hS hl => ?_)
  obtain ⟨hx, hb, hr, hml, hown, hts, hlk, hK, hA, hL, hX⟩ := id X
  replace hf : (f_ByteRow_putDelta_2 K K.1 3 l0 l1 F B) = some (r, F9, B9) := hf
  refine lv_iconst (v := iI 3) hx hb d_2_8_0 rfl ?_
  refine lv_istore_n (lv' := [(2, .int (iI 3)), (0, .ref (ad 0 l0 0)), (1, .int (iI l1))]) hx hb d_2_8_1 rfl hl (by decide) rfl (fun ls hl => ?_)
  exact b_ByteRow_putDelta_2 X hf hZ hS (lv_sub hl [0, 1, 2] rfl)

noncomputable abbrev Q_S_out (K : zK) (D : va_G) (ca : Nat → ClassId) (ad : Nat → Int → Nat → Nat) (L : List Nat) (r : Int) (F : zF) (B : zB) (A : Nat → Prop) : Array Value → State → Outcome → State → Prop := va_Qi (S := Unit) (fun p _ => p = iI r) (fun _ => zPo D ca ad lnC K.2 L F B A) A
noncomputable def f_S_out (K : zK) (l0 : Int) (l1 : Int) (F : zF) (B : zB) : zO := if 0 ≤ l0 ∧ l0 < K.2 12 then if 0 ≤ (F 12 l0 2) ∧ (F 12 l0 2) < K.2 0 then zbind (f_ByteRow_at K (F 12 l0 2) l1 F B) (fun r3 F3 B3 => some (r3, F3, B3)) else none else none
set_option maxHeartbeats 4000000 in
set_option maxRecDepth 100000 in
theorem c_S_out {l : Launch} {D : va_G} {ca : Nat → ClassId} {ad : Nat → Int → Nat → Nat} {L : List Nat} {aS vS : Nat → Nat} {sz : Nat} {K : zK}  {l0 : Int} {l1 : Int} {F F9 : zF} {B B9 : zB} {r : Int} (hf : f_S_out K l0 l1 F B = some (r, F9, B9)) : Met l ({ cls := "StaveHouse", name := "out", desc := "(I)I" } : Jvm.MethodName) (Cond.code ({ cls := "StaveHouse", name := "out", desc := "(I)I" } : Jvm.MethodName) prog_1_method_22_code 2 (Option.some Jvm.ClassFile.FieldType.int) :: wAll) ({ frames := 1, cells := 0, slots := 0, locals := 21 } : Room) (va_Pc [.ref (ad 12 l0 0), .int (iI l1)] (zPre D ca ad lnC K.2 L aS vS F B sz)) (Q_S_out K D ca ad L r F9 B9 (zA L sz)) 0 0 (zA L sz) := by
  refine zMet (Qc := Q_S_out K D ca ad L r F9 B9) (lv := [(0, .ref (ad 12 l0 0)), (1, .int (iI l1))]) (by decide) (Nat.le_of_ble_eq_true rfl) rfl (fun A p e s m below meth c ls X hZ hS hl => ?_)
  obtain ⟨hx, hb, hr, hml, hown, hts, hlk, hK, hA, hL, hX⟩ := id X
  replace hf : (if 0 ≤ l0 ∧ l0 < K.2 12 then if 0 ≤ (F 12 l0 2) ∧ (F 12 l0 2) < K.2 0 then zbind (f_ByteRow_at K (F 12 l0 2) l1 F B) (fun r3 F3 B3 => some (r3, F3, B3)) else none else none) = some (r, F9, B9) := hf
  refine lv_aload_n hx hb d_1_22_0 rfl (lv_at hl 0 rfl) ?_
  obtain ⟨g1, hf⟩ := gif hf
  refine zget (ci := 12) (C := RX12) (T := TX12) (v := va_rf (zrf ad 0 (F 12 l0 2))) (k := 2) hx hb hts inW_12 hown hK hZ g1.1 g1.2 rfl (by decide) k_2_129 rfl d_1_22_1 ?_
  refine lv_iload_n hx hb d_1_22_4 rfl (lv_at hl 1 rfl) ?_
  obtain ⟨g2, hf⟩ := gif hf
  refine W.eq (g2 := F0 m 5 ls [.int (iI l1), .ref (ad 0 (F 12 l0 2) 0)]) (by rw [zrf_pos (ad := ad) (t := 0) g2.1]; try rfl) ?_
  obtain ⟨r3, F3, B3, hc3, hf⟩ := gbind hf
  refine va_calli (va_runV (As := [.int (iI l1)]) (rest := []) ⟨hx, hb, hml, hown, hts⟩ (c_ByteRow_at (l := l) hc3) (cwV 1 hts (gdV k_7_200 k_3_35 k_3_36 k_1_2 k_3_37) rfl rfl rfl (by decide +kernel) ⟨Nat.le_of_ble_eq_true rfl, Nat.le_of_ble_eq_true rfl⟩) (zPV X hZ hS (ci := 0) g2.1 g2.2 (r := (RX0, TX0, 3)) rfl [.int (iI l1)]) rfl rfl hl.1 rfl (lv_room (Nat.le_of_ble_eq_true rfl)) d_1_22_5 ⟨Nat.le_of_ble_eq_true rfl, Nat.le_of_ble_eq_true rfl⟩) hS (fun q _ h => zAin X hS q h) (zAin X hS) (fun p3 u3 t3 H3 locs3 ht3 hv3 hw3 hB3 hz3 hk3 hS3 => ?_)
  have hZ3 := zBack X ht3 hB3
  subst hw3
  cases hf
  exact W.iret hx hb hr (fun t ht hW => ⟨⟨_, (), rfl, rfl, by rw [ht]; exact hZ3, va_K.moved hW.alike hK⟩, hS3.F ht⟩) hS3.2.2 d_1_22_8 hlk

noncomputable abbrev Q_S_again (K : zK) (D : va_G) (ca : Nat → ClassId) (ad : Nat → Int → Nat → Nat) (L : List Nat) (r : Int) (F : zF) (B : zB) (A : Nat → Prop) : Array Value → State → Outcome → State → Prop := va_Qi (S := Unit) (fun p _ => p = iI r) (fun _ => zPo D ca ad lnC K.2 L F B A) A
noncomputable def f_S_again_34 (K : zK) : Nat → Int → Int → zF → zB → zO
  | 0, _, _, _, _ => none
  | n + 1, l1, l0, F, B => if 0 ≤ l0 ∧ l0 < K.2 12 then if 0 ≤ (F 12 l0 2) ∧ (F 12 l0 2) < K.2 0 then if r32 l1 then if r32 (F 0 (F 12 l0 2) 1) then (if (F 0 (F 12 l0 2) 1) ≤ l1 then if 0 ≤ (F 12 l0 0) ∧ (F 12 l0 0) < K.2 0 then some (F 0 (F 12 l0 0) 1, F, B) else none else if 0 ≤ (F 12 l0 0) ∧ (F 12 l0 0) < K.2 0 then zbind (f_ByteRow_at K (F 12 l0 2) l1 F B) (fun r15 F15 B15 => zbind (f_ByteRow_put K (F 12 l0 0) r15 F15 B15) (fun r16 F16 B16 => f_S_again_34 K n (l1 + 1) l0 F16 B16)) else none) else none else none else none else none
set_option maxHeartbeats 4000000 in
set_option maxRecDepth 100000 in
theorem b_S_again_34 {D : va_G} {ca : Nat → ClassId} {ad : Nat → Int → Nat → Nat} {L : List Nat} {aS vS : Nat → Nat} {A : Nat → Prop} {p : Program} {l : Launch} {e : Env} {s : State} {m : MethodId} {args : Array Value} {below : List Frame} {meth : Method} {c : Code} {K : zK} {r : Int} {F9 : zF} {B9 : zB} (X : zX D ca L aS vS A p s m args meth c prog_1_method_23_code 2 (Option.some Jvm.ClassFile.FieldType.int) "StaveHouse") : ∀ {n : Nat} {l1 : Int} {l0 : Int} {F : zF} {B : zB} {H : Heap} {locs : List Loc} {ls : Array Slot}, f_S_again_34 K n l1 l0 F B = some (r, F9, B9) → zH D ca ad lnC K.2 L F B A H → va_S A s.heap H locs → lv_has ls 2 [(1, .int (iI l1)), (0, .ref (ad 12 l0 0))] → W p l e ({ frames := 1, cells := 0, slots := 0, locals := 21 } : Room) s m args below meth c H locs 0 0 (MQ below (Q_S_again K D ca ad L r F9 B9 A) args s 0 0 A) (F0 m 34 ls []) := by
  obtain ⟨hx, hb, hr, hml, hown, hts, hlk, hK, hA, hL, hX⟩ := id X
  intro n
  induction n with
  | zero =>
    intros
    rename_i hf _ _ _
    cases hf
  | succ n ih =>
    intro l1 l0 F B H locs ls hf hZ hS hl
    replace hf : (if 0 ≤ l0 ∧ l0 < K.2 12 then if 0 ≤ (F 12 l0 2) ∧ (F 12 l0 2) < K.2 0 then if r32 l1 then if r32 (F 0 (F 12 l0 2) 1) then (if (F 0 (F 12 l0 2) 1) ≤ l1 then if 0 ≤ (F 12 l0 0) ∧ (F 12 l0 0) < K.2 0 then some (F 0 (F 12 l0 0) 1, F, B) else none else if 0 ≤ (F 12 l0 0) ∧ (F 12 l0 0) < K.2 0 then zbind (f_ByteRow_at K (F 12 l0 2) l1 F B) (fun r15 F15 B15 => zbind (f_ByteRow_put K (F 12 l0 0) r15 F15 B15) (fun r16 F16 B16 => f_S_again_34 K n (l1 + 1) l0 F16 B16)) else none) else none else none else none else none) = some (r, F9, B9) := hf
    refine lv_iload_n hx hb d_1_23_34 rfl (lv_at hl 0 rfl) ?_
    refine lv_aload_n hx hb d_1_23_35 rfl (lv_at hl 1 rfl) ?_
    obtain ⟨g8, hf⟩ := gif hf
    refine zget (ci := 12) (C := RX12) (T := TX12) (v := va_rf (zrf ad 0 (F 12 l0 2))) (k := 2) hx hb hts inW_12 hown hK hZ g8.1 g8.2 rfl (by decide) k_2_129 rfl d_1_23_36 ?_
    obtain ⟨g9, hf⟩ := gif hf
    refine zunrf g9.1 ?_
    refine zget (ci := 0) (C := RX0) (T := TX0) (v := .int (iI (F 0 (F 12 l0 2) 1))) (k := 1) hx hb hts inW_0 hown hK hZ g9.1 g9.2 rfl (by decide) k_1_46 rfl d_1_23_39 ?_
    obtain ⟨g10, hf⟩ := gif hf
    obtain ⟨g11, hf⟩ := gif hf
    refine zge (tgt := 66) hx hb g10 g11 d_1_23_42 (by decide) (fun h12 => ?_) (fun h12 => ?_)
    · replace hf := gpos hf h12
      refine lv_aload_n hx hb d_1_23_66 rfl (lv_at hl 1 rfl) ?_
      refine zget (ci := 12) (C := RX12) (T := TX12) (v := va_rf (zrf ad 0 (F 12 l0 0))) (k := 0) hx hb hts inW_12 hown hK hZ g8.1 g8.2 rfl (by decide) k_2_127 rfl d_1_23_67 ?_
      obtain ⟨g13, hf⟩ := gif hf
      refine zunrf g13.1 ?_
      refine zget (ci := 0) (C := RX0) (T := TX0) (v := .int (iI (F 0 (F 12 l0 0) 1))) (k := 1) hx hb hts inW_0 hown hK hZ g13.1 g13.2 rfl (by decide) k_1_46 rfl d_1_23_70 ?_
      cases hf
      exact W.iret hx hb hr (fun t ht hW => ⟨⟨_, (), rfl, rfl, by rw [ht]; exact hZ, va_K.moved hW.alike hK⟩, hS.F ht⟩) hS.2.2 d_1_23_73 hlk
    · replace hf := gneg hf h12
      refine lv_aload_n hx hb d_1_23_45 rfl (lv_at hl 1 rfl) ?_
      refine zget (ci := 12) (C := RX12) (T := TX12) (v := va_rf (zrf ad 0 (F 12 l0 0))) (k := 0) hx hb hts inW_12 hown hK hZ g8.1 g8.2 rfl (by decide) k_2_127 rfl d_1_23_46 ?_
      refine lv_aload_n hx hb d_1_23_49 rfl (lv_at hl 1 rfl) ?_
      refine zget (ci := 12) (C := RX12) (T := TX12) (v := va_rf (zrf ad 0 (F 12 l0 2))) (k := 2) hx hb hts inW_12 hown hK hZ g8.1 g8.2 rfl (by decide) k_2_129 rfl d_1_23_50 ?_
      refine lv_iload_n hx hb d_1_23_53 rfl (lv_at hl 0 rfl) ?_
      obtain ⟨g14, hf⟩ := gif hf
      refine W.eq (g2 := F0 m 54 ls [.int (iI l1), va_rf (zrf ad 0 (F 12 l0 2)), .ref (ad 0 (F 12 l0 0) 0)]) (by rw [zrf_pos (ad := ad) (t := 0) g14.1]; try rfl) ?_
      refine W.eq (g2 := F0 m 54 ls [.int (iI l1), .ref (ad 0 (F 12 l0 2) 0), .ref (ad 0 (F 12 l0 0) 0)]) (by rw [zrf_pos (ad := ad) (t := 0) g9.1]; try rfl) ?_
      obtain ⟨r15, F15, B15, hc15, hf⟩ := gbind hf
      refine va_calli (va_runV (As := [.int (iI l1)]) (rest := [.ref (ad 0 (F 12 l0 0) 0)]) ⟨hx, hb, hml, hown, hts⟩ (c_ByteRow_at (l := l) hc15) (cwV 1 hts (gdV k_7_200 k_3_35 k_3_36 k_1_2 k_3_37) rfl rfl rfl (by decide +kernel) ⟨Nat.le_of_ble_eq_true rfl, Nat.le_of_ble_eq_true rfl⟩) (zPV X hZ hS (ci := 0) g9.1 g9.2 (r := (RX0, TX0, 3)) rfl [.int (iI l1)]) rfl rfl hl.1 rfl (lv_room (Nat.le_of_ble_eq_true rfl)) d_1_23_54 ⟨Nat.le_of_ble_eq_true rfl, Nat.le_of_ble_eq_true rfl⟩) hS (fun q _ h => zAin X hS q h) (zAin X hS) (fun p15 u15 t15 H15 locs15 ht15 hv15 hw15 hB15 hz15 hk15 hS15 => ?_)
      have hZ15 := zBack X ht15 hB15
      subst hw15
      obtain ⟨r16, F16, B16, hc16, hf⟩ := gbind hf
      refine va_callv (va_runV (As := [.int (iI r15)]) (rest := []) ⟨hx, hb, hml, hown, hts⟩ (c_ByteRow_put (l := l) hc16) (cwV 1 hts (gdV k_2_170 k_2_171 k_2_172 k_1_2 k_2_173) rfl rfl rfl (by decide +kernel) ⟨Nat.le_of_ble_eq_true rfl, Nat.le_of_ble_eq_true rfl⟩) (zPV X hZ15 hS15 (ci := 0) g14.1 g14.2 (r := (RX0, TX0, 3)) rfl [.int (iI r15)]) rfl rfl hl.1 rfl (lv_room (Nat.le_of_ble_eq_true rfl)) d_1_23_57 ⟨Nat.le_of_ble_eq_true rfl, Nat.le_of_ble_eq_true rfl⟩) hS15 (fun q _ h => zAin X hS15 q h) (zAin X hS15) (fun u16 t16 H16 locs16 ht16 hv16 hw16 hB16 hz16 hk16 hS16 => ?_)
      have hZ16 := zBack X ht16 hB16
      refine lv_iinc (v := iI (l1 + 1)) (lv' := [(1, .int (iI (l1 + 1))), (0, .ref (ad 12 l0 0))]) hx hb d_1_23_60 hl (k := 0) rfl (iI_add _ 1) (by decide) rfl (fun ls hl => ?_)
      refine lv_goto (tgt := 34) hx hb d_1_23_63 (by decide) ?_
      exact ih hf hZ16 hS16 (lv_sub hl [0, 1] rfl)

noncomputable def f_S_again_23 (K : zK)  (F : zF) (B : zB) : zO := some ((-1), F, B)
set_option maxHeartbeats 4000000 in
set_option maxRecDepth 100000 in
theorem b_S_again_23 {D : va_G} {ca : Nat → ClassId} {ad : Nat → Int → Nat → Nat} {L : List Nat} {aS vS : Nat → Nat} {A : Nat → Prop} {p : Program} {l : Launch} {e : Env} {s : State} {m : MethodId} {args : Array Value} {below : List Frame} {meth : Method} {c : Code} {K : zK} {r : Int} {F9 : zF} {B9 : zB} (X : zX D ca L aS vS A p s m args meth c prog_1_method_23_code 2 (Option.some Jvm.ClassFile.FieldType.int) "StaveHouse")  {F : zF} {B : zB} {H : Heap} {locs : List Loc} {ls : Array Slot} (hf : f_S_again_23 K  F B = some (r, F9, B9)) (hZ : zH D ca ad lnC K.2 L F B A H) (hS : va_S A s.heap H locs) (hl : lv_has ls 2 []) : W p l e ({ frames := 1, cells := 0, slots := 0, locals := 21 } : Room) s m args below meth c H locs 0 0 (MQ below (Q_S_again K D ca ad L r F9 B9 A) args s 0 0 A) (F0 m 23 ls []) := by
  obtain ⟨hx, hb, hr, hml, hown, hts, hlk, hK, hA, hL, hX⟩ := id X
  replace hf : (some ((-1), F, B)) = some (r, F9, B9) := hf
  refine lv_iconst (v := iI (-1)) hx hb d_1_23_23 rfl ?_
  cases hf
  exact W.iret hx hb hr (fun t ht hW => ⟨⟨_, (), rfl, rfl, by rw [ht]; exact hZ, va_K.moved hW.alike hK⟩, hS.F ht⟩) hS.2.2 d_1_23_24 hlk

noncomputable def f_S_again (K : zK) (l0 : Int) (F : zF) (B : zB) : zO := if 0 ≤ l0 ∧ l0 < K.2 12 then if 0 ≤ (F 12 l0 2) ∧ (F 12 l0 2) < K.2 0 then if r32 (F 0 (F 12 l0 2) 1) then (if (F 0 (F 12 l0 2) 1) = 0 then f_S_again_23 K F B else (if (F 0 (F 12 l0 2) 1) ≤ 3000 then if 0 ≤ (F 12 l0 0) ∧ (F 12 l0 0) < K.2 0 then zbind (f_ByteRow_clear K (F 12 l0 0) F B) (fun r7 F7 B7 => f_S_again_34 K K.1 0 l0 F7 B7) else none else f_S_again_23 K F B)) else none else none else none
set_option maxHeartbeats 4000000 in
set_option maxRecDepth 100000 in
theorem c_S_again {l : Launch} {D : va_G} {ca : Nat → ClassId} {ad : Nat → Int → Nat → Nat} {L : List Nat} {aS vS : Nat → Nat} {sz : Nat} {K : zK}  {l0 : Int} {F F9 : zF} {B B9 : zB} {r : Int} (hf : f_S_again K l0 F B = some (r, F9, B9)) : Met l ({ cls := "StaveHouse", name := "again", desc := "()I" } : Jvm.MethodName) (Cond.code ({ cls := "StaveHouse", name := "again", desc := "()I" } : Jvm.MethodName) prog_1_method_23_code 2 (Option.some Jvm.ClassFile.FieldType.int) :: wAll) ({ frames := 1, cells := 0, slots := 0, locals := 21 } : Room) (va_Pc [.ref (ad 12 l0 0)] (zPre D ca ad lnC K.2 L aS vS F B sz)) (Q_S_again K D ca ad L r F9 B9 (zA L sz)) 0 0 (zA L sz) := by
  refine zMet (Qc := Q_S_again K D ca ad L r F9 B9) (lv := [(0, .ref (ad 12 l0 0))]) (by decide) (Nat.le_of_ble_eq_true rfl) rfl (fun A p e s m below meth c ls X hZ hS hl => ?_)
  obtain ⟨hx, hb, hr, hml, hown, hts, hlk, hK, hA, hL, hX⟩ := id X
  replace hf : (if 0 ≤ l0 ∧ l0 < K.2 12 then if 0 ≤ (F 12 l0 2) ∧ (F 12 l0 2) < K.2 0 then if r32 (F 0 (F 12 l0 2) 1) then (if (F 0 (F 12 l0 2) 1) = 0 then f_S_again_23 K F B else (if (F 0 (F 12 l0 2) 1) ≤ 3000 then if 0 ≤ (F 12 l0 0) ∧ (F 12 l0 0) < K.2 0 then zbind (f_ByteRow_clear K (F 12 l0 0) F B) (fun r7 F7 B7 => f_S_again_34 K K.1 0 l0 F7 B7) else none else f_S_again_23 K F B)) else none else none else none) = some (r, F9, B9) := hf
  refine lv_aload_n hx hb d_1_23_0 rfl (lv_at hl 0 rfl) ?_
  obtain ⟨g1, hf⟩ := gif hf
  refine zget (ci := 12) (C := RX12) (T := TX12) (v := va_rf (zrf ad 0 (F 12 l0 2))) (k := 2) hx hb hts inW_12 hown hK hZ g1.1 g1.2 rfl (by decide) k_2_129 rfl d_1_23_1 ?_
  obtain ⟨g2, hf⟩ := gif hf
  refine zunrf g2.1 ?_
  refine zget (ci := 0) (C := RX0) (T := TX0) (v := .int (iI (F 0 (F 12 l0 2) 1))) (k := 1) hx hb hts inW_0 hown hK hZ g2.1 g2.2 rfl (by decide) k_1_46 rfl d_1_23_4 ?_
  obtain ⟨g3, hf⟩ := gif hf
  refine z0eq (tgt := 23) hx hb g3 d_1_23_7 (by decide) (fun h4 => ?_) (fun h4 => ?_)
  · replace hf := gpos hf h4
    exact b_S_again_23 X hf hZ hS (lv_sub hl [] rfl)
  · replace hf := gneg hf h4
    refine lv_aload_n hx hb d_1_23_10 rfl (lv_at hl 0 rfl) ?_
    refine zget (ci := 12) (C := RX12) (T := TX12) (v := va_rf (zrf ad 0 (F 12 l0 2))) (k := 2) hx hb hts inW_12 hown hK hZ g1.1 g1.2 rfl (by decide) k_2_129 rfl d_1_23_11 ?_
    refine zunrf g2.1 ?_
    refine zget (ci := 0) (C := RX0) (T := TX0) (v := .int (iI (F 0 (F 12 l0 2) 1))) (k := 1) hx hb hts inW_0 hown hK hZ g2.1 g2.2 rfl (by decide) k_1_46 rfl d_1_23_14 ?_
    refine lv_sipush (v := iI 3000) hx hb d_1_23_17 (by decide) ?_
    refine zle (tgt := 25) hx hb g3 (by decide) d_1_23_20 (by decide) (fun h5 => ?_) (fun h5 => ?_)
    · replace hf := gpos hf h5
      refine lv_aload_n hx hb d_1_23_25 rfl (lv_at hl 0 rfl) ?_
      refine zget (ci := 12) (C := RX12) (T := TX12) (v := va_rf (zrf ad 0 (F 12 l0 0))) (k := 0) hx hb hts inW_12 hown hK hZ g1.1 g1.2 rfl (by decide) k_2_127 rfl d_1_23_26 ?_
      obtain ⟨g6, hf⟩ := gif hf
      refine W.eq (g2 := F0 m 29 ls [.ref (ad 0 (F 12 l0 0) 0)]) (by rw [zrf_pos (ad := ad) (t := 0) g6.1]; try rfl) ?_
      obtain ⟨r7, F7, B7, hc7, hf⟩ := gbind hf
      refine va_callv (va_runV (As := []) (rest := []) ⟨hx, hb, hml, hown, hts⟩ (c_ByteRow_clear (l := l) hc7) (cwV 0 hts (gdV k_5_166 k_5_167 k_5_168 k_1_2 k_5_169) rfl rfl rfl (by decide +kernel) ⟨Nat.le_of_ble_eq_true rfl, Nat.le_of_ble_eq_true rfl⟩) (zPV X hZ hS (ci := 0) g6.1 g6.2 (r := (RX0, TX0, 3)) rfl []) rfl rfl hl.1 rfl (lv_room (Nat.le_of_ble_eq_true rfl)) d_1_23_29 ⟨Nat.le_of_ble_eq_true rfl, Nat.le_of_ble_eq_true rfl⟩) hS (fun q _ h => zAin X hS q h) (zAin X hS) (fun u7 t7 H7 locs7 ht7 hv7 hw7 hB7 hz7 hk7 hS7 => ?_)
      have hZ7 := zBack X ht7 hB7
      refine lv_iconst (v := iI 0) hx hb d_1_23_32 rfl ?_
      refine lv_istore_n (lv' := [(1, .int (iI 0)), (0, .ref (ad 12 l0 0))]) hx hb d_1_23_33 rfl hl (by decide) rfl (fun ls hl => ?_)
      exact b_S_again_34 X hf hZ7 hS7 (lv_sub hl [0, 1] rfl)
    · replace hf := gneg hf h5
      exact b_S_again_23 X hf hZ hS (lv_sub hl [] rfl)

noncomputable abbrev Q_SoundFile_setDefaults (K : zK) (D : va_G) (ca : Nat → ClassId) (ad : Nat → Int → Nat → Nat) (L : List Nat) (r : Int) (F : zF) (B : zB) (A : Nat → Prop) : Array Value → State → Outcome → State → Prop := va_Qv (S := Unit) (fun _ => True) (fun _ => zPo D ca ad lnC K.2 L F B A) A
noncomputable def f_SoundFile_setDefaults_68 (K : zK) : Nat → Int → Int → zF → zB → zO
  | 0, _, _, _, _ => none
  | n + 1, l1, l0, F, B => if r32 l1 then (if 8 ≤ l1 then some (0, F, B) else if 0 ≤ l0 ∧ l0 < K.2 8 then if 0 ≤ l1 ∧ l1 < 8 then f_SoundFile_setDefaults_68 K n (l1 + 1) l0 F (zup4 B 8 l0 3 l1 (-1)) else none else none) else none
set_option maxHeartbeats 4000000 in
set_option maxRecDepth 100000 in
theorem b_SoundFile_setDefaults_68 {D : va_G} {ca : Nat → ClassId} {ad : Nat → Int → Nat → Nat} {L : List Nat} {aS vS : Nat → Nat} {A : Nat → Prop} {p : Program} {l : Launch} {e : Env} {s : State} {m : MethodId} {args : Array Value} {below : List Frame} {meth : Method} {c : Code} {K : zK} {r : Int} {F9 : zF} {B9 : zB} (X : zX D ca L aS vS A p s m args meth c prog_10_method_3_code 2 (Option.none : Option Jvm.ClassFile.FieldType) "StaveHouse$SoundFile") : ∀ {n : Nat} {l1 : Int} {l0 : Int} {F : zF} {B : zB} {H : Heap} {locs : List Loc} {ls : Array Slot}, f_SoundFile_setDefaults_68 K n l1 l0 F B = some (r, F9, B9) → zH D ca ad lnC K.2 L F B A H → va_S A s.heap H locs → lv_has ls 2 [(1, .int (iI l1)), (0, .ref (ad 8 l0 0))] → W p l e ({ frames := 0, cells := 0, slots := 0, locals := 0 } : Room) s m args below meth c H locs 0 0 (MQ below (Q_SoundFile_setDefaults K D ca ad L r F9 B9 A) args s 0 0 A) (F0 m 68 ls []) := by
  obtain ⟨hx, hb, hr, hml, hown, hts, hlk, hK, hA, hL, hX⟩ := id X
  intro n
  induction n with
  | zero =>
    intros
    rename_i hf _ _ _
    cases hf
  | succ n ih =>
    intro l1 l0 F B H locs ls hf hZ hS hl
    replace hf : (if r32 l1 then (if 8 ≤ l1 then some (0, F, B) else if 0 ≤ l0 ∧ l0 < K.2 8 then if 0 ≤ l1 ∧ l1 < 8 then f_SoundFile_setDefaults_68 K n (l1 + 1) l0 F (zup4 B 8 l0 3 l1 (-1)) else none else none) else none) = some (r, F9, B9) := hf
    refine lv_iload_n hx hb d_10_3_68 rfl (lv_at hl 0 rfl) ?_
    refine lv_bipush (v := iI 8) hx hb d_10_3_69 (by decide) ?_
    obtain ⟨g12, hf⟩ := gif hf
    refine zge (tgt := 87) hx hb g12 (by decide) d_10_3_71 (by decide) (fun h13 => ?_) (fun h13 => ?_)
    · replace hf := gpos hf h13
      cases hf
      exact W.vret hx hb hr (fun t ht hW => ⟨⟨(), rfl, trivial, by rw [ht]; exact hZ, va_K.moved hW.alike hK⟩, hS.F ht⟩) hS.2.2 d_10_3_87 hlk
    · replace hf := gneg hf h13
      refine lv_aload_n hx hb d_10_3_74 rfl (lv_at hl 1 rfl) ?_
      obtain ⟨g14, hf⟩ := gif hf
      refine zget (ci := 8) (C := RX8) (T := TX8) (v := .ref (ad 8 l0 (3 + 1))) (k := 3) hx hb hts inW_8 hown hK hZ g14.1 g14.2 rfl (by decide) k_7_226 rfl d_10_3_75 ?_
      refine lv_iload_n hx hb d_10_3_78 rfl (lv_at hl 0 rfl) ?_
      refine lv_iconst (v := iI (-1)) hx hb d_10_3_79 rfl ?_
      obtain ⟨g15, hf⟩ := gif hf
      refine zast (ci := 8) (k := 3) hx hb hK rfl hZ hS g14.1 g14.2 rfl (Nat.le_of_ble_eq_true rfl) g15.1 g15.2 d_10_3_80 (fun H16 locs16 hZ16 hS16 => ?_)
      refine lv_iinc (v := iI (l1 + 1)) (lv' := [(1, .int (iI (l1 + 1))), (0, .ref (ad 8 l0 0))]) hx hb d_10_3_81 hl (k := 0) rfl (iI_add _ 1) (by decide) rfl (fun ls hl => ?_)
      refine lv_goto (tgt := 68) hx hb d_10_3_84 (by decide) ?_
      exact ih hf hZ16 hS16 (lv_sub hl [0, 1] rfl)

noncomputable def f_SoundFile_setDefaults (K : zK) (l0 : Int) (F : zF) (B : zB) : zO := if 0 ≤ l0 ∧ l0 < K.2 8 then f_SoundFile_setDefaults_68 K K.1 0 l0 (zup3 (zup3 (zup3 F 8 l0 12 0) 8 l0 13 0) 8 l0 14 0) (zup4 (zup4 (zup4 (zup4 (zup4 (zup4 (zup4 B 8 l0 0 0 0) 8 l0 0 1 0) 8 l0 0 2 0) 8 l0 0 3 0) 8 l0 0 4 4) 8 l0 0 5 4) 8 l0 0 6 120) else none
set_option maxHeartbeats 4000000 in
set_option maxRecDepth 100000 in
theorem c_SoundFile_setDefaults {l : Launch} {D : va_G} {ca : Nat → ClassId} {ad : Nat → Int → Nat → Nat} {L : List Nat} {aS vS : Nat → Nat} {sz : Nat} {K : zK}  {l0 : Int} {F F9 : zF} {B B9 : zB} {r : Int} (hf : f_SoundFile_setDefaults K l0 F B = some (r, F9, B9)) : Met l ({ cls := "StaveHouse$SoundFile", name := "setDefaults", desc := "()V" } : Jvm.MethodName) (Cond.code ({ cls := "StaveHouse$SoundFile", name := "setDefaults", desc := "()V" } : Jvm.MethodName) prog_10_method_3_code 2 (Option.none : Option Jvm.ClassFile.FieldType) :: wAll) ({ frames := 0, cells := 0, slots := 0, locals := 0 } : Room) (va_Pc [.ref (ad 8 l0 0)] (zPre D ca ad lnC K.2 L aS vS F B sz)) (Q_SoundFile_setDefaults K D ca ad L r F9 B9 (zA L sz)) 0 0 (zA L sz) := by
  refine zMet (Qc := Q_SoundFile_setDefaults K D ca ad L r F9 B9) (lv := [(0, .ref (ad 8 l0 0))]) (by decide) (Nat.le_of_ble_eq_true rfl) rfl (fun A p e s m below meth c ls X hZ hS hl => ?_)
  obtain ⟨hx, hb, hr, hml, hown, hts, hlk, hK, hA, hL, hX⟩ := id X
  replace hf : (if 0 ≤ l0 ∧ l0 < K.2 8 then f_SoundFile_setDefaults_68 K K.1 0 l0 (zup3 (zup3 (zup3 F 8 l0 12 0) 8 l0 13 0) 8 l0 14 0) (zup4 (zup4 (zup4 (zup4 (zup4 (zup4 (zup4 B 8 l0 0 0 0) 8 l0 0 1 0) 8 l0 0 2 0) 8 l0 0 3 0) 8 l0 0 4 4) 8 l0 0 5 4) 8 l0 0 6 120) else none) = some (r, F9, B9) := hf
  refine lv_aload_n hx hb d_10_3_0 rfl (lv_at hl 0 rfl) ?_
  obtain ⟨g1, hf⟩ := gif hf
  refine zget (ci := 8) (C := RX8) (T := TX8) (v := .ref (ad 8 l0 (0 + 1))) (k := 0) hx hb hts inW_8 hown hK hZ g1.1 g1.2 rfl (by decide) k_7_217 rfl d_10_3_1 ?_
  refine lv_iconst (v := iI 0) hx hb d_10_3_4 rfl ?_
  refine lv_iconst (v := iI 0) hx hb d_10_3_5 rfl ?_
  refine zast (ci := 8) (k := 0) hx hb hK rfl hZ hS g1.1 g1.2 rfl (Nat.le_of_ble_eq_true rfl) (by decide) (show (0 : Int) < 7 by decide) d_10_3_6 (fun H2 locs2 hZ2 hS2 => ?_)
  refine lv_aload_n hx hb d_10_3_7 rfl (lv_at hl 0 rfl) ?_
  refine zget (ci := 8) (C := RX8) (T := TX8) (v := .ref (ad 8 l0 (0 + 1))) (k := 0) hx hb hts inW_8 hown hK hZ2 g1.1 g1.2 rfl (by decide) k_7_217 rfl d_10_3_8 ?_
  refine lv_iconst (v := iI 1) hx hb d_10_3_11 rfl ?_
  refine lv_iconst (v := iI 0) hx hb d_10_3_12 rfl ?_
  refine zast (ci := 8) (k := 0) hx hb hK rfl hZ2 hS2 g1.1 g1.2 rfl (Nat.le_of_ble_eq_true rfl) (by decide) (show (1 : Int) < 7 by decide) d_10_3_13 (fun H3 locs3 hZ3 hS3 => ?_)
  refine lv_aload_n hx hb d_10_3_14 rfl (lv_at hl 0 rfl) ?_
  refine zget (ci := 8) (C := RX8) (T := TX8) (v := .ref (ad 8 l0 (0 + 1))) (k := 0) hx hb hts inW_8 hown hK hZ3 g1.1 g1.2 rfl (by decide) k_7_217 rfl d_10_3_15 ?_
  refine lv_iconst (v := iI 2) hx hb d_10_3_18 rfl ?_
  refine lv_iconst (v := iI 0) hx hb d_10_3_19 rfl ?_
  refine zast (ci := 8) (k := 0) hx hb hK rfl hZ3 hS3 g1.1 g1.2 rfl (Nat.le_of_ble_eq_true rfl) (by decide) (show (2 : Int) < 7 by decide) d_10_3_20 (fun H4 locs4 hZ4 hS4 => ?_)
  refine lv_aload_n hx hb d_10_3_21 rfl (lv_at hl 0 rfl) ?_
  refine zget (ci := 8) (C := RX8) (T := TX8) (v := .ref (ad 8 l0 (0 + 1))) (k := 0) hx hb hts inW_8 hown hK hZ4 g1.1 g1.2 rfl (by decide) k_7_217 rfl d_10_3_22 ?_
  refine lv_iconst (v := iI 3) hx hb d_10_3_25 rfl ?_
  refine lv_iconst (v := iI 0) hx hb d_10_3_26 rfl ?_
  refine zast (ci := 8) (k := 0) hx hb hK rfl hZ4 hS4 g1.1 g1.2 rfl (Nat.le_of_ble_eq_true rfl) (by decide) (show (3 : Int) < 7 by decide) d_10_3_27 (fun H5 locs5 hZ5 hS5 => ?_)
  refine lv_aload_n hx hb d_10_3_28 rfl (lv_at hl 0 rfl) ?_
  refine zget (ci := 8) (C := RX8) (T := TX8) (v := .ref (ad 8 l0 (0 + 1))) (k := 0) hx hb hts inW_8 hown hK hZ5 g1.1 g1.2 rfl (by decide) k_7_217 rfl d_10_3_29 ?_
  refine lv_iconst (v := iI 4) hx hb d_10_3_32 rfl ?_
  refine lv_iconst (v := iI 4) hx hb d_10_3_33 rfl ?_
  refine zast (ci := 8) (k := 0) hx hb hK rfl hZ5 hS5 g1.1 g1.2 rfl (Nat.le_of_ble_eq_true rfl) (by decide) (show (4 : Int) < 7 by decide) d_10_3_34 (fun H6 locs6 hZ6 hS6 => ?_)
  refine lv_aload_n hx hb d_10_3_35 rfl (lv_at hl 0 rfl) ?_
  refine zget (ci := 8) (C := RX8) (T := TX8) (v := .ref (ad 8 l0 (0 + 1))) (k := 0) hx hb hts inW_8 hown hK hZ6 g1.1 g1.2 rfl (by decide) k_7_217 rfl d_10_3_36 ?_
  refine lv_iconst (v := iI 5) hx hb d_10_3_39 rfl ?_
  refine lv_iconst (v := iI 4) hx hb d_10_3_40 rfl ?_
  refine zast (ci := 8) (k := 0) hx hb hK rfl hZ6 hS6 g1.1 g1.2 rfl (Nat.le_of_ble_eq_true rfl) (by decide) (show (5 : Int) < 7 by decide) d_10_3_41 (fun H7 locs7 hZ7 hS7 => ?_)
  refine lv_aload_n hx hb d_10_3_42 rfl (lv_at hl 0 rfl) ?_
  refine zget (ci := 8) (C := RX8) (T := TX8) (v := .ref (ad 8 l0 (0 + 1))) (k := 0) hx hb hts inW_8 hown hK hZ7 g1.1 g1.2 rfl (by decide) k_7_217 rfl d_10_3_43 ?_
  refine lv_bipush (v := iI 6) hx hb d_10_3_46 (by decide) ?_
  refine lv_bipush (v := iI 120) hx hb d_10_3_48 (by decide) ?_
  refine zast (ci := 8) (k := 0) hx hb hK rfl hZ7 hS7 g1.1 g1.2 rfl (Nat.le_of_ble_eq_true rfl) (by decide) (show (6 : Int) < 7 by decide) d_10_3_50 (fun H8 locs8 hZ8 hS8 => ?_)
  refine lv_aload_n hx hb d_10_3_51 rfl (lv_at hl 0 rfl) ?_
  refine lv_iconst (v := iI 0) hx hb d_10_3_52 rfl ?_
  refine zput (ci := 8) (C := RX8) (T := TX8) (k := 12) (v := 0) (w := .int (iI 0)) hx hb hts inW_8 tyX8 tyX8_ok nmX8 hown hK hZ8 hS8 g1.1 g1.2 rfl (by decide) k_7_236 rfl (fun G h => congrArg (fun q => Value.int (iI q)) h) rfl rfl (zno (by decide)) d_10_3_53 (fun H9 locs9 hZ9 hS9 => ?_)
  refine lv_aload_n hx hb d_10_3_56 rfl (lv_at hl 0 rfl) ?_
  refine lv_iconst (v := iI 0) hx hb d_10_3_57 rfl ?_
  refine zput (ci := 8) (C := RX8) (T := TX8) (k := 13) (v := 0) (w := .int (iI 0)) hx hb hts inW_8 tyX8 tyX8_ok nmX8 hown hK hZ9 hS9 g1.1 g1.2 rfl (by decide) k_7_237 rfl (fun G h => congrArg (fun q => Value.int (iI q)) h) rfl rfl (zno (by decide)) d_10_3_58 (fun H10 locs10 hZ10 hS10 => ?_)
  refine lv_aload_n hx hb d_10_3_61 rfl (lv_at hl 0 rfl) ?_
  refine lv_iconst (v := iI 0) hx hb d_10_3_62 rfl ?_
  refine zput (ci := 8) (C := RX8) (T := TX8) (k := 14) (v := 0) (w := .int (iI 0)) hx hb hts inW_8 tyX8 tyX8_ok nmX8 hown hK hZ10 hS10 g1.1 g1.2 rfl (by decide) k_7_238 rfl (fun G h => congrArg (fun q => Value.int (iI q)) h) rfl rfl (zno (by decide)) d_10_3_63 (fun H11 locs11 hZ11 hS11 => ?_)
  refine lv_iconst (v := iI 0) hx hb d_10_3_66 rfl ?_
  refine lv_istore_n (lv' := [(1, .int (iI 0)), (0, .ref (ad 8 l0 0))]) hx hb d_10_3_67 rfl hl (by decide) rfl (fun ls hl => ?_)
  exact b_SoundFile_setDefaults_68 X hf hZ11 hS11 (lv_sub hl [0, 1] rfl)

noncomputable abbrev Q_SoundFile_refuse (K : zK) (D : va_G) (ca : Nat → ClassId) (ad : Nat → Int → Nat → Nat) (L : List Nat) (r : Int) (F : zF) (B : zB) (A : Nat → Prop) : Array Value → State → Outcome → State → Prop := va_Qv (S := Unit) (fun _ => True) (fun _ => zPo D ca ad lnC K.2 L F B A) A
noncomputable def f_SoundFile_refuse_17 (K : zK)  (F : zF) (B : zB) : zO := some (0, F, B)
set_option maxHeartbeats 4000000 in
set_option maxRecDepth 100000 in
theorem b_SoundFile_refuse_17 {D : va_G} {ca : Nat → ClassId} {ad : Nat → Int → Nat → Nat} {L : List Nat} {aS vS : Nat → Nat} {A : Nat → Prop} {p : Program} {l : Launch} {e : Env} {s : State} {m : MethodId} {args : Array Value} {below : List Frame} {meth : Method} {c : Code} {K : zK} {r : Int} {F9 : zF} {B9 : zB} (X : zX D ca L aS vS A p s m args meth c prog_10_method_4_code 3 (Option.none : Option Jvm.ClassFile.FieldType) "StaveHouse$SoundFile")  {F : zF} {B : zB} {H : Heap} {locs : List Loc} {ls : Array Slot} (hf : f_SoundFile_refuse_17 K  F B = some (r, F9, B9)) (hZ : zH D ca ad lnC K.2 L F B A H) (hS : va_S A s.heap H locs) (hl : lv_has ls 3 []) : W p l e ({ frames := 0, cells := 0, slots := 0, locals := 0 } : Room) s m args below meth c H locs 0 0 (MQ below (Q_SoundFile_refuse K D ca ad L r F9 B9 A) args s 0 0 A) (F0 m 17 ls []) := by
  obtain ⟨hx, hb, hr, hml, hown, hts, hlk, hK, hA, hL, hX⟩ := id X
  replace hf : (some (0, F, B)) = some (r, F9, B9) := hf
  cases hf
  exact W.vret hx hb hr (fun t ht hW => ⟨⟨(), rfl, trivial, by rw [ht]; exact hZ, va_K.moved hW.alike hK⟩, hS.F ht⟩) hS.2.2 d_10_4_17 hlk

noncomputable def f_SoundFile_refuse (K : zK) (l0 : Int) (l1 : Int) (l2 : Int) (F : zF) (B : zB) : zO := if 0 ≤ l0 ∧ l0 < K.2 8 then if r32 (F 8 l0 7) then (if (F 8 l0 7) = 0 then f_SoundFile_refuse_17 K (zup3 F 8 l0 7 (l1 + (16 * l2))) B else f_SoundFile_refuse_17 K F B) else none else none
set_option maxHeartbeats 4000000 in
set_option maxRecDepth 100000 in
theorem c_SoundFile_refuse {l : Launch} {D : va_G} {ca : Nat → ClassId} {ad : Nat → Int → Nat → Nat} {L : List Nat} {aS vS : Nat → Nat} {sz : Nat} {K : zK}  {l0 : Int} {l1 : Int} {l2 : Int} {F F9 : zF} {B B9 : zB} {r : Int} (hf : f_SoundFile_refuse K l0 l1 l2 F B = some (r, F9, B9)) : Met l ({ cls := "StaveHouse$SoundFile", name := "refuse", desc := "(II)V" } : Jvm.MethodName) (Cond.code ({ cls := "StaveHouse$SoundFile", name := "refuse", desc := "(II)V" } : Jvm.MethodName) prog_10_method_4_code 3 (Option.none : Option Jvm.ClassFile.FieldType) :: wAll) ({ frames := 0, cells := 0, slots := 0, locals := 0 } : Room) (va_Pc [.ref (ad 8 l0 0), .int (iI l1), .int (iI l2)] (zPre D ca ad lnC K.2 L aS vS F B sz)) (Q_SoundFile_refuse K D ca ad L r F9 B9 (zA L sz)) 0 0 (zA L sz) := by
  refine zMet (Qc := Q_SoundFile_refuse K D ca ad L r F9 B9) (lv := [(0, .ref (ad 8 l0 0)), (1, .int (iI l1)), (2, .int (iI l2))]) (by decide) (Nat.le_of_ble_eq_true rfl) rfl (fun A p e s m below meth c ls X hZ hS hl => ?_)
  obtain ⟨hx, hb, hr, hml, hown, hts, hlk, hK, hA, hL, hX⟩ := id X
  replace hf : (if 0 ≤ l0 ∧ l0 < K.2 8 then if r32 (F 8 l0 7) then (if (F 8 l0 7) = 0 then f_SoundFile_refuse_17 K (zup3 F 8 l0 7 (l1 + (16 * l2))) B else f_SoundFile_refuse_17 K F B) else none else none) = some (r, F9, B9) := hf
  refine lv_aload_n hx hb d_10_4_0 rfl (lv_at hl 0 rfl) ?_
  obtain ⟨g1, hf⟩ := gif hf
  refine zget (ci := 8) (C := RX8) (T := TX8) (v := .int (iI (F 8 l0 7))) (k := 7) hx hb hts inW_8 hown hK hZ g1.1 g1.2 rfl (by decide) k_7_231 rfl d_10_4_1 ?_
  obtain ⟨g2, hf⟩ := gif hf
  refine z0ne (tgt := 17) hx hb g2 d_10_4_4 (by decide) (fun h3 => ?_) (fun h3 => ?_)
  · replace hf := gneg hf h3
    exact b_SoundFile_refuse_17 X hf hZ hS (lv_sub hl [] rfl)
  · replace hf := gpos hf h3
    refine lv_aload_n hx hb d_10_4_7 rfl (lv_at hl 0 rfl) ?_
    refine lv_iload_n hx hb d_10_4_8 rfl (lv_at hl 1 rfl) ?_
    refine lv_bipush (v := iI 16) hx hb d_10_4_9 (by decide) ?_
    refine lv_iload_n hx hb d_10_4_11 rfl (lv_at hl 2 rfl) ?_
    refine zmul hx hb d_10_4_12 ?_
    refine zadd hx hb d_10_4_13 ?_
    refine zput (ci := 8) (C := RX8) (T := TX8) (k := 7) (v := (l1 + (16 * l2))) (w := .int (iI (l1 + (16 * l2)))) hx hb hts inW_8 tyX8 tyX8_ok nmX8 hown hK hZ hS g1.1 g1.2 rfl (by decide) k_7_231 rfl (fun G h => congrArg (fun q => Value.int (iI q)) h) rfl rfl (zno (by decide)) d_10_4_14 (fun H4 locs4 hZ4 hS4 => ?_)
    exact b_SoundFile_refuse_17 X hf hZ4 hS4 (lv_sub hl [] rfl)

noncomputable abbrev Q_SoundFile_skip (K : zK) (D : va_G) (ca : Nat → ClassId) (ad : Nat → Int → Nat → Nat) (L : List Nat) (r : Int) (F : zF) (B : zB) (A : Nat → Prop) : Array Value → State → Outcome → State → Prop := va_Qv (S := Unit) (fun _ => True) (fun _ => zPo D ca ad lnC K.2 L F B A) A
noncomputable def f_SoundFile_skip_46 (K : zK)  (F : zF) (B : zB) : zO := some (0, F, B)
set_option maxHeartbeats 4000000 in
set_option maxRecDepth 100000 in
theorem b_SoundFile_skip_46 {D : va_G} {ca : Nat → ClassId} {ad : Nat → Int → Nat → Nat} {L : List Nat} {aS vS : Nat → Nat} {A : Nat → Prop} {p : Program} {l : Launch} {e : Env} {s : State} {m : MethodId} {args : Array Value} {below : List Frame} {meth : Method} {c : Code} {K : zK} {r : Int} {F9 : zF} {B9 : zB} (X : zX D ca L aS vS A p s m args meth c prog_10_method_11_code 3 (Option.none : Option Jvm.ClassFile.FieldType) "StaveHouse$SoundFile")  {F : zF} {B : zB} {H : Heap} {locs : List Loc} {ls : Array Slot} (hf : f_SoundFile_skip_46 K  F B = some (r, F9, B9)) (hZ : zH D ca ad lnC K.2 L F B A H) (hS : va_S A s.heap H locs) (hl : lv_has ls 3 []) : W p l e ({ frames := 1, cells := 0, slots := 0, locals := 22 } : Room) s m args below meth c H locs 0 0 (MQ below (Q_SoundFile_skip K D ca ad L r F9 B9 A) args s 0 0 A) (F0 m 46 ls []) := by
  obtain ⟨hx, hb, hr, hml, hown, hts, hlk, hK, hA, hL, hX⟩ := id X
  replace hf : (some (0, F, B)) = some (r, F9, B9) := hf
  cases hf
  exact W.vret hx hb hr (fun t ht hW => ⟨⟨(), rfl, trivial, by rw [ht]; exact hZ, va_K.moved hW.alike hK⟩, hS.F ht⟩) hS.2.2 d_10_11_46 hlk

noncomputable def f_SoundFile_skip (K : zK) (l0 : Int) (l1 : Int) (F : zF) (B : zB) : zO := if 0 ≤ l0 ∧ l0 < K.2 8 then if r32 (F 8 l0 5) then if r32 (F 8 l0 6) then if r64 ((F 8 l0 5) + l1) then if r64 (F 8 l0 6) then (if (zcmp ((F 8 l0 5) + l1) (F 8 l0 6)) ≤ 0 then if r32 (F 8 l0 7) then (if (F 8 l0 7) = 0 then f_SoundFile_skip_46 K (zup3 F 8 l0 5 ((F 8 l0 5) + l1)) B else f_SoundFile_skip_46 K F B) else none else zbind (f_SoundFile_refuse K l0 2 (F 8 l0 6) F B) (fun r10 F10 B10 => f_SoundFile_skip_46 K F10 B10)) else none else none else none else none else none
set_option maxHeartbeats 4000000 in
set_option maxRecDepth 100000 in
theorem c_SoundFile_skip {l : Launch} {D : va_G} {ca : Nat → ClassId} {ad : Nat → Int → Nat → Nat} {L : List Nat} {aS vS : Nat → Nat} {sz : Nat} {K : zK}  {l0 : Int} {l1 : Int} {F F9 : zF} {B B9 : zB} {r : Int} (hf : f_SoundFile_skip K l0 l1 F B = some (r, F9, B9)) : Met l ({ cls := "StaveHouse$SoundFile", name := "skip", desc := "(J)V" } : Jvm.MethodName) (Cond.code ({ cls := "StaveHouse$SoundFile", name := "skip", desc := "(J)V" } : Jvm.MethodName) prog_10_method_11_code 3 (Option.none : Option Jvm.ClassFile.FieldType) :: wAll) ({ frames := 1, cells := 0, slots := 0, locals := 22 } : Room) (va_Pc [.ref (ad 8 l0 0), .long (lI l1)] (zPre D ca ad lnC K.2 L aS vS F B sz)) (Q_SoundFile_skip K D ca ad L r F9 B9 (zA L sz)) 0 0 (zA L sz) := by
  refine zMet (Qc := Q_SoundFile_skip K D ca ad L r F9 B9) (lv := [(0, .ref (ad 8 l0 0)), (1, .long (lI l1))]) (by decide) (Nat.le_of_ble_eq_true rfl) rfl (fun A p e s m below meth c ls X hZ hS hl => ?_)
  obtain ⟨hx, hb, hr, hml, hown, hts, hlk, hK, hA, hL, hX⟩ := id X
  replace hf : (if 0 ≤ l0 ∧ l0 < K.2 8 then if r32 (F 8 l0 5) then if r32 (F 8 l0 6) then if r64 ((F 8 l0 5) + l1) then if r64 (F 8 l0 6) then (if (zcmp ((F 8 l0 5) + l1) (F 8 l0 6)) ≤ 0 then if r32 (F 8 l0 7) then (if (F 8 l0 7) = 0 then f_SoundFile_skip_46 K (zup3 F 8 l0 5 ((F 8 l0 5) + l1)) B else f_SoundFile_skip_46 K F B) else none else zbind (f_SoundFile_refuse K l0 2 (F 8 l0 6) F B) (fun r10 F10 B10 => f_SoundFile_skip_46 K F10 B10)) else none else none else none else none else none) = some (r, F9, B9) := hf
  refine lv_aload_n hx hb d_10_11_0 rfl (lv_at hl 0 rfl) ?_
  obtain ⟨g1, hf⟩ := gif hf
  refine zget (ci := 8) (C := RX8) (T := TX8) (v := .int (iI (F 8 l0 5))) (k := 5) hx hb hts inW_8 hown hK hZ g1.1 g1.2 rfl (by decide) k_7_229 rfl d_10_11_1 ?_
  obtain ⟨g2, hf⟩ := gif hf
  refine zi2l hx hb g2 d_10_11_4 ?_
  refine lv_lload_n hx hb d_10_11_5 rfl (lv_at hl 1 rfl) ?_
  refine zladd hx hb d_10_11_6 ?_
  refine lv_aload_n hx hb d_10_11_7 rfl (lv_at hl 0 rfl) ?_
  refine zget (ci := 8) (C := RX8) (T := TX8) (v := .int (iI (F 8 l0 6))) (k := 6) hx hb hts inW_8 hown hK hZ g1.1 g1.2 rfl (by decide) k_7_230 rfl d_10_11_8 ?_
  obtain ⟨g3, hf⟩ := gif hf
  refine zi2l hx hb g3 d_10_11_11 ?_
  obtain ⟨g4, hf⟩ := gif hf
  obtain ⟨g5, hf⟩ := gif hf
  refine zcmp_r hx hb g4 g5 d_10_11_12 ?_
  refine z0le (tgt := 28) hx hb zcmp_32 d_10_11_13 (by decide) (fun h6 => ?_) (fun h6 => ?_)
  · replace hf := gpos hf h6
    refine lv_aload_n hx hb d_10_11_28 rfl (lv_at hl 0 rfl) ?_
    refine zget (ci := 8) (C := RX8) (T := TX8) (v := .int (iI (F 8 l0 7))) (k := 7) hx hb hts inW_8 hown hK hZ g1.1 g1.2 rfl (by decide) k_7_231 rfl d_10_11_29 ?_
    obtain ⟨g7, hf⟩ := gif hf
    refine z0ne (tgt := 46) hx hb g7 d_10_11_32 (by decide) (fun h8 => ?_) (fun h8 => ?_)
    · replace hf := gneg hf h8
      exact b_SoundFile_skip_46 X hf hZ hS (lv_sub hl [] rfl)
    · replace hf := gpos hf h8
      refine lv_aload_n hx hb d_10_11_35 rfl (lv_at hl 0 rfl) ?_
      refine lv_dup hx hb d_10_11_36 rfl ?_
      refine zget (ci := 8) (C := RX8) (T := TX8) (v := .int (iI (F 8 l0 5))) (k := 5) hx hb hts inW_8 hown hK hZ g1.1 g1.2 rfl (by decide) k_7_229 rfl d_10_11_37 ?_
      refine lv_lload_n hx hb d_10_11_40 rfl (lv_at hl 1 rfl) ?_
      refine zl2iw hx hb d_10_11_41 ?_
      refine zadd hx hb d_10_11_42 ?_
      refine zput (ci := 8) (C := RX8) (T := TX8) (k := 5) (v := ((F 8 l0 5) + l1)) (w := .int (iI ((F 8 l0 5) + l1))) hx hb hts inW_8 tyX8 tyX8_ok nmX8 hown hK hZ hS g1.1 g1.2 rfl (by decide) k_7_229 rfl (fun G h => congrArg (fun q => Value.int (iI q)) h) rfl rfl (zno (by decide)) d_10_11_43 (fun H9 locs9 hZ9 hS9 => ?_)
      exact b_SoundFile_skip_46 X hf hZ9 hS9 (lv_sub hl [] rfl)
  · replace hf := gneg hf h6
    refine lv_aload_n hx hb d_10_11_16 rfl (lv_at hl 0 rfl) ?_
    refine lv_iconst (v := iI 2) hx hb d_10_11_17 rfl ?_
    refine lv_aload_n hx hb d_10_11_18 rfl (lv_at hl 0 rfl) ?_
    refine zget (ci := 8) (C := RX8) (T := TX8) (v := .int (iI (F 8 l0 6))) (k := 6) hx hb hts inW_8 hown hK hZ g1.1 g1.2 rfl (by decide) k_7_230 rfl d_10_11_19 ?_
    obtain ⟨r10, F10, B10, hc10, hf⟩ := gbind hf
    refine va_callv (va_runV (As := [.int (iI 2), .int (iI (F 8 l0 6))]) (rest := []) ⟨hx, hb, hml, hown, hts⟩ (c_SoundFile_refuse (l := l) hc10) (cwV 2 hts (gdV k_8_53 k_8_55 ks_96 k_1_23 k_8_56) rfl rfl rfl (by decide +kernel) ⟨Nat.le_of_ble_eq_true rfl, Nat.le_of_ble_eq_true rfl⟩) (zPV X hZ hS (ci := 8) g1.1 g1.2 (r := (RX8, TX8, 15)) rfl [.int (iI 2), .int (iI (F 8 l0 6))]) rfl rfl hl.1 rfl (lv_room (Nat.le_of_ble_eq_true rfl)) d_10_11_22 ⟨Nat.le_of_ble_eq_true rfl, Nat.le_of_ble_eq_true rfl⟩) hS (fun q _ h => zAin X hS q h) (zAin X hS) (fun u10 t10 H10 locs10 ht10 hv10 hw10 hB10 hz10 hk10 hS10 => ?_)
    have hZ10 := zBack X ht10 hB10
    refine lv_goto (tgt := 46) hx hb d_10_11_25 (by decide) ?_
    exact b_SoundFile_skip_46 X hf hZ10 hS10 (lv_sub hl [] rfl)

noncomputable abbrev Q_SoundFile_tellTime (K : zK) (D : va_G) (ca : Nat → ClassId) (ad : Nat → Int → Nat → Nat) (L : List Nat) (r : Int) (F : zF) (B : zB) (A : Nat → Prop) : Array Value → State → Outcome → State → Prop := va_Qv (S := Unit) (fun _ => True) (fun _ => zPo D ca ad lnC K.2 L F B A) A
noncomputable def f_SoundFile_tellTime_49 (K : zK)  (F : zF) (B : zB) : zO := some (0, F, B)
set_option maxHeartbeats 4000000 in
set_option maxRecDepth 100000 in
theorem b_SoundFile_tellTime_49 {D : va_G} {ca : Nat → ClassId} {ad : Nat → Int → Nat → Nat} {L : List Nat} {aS vS : Nat → Nat} {A : Nat → Prop} {p : Program} {l : Launch} {e : Env} {s : State} {m : MethodId} {args : Array Value} {below : List Frame} {meth : Method} {c : Code} {K : zK} {r : Int} {F9 : zF} {B9 : zB} (X : zX D ca L aS vS A p s m args meth c prog_10_method_19_code 3 (Option.none : Option Jvm.ClassFile.FieldType) "StaveHouse$SoundFile")  {F : zF} {B : zB} {H : Heap} {locs : List Loc} {ls : Array Slot} (hf : f_SoundFile_tellTime_49 K  F B = some (r, F9, B9)) (hZ : zH D ca ad lnC K.2 L F B A H) (hS : va_S A s.heap H locs) (hl : lv_has ls 3 []) : W p l e ({ frames := 0, cells := 0, slots := 0, locals := 0 } : Room) s m args below meth c H locs 0 0 (MQ below (Q_SoundFile_tellTime K D ca ad L r F9 B9 A) args s 0 0 A) (F0 m 49 ls []) := by
  obtain ⟨hx, hb, hr, hml, hown, hts, hlk, hK, hA, hL, hX⟩ := id X
  replace hf : (some (0, F, B)) = some (r, F9, B9) := hf
  cases hf
  exact W.vret hx hb hr (fun t ht hW => ⟨⟨(), rfl, trivial, by rw [ht]; exact hZ, va_K.moved hW.alike hK⟩, hS.F ht⟩) hS.2.2 d_10_19_49 hlk

noncomputable def f_SoundFile_tellTime (K : zK) (l0 : Int) (l1 : Int) (l2 : Int) (F : zF) (B : zB) : zO := if 0 ≤ l0 ∧ l0 < K.2 8 then if r32 (F 8 l0 13) then (if (F 8 l0 13) = 0 then if r32 l1 then (if l1 < 1 then f_SoundFile_tellTime_49 K F B else (if 12 < l1 then f_SoundFile_tellTime_49 K F B else if r32 l2 then (if l2 < 1 then f_SoundFile_tellTime_49 K F B else (if 4 < l2 then f_SoundFile_tellTime_49 K F B else f_SoundFile_tellTime_49 K (zup3 F 8 l0 13 1) (zup4 (zup4 B 8 l0 0 4 l1) 8 l0 0 5 (zshl 1 l2)))) else none)) else none else f_SoundFile_tellTime_49 K F B) else none else none
set_option maxHeartbeats 4000000 in
set_option maxRecDepth 100000 in
theorem c_SoundFile_tellTime {l : Launch} {D : va_G} {ca : Nat → ClassId} {ad : Nat → Int → Nat → Nat} {L : List Nat} {aS vS : Nat → Nat} {sz : Nat} {K : zK}  {l0 : Int} {l1 : Int} {l2 : Int} {F F9 : zF} {B B9 : zB} {r : Int} (hf : f_SoundFile_tellTime K l0 l1 l2 F B = some (r, F9, B9)) : Met l ({ cls := "StaveHouse$SoundFile", name := "tellTime", desc := "(II)V" } : Jvm.MethodName) (Cond.code ({ cls := "StaveHouse$SoundFile", name := "tellTime", desc := "(II)V" } : Jvm.MethodName) prog_10_method_19_code 3 (Option.none : Option Jvm.ClassFile.FieldType) :: wAll) ({ frames := 0, cells := 0, slots := 0, locals := 0 } : Room) (va_Pc [.ref (ad 8 l0 0), .int (iI l1), .int (iI l2)] (zPre D ca ad lnC K.2 L aS vS F B sz)) (Q_SoundFile_tellTime K D ca ad L r F9 B9 (zA L sz)) 0 0 (zA L sz) := by
  refine zMet (Qc := Q_SoundFile_tellTime K D ca ad L r F9 B9) (lv := [(0, .ref (ad 8 l0 0)), (1, .int (iI l1)), (2, .int (iI l2))]) (by decide) (Nat.le_of_ble_eq_true rfl) rfl (fun A p e s m below meth c ls X hZ hS hl => ?_)
  obtain ⟨hx, hb, hr, hml, hown, hts, hlk, hK, hA, hL, hX⟩ := id X
  replace hf : (if 0 ≤ l0 ∧ l0 < K.2 8 then if r32 (F 8 l0 13) then (if (F 8 l0 13) = 0 then if r32 l1 then (if l1 < 1 then f_SoundFile_tellTime_49 K F B else (if 12 < l1 then f_SoundFile_tellTime_49 K F B else if r32 l2 then (if l2 < 1 then f_SoundFile_tellTime_49 K F B else (if 4 < l2 then f_SoundFile_tellTime_49 K F B else f_SoundFile_tellTime_49 K (zup3 F 8 l0 13 1) (zup4 (zup4 B 8 l0 0 4 l1) 8 l0 0 5 (zshl 1 l2)))) else none)) else none else f_SoundFile_tellTime_49 K F B) else none else none) = some (r, F9, B9) := hf
  refine lv_aload_n hx hb d_10_19_0 rfl (lv_at hl 0 rfl) ?_
  obtain ⟨g1, hf⟩ := gif hf
  refine zget (ci := 8) (C := RX8) (T := TX8) (v := .int (iI (F 8 l0 13))) (k := 13) hx hb hts inW_8 hown hK hZ g1.1 g1.2 rfl (by decide) k_7_237 rfl d_10_19_1 ?_
  obtain ⟨g2, hf⟩ := gif hf
  refine z0ne (tgt := 49) hx hb g2 d_10_19_4 (by decide) (fun h3 => ?_) (fun h3 => ?_)
  · replace hf := gneg hf h3
    exact b_SoundFile_tellTime_49 X hf hZ hS (lv_sub hl [] rfl)
  · replace hf := gpos hf h3
    refine lv_iload_n hx hb d_10_19_7 rfl (lv_at hl 1 rfl) ?_
    refine lv_iconst (v := iI 1) hx hb d_10_19_8 rfl ?_
    obtain ⟨g4, hf⟩ := gif hf
    refine zlt (tgt := 49) hx hb g4 (by decide) d_10_19_9 (by decide) (fun h5 => ?_) (fun h5 => ?_)
    · replace hf := gpos hf h5
      exact b_SoundFile_tellTime_49 X hf hZ hS (lv_sub hl [] rfl)
    · replace hf := gneg hf h5
      refine lv_iload_n hx hb d_10_19_12 rfl (lv_at hl 1 rfl) ?_
      refine lv_bipush (v := iI 12) hx hb d_10_19_13 (by decide) ?_
      refine zgt (tgt := 49) hx hb g4 (by decide) d_10_19_15 (by decide) (fun h6 => ?_) (fun h6 => ?_)
      · replace hf := gpos hf h6
        exact b_SoundFile_tellTime_49 X hf hZ hS (lv_sub hl [] rfl)
      · replace hf := gneg hf h6
        refine lv_iload_n hx hb d_10_19_18 rfl (lv_at hl 2 rfl) ?_
        refine lv_iconst (v := iI 1) hx hb d_10_19_19 rfl ?_
        obtain ⟨g7, hf⟩ := gif hf
        refine zlt (tgt := 49) hx hb g7 (by decide) d_10_19_20 (by decide) (fun h8 => ?_) (fun h8 => ?_)
        · replace hf := gpos hf h8
          exact b_SoundFile_tellTime_49 X hf hZ hS (lv_sub hl [] rfl)
        · replace hf := gneg hf h8
          refine lv_iload_n hx hb d_10_19_23 rfl (lv_at hl 2 rfl) ?_
          refine lv_iconst (v := iI 4) hx hb d_10_19_24 rfl ?_
          refine zgt (tgt := 49) hx hb g7 (by decide) d_10_19_25 (by decide) (fun h9 => ?_) (fun h9 => ?_)
          · replace hf := gpos hf h9
            exact b_SoundFile_tellTime_49 X hf hZ hS (lv_sub hl [] rfl)
          · replace hf := gneg hf h9
            refine lv_aload_n hx hb d_10_19_28 rfl (lv_at hl 0 rfl) ?_
            refine zget (ci := 8) (C := RX8) (T := TX8) (v := .ref (ad 8 l0 (0 + 1))) (k := 0) hx hb hts inW_8 hown hK hZ g1.1 g1.2 rfl (by decide) k_7_217 rfl d_10_19_29 ?_
            refine lv_iconst (v := iI 4) hx hb d_10_19_32 rfl ?_
            refine lv_iload_n hx hb d_10_19_33 rfl (lv_at hl 1 rfl) ?_
            refine zast (ci := 8) (k := 0) hx hb hK rfl hZ hS g1.1 g1.2 rfl (Nat.le_of_ble_eq_true rfl) (by decide) (show (4 : Int) < 7 by decide) d_10_19_34 (fun H10 locs10 hZ10 hS10 => ?_)
            refine lv_aload_n hx hb d_10_19_35 rfl (lv_at hl 0 rfl) ?_
            refine zget (ci := 8) (C := RX8) (T := TX8) (v := .ref (ad 8 l0 (0 + 1))) (k := 0) hx hb hts inW_8 hown hK hZ10 g1.1 g1.2 rfl (by decide) k_7_217 rfl d_10_19_36 ?_
            refine lv_iconst (v := iI 5) hx hb d_10_19_39 rfl ?_
            refine lv_iconst (v := iI 1) hx hb d_10_19_40 rfl ?_
            refine lv_iload_n hx hb d_10_19_41 rfl (lv_at hl 2 rfl) ?_
            refine zshl_r hx hb d_10_19_42 ?_
            refine zast (ci := 8) (k := 0) hx hb hK rfl hZ10 hS10 g1.1 g1.2 rfl (Nat.le_of_ble_eq_true rfl) (by decide) (show (5 : Int) < 7 by decide) d_10_19_43 (fun H11 locs11 hZ11 hS11 => ?_)
            refine lv_aload_n hx hb d_10_19_44 rfl (lv_at hl 0 rfl) ?_
            refine lv_iconst (v := iI 1) hx hb d_10_19_45 rfl ?_
            refine zput (ci := 8) (C := RX8) (T := TX8) (k := 13) (v := 1) (w := .int (iI 1)) hx hb hts inW_8 tyX8 tyX8_ok nmX8 hown hK hZ11 hS11 g1.1 g1.2 rfl (by decide) k_7_237 rfl (fun G h => congrArg (fun q => Value.int (iI q)) h) rfl rfl (zno (by decide)) d_10_19_46 (fun H12 locs12 hZ12 hS12 => ?_)
            exact b_SoundFile_tellTime_49 X hf hZ12 hS12 (lv_sub hl [] rfl)

noncomputable abbrev Q_SoundFile_tellKey (K : zK) (D : va_G) (ca : Nat → ClassId) (ad : Nat → Int → Nat → Nat) (L : List Nat) (r : Int) (F : zF) (B : zB) (A : Nat → Prop) : Array Value → State → Outcome → State → Prop := va_Qv (S := Unit) (fun _ => True) (fun _ => zPo D ca ad lnC K.2 L F B A) A
noncomputable def f_SoundFile_tellKey_40 (K : zK)  (F : zF) (B : zB) : zO := some (0, F, B)
set_option maxHeartbeats 4000000 in
set_option maxRecDepth 100000 in
theorem b_SoundFile_tellKey_40 {D : va_G} {ca : Nat → ClassId} {ad : Nat → Int → Nat → Nat} {L : List Nat} {aS vS : Nat → Nat} {A : Nat → Prop} {p : Program} {l : Launch} {e : Env} {s : State} {m : MethodId} {args : Array Value} {below : List Frame} {meth : Method} {c : Code} {K : zK} {r : Int} {F9 : zF} {B9 : zB} (X : zX D ca L aS vS A p s m args meth c prog_10_method_20_code 3 (Option.none : Option Jvm.ClassFile.FieldType) "StaveHouse$SoundFile")  {F : zF} {B : zB} {H : Heap} {locs : List Loc} {ls : Array Slot} (hf : f_SoundFile_tellKey_40 K  F B = some (r, F9, B9)) (hZ : zH D ca ad lnC K.2 L F B A H) (hS : va_S A s.heap H locs) (hl : lv_has ls 3 []) : W p l e ({ frames := 1, cells := 0, slots := 0, locals := 13 } : Room) s m args below meth c H locs 0 0 (MQ below (Q_SoundFile_tellKey K D ca ad L r F9 B9 A) args s 0 0 A) (F0 m 40 ls []) := by
  obtain ⟨hx, hb, hr, hml, hown, hts, hlk, hK, hA, hL, hX⟩ := id X
  replace hf : (some (0, F, B)) = some (r, F9, B9) := hf
  cases hf
  exact W.vret hx hb hr (fun t ht hW => ⟨⟨(), rfl, trivial, by rw [ht]; exact hZ, va_K.moved hW.alike hK⟩, hS.F ht⟩) hS.2.2 d_10_20_40 hlk

noncomputable def f_SoundFile_tellKey (K : zK) (l0 : Int) (l1 : Int) (l2 : Int) (F : zF) (B : zB) : zO := if 0 ≤ l0 ∧ l0 < K.2 8 then if r32 (F 8 l0 12) then (if (F 8 l0 12) = 0 then if r32 l1 then if r32 (zabs l1) then (if 7 < (zabs l1) then f_SoundFile_tellKey_40 K F B else if r32 l2 then (if 1 < l2 then f_SoundFile_tellKey_40 K F B else f_SoundFile_tellKey_40 K (zup3 F 8 l0 12 1) (zup4 (zup4 B 8 l0 0 2 l1) 8 l0 0 3 l2)) else none) else none else none else f_SoundFile_tellKey_40 K F B) else none else none
