set_option maxHeartbeats 4000000 in
set_option maxRecDepth 100000 in
theorem b_Scribe_writePitch_20 {D : va_G} {ca : Nat → ClassId} {ad : Nat → Int → Nat → Nat} {L : List Nat} {aS vS : Nat → Nat} {A : Nat → Prop} {p : Program} {l : Launch} {e : Env} {s : State} {m : MethodId} {args : Array Value} {below : List Frame} {meth : Method} {c : Code} {K : zK} {r : Int} {F9 : zF} {B9 : zB} (X : zX D ca L aS vS A p s m args meth c prog_9_method_14_code 4 (Option.none : Option Jvm.ClassFile.FieldType) "StaveHouse$Scribe") : ∀ {n : Nat} {l3 : Int} {l0 : Int} {l1 : Int} {l2 : Int} {F : zF} {B : zB} {H : Heap} {locs : List Loc} {ls : Array Slot}, f_Scribe_writePitch_20 K n l3 l0 l1 l2 F B = some (r, F9, B9) → zH D ca ad lnC K.2 L F B A H → va_S A s.heap H locs → lv_has ls 4 [(3, .int (iI l3)), (0, .ref (ad 7 l0 0)), (1, .int (iI l1)), (2, .int (iI l2))] → W p l e ({ frames := 4, cells := 0, slots := 0, locals := 85 } : Room) s m args below meth c H locs 0 0 (MQ below (Q_Scribe_writePitch K D ca ad L r F9 B9 A) args s 0 0 A) (F0 m 20 ls []) := by
  obtain ⟨hx, hb, hr, hml, hown, hts, hlk, hK, hA, hL, hX⟩ := id X
  intro n
  induction n with
  | zero =>
    intros
    rename_i hf _ _ _
    cases hf
  | succ n ih =>
    intro l3 l0 l1 l2 F B H locs ls hf hZ hS hl
    replace hf : (if r32 l2 then if r32 l3 then if r32 (zabs l2) then (if (zabs l2) ≤ l3 then if 0 ≤ l0 ∧ l0 < K.2 7 then if 0 ≤ (F 7 l0 1) ∧ (F 7 l0 1) < K.2 0 then zbind (f_ByteRow_put K (F 7 l0 1) (48 + (zdv l1 7)) F B) (fun r12 F12 B12 => some (0, F12, B12)) else none else none else if 0 ≤ l0 ∧ l0 < K.2 7 then (if l2 ≤ 0 then f_Scribe_writePitch_43 (f_Scribe_writePitch_20 K n) K l3 l0 l1 l2 (F 7 l0 1) 98 F B else f_Scribe_writePitch_43 (f_Scribe_writePitch_20 K n) K l3 l0 l1 l2 (F 7 l0 1) 35 F B) else none) else none else none else none) = some (r, F9, B9) := hf
    refine lv_iload_n hx hb d_9_14_20 rfl (lv_at hl 0 rfl) ?_
    refine lv_iload_n hx hb d_9_14_21 rfl (lv_at hl 3 rfl) ?_
    obtain ⟨g6, hf⟩ := gif hf
    refine va_mabs hx hb (by rw [hml]; exact hl.1.symm) hown (hts _ k_8_173) (hts _ k_4_229) (hts _ k_1_3) (hts _ k_4_230) (Nat.le_of_ble_eq_true rfl) (Nat.le_of_ble_eq_true rfl) (Nat.le_of_ble_eq_true rfl) (Nat.le_of_ble_eq_true rfl) d_9_14_22 ?_
    rw [zabs_e g6]
    obtain ⟨g7, hf⟩ := gif hf
    obtain ⟨g8, hf⟩ := gif hf
    refine zge (tgt := 52) hx hb g7 g8 d_9_14_25 (by decide) (fun h9 => ?_) (fun h9 => ?_)
    · replace hf := gpos hf h9
      refine lv_aload_n hx hb d_9_14_52 rfl (lv_at hl 1 rfl) ?_
      obtain ⟨g10, hf⟩ := gif hf
      refine zget (ci := 7) (C := RX7) (T := TX7) (v := va_rf (zrf ad 0 (F 7 l0 1))) (k := 1) hx hb hts inW_7 hown hK hZ g10.1 g10.2 rfl (by decide) k_2_99 rfl d_9_14_53 ?_
      refine lv_bipush (v := iI 48) hx hb d_9_14_56 (by decide) ?_
      refine lv_iload_n hx hb d_9_14_58 rfl (lv_at hl 2 rfl) ?_
      refine lv_bipush (v := iI 7) hx hb d_9_14_59 (by decide) ?_
      refine zdv_r hx hb (by decide) d_9_14_61 ?_
      refine zadd hx hb d_9_14_62 ?_
      obtain ⟨g11, hf⟩ := gif hf
      refine W.eq (g2 := F0 m 63 ls [.int (iI (48 + (zdv l1 7))), .ref (ad 0 (F 7 l0 1) 0)]) (by rw [zrf_pos (ad := ad) (t := 0) g11.1]; try rfl) ?_
      obtain ⟨r12, F12, B12, hc12, hf⟩ := gbind hf
      refine va_callv (va_runV (As := [.int (iI (48 + (zdv l1 7)))]) (rest := []) ⟨hx, hb, hml, hown, hts⟩ (c_ByteRow_put (l := l) hc12) (cwV 1 hts (gdV k_8_180 k_2_171 k_2_172 k_1_2 k_2_173) rfl rfl rfl (by decide +kernel) ⟨Nat.le_of_ble_eq_true rfl, Nat.le_of_ble_eq_true rfl⟩) (zPV X hZ hS (ci := 0) g11.1 g11.2 (r := (RX0, TX0, 3)) rfl [.int (iI (48 + (zdv l1 7)))]) rfl rfl hl.1 rfl (lv_room (Nat.le_of_ble_eq_true rfl)) d_9_14_63 ⟨Nat.le_of_ble_eq_true rfl, Nat.le_of_ble_eq_true rfl⟩) hS (fun q _ h => zAin X hS q h) (zAin X hS) (fun u12 t12 H12 locs12 ht12 hv12 hw12 hB12 hz12 hk12 hS12 => ?_)
      have hZ12 := zBack X ht12 hB12
      cases hf
      exact W.vret hx hb hr (fun t ht hW => ⟨⟨(), rfl, trivial, by rw [ht]; exact hZ12, va_K.moved hW.alike hK⟩, hS12.F ht⟩) hS12.2.2 d_9_14_66 hlk
    · replace hf := gneg hf h9
      refine lv_aload_n hx hb d_9_14_28 rfl (lv_at hl 1 rfl) ?_
      obtain ⟨g13, hf⟩ := gif hf
      refine zget (ci := 7) (C := RX7) (T := TX7) (v := va_rf (zrf ad 0 (F 7 l0 1))) (k := 1) hx hb hts inW_7 hown hK hZ g13.1 g13.2 rfl (by decide) k_2_99 rfl d_9_14_29 ?_
      refine lv_iload_n hx hb d_9_14_32 rfl (lv_at hl 3 rfl) ?_
      refine z0le (tgt := 41) hx hb g6 d_9_14_33 (by decide) (fun h14 => ?_) (fun h14 => ?_)
      · replace hf := gpos hf h14
        refine lv_bipush (v := iI 98) hx hb d_9_14_41 (by decide) ?_
        exact b_Scribe_writePitch_43 X ih hf hZ hS (lv_sub hl [0, 1, 2, 3] rfl)
      · replace hf := gneg hf h14
        refine lv_bipush (v := iI 35) hx hb d_9_14_36 (by decide) ?_
        refine lv_goto (tgt := 43) hx hb d_9_14_38 (by decide) ?_
        exact b_Scribe_writePitch_43 X ih hf hZ hS (lv_sub hl [0, 1, 2, 3] rfl)

noncomputable def f_Scribe_writePitch (K : zK) (l0 : Int) (l1 : Int) (l2 : Int) (F : zF) (B : zB) : zO := if 0 ≤ l0 ∧ l0 < K.2 7 then if 0 ≤ (F 7 l0 1) ∧ (F 7 l0 1) < K.2 0 then zbind (f_Math_floorMod K l1 7 F B) (fun r3 F3 B3 => zbind (f_CString_charAt K 20 r3 F3 B3) (fun r4 F4 B4 => zbind (f_ByteRow_put K (F 7 l0 1) r4 F4 B4) (fun r5 F5 B5 => f_Scribe_writePitch_20 K K.1 0 l0 l1 l2 F5 B5))) else none else none
set_option maxHeartbeats 4000000 in
set_option maxRecDepth 100000 in
theorem c_Scribe_writePitch {l : Launch} {D : va_G} {ca : Nat → ClassId} {ad : Nat → Int → Nat → Nat} {L : List Nat} {aS vS : Nat → Nat} {sz : Nat} {K : zK}  {l0 : Int} {l1 : Int} {l2 : Int} {F F9 : zF} {B B9 : zB} {r : Int} (hf : f_Scribe_writePitch K l0 l1 l2 F B = some (r, F9, B9)) : Met l ({ cls := "StaveHouse$Scribe", name := "writePitch", desc := "(II)V" } : Jvm.MethodName) (Cond.code ({ cls := "StaveHouse$Scribe", name := "writePitch", desc := "(II)V" } : Jvm.MethodName) prog_9_method_14_code 4 (Option.none : Option Jvm.ClassFile.FieldType) :: wAll) ({ frames := 4, cells := 0, slots := 0, locals := 85 } : Room) (va_Pc [.ref (ad 7 l0 0), .int (iI l1), .int (iI l2)] (zPre D ca ad lnC K.2 L aS vS F B sz)) (Q_Scribe_writePitch K D ca ad L r F9 B9 (zA L sz)) 0 0 (zA L sz) := by
  refine zMet (Qc := Q_Scribe_writePitch K D ca ad L r F9 B9) (lv := [(0, .ref (ad 7 l0 0)), (1, .int (iI l1)), (2, .int (iI l2))]) (by decide) (Nat.le_of_ble_eq_true rfl) rfl (fun A p e s m below meth c ls X hZ hS hl => ?_)
  obtain ⟨hx, hb, hr, hml, hown, hts, hlk, hK, hA, hL, hX⟩ := id X
  replace hf : (if 0 ≤ l0 ∧ l0 < K.2 7 then if 0 ≤ (F 7 l0 1) ∧ (F 7 l0 1) < K.2 0 then zbind (f_Math_floorMod K l1 7 F B) (fun r3 F3 B3 => zbind (f_CString_charAt K 20 r3 F3 B3) (fun r4 F4 B4 => zbind (f_ByteRow_put K (F 7 l0 1) r4 F4 B4) (fun r5 F5 B5 => f_Scribe_writePitch_20 K K.1 0 l0 l1 l2 F5 B5))) else none else none) = some (r, F9, B9) := hf
  refine lv_aload_n hx hb d_9_14_0 rfl (lv_at hl 0 rfl) ?_
  obtain ⟨g1, hf⟩ := gif hf
  refine zget (ci := 7) (C := RX7) (T := TX7) (v := va_rf (zrf ad 0 (F 7 l0 1))) (k := 1) hx hb hts inW_7 hown hK hZ g1.1 g1.2 rfl (by decide) k_2_99 rfl d_9_14_1 ?_
  refine va_ldcS hx hb hown (hX.2.2.2.2.1 20 _ rfl).1 d_9_14_4 ?_
  refine lv_iload_n hx hb d_9_14_6 rfl (lv_at hl 1 rfl) ?_
  refine lv_bipush (v := iI 7) hx hb d_9_14_7 (by decide) ?_
  obtain ⟨g2, hf⟩ := gif hf
  refine W.eq (g2 := F0 m 9 ls [.int (iI 7), .int (iI l1), .ref (aS 20), .ref (ad 0 (F 7 l0 1) 0)]) (by rw [zrf_pos (ad := ad) (t := 0) g2.1]; try rfl) ?_
  obtain ⟨r3, F3, B3, hc3, hf⟩ := gbind hf
  refine va_calli (va_runS (As := [.int (iI l1), .int (iI 7)]) (rest := [.ref (aS 20), .ref (ad 0 (F 7 l0 1) 0)]) ⟨hx, hb, hml, hown, hts⟩ (c_Math_floorMod (l := l) hc3) (va_cwS 2 hts (gdS k_8_216 k_4_71 k_1_3 k_4_72) rfl rfl rfl (by decide +kernel) ⟨Nat.le_of_ble_eq_true rfl, Nat.le_of_ble_eq_true rfl⟩) (zPS X hZ hS [.int (iI l1), .int (iI 7)]) rfl rfl hl.1 rfl (lv_room (Nat.le_of_ble_eq_true rfl)) d_9_14_9 ⟨Nat.le_of_ble_eq_true rfl, Nat.le_of_ble_eq_true rfl⟩) hS (fun q _ h => zAin X hS q h) (zAin X hS) (fun p3 u3 t3 H3 locs3 ht3 hv3 hw3 hB3 hz3 hk3 hS3 => ?_)
  have hZ3 := zBack X ht3 hB3
  subst hw3
  obtain ⟨r4, F4, B4, hc4, hf⟩ := gbind hf
  refine va_calli (va_runV (As := [.int (iI r3)]) (rest := [.ref (ad 0 (F 7 l0 1) 0)]) ⟨hx, hb, hml, hown, hts⟩ (c_CString_charAt (l := l) hc4) (cwV 1 hts (gdV k_8_217 k_7_134 k_7_135 k_1_11 k_7_136) rfl rfl rfl (by decide +kernel) ⟨Nat.le_of_ble_eq_true rfl, Nat.le_of_ble_eq_true rfl⟩) ⟨zBlind, zsrecv hX (by decide) hS3, zAt X hZ3 hS3 [.ref (aS 20), .int (iI r3)]⟩ rfl rfl hl.1 rfl (lv_room (Nat.le_of_ble_eq_true rfl)) d_9_14_12 ⟨Nat.le_of_ble_eq_true rfl, Nat.le_of_ble_eq_true rfl⟩) hS3 (fun q _ h => zAin X hS3 q h) (zAin X hS3) (fun p4 u4 t4 H4 locs4 ht4 hv4 hw4 hB4 hz4 hk4 hS4 => ?_)
  have hZ4 := zBack X ht4 hB4
  subst hw4
  obtain ⟨r5, F5, B5, hc5, hf⟩ := gbind hf
  refine va_callv (va_runV (As := [.int (iI r4)]) (rest := []) ⟨hx, hb, hml, hown, hts⟩ (c_ByteRow_put (l := l) hc5) (cwV 1 hts (gdV k_8_180 k_2_171 k_2_172 k_1_2 k_2_173) rfl rfl rfl (by decide +kernel) ⟨Nat.le_of_ble_eq_true rfl, Nat.le_of_ble_eq_true rfl⟩) (zPV X hZ4 hS4 (ci := 0) g2.1 g2.2 (r := (RX0, TX0, 3)) rfl [.int (iI r4)]) rfl rfl hl.1 rfl (lv_room (Nat.le_of_ble_eq_true rfl)) d_9_14_15 ⟨Nat.le_of_ble_eq_true rfl, Nat.le_of_ble_eq_true rfl⟩) hS4 (fun q _ h => zAin X hS4 q h) (zAin X hS4) (fun u5 t5 H5 locs5 ht5 hv5 hw5 hB5 hz5 hk5 hS5 => ?_)
  have hZ5 := zBack X ht5 hB5
  refine lv_iconst (v := iI 0) hx hb d_9_14_18 rfl ?_
  refine lv_istore_n (lv' := [(3, .int (iI 0)), (0, .ref (ad 7 l0 0)), (1, .int (iI l1)), (2, .int (iI l2))]) hx hb d_9_14_19 rfl hl (by decide) rfl (fun ls hl => ?_)
  exact b_Scribe_writePitch_20 X hf hZ5 hS5 (lv_sub hl [0, 1, 2, 3] rfl)

noncomputable abbrev Q_Performance_mixSound (K : zK) (D : va_G) (ca : Nat → ClassId) (ad : Nat → Int → Nat → Nat) (L : List Nat) (r : Int) (F : zF) (B : zB) (A : Nat → Prop) : Array Value → State → Outcome → State → Prop := va_Qv (S := Unit) (fun _ => True) (fun _ => zPo D ca ad lnC K.2 L F B A) A
noncomputable def f_Performance_mixSound_131 (K : zK) : Nat → Int → Int → Int → Int → Int → Int → Int → Int → Int → zF → zB → zO
  | 0, _, _, _, _, _, _, _, _, _, _, _ => none
  | n + 1, l13, l12, l11, l10, l9, l7, l6, l0, l2, F, B => if r32 l13 then if r32 l9 then (if l9 ≤ l13 then some (0, F, B) else zbind (f_Performance_wave K l11 (zushr l12 24) F B) (fun r22 F22 B22 => if 0 ≤ l0 ∧ l0 < K.2 5 then if 0 ≤ (l13 - (F22 5 l0 2)) ∧ (l13 - (F22 5 l0 2)) < 1000 then zbind (f_Performance_level K (l13 - l6) (l7 - l6) F22 B22) (fun r25 F25 B25 => if 0 ≤ l2 ∧ l2 < 2000 then f_Performance_mixSound_131 K n (l13 + 1) (l12 + l10) l11 l10 l9 l7 l6 l0 l2 F25 (zup4 B25 5 l0 6 (l13 - (F22 5 l0 2)) ((B22 5 l0 6 (l13 - (F22 5 l0 2))) + (zdv ((r22 * r25) * (B25 5 l0 343 l2)) 1024))) else none) else none else none)) else none else none
set_option maxHeartbeats 4000000 in
set_option maxRecDepth 100000 in
theorem b_Performance_mixSound_131 {D : va_G} {ca : Nat → ClassId} {ad : Nat → Int → Nat → Nat} {L : List Nat} {aS vS : Nat → Nat} {A : Nat → Prop} {p : Program} {l : Launch} {e : Env} {s : State} {m : MethodId} {args : Array Value} {below : List Frame} {meth : Method} {c : Code} {K : zK} {r : Int} {F9 : zF} {B9 : zB} (X : zX D ca L aS vS A p s m args meth c prog_7_method_25_code 15 (Option.none : Option Jvm.ClassFile.FieldType) "StaveHouse$Performance") : ∀ {n : Nat} {l13 : Int} {l12 : Int} {l11 : Int} {l10 : Int} {l9 : Int} {l7 : Int} {l6 : Int} {l0 : Int} {l2 : Int} {F : zF} {B : zB} {H : Heap} {locs : List Loc} {ls : Array Slot}, f_Performance_mixSound_131 K n l13 l12 l11 l10 l9 l7 l6 l0 l2 F B = some (r, F9, B9) → zH D ca ad lnC K.2 L F B A H → va_S A s.heap H locs → lv_has ls 15 [(13, .int (iI l13)), (12, .int (iI l12)), (11, .int (iI l11)), (10, .int (iI l10)), (9, .int (iI l9)), (7, .int (iI l7)), (6, .int (iI l6)), (0, .ref (ad 5 l0 0)), (2, .int (iI l2))] → W p l e ({ frames := 3, cells := 0, slots := 0, locals := 54 } : Room) s m args below meth c H locs 0 0 (MQ below (Q_Performance_mixSound K D ca ad L r F9 B9 A) args s 0 0 A) (F0 m 131 ls []) := by
  obtain ⟨hx, hb, hr, hml, hown, hts, hlk, hK, hA, hL, hX⟩ := id X
  intro n
  induction n with
  | zero =>
    intros
    rename_i hf _ _ _
    cases hf
  | succ n ih =>
    intro l13 l12 l11 l10 l9 l7 l6 l0 l2 F B H locs ls hf hZ hS hl
    replace hf : (if r32 l13 then if r32 l9 then (if l9 ≤ l13 then some (0, F, B) else zbind (f_Performance_wave K l11 (zushr l12 24) F B) (fun r22 F22 B22 => if 0 ≤ l0 ∧ l0 < K.2 5 then if 0 ≤ (l13 - (F22 5 l0 2)) ∧ (l13 - (F22 5 l0 2)) < 1000 then zbind (f_Performance_level K (l13 - l6) (l7 - l6) F22 B22) (fun r25 F25 B25 => if 0 ≤ l2 ∧ l2 < 2000 then f_Performance_mixSound_131 K n (l13 + 1) (l12 + l10) l11 l10 l9 l7 l6 l0 l2 F25 (zup4 B25 5 l0 6 (l13 - (F22 5 l0 2)) ((B22 5 l0 6 (l13 - (F22 5 l0 2))) + (zdv ((r22 * r25) * (B25 5 l0 343 l2)) 1024))) else none) else none else none)) else none else none) = some (r, F9, B9) := hf
    refine lv_iload hx hb d_7_25_131 (lv_at hl 0 rfl) ?_
    refine lv_iload hx hb d_7_25_133 (lv_at hl 4 rfl) ?_
    obtain ⟨g19, hf⟩ := gif hf
    obtain ⟨g20, hf⟩ := gif hf
    refine zge (tgt := 207) hx hb g19 g20 d_7_25_135 (by decide) (fun h21 => ?_) (fun h21 => ?_)
    · replace hf := gpos hf h21
      cases hf
      exact W.vret hx hb hr (fun t ht hW => ⟨⟨(), rfl, trivial, by rw [ht]; exact hZ, va_K.moved hW.alike hK⟩, hS.F ht⟩) hS.2.2 d_7_25_207 hlk
    · replace hf := gneg hf h21
      refine lv_iload hx hb d_7_25_138 (lv_at hl 2 rfl) ?_
      refine lv_iload hx hb d_7_25_140 (lv_at hl 1 rfl) ?_
      refine lv_bipush (v := iI 24) hx hb d_7_25_142 (by decide) ?_
      refine zushr_r hx hb d_7_25_144 ?_
      obtain ⟨r22, F22, B22, hc22, hf⟩ := gbind hf
      refine va_calli (va_runS (As := [.int (iI l11), .int (iI (zushr l12 24))]) (rest := []) ⟨hx, hb, hml, hown, hts⟩ (c_Performance_wave (l := l) hc22) (va_cwS 2 hts (gdS k_9_12 k_9_13 k_1_20 k_9_14) rfl rfl rfl (by decide +kernel) ⟨Nat.le_of_ble_eq_true rfl, Nat.le_of_ble_eq_true rfl⟩) (zPS X hZ hS [.int (iI l11), .int (iI (zushr l12 24))]) rfl rfl hl.1 rfl (lv_room (Nat.le_of_ble_eq_true rfl)) d_7_25_145 ⟨Nat.le_of_ble_eq_true rfl, Nat.le_of_ble_eq_true rfl⟩) hS (fun q _ h => zAin X hS q h) (zAin X hS) (fun p22 u22 t22 H22 locs22 ht22 hv22 hw22 hB22 hz22 hk22 hS22 => ?_)
      have hZ22 := zBack X ht22 hB22
      subst hw22
      refine lv_istore (lv' := [(14, .int (iI r22)), (13, .int (iI l13)), (12, .int (iI l12)), (11, .int (iI l11)), (10, .int (iI l10)), (9, .int (iI l9)), (7, .int (iI l7)), (6, .int (iI l6)), (0, .ref (ad 5 l0 0)), (2, .int (iI l2))]) hx hb d_7_25_148 hl (by decide) rfl (fun ls hl => ?_)
      refine lv_aload_n hx hb d_7_25_150 rfl (lv_at hl 8 rfl) ?_
      obtain ⟨g23, hf⟩ := gif hf
      refine zget (ci := 5) (C := RX5) (T := TX5) (v := .ref (ad 5 l0 (6 + 1))) (k := 6) hx hb hts inW_5 hown hK hZ22 g23.1 g23.2 rfl (by decide) k_6_75 rfl d_7_25_151 ?_
      refine lv_iload hx hb d_7_25_154 (lv_at hl 1 rfl) ?_
      refine lv_aload_n hx hb d_7_25_156 rfl (lv_at hl 8 rfl) ?_
      refine zget (ci := 5) (C := RX5) (T := TX5) (v := .int (iI (F22 5 l0 2))) (k := 2) hx hb hts inW_5 hown hK hZ22 g23.1 g23.2 rfl (by decide) k_6_68 rfl d_7_25_157 ?_
      refine zsub hx hb d_7_25_160 ?_
      refine lv_dup2_11 hx hb d_7_25_161 rfl rfl ?_
      obtain ⟨g24, hf⟩ := gif hf
      refine zald (ci := 5) (k := 6) hx hb hK rfl hZ22 g23.1 g23.2 rfl (Nat.le_of_ble_eq_true rfl) g24.1 g24.2 d_7_25_162 ?_
      refine lv_iload hx hb d_7_25_163 (lv_at hl 0 rfl) ?_
      refine lv_iload hx hb d_7_25_165 (lv_at hl 1 rfl) ?_
      refine lv_iload hx hb d_7_25_167 (lv_at hl 7 rfl) ?_
      refine zsub hx hb d_7_25_169 ?_
      refine lv_iload hx hb d_7_25_170 (lv_at hl 6 rfl) ?_
      refine lv_iload hx hb d_7_25_172 (lv_at hl 7 rfl) ?_
      refine zsub hx hb d_7_25_174 ?_
      obtain ⟨r25, F25, B25, hc25, hf⟩ := gbind hf
      refine va_calli (va_runS (As := [.int (iI (l13 - l6)), .int (iI (l7 - l6))]) (rest := [.int (iI r22), .int (iI (B22 5 l0 6 (l13 - (F22 5 l0 2)))), .int (iI (l13 - (F22 5 l0 2))), .ref (ad 5 l0 (6 + 1))]) ⟨hx, hb, hml, hown, hts⟩ (c_Performance_level (l := l) hc25) (va_cwS 2 hts (gdS k_9_16 k_9_17 k_1_20 k_9_18) rfl rfl rfl (by decide +kernel) ⟨Nat.le_of_ble_eq_true rfl, Nat.le_of_ble_eq_true rfl⟩) (zPS X hZ22 hS22 [.int (iI (l13 - l6)), .int (iI (l7 - l6))]) rfl rfl hl.1 rfl (lv_room (Nat.le_of_ble_eq_true rfl)) d_7_25_175 ⟨Nat.le_of_ble_eq_true rfl, Nat.le_of_ble_eq_true rfl⟩) hS22 (fun q _ h => zAin X hS22 q h) (zAin X hS22) (fun p25 u25 t25 H25 locs25 ht25 hv25 hw25 hB25 hz25 hk25 hS25 => ?_)
      have hZ25 := zBack X ht25 hB25
      subst hw25
      refine zmul hx hb d_7_25_178 ?_
      refine lv_aload_n hx hb d_7_25_179 rfl (lv_at hl 8 rfl) ?_
      refine zget (ci := 5) (C := RX5) (T := TX5) (v := .ref (ad 5 l0 (7 + 1))) (k := 7) hx hb hts inW_5 hown hK hZ25 g23.1 g23.2 rfl (by decide) k_6_76 rfl d_7_25_180 ?_
      refine lv_iconst (v := iI 3) hx hb d_7_25_183 rfl ?_
      refine zaldQ (t := 0) (ci := 5) (k := 7) hx hb hK rfl hZ25 g23.1 g23.2 rfl (Nat.le_of_ble_eq_true rfl) (by decide) (by decide) d_7_25_184 ?_
      refine W.eq (g2 := F0 m 185 ls [.ref (ad 5 l0 (343 + 1)), .int (iI (r22 * r25)), .int (iI (B22 5 l0 6 (l13 - (F22 5 l0 2)))), .int (iI (l13 - (F22 5 l0 2))), .ref (ad 5 l0 (6 + 1))]) rfl ?_
      refine lv_iload_n hx hb d_7_25_185 rfl (lv_at hl 9 rfl) ?_
      obtain ⟨g26, hf⟩ := gif hf
      refine zald (ci := 5) (k := 343) hx hb hK rfl hZ25 g23.1 g23.2 rfl (Nat.le_of_ble_eq_true rfl) g26.1 g26.2 d_7_25_186 ?_
      refine zmul hx hb d_7_25_187 ?_
      refine lv_sipush (v := iI 1024) hx hb d_7_25_188 (by decide) ?_
      refine zdv_r hx hb (by decide) d_7_25_191 ?_
      refine zadd hx hb d_7_25_192 ?_
      refine zast (ci := 5) (k := 6) hx hb hK rfl hZ25 hS25 g23.1 g23.2 rfl (Nat.le_of_ble_eq_true rfl) g24.1 g24.2 d_7_25_193 (fun H27 locs27 hZ27 hS27 => ?_)
      refine lv_iload hx hb d_7_25_194 (lv_at hl 2 rfl) ?_
      refine lv_iload hx hb d_7_25_196 (lv_at hl 4 rfl) ?_
      refine zadd hx hb d_7_25_198 ?_
      refine lv_istore (lv' := [(12, .int (iI (l12 + l10))), (14, .int (iI r22)), (13, .int (iI l13)), (11, .int (iI l11)), (10, .int (iI l10)), (9, .int (iI l9)), (7, .int (iI l7)), (6, .int (iI l6)), (0, .ref (ad 5 l0 0)), (2, .int (iI l2))]) hx hb d_7_25_199 hl (by decide) rfl (fun ls hl => ?_)
      refine lv_iinc (v := iI (l13 + 1)) (lv' := [(13, .int (iI (l13 + 1))), (12, .int (iI (l12 + l10))), (14, .int (iI r22)), (11, .int (iI l11)), (10, .int (iI l10)), (9, .int (iI l9)), (7, .int (iI l7)), (6, .int (iI l6)), (0, .ref (ad 5 l0 0)), (2, .int (iI l2))]) hx hb d_7_25_201 hl (k := 2) rfl (iI_add _ 1) (by decide) rfl (fun ls hl => ?_)
      refine lv_goto (tgt := 131) hx hb d_7_25_204 (by decide) ?_
      exact ih hf hZ27 hS27 (lv_sub hl [0, 1, 3, 4, 5, 6, 7, 8, 9] rfl)

noncomputable def f_Performance_mixSound (K : zK) (l0 : Int) (l1 : Int) (l2 : Int) (l3 : Int) (F : zF) (B : zB) : zO := if 0 ≤ l1 ∧ l1 < K.2 6 then if r32 (F 6 l1 6) then if r32 (zmax (F 6 l1 6) 1) then if 0 ≤ l0 ∧ l0 < K.2 5 then if 0 ≤ l2 ∧ l2 < 2000 then if r32 (B 5 l0 344 l2) then if ¬ lI (zmax (F 6 l1 6) 1) = 0 then if r32 (B 5 l0 345 l2) then if r32 (zldv ((B 5 l0 344 l2) * 5000) (zmax (F 6 l1 6) 1)) then if r32 (F 5 l0 2) then if r32 ((zldv ((B 5 l0 345 l2) * 5000) (zmax (F 6 l1 6) 1)) + 400) then if r32 ((F 5 l0 2) + l3) then if r32 (zmax (zldv ((B 5 l0 344 l2) * 5000) (zmax (F 6 l1 6) 1)) (F 5 l0 2)) then if r32 (zmin ((zldv ((B 5 l0 345 l2) * 5000) (zmax (F 6 l1 6) 1)) + 400) ((F 5 l0 2) + l3)) then (if (zmax (zldv ((B 5 l0 344 l2) * 5000) (zmax (F 6 l1 6) 1)) (F 5 l0 2)) < (zmin ((zldv ((B 5 l0 345 l2) * 5000) (zmax (F 6 l1 6) 1)) + 400) ((F 5 l0 2) + l3)) then zbind (f_Performance_turn K (B 5 l0 342 l2) F B) (fun r16 F16 B16 => if 0 ≤ (B16 5 l0 340 l2) ∧ (B16 5 l0 340 l2) < 4 then if 0 ≤ (B16 6 l1 0 (B16 5 l0 340 l2)) ∧ (B16 6 l1 0 (B16 5 l0 340 l2)) < K.2 4 then f_Performance_mixSound_131 K K.1 (zmax (zldv ((B 5 l0 344 l2) * 5000) (zmax (F 6 l1 6) 1)) (F 5 l0 2)) (((zmax (zldv ((B 5 l0 344 l2) * 5000) (zmax (F 6 l1 6) 1)) (F 5 l0 2)) - (zldv ((B 5 l0 344 l2) * 5000) (zmax (F 6 l1 6) 1))) * r16) (F16 4 (B16 6 l1 0 (B16 5 l0 340 l2)) 2) r16 (zmin ((zldv ((B 5 l0 345 l2) * 5000) (zmax (F 6 l1 6) 1)) + 400) ((F 5 l0 2) + l3)) (zldv ((B 5 l0 345 l2) * 5000) (zmax (F 6 l1 6) 1)) (zldv ((B 5 l0 344 l2) * 5000) (zmax (F 6 l1 6) 1)) l0 l2 F16 B16 else none else none) else some (0, F, B)) else none else none else none else none else none else none else none else none else none else none else none else none else none else none
set_option maxHeartbeats 4000000 in
set_option maxRecDepth 100000 in
theorem c_Performance_mixSound {l : Launch} {D : va_G} {ca : Nat → ClassId} {ad : Nat → Int → Nat → Nat} {L : List Nat} {aS vS : Nat → Nat} {sz : Nat} {K : zK}  {l0 : Int} {l1 : Int} {l2 : Int} {l3 : Int} {F F9 : zF} {B B9 : zB} {r : Int} (hf : f_Performance_mixSound K l0 l1 l2 l3 F B = some (r, F9, B9)) : Met l ({ cls := "StaveHouse$Performance", name := "mixSound", desc := "(LStaveHouse$Piece;II)V" } : Jvm.MethodName) (Cond.code ({ cls := "StaveHouse$Performance", name := "mixSound", desc := "(LStaveHouse$Piece;II)V" } : Jvm.MethodName) prog_7_method_25_code 15 (Option.none : Option Jvm.ClassFile.FieldType) :: wAll) ({ frames := 3, cells := 0, slots := 0, locals := 54 } : Room) (va_Pc [.ref (ad 5 l0 0), .ref (ad 6 l1 0), .int (iI l2), .int (iI l3)] (zPre D ca ad lnC K.2 L aS vS F B sz)) (Q_Performance_mixSound K D ca ad L r F9 B9 (zA L sz)) 0 0 (zA L sz) := by
  refine zMet (Qc := Q_Performance_mixSound K D ca ad L r F9 B9) (lv := [(0, .ref (ad 5 l0 0)), (1, .ref (ad 6 l1 0)), (2, .int (iI l2)), (3, .int (iI l3))]) (by decide) (Nat.le_of_ble_eq_true rfl) rfl (fun A p e s m below meth c ls X hZ hS hl => ?_)
  obtain ⟨hx, hb, hr, hml, hown, hts, hlk, hK, hA, hL, hX⟩ := id X
  replace hf : (if 0 ≤ l1 ∧ l1 < K.2 6 then if r32 (F 6 l1 6) then if r32 (zmax (F 6 l1 6) 1) then if 0 ≤ l0 ∧ l0 < K.2 5 then if 0 ≤ l2 ∧ l2 < 2000 then if r32 (B 5 l0 344 l2) then if ¬ lI (zmax (F 6 l1 6) 1) = 0 then if r32 (B 5 l0 345 l2) then if r32 (zldv ((B 5 l0 344 l2) * 5000) (zmax (F 6 l1 6) 1)) then if r32 (F 5 l0 2) then if r32 ((zldv ((B 5 l0 345 l2) * 5000) (zmax (F 6 l1 6) 1)) + 400) then if r32 ((F 5 l0 2) + l3) then if r32 (zmax (zldv ((B 5 l0 344 l2) * 5000) (zmax (F 6 l1 6) 1)) (F 5 l0 2)) then if r32 (zmin ((zldv ((B 5 l0 345 l2) * 5000) (zmax (F 6 l1 6) 1)) + 400) ((F 5 l0 2) + l3)) then (if (zmax (zldv ((B 5 l0 344 l2) * 5000) (zmax (F 6 l1 6) 1)) (F 5 l0 2)) < (zmin ((zldv ((B 5 l0 345 l2) * 5000) (zmax (F 6 l1 6) 1)) + 400) ((F 5 l0 2) + l3)) then zbind (f_Performance_turn K (B 5 l0 342 l2) F B) (fun r16 F16 B16 => if 0 ≤ (B16 5 l0 340 l2) ∧ (B16 5 l0 340 l2) < 4 then if 0 ≤ (B16 6 l1 0 (B16 5 l0 340 l2)) ∧ (B16 6 l1 0 (B16 5 l0 340 l2)) < K.2 4 then f_Performance_mixSound_131 K K.1 (zmax (zldv ((B 5 l0 344 l2) * 5000) (zmax (F 6 l1 6) 1)) (F 5 l0 2)) (((zmax (zldv ((B 5 l0 344 l2) * 5000) (zmax (F 6 l1 6) 1)) (F 5 l0 2)) - (zldv ((B 5 l0 344 l2) * 5000) (zmax (F 6 l1 6) 1))) * r16) (F16 4 (B16 6 l1 0 (B16 5 l0 340 l2)) 2) r16 (zmin ((zldv ((B 5 l0 345 l2) * 5000) (zmax (F 6 l1 6) 1)) + 400) ((F 5 l0 2) + l3)) (zldv ((B 5 l0 345 l2) * 5000) (zmax (F 6 l1 6) 1)) (zldv ((B 5 l0 344 l2) * 5000) (zmax (F 6 l1 6) 1)) l0 l2 F16 B16 else none else none) else some (0, F, B)) else none else none else none else none else none else none else none else none else none else none else none else none else none else none) = some (r, F9, B9) := hf
  refine lv_aload_n hx hb d_7_25_0 rfl (lv_at hl 1 rfl) ?_
  obtain ⟨g1, hf⟩ := gif hf
  refine zget (ci := 6) (C := RX6) (T := TX6) (v := .int (iI (F 6 l1 6))) (k := 6) hx hb hts inW_6 hown hK hZ g1.1 g1.2 rfl (by decide) k_2_220 rfl d_7_25_1 ?_
  refine lv_iconst (v := iI 1) hx hb d_7_25_4 rfl ?_
  obtain ⟨g2, hf⟩ := gif hf
  refine va_mmax hx hb (by rw [hml]; exact hl.1.symm) hown (hts _ k_6_153) (hts _ k_1_39) (hts _ k_1_3) (hts _ k_1_40) (Nat.le_of_ble_eq_true rfl) (Nat.le_of_ble_eq_true rfl) (Nat.le_of_ble_eq_true rfl) (Nat.le_of_ble_eq_true rfl) d_7_25_5 ?_
  rw [zmax_e g2 (by decide)]
  obtain ⟨g3, hf⟩ := gif hf
  refine zi2l hx hb g3 d_7_25_8 ?_
  refine lv_lstore (lv' := [(4, .long (lI (zmax (F 6 l1 6) 1))), (0, .ref (ad 5 l0 0)), (1, .ref (ad 6 l1 0)), (2, .int (iI l2)), (3, .int (iI l3))]) hx hb d_7_25_9 hl (by decide) rfl (fun ls hl => ?_)
  refine lv_aload_n hx hb d_7_25_11 rfl (lv_at hl 1 rfl) ?_
  obtain ⟨g4, hf⟩ := gif hf
  refine zget (ci := 5) (C := RX5) (T := TX5) (v := .ref (ad 5 l0 (7 + 1))) (k := 7) hx hb hts inW_5 hown hK hZ g4.1 g4.2 rfl (by decide) k_6_76 rfl d_7_25_12 ?_
  refine lv_iconst (v := iI 4) hx hb d_7_25_15 rfl ?_
  refine zaldQ (t := 0) (ci := 5) (k := 7) hx hb hK rfl hZ g4.1 g4.2 rfl (Nat.le_of_ble_eq_true rfl) (by decide) (by decide) d_7_25_16 ?_
  refine W.eq (g2 := F0 m 17 ls [.ref (ad 5 l0 (344 + 1))]) rfl ?_
  refine lv_iload_n hx hb d_7_25_17 rfl (lv_at hl 3 rfl) ?_
  obtain ⟨g5, hf⟩ := gif hf
  refine zald (ci := 5) (k := 344) hx hb hK rfl hZ g4.1 g4.2 rfl (Nat.le_of_ble_eq_true rfl) g5.1 g5.2 d_7_25_18 ?_
  obtain ⟨g6, hf⟩ := gif hf
  refine zi2l hx hb g6 d_7_25_19 ?_
  refine lv_ldc2 hx hb hown (hts _ k_9_6) d_7_25_20 ?_
  refine W.eq (g2 := F0 m 23 ls [.long (lI 5000), .long (lI (B 5 l0 344 l2))]) rfl ?_
  refine zlmul hx hb d_7_25_23 ?_
  refine lv_lload hx hb d_7_25_24 (lv_at hl 0 rfl) ?_
  obtain ⟨g7, hf⟩ := gif hf
  refine zldv_r hx hb g7 d_7_25_26 ?_
  refine zl2iw hx hb d_7_25_27 ?_
  refine lv_istore (lv' := [(6, .int (iI (zldv ((B 5 l0 344 l2) * 5000) (zmax (F 6 l1 6) 1)))), (4, .long (lI (zmax (F 6 l1 6) 1))), (0, .ref (ad 5 l0 0)), (1, .ref (ad 6 l1 0)), (2, .int (iI l2)), (3, .int (iI l3))]) hx hb d_7_25_28 hl (by decide) rfl (fun ls hl => ?_)
  refine lv_aload_n hx hb d_7_25_30 rfl (lv_at hl 2 rfl) ?_
  refine zget (ci := 5) (C := RX5) (T := TX5) (v := .ref (ad 5 l0 (7 + 1))) (k := 7) hx hb hts inW_5 hown hK hZ g4.1 g4.2 rfl (by decide) k_6_76 rfl d_7_25_31 ?_
  refine lv_iconst (v := iI 5) hx hb d_7_25_34 rfl ?_
  refine zaldQ (t := 0) (ci := 5) (k := 7) hx hb hK rfl hZ g4.1 g4.2 rfl (Nat.le_of_ble_eq_true rfl) (by decide) (by decide) d_7_25_35 ?_
  refine W.eq (g2 := F0 m 36 ls [.ref (ad 5 l0 (345 + 1))]) rfl ?_
  refine lv_iload_n hx hb d_7_25_36 rfl (lv_at hl 4 rfl) ?_
  refine zald (ci := 5) (k := 345) hx hb hK rfl hZ g4.1 g4.2 rfl (Nat.le_of_ble_eq_true rfl) g5.1 g5.2 d_7_25_37 ?_
  obtain ⟨g8, hf⟩ := gif hf
  refine zi2l hx hb g8 d_7_25_38 ?_
  refine lv_ldc2 hx hb hown (hts _ k_9_6) d_7_25_39 ?_
  refine W.eq (g2 := F0 m 42 ls [.long (lI 5000), .long (lI (B 5 l0 345 l2))]) rfl ?_
  refine zlmul hx hb d_7_25_42 ?_
  refine lv_lload hx hb d_7_25_43 (lv_at hl 1 rfl) ?_
  refine zldv_r hx hb g7 d_7_25_45 ?_
  refine zl2iw hx hb d_7_25_46 ?_
  refine lv_istore (lv' := [(7, .int (iI (zldv ((B 5 l0 345 l2) * 5000) (zmax (F 6 l1 6) 1)))), (6, .int (iI (zldv ((B 5 l0 344 l2) * 5000) (zmax (F 6 l1 6) 1)))), (4, .long (lI (zmax (F 6 l1 6) 1))), (0, .ref (ad 5 l0 0)), (1, .ref (ad 6 l1 0)), (2, .int (iI l2)), (3, .int (iI l3))]) hx hb d_7_25_47 hl (by decide) rfl (fun ls hl => ?_)
  refine lv_iload hx hb d_7_25_49 (lv_at hl 1 rfl) ?_
  refine lv_aload_n hx hb d_7_25_51 rfl (lv_at hl 3 rfl) ?_
  refine zget (ci := 5) (C := RX5) (T := TX5) (v := .int (iI (F 5 l0 2))) (k := 2) hx hb hts inW_5 hown hK hZ g4.1 g4.2 rfl (by decide) k_6_68 rfl d_7_25_52 ?_
  obtain ⟨g9, hf⟩ := gif hf
  obtain ⟨g10, hf⟩ := gif hf
  refine va_mmax hx hb (by rw [hml]; exact hl.1.symm) hown (hts _ k_6_153) (hts _ k_1_39) (hts _ k_1_3) (hts _ k_1_40) (Nat.le_of_ble_eq_true rfl) (Nat.le_of_ble_eq_true rfl) (Nat.le_of_ble_eq_true rfl) (Nat.le_of_ble_eq_true rfl) d_7_25_55 ?_
  rw [zmax_e g9 g10]
  refine lv_istore (lv' := [(8, .int (iI (zmax (zldv ((B 5 l0 344 l2) * 5000) (zmax (F 6 l1 6) 1)) (F 5 l0 2)))), (7, .int (iI (zldv ((B 5 l0 345 l2) * 5000) (zmax (F 6 l1 6) 1)))), (6, .int (iI (zldv ((B 5 l0 344 l2) * 5000) (zmax (F 6 l1 6) 1)))), (4, .long (lI (zmax (F 6 l1 6) 1))), (0, .ref (ad 5 l0 0)), (1, .ref (ad 6 l1 0)), (2, .int (iI l2)), (3, .int (iI l3))]) hx hb d_7_25_58 hl (by decide) rfl (fun ls hl => ?_)
  refine lv_iload hx hb d_7_25_60 (lv_at hl 1 rfl) ?_
  refine lv_sipush (v := iI 400) hx hb d_7_25_62 (by decide) ?_
  refine zadd hx hb d_7_25_65 ?_
  refine lv_aload_n hx hb d_7_25_66 rfl (lv_at hl 4 rfl) ?_
  refine zget (ci := 5) (C := RX5) (T := TX5) (v := .int (iI (F 5 l0 2))) (k := 2) hx hb hts inW_5 hown hK hZ g4.1 g4.2 rfl (by decide) k_6_68 rfl d_7_25_67 ?_
  refine lv_iload_n hx hb d_7_25_70 rfl (lv_at hl 7 rfl) ?_
  refine zadd hx hb d_7_25_71 ?_
  obtain ⟨g11, hf⟩ := gif hf
  obtain ⟨g12, hf⟩ := gif hf
  refine va_mmin hx hb (by rw [hml]; exact hl.1.symm) hown (hts _ k_6_134) (hts _ k_3_97) (hts _ k_1_3) (hts _ k_3_98) (Nat.le_of_ble_eq_true rfl) (Nat.le_of_ble_eq_true rfl) (Nat.le_of_ble_eq_true rfl) (Nat.le_of_ble_eq_true rfl) d_7_25_72 ?_
  rw [zmin_e g11 g12]
  refine lv_istore (lv' := [(9, .int (iI (zmin ((zldv ((B 5 l0 345 l2) * 5000) (zmax (F 6 l1 6) 1)) + 400) ((F 5 l0 2) + l3)))), (8, .int (iI (zmax (zldv ((B 5 l0 344 l2) * 5000) (zmax (F 6 l1 6) 1)) (F 5 l0 2)))), (7, .int (iI (zldv ((B 5 l0 345 l2) * 5000) (zmax (F 6 l1 6) 1)))), (6, .int (iI (zldv ((B 5 l0 344 l2) * 5000) (zmax (F 6 l1 6) 1)))), (4, .long (lI (zmax (F 6 l1 6) 1))), (0, .ref (ad 5 l0 0)), (1, .ref (ad 6 l1 0)), (2, .int (iI l2)), (3, .int (iI l3))]) hx hb d_7_25_75 hl (by decide) rfl (fun ls hl => ?_)
  refine lv_iload hx hb d_7_25_77 (lv_at hl 1 rfl) ?_
  refine lv_iload hx hb d_7_25_79 (lv_at hl 0 rfl) ?_
  obtain ⟨g13, hf⟩ := gif hf
  obtain ⟨g14, hf⟩ := gif hf
  refine zlt (tgt := 85) hx hb g13 g14 d_7_25_81 (by decide) (fun h15 => ?_) (fun h15 => ?_)
  · replace hf := gpos hf h15
    refine lv_aload_n hx hb d_7_25_85 rfl (lv_at hl 5 rfl) ?_
    refine zget (ci := 5) (C := RX5) (T := TX5) (v := .ref (ad 5 l0 (7 + 1))) (k := 7) hx hb hts inW_5 hown hK hZ g4.1 g4.2 rfl (by decide) k_6_76 rfl d_7_25_86 ?_
    refine lv_iconst (v := iI 2) hx hb d_7_25_89 rfl ?_
    refine zaldQ (t := 0) (ci := 5) (k := 7) hx hb hK rfl hZ g4.1 g4.2 rfl (Nat.le_of_ble_eq_true rfl) (by decide) (by decide) d_7_25_90 ?_
    refine W.eq (g2 := F0 m 91 ls [.ref (ad 5 l0 (342 + 1))]) rfl ?_
    refine lv_iload_n hx hb d_7_25_91 rfl (lv_at hl 7 rfl) ?_
    refine zald (ci := 5) (k := 342) hx hb hK rfl hZ g4.1 g4.2 rfl (Nat.le_of_ble_eq_true rfl) g5.1 g5.2 d_7_25_92 ?_
    obtain ⟨r16, F16, B16, hc16, hf⟩ := gbind hf
    refine va_calll (va_runS (As := [.int (iI (B 5 l0 342 l2))]) (rest := []) ⟨hx, hb, hml, hown, hts⟩ (c_Performance_turn (l := l) hc16) (va_cwS 1 hts (gdS k_9_7 k_9_8 k_1_20 k_9_9) rfl rfl rfl (by decide +kernel) ⟨Nat.le_of_ble_eq_true rfl, Nat.le_of_ble_eq_true rfl⟩) (zPS X hZ hS [.int (iI (B 5 l0 342 l2))]) rfl rfl hl.1 rfl (lv_room (Nat.le_of_ble_eq_true rfl)) d_7_25_93 ⟨Nat.le_of_ble_eq_true rfl, Nat.le_of_ble_eq_true rfl⟩) hS (fun q _ h => zAin X hS q h) (zAin X hS) (fun p16 u16 t16 H16 locs16 ht16 hv16 hw16 hB16 hz16 hk16 hS16 => ?_)
    have hZ16 := zBack X ht16 hB16
    subst hw16
    refine zl2iw hx hb d_7_25_96 ?_
    refine lv_istore (lv' := [(10, .int (iI r16)), (9, .int (iI (zmin ((zldv ((B 5 l0 345 l2) * 5000) (zmax (F 6 l1 6) 1)) + 400) ((F 5 l0 2) + l3)))), (8, .int (iI (zmax (zldv ((B 5 l0 344 l2) * 5000) (zmax (F 6 l1 6) 1)) (F 5 l0 2)))), (7, .int (iI (zldv ((B 5 l0 345 l2) * 5000) (zmax (F 6 l1 6) 1)))), (6, .int (iI (zldv ((B 5 l0 344 l2) * 5000) (zmax (F 6 l1 6) 1)))), (4, .long (lI (zmax (F 6 l1 6) 1))), (0, .ref (ad 5 l0 0)), (1, .ref (ad 6 l1 0)), (2, .int (iI l2)), (3, .int (iI l3))]) hx hb d_7_25_97 hl (by decide) rfl (fun ls hl => ?_)
    refine lv_aload_n hx hb d_7_25_99 rfl (lv_at hl 7 rfl) ?_
    refine zget (ci := 6) (C := RX6) (T := TX6) (v := .ref (ad 6 l1 (0 + 1))) (k := 0) hx hb hts inW_6 hown hK hZ16 g1.1 g1.2 rfl (by decide) k_2_186 rfl d_7_25_100 ?_
    refine lv_aload_n hx hb d_7_25_103 rfl (lv_at hl 6 rfl) ?_
    refine zget (ci := 5) (C := RX5) (T := TX5) (v := .ref (ad 5 l0 (7 + 1))) (k := 7) hx hb hts inW_5 hown hK hZ16 g4.1 g4.2 rfl (by decide) k_6_76 rfl d_7_25_104 ?_
    refine lv_iconst (v := iI 0) hx hb d_7_25_107 rfl ?_
    refine zaldQ (t := 0) (ci := 5) (k := 7) hx hb hK rfl hZ16 g4.1 g4.2 rfl (Nat.le_of_ble_eq_true rfl) (by decide) (by decide) d_7_25_108 ?_
    refine W.eq (g2 := F0 m 109 ls [.ref (ad 5 l0 (340 + 1)), .ref (ad 6 l1 (0 + 1))]) rfl ?_
    refine lv_iload_n hx hb d_7_25_109 rfl (lv_at hl 8 rfl) ?_
    refine zald (ci := 5) (k := 340) hx hb hK rfl hZ16 g4.1 g4.2 rfl (Nat.le_of_ble_eq_true rfl) g5.1 g5.2 d_7_25_110 ?_
    obtain ⟨g17, hf⟩ := gif hf
    refine zaldR (t := 4) (x := 6) (ci := 6) (k := 0) hx hb hK rfl rfl hZ16 g1.1 g1.2 rfl (Nat.le_of_ble_eq_true rfl) g17.1 g17.2 d_7_25_111 ?_
    obtain ⟨g18, hf⟩ := gif hf
    refine zunrf g18.1 ?_
    refine zget (ci := 4) (C := RX4) (T := TX4) (v := .int (iI (F16 4 (B16 6 l1 0 (B16 5 l0 340 l2)) 2))) (k := 2) hx hb hts inW_4 hown hK hZ16 g18.1 g18.2 rfl (by decide) k_4_124 rfl d_7_25_112 ?_
    refine lv_istore (lv' := [(11, .int (iI (F16 4 (B16 6 l1 0 (B16 5 l0 340 l2)) 2))), (10, .int (iI r16)), (9, .int (iI (zmin ((zldv ((B 5 l0 345 l2) * 5000) (zmax (F 6 l1 6) 1)) + 400) ((F 5 l0 2) + l3)))), (8, .int (iI (zmax (zldv ((B 5 l0 344 l2) * 5000) (zmax (F 6 l1 6) 1)) (F 5 l0 2)))), (7, .int (iI (zldv ((B 5 l0 345 l2) * 5000) (zmax (F 6 l1 6) 1)))), (6, .int (iI (zldv ((B 5 l0 344 l2) * 5000) (zmax (F 6 l1 6) 1)))), (4, .long (lI (zmax (F 6 l1 6) 1))), (0, .ref (ad 5 l0 0)), (1, .ref (ad 6 l1 0)), (2, .int (iI l2)), (3, .int (iI l3))]) hx hb d_7_25_115 hl (by decide) rfl (fun ls hl => ?_)
    refine lv_iload hx hb d_7_25_117 (lv_at hl 3 rfl) ?_
    refine lv_iload hx hb d_7_25_119 (lv_at hl 5 rfl) ?_
    refine zsub hx hb d_7_25_121 ?_
    refine lv_iload hx hb d_7_25_122 (lv_at hl 1 rfl) ?_
    refine zmul hx hb d_7_25_124 ?_
    refine lv_istore (lv' := [(12, .int (iI (((zmax (zldv ((B 5 l0 344 l2) * 5000) (zmax (F 6 l1 6) 1)) (F 5 l0 2)) - (zldv ((B 5 l0 344 l2) * 5000) (zmax (F 6 l1 6) 1))) * r16))), (11, .int (iI (F16 4 (B16 6 l1 0 (B16 5 l0 340 l2)) 2))), (10, .int (iI r16)), (9, .int (iI (zmin ((zldv ((B 5 l0 345 l2) * 5000) (zmax (F 6 l1 6) 1)) + 400) ((F 5 l0 2) + l3)))), (8, .int (iI (zmax (zldv ((B 5 l0 344 l2) * 5000) (zmax (F 6 l1 6) 1)) (F 5 l0 2)))), (7, .int (iI (zldv ((B 5 l0 345 l2) * 5000) (zmax (F 6 l1 6) 1)))), (6, .int (iI (zldv ((B 5 l0 344 l2) * 5000) (zmax (F 6 l1 6) 1)))), (4, .long (lI (zmax (F 6 l1 6) 1))), (0, .ref (ad 5 l0 0)), (1, .ref (ad 6 l1 0)), (2, .int (iI l2)), (3, .int (iI l3))]) hx hb d_7_25_125 hl (by decide) rfl (fun ls hl => ?_)
    refine lv_iload hx hb d_7_25_127 (lv_at hl 4 rfl) ?_
    refine lv_istore (lv' := [(13, .int (iI (zmax (zldv ((B 5 l0 344 l2) * 5000) (zmax (F 6 l1 6) 1)) (F 5 l0 2)))), (12, .int (iI (((zmax (zldv ((B 5 l0 344 l2) * 5000) (zmax (F 6 l1 6) 1)) (F 5 l0 2)) - (zldv ((B 5 l0 344 l2) * 5000) (zmax (F 6 l1 6) 1))) * r16))), (11, .int (iI (F16 4 (B16 6 l1 0 (B16 5 l0 340 l2)) 2))), (10, .int (iI r16)), (9, .int (iI (zmin ((zldv ((B 5 l0 345 l2) * 5000) (zmax (F 6 l1 6) 1)) + 400) ((F 5 l0 2) + l3)))), (8, .int (iI (zmax (zldv ((B 5 l0 344 l2) * 5000) (zmax (F 6 l1 6) 1)) (F 5 l0 2)))), (7, .int (iI (zldv ((B 5 l0 345 l2) * 5000) (zmax (F 6 l1 6) 1)))), (6, .int (iI (zldv ((B 5 l0 344 l2) * 5000) (zmax (F 6 l1 6) 1)))), (4, .long (lI (zmax (F 6 l1 6) 1))), (0, .ref (ad 5 l0 0)), (1, .ref (ad 6 l1 0)), (2, .int (iI l2)), (3, .int (iI l3))]) hx hb d_7_25_129 hl (by decide) rfl (fun ls hl => ?_)
    exact b_Performance_mixSound_131 X hf hZ16 hS16 (lv_sub hl [0, 1, 2, 3, 4, 6, 7, 9, 11] rfl)
  · replace hf := gneg hf h15
    cases hf
    exact W.vret hx hb hr (fun t ht hW => ⟨⟨(), rfl, trivial, by rw [ht]; exact hZ, va_K.moved hW.alike hK⟩, hS.F ht⟩) hS.2.2 d_7_25_84 hlk


