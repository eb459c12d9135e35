set_option maxHeartbeats 4000000 in
set_option maxRecDepth 100000 in
theorem c_Parser_takeHead {l : Launch} {D : va_G} {ca : Nat → ClassId} {ad : Nat → Int → Nat → Nat} {L : List Nat} {aS vS : Nat → Nat} {sz : Nat} {K : zK}  {l0 : Int} {l1 : Int} {F F9 : zF} {B B9 : zB} {r : Int} (hf : f_Parser_takeHead K l0 l1 F B = some (r, F9, B9)) : Met l ({ cls := "StaveHouse$Parser", name := "takeHead", desc := "(LStaveHouse$Piece;)Z" } : Jvm.MethodName) (Cond.code ({ cls := "StaveHouse$Parser", name := "takeHead", desc := "(LStaveHouse$Piece;)Z" } : Jvm.MethodName) prog_5_method_6_code 3 (Option.some Jvm.ClassFile.FieldType.boolean) :: wAll) ({ frames := 3, cells := 0, slots := 0, locals := 67 } : Room) (va_Pc [.ref (ad 3 l0 0), .ref (ad 6 l1 0)] (zPre D ca ad lnC K.2 L aS vS F B sz)) (Q_Parser_takeHead K D ca ad L r F9 B9 (zA L sz)) 0 0 (zA L sz) := by
  refine zMet (Qc := Q_Parser_takeHead K D ca ad L r F9 B9) (lv := [(0, .ref (ad 3 l0 0)), (1, .ref (ad 6 l1 0))]) (by decide) (Nat.le_of_ble_eq_true rfl) rfl (fun A p e s m below meth c ls X hZ hS hl => ?_)
  obtain ⟨hx, hb, hr, hml, hown, hts, hlk, hK, hA, hL, hX⟩ := id X
  replace hf : (if 0 ≤ l0 ∧ l0 < K.2 3 then zbind (f_Parser_headSort K l0 F B) (fun r2 F2 B2 => if 0 ≤ (F2 3 l0 11) ∧ (F2 3 l0 11) < K.2 10 then zbind (f_Tokens_advance K (F2 3 l0 11) (zup3 F2 3 l0 17 (zor (F2 3 l0 17) r2)) B2) (fun r5 F5 B5 => if r32 r2 then (if r2 = 1 then zbind (f_Parser_takeKey K l0 l1 F5 B5) (fun r16 F16 B16 => if (r16 = 0 ∨ r16 = 1) then some (r16, F16, B16) else none) else (if r2 = 2 then zbind (f_Parser_takeTime K l0 l1 F5 B5) (fun r14 F14 B14 => if (r14 = 0 ∨ r14 = 1) then some (r14, F14, B14) else none) else zbind (f_Parser_takeNumber K l0 20 300 0 F5 B5) (fun r9 F9 B9 => if r32 r9 then (if r9 = 0 then some (0, F9, B9) else if 0 ≤ l1 ∧ l1 < K.2 6 then some (1, (zup3 F9 6 l1 6 (F9 3 l0 19)), B9) else none) else none))) else none) else none) else none) = some (r, F9, B9) := hf
  refine lv_aload_n hx hb d_5_6_0 rfl (lv_at hl 0 rfl) ?_
  obtain ⟨g1, hf⟩ := gif hf
  obtain ⟨r2, F2, B2, hc2, hf⟩ := gbind hf
  refine va_calli (va_runV (As := []) (rest := []) ⟨hx, hb, hml, hown, hts⟩ (c_Parser_headSort (l := l) hc2) (cwV 0 hts (gdV k_3_164 k_3_166 ks_3 k_1_4 k_3_167) rfl rfl rfl (by decide +kernel) ⟨Nat.le_of_ble_eq_true rfl, Nat.le_of_ble_eq_true rfl⟩) (zPV X hZ hS (ci := 3) g1.1 g1.2 (r := (RX3, TX3, 22)) rfl []) rfl rfl hl.1 rfl (lv_room (Nat.le_of_ble_eq_true rfl)) d_5_6_1 ⟨Nat.le_of_ble_eq_true rfl, Nat.le_of_ble_eq_true rfl⟩) hS (fun q _ h => zAin X hS q h) (zAin X hS) (fun p2 u2 t2 H2 locs2 ht2 hv2 hw2 hB2 hz2 hk2 hS2 => ?_)
  have hZ2 := zBack X ht2 hB2
  subst hw2
  refine lv_istore_n (lv' := [(2, .int (iI r2)), (0, .ref (ad 3 l0 0)), (1, .ref (ad 6 l1 0))]) hx hb d_5_6_4 rfl hl (by decide) rfl (fun ls hl => ?_)
  refine lv_aload_n hx hb d_5_6_5 rfl (lv_at hl 1 rfl) ?_
  refine lv_dup hx hb d_5_6_6 rfl ?_
  refine zget (ci := 3) (C := RX3) (T := TX3) (v := .int (iI (F2 3 l0 17))) (k := 17) hx hb hts inW_3 hown hK hZ2 g1.1 g1.2 rfl (by decide) k_1_134 rfl d_5_6_7 ?_
  refine lv_iload_n hx hb d_5_6_10 rfl (lv_at hl 0 rfl) ?_
  refine zor_r hx hb d_5_6_11 ?_
  refine zput (ci := 3) (C := RX3) (T := TX3) (k := 17) (v := (zor (F2 3 l0 17) r2)) (w := .int (iI (zor (F2 3 l0 17) r2))) hx hb hts inW_3 tyX3 tyX3_ok nmX3 hown hK hZ2 hS2 g1.1 g1.2 rfl (by decide) k_1_134 rfl (fun G h => congrArg (fun q => Value.int (iI q)) h) rfl rfl (zno (by decide)) d_5_6_12 (fun H3 locs3 hZ3 hS3 => ?_)
  refine lv_aload_n hx hb d_5_6_15 rfl (lv_at hl 1 rfl) ?_
  refine zget (ci := 3) (C := RX3) (T := TX3) (v := va_rf (zrf ad 10 (F2 3 l0 11))) (k := 11) hx hb hts inW_3 hown hK hZ3 g1.1 g1.2 rfl (by decide) k_1_128 (congrArg (fun q : Int => va_rf (zrf ad 10 q)) (show (zup3 F2 3 l0 17 (zor (F2 3 l0 17) r2)) 3 l0 11 = F2 3 l0 11 by simp [zup3])) d_5_6_16 ?_
  obtain ⟨g4, hf⟩ := gif hf
  refine W.eq (g2 := F0 m 19 ls [.ref (ad 10 (F2 3 l0 11) 0)]) (by rw [zrf_pos (ad := ad) (t := 10) g4.1]; try rfl) ?_
  obtain ⟨r5, F5, B5, hc5, hf⟩ := gbind hf
  refine va_callv (va_runV (As := []) (rest := []) ⟨hx, hb, hml, hown, hts⟩ (c_Tokens_advance (l := l) hc5) (cwV 0 hts (gdV k_3_180 k_3_152 k_3_153 k_1_5 k_3_154) rfl rfl rfl (by decide +kernel) ⟨Nat.le_of_ble_eq_true rfl, Nat.le_of_ble_eq_true rfl⟩) (zPV X hZ3 hS3 (ci := 10) g4.1 g4.2 (r := (RX10, TX10, 9)) rfl []) rfl rfl hl.1 rfl (lv_room (Nat.le_of_ble_eq_true rfl)) d_5_6_19 ⟨Nat.le_of_ble_eq_true rfl, Nat.le_of_ble_eq_true rfl⟩) hS3 (fun q _ h => zAin X hS3 q h) (zAin X hS3) (fun u5 t5 H5 locs5 ht5 hv5 hw5 hB5 hz5 hk5 hS5 => ?_)
  have hZ5 := zBack X ht5 hB5
  refine lv_iload_n hx hb d_5_6_22 rfl (lv_at hl 0 rfl) ?_
  refine lv_iconst (v := iI 1) hx hb d_5_6_23 rfl ?_
  obtain ⟨g6, hf⟩ := gif hf
  refine zne (tgt := 33) hx hb g6 (by decide) d_5_6_24 (by decide) (fun h7 => ?_) (fun h7 => ?_)
  · replace hf := gneg hf h7
    refine lv_iload_n hx hb d_5_6_33 rfl (lv_at hl 0 rfl) ?_
    refine lv_iconst (v := iI 2) hx hb d_5_6_34 rfl ?_
    refine zne (tgt := 44) hx hb g6 (by decide) d_5_6_35 (by decide) (fun h8 => ?_) (fun h8 => ?_)
    · replace hf := gneg hf h8
      refine lv_aload_n hx hb d_5_6_44 rfl (lv_at hl 1 rfl) ?_
      refine lv_bipush (v := iI 20) hx hb d_5_6_45 (by decide) ?_
      refine lv_sipush (v := iI 300) hx hb d_5_6_47 (by decide) ?_
      refine lv_iconst (v := iI 0) hx hb d_5_6_50 rfl ?_
      obtain ⟨r9, F9, B9, hc9, hf⟩ := gbind hf
      refine va_calli (va_runV (As := [.int (iI 20), .int (iI 300), .int (iI 0)]) (rest := []) ⟨hx, hb, hml, hown, hts⟩ (c_Parser_takeNumber (l := l) hc9) (cwV 3 hts (gdV k_4_9 k_4_11 ks_19 k_1_4 k_4_12) rfl rfl rfl (by decide +kernel) ⟨Nat.le_of_ble_eq_true rfl, Nat.le_of_ble_eq_true rfl⟩) (zPV X hZ5 hS5 (ci := 3) g1.1 g1.2 (r := (RX3, TX3, 22)) rfl [.int (iI 20), .int (iI 300), .int (iI 0)]) rfl rfl hl.1 rfl (lv_room (Nat.le_of_ble_eq_true rfl)) d_5_6_51 ⟨Nat.le_of_ble_eq_true rfl, Nat.le_of_ble_eq_true rfl⟩) hS5 (fun q _ h => zAin X hS5 q h) (zAin X hS5) (fun p9 u9 t9 H9 locs9 ht9 hv9 hw9 hB9 hz9 hk9 hS9 => ?_)
      have hZ9 := zBack X ht9 hB9
      subst hw9
      obtain ⟨g10, hf⟩ := gif hf
      refine z0ne (tgt := 59) hx hb g10 d_5_6_54 (by decide) (fun h11 => ?_) (fun h11 => ?_)
      · replace hf := gneg hf h11
        refine lv_aload_n hx hb d_5_6_59 rfl (lv_at hl 2 rfl) ?_
        refine lv_aload_n hx hb d_5_6_60 rfl (lv_at hl 1 rfl) ?_
        refine zget (ci := 3) (C := RX3) (T := TX3) (v := .int (iI (F9 3 l0 19))) (k := 19) hx hb hts inW_3 hown hK hZ9 g1.1 g1.2 rfl (by decide) k_1_136 rfl d_5_6_61 ?_
        obtain ⟨g12, hf⟩ := gif hf
        refine zput (ci := 6) (C := RX6) (T := TX6) (k := 6) (v := (F9 3 l0 19)) (w := .int (iI (F9 3 l0 19))) hx hb hts inW_6 tyX6 tyX6_ok nmX6 hown hK hZ9 hS9 g12.1 g12.2 rfl (by decide) k_2_218 rfl (fun G h => congrArg (fun q => Value.int (iI q)) h) rfl rfl (zno (by decide)) d_5_6_64 (fun H13 locs13 hZ13 hS13 => ?_)
        refine lv_iconst (v := iI 1) hx hb d_5_6_67 rfl ?_
        cases hf
        exact W.zret hx hb hr rfl (fun t ht hW => ⟨⟨_, (), rfl, rfl, by rw [ht]; exact hZ13, va_K.moved hW.alike hK⟩, hS13.F ht⟩) hS13.2.2 d_5_6_68 hlk
      · replace hf := gpos hf h11
        refine lv_iconst (v := iI 0) hx hb d_5_6_57 rfl ?_
        cases hf
        exact W.zret hx hb hr rfl (fun t ht hW => ⟨⟨_, (), rfl, rfl, by rw [ht]; exact hZ9, va_K.moved hW.alike hK⟩, hS9.F ht⟩) hS9.2.2 d_5_6_58 hlk
    · replace hf := gpos hf h8
      refine lv_aload_n hx hb d_5_6_38 rfl (lv_at hl 1 rfl) ?_
      refine lv_aload_n hx hb d_5_6_39 rfl (lv_at hl 2 rfl) ?_
      obtain ⟨r14, F14, B14, hc14, hf⟩ := gbind hf
      refine va_calli (va_runV (As := [.ref (ad 6 l1 0)]) (rest := []) ⟨hx, hb, hml, hown, hts⟩ (c_Parser_takeTime (l := l) hc14) (cwV 1 hts (gdV k_4_87 k_4_89 ks_32 k_1_4 k_4_90) rfl rfl rfl (by decide +kernel) ⟨Nat.le_of_ble_eq_true rfl, Nat.le_of_ble_eq_true rfl⟩) (zPV X hZ5 hS5 (ci := 3) g1.1 g1.2 (r := (RX3, TX3, 22)) rfl [.ref (ad 6 l1 0)]) rfl rfl hl.1 rfl (lv_room (Nat.le_of_ble_eq_true rfl)) d_5_6_40 ⟨Nat.le_of_ble_eq_true rfl, Nat.le_of_ble_eq_true rfl⟩) hS5 (fun q _ h => zAin X hS5 q h) (zAin X hS5) (fun p14 u14 t14 H14 locs14 ht14 hv14 hw14 hB14 hz14 hk14 hS14 => ?_)
      have hZ14 := zBack X ht14 hB14
      subst hw14
      obtain ⟨g15, hf⟩ := gif hf
      cases hf
      exact W.zret hx hb hr (zbool g15) (fun t ht hW => ⟨⟨_, (), rfl, rfl, by rw [ht]; exact hZ14, va_K.moved hW.alike hK⟩, hS14.F ht⟩) hS14.2.2 d_5_6_43 hlk
  · replace hf := gpos hf h7
    refine lv_aload_n hx hb d_5_6_27 rfl (lv_at hl 1 rfl) ?_
    refine lv_aload_n hx hb d_5_6_28 rfl (lv_at hl 2 rfl) ?_
    obtain ⟨r16, F16, B16, hc16, hf⟩ := gbind hf
    refine va_calli (va_runV (As := [.ref (ad 6 l1 0)]) (rest := []) ⟨hx, hb, hml, hown, hts⟩ (c_Parser_takeKey (l := l) hc16) (cwV 1 hts (gdV k_4_81 k_4_83 ks_31 k_1_4 k_4_84) rfl rfl rfl (by decide +kernel) ⟨Nat.le_of_ble_eq_true rfl, Nat.le_of_ble_eq_true rfl⟩) (zPV X hZ5 hS5 (ci := 3) g1.1 g1.2 (r := (RX3, TX3, 22)) rfl [.ref (ad 6 l1 0)]) rfl rfl hl.1 rfl (lv_room (Nat.le_of_ble_eq_true rfl)) d_5_6_29 ⟨Nat.le_of_ble_eq_true rfl, Nat.le_of_ble_eq_true rfl⟩) hS5 (fun q _ h => zAin X hS5 q h) (zAin X hS5) (fun p16 u16 t16 H16 locs16 ht16 hv16 hw16 hB16 hz16 hk16 hS16 => ?_)
    have hZ16 := zBack X ht16 hB16
    subst hw16
    obtain ⟨g17, hf⟩ := gif hf
    cases hf
    exact W.zret hx hb hr (zbool g17) (fun t ht hW => ⟨⟨_, (), rfl, rfl, by rw [ht]; exact hZ16, va_K.moved hW.alike hK⟩, hS16.F ht⟩) hS16.2.2 d_5_6_32 hlk

noncomputable abbrev Q_Walker_makeEvent (K : zK) (D : va_G) (ca : Nat → ClassId) (ad : Nat → Int → Nat → Nat) (L : List Nat) (r : Int) (F : zF) (B : zB) (A : Nat → Prop) : Array Value → State → Outcome → State → Prop := va_Qv (S := Unit) (fun _ => True) (fun _ => zPo D ca ad lnC K.2 L F B A) A
noncomputable def f_Walker_makeEvent_273 (K : zK) (l4 : Int) (l0 : Int) (F : zF) (B : zB) : zO := if 0 ≤ l0 ∧ l0 < K.2 11 then if 0 ≤ (F 11 l0 1) ∧ (F 11 l0 1) < K.2 4 then some (0, (zup3 (zup3 F 4 (F 11 l0 1) 6 ((F 4 (F 11 l0 1) 6) + 1)) 11 l0 11 ((F 11 l0 11) + l4)), B) else none else none
set_option maxHeartbeats 4000000 in
set_option maxRecDepth 100000 in
theorem b_Walker_makeEvent_273 {D : va_G} {ca : Nat → ClassId} {ad : Nat → Int → Nat → Nat} {L : List Nat} {aS vS : Nat → Nat} {A : Nat → Prop} {p : Program} {l : Launch} {e : Env} {s : State} {m : MethodId} {args : Array Value} {below : List Frame} {meth : Method} {c : Code} {K : zK} {r : Int} {F9 : zF} {B9 : zB} (X : zX D ca L aS vS A p s m args meth c prog_13_method_13_code 8 (Option.none : Option Jvm.ClassFile.FieldType) "StaveHouse$Walker") {l4 : Int} {l0 : Int} {F : zF} {B : zB} {H : Heap} {locs : List Loc} {ls : Array Slot} (hf : f_Walker_makeEvent_273 K l4 l0 F B = some (r, F9, B9)) (hZ : zH D ca ad lnC K.2 L F B A H) (hS : va_S A s.heap H locs) (hl : lv_has ls 8 [(4, .long (lI l4)), (0, .ref (ad 11 l0 0))]) : W p l e ({ frames := 3, cells := 0, slots := 0, locals := 68 } : Room) s m args below meth c H locs 0 0 (MQ below (Q_Walker_makeEvent K D ca ad L r F9 B9 A) args s 0 0 A) (F0 m 273 ls []) := by
  obtain ⟨hx, hb, hr, hml, hown, hts, hlk, hK, hA, hL, hX⟩ := id X
  replace hf : (if 0 ≤ l0 ∧ l0 < K.2 11 then if 0 ≤ (F 11 l0 1) ∧ (F 11 l0 1) < K.2 4 then some (0, (zup3 (zup3 F 4 (F 11 l0 1) 6 ((F 4 (F 11 l0 1) 6) + 1)) 11 l0 11 ((F 11 l0 11) + l4)), B) else none else none) = some (r, F9, B9) := hf
  refine lv_aload_n hx hb d_13_13_273 rfl (lv_at hl 1 rfl) ?_
  obtain ⟨g54, hf⟩ := gif hf
  refine zget (ci := 11) (C := RX11) (T := TX11) (v := va_rf (zrf ad 4 (F 11 l0 1))) (k := 1) hx hb hts inW_11 hown hK hZ g54.1 g54.2 rfl (by decide) k_1_191 rfl d_13_13_274 ?_
  refine lv_dup hx hb d_13_13_277 (zcat _) ?_
  obtain ⟨g55, hf⟩ := gif hf
  refine zunrf g55.1 ?_
  refine zget (ci := 4) (C := RX4) (T := TX4) (v := .int (iI (F 4 (F 11 l0 1) 6))) (k := 6) hx hb hts inW_4 hown hK hZ g55.1 g55.2 rfl (by decide) k_4_139 rfl d_13_13_278 ?_
  refine lv_iconst (v := iI 1) hx hb d_13_13_281 rfl ?_
  refine zadd hx hb d_13_13_282 ?_
  refine W.eq (g2 := F0 m 283 ls [.int (iI ((F 4 (F 11 l0 1) 6) + 1)), .ref (ad 4 (F 11 l0 1) 0)]) (by rw [zrf_pos (ad := ad) (t := 4) g55.1]; try rfl) ?_
  refine zput (ci := 4) (C := RX4) (T := TX4) (k := 6) (v := ((F 4 (F 11 l0 1) 6) + 1)) (w := .int (iI ((F 4 (F 11 l0 1) 6) + 1))) hx hb hts inW_4 tyX4 tyX4_ok nmX4 hown hK hZ hS g55.1 g55.2 rfl (by decide) k_4_139 rfl (fun G h => congrArg (fun q => Value.int (iI q)) h) rfl rfl (zno (by decide)) d_13_13_283 (fun H56 locs56 hZ56 hS56 => ?_)
  refine lv_aload_n hx hb d_13_13_286 rfl (lv_at hl 1 rfl) ?_
  refine lv_dup hx hb d_13_13_287 rfl ?_
  refine zget (ci := 11) (C := RX11) (T := TX11) (v := .long (lI (F 11 l0 11))) (k := 11) hx hb hts inW_11 hown hK hZ56 g54.1 g54.2 rfl (by decide) k_1_201 (congrArg (fun q : Int => Value.long (lI q)) (show (zup3 F 4 (F 11 l0 1) 6 ((F 4 (F 11 l0 1) 6) + 1)) 11 l0 11 = F 11 l0 11 by simp [zup3])) d_13_13_288 ?_
  refine lv_lload hx hb d_13_13_291 (lv_at hl 0 rfl) ?_
  refine zladd hx hb d_13_13_293 ?_
  refine zput (ci := 11) (C := RX11) (T := TX11) (k := 11) (v := ((F 11 l0 11) + l4)) (w := .long (lI ((F 11 l0 11) + l4))) hx hb hts inW_11 tyX11 tyX11_ok nmX11 hown hK hZ56 hS56 g54.1 g54.2 rfl (by decide) k_1_201 rfl (fun G h => congrArg (fun q => Value.long (lI q)) h) rfl rfl (zno (by decide)) d_13_13_294 (fun H57 locs57 hZ57 hS57 => ?_)
  cases hf
  exact W.vret hx hb hr (fun t ht hW => ⟨⟨(), rfl, trivial, by rw [ht]; exact hZ57, va_K.moved hW.alike hK⟩, hS57.F ht⟩) hS57.2.2 d_13_13_297 hlk

noncomputable def f_Walker_makeEvent_228 (K : zK) : Nat → Int → Int → Int → Int → Int → zF → zB → zO
  | 0, _, _, _, _, _, _, _ => none
  | n + 1, l7, l6, l4, l0, l1, F, B => if 0 ≤ l0 ∧ l0 < K.2 11 then if 0 ≤ (F 11 l0 0) ∧ (F 11 l0 0) < K.2 3 then if 0 ≤ l1 ∧ l1 < 3000 then if r32 l7 then if r32 (B 3 (F 11 l0 0) 6 l1) then (if (B 3 (F 11 l0 0) 6 l1) ≤ l7 then f_Walker_makeEvent_273 K l4 l0 F B else if r32 (F 11 l0 2) then (if (F 11 l0 2) = 0 then if 0 ≤ l6 ∧ l6 < K.2 1 then zbind (f_Walker_addPitch K l0 l6 ((B 3 (F 11 l0 0) 3 l1) + l7) F B) (fun r53 F53 B53 => f_Walker_makeEvent_228 K n (l7 + 1) l6 l4 l0 l1 F53 B53) else none else f_Walker_makeEvent_273 K l4 l0 F B) else none) else none else none else none else none else none
set_option maxHeartbeats 4000000 in
set_option maxRecDepth 100000 in
theorem b_Walker_makeEvent_228 {D : va_G} {ca : Nat → ClassId} {ad : Nat → Int → Nat → Nat} {L : List Nat} {aS vS : Nat → Nat} {A : Nat → Prop} {p : Program} {l : Launch} {e : Env} {s : State} {m : MethodId} {args : Array Value} {below : List Frame} {meth : Method} {c : Code} {K : zK} {r : Int} {F9 : zF} {B9 : zB} (X : zX D ca L aS vS A p s m args meth c prog_13_method_13_code 8 (Option.none : Option Jvm.ClassFile.FieldType) "StaveHouse$Walker") : ∀ {n : Nat} {l7 : Int} {l6 : Int} {l4 : Int} {l0 : Int} {l1 : Int} {F : zF} {B : zB} {H : Heap} {locs : List Loc} {ls : Array Slot}, f_Walker_makeEvent_228 K n l7 l6 l4 l0 l1 F B = some (r, F9, B9) → zH D ca ad lnC K.2 L F B A H → va_S A s.heap H locs → lv_has ls 8 [(7, .int (iI l7)), (6, va_rf (zrf ad 1 l6)), (4, .long (lI l4)), (0, .ref (ad 11 l0 0)), (1, .int (iI l1))] → W p l e ({ frames := 3, cells := 0, slots := 0, locals := 68 } : Room) s m args below meth c H locs 0 0 (MQ below (Q_Walker_makeEvent K D ca ad L r F9 B9 A) args s 0 0 A) (F0 m 228 ls []) := by
  obtain ⟨hx, hb, hr, hml, hown, hts, hlk, hK, hA, hL, hX⟩ := id X
  intro n
  induction n with
  | zero =>
    intros
    rename_i hf _ _ _
    cases hf
  | succ n ih =>
    intro l7 l6 l4 l0 l1 F B H locs ls hf hZ hS hl
    replace hf : (if 0 ≤ l0 ∧ l0 < K.2 11 then if 0 ≤ (F 11 l0 0) ∧ (F 11 l0 0) < K.2 3 then if 0 ≤ l1 ∧ l1 < 3000 then if r32 l7 then if r32 (B 3 (F 11 l0 0) 6 l1) then (if (B 3 (F 11 l0 0) 6 l1) ≤ l7 then f_Walker_makeEvent_273 K l4 l0 F B else if r32 (F 11 l0 2) then (if (F 11 l0 2) = 0 then if 0 ≤ l6 ∧ l6 < K.2 1 then zbind (f_Walker_addPitch K l0 l6 ((B 3 (F 11 l0 0) 3 l1) + l7) F B) (fun r53 F53 B53 => f_Walker_makeEvent_228 K n (l7 + 1) l6 l4 l0 l1 F53 B53) else none else f_Walker_makeEvent_273 K l4 l0 F B) else none) else none else none else none else none else none) = some (r, F9, B9) := hf
    refine lv_iload hx hb d_13_13_228 (lv_at hl 0 rfl) ?_
    refine lv_aload_n hx hb d_13_13_230 rfl (lv_at hl 3 rfl) ?_
    obtain ⟨g44, hf⟩ := gif hf
    refine zget (ci := 11) (C := RX11) (T := TX11) (v := va_rf (zrf ad 3 (F 11 l0 0))) (k := 0) hx hb hts inW_11 hown hK hZ g44.1 g44.2 rfl (by decide) k_1_190 rfl d_13_13_231 ?_
    obtain ⟨g45, hf⟩ := gif hf
    refine zunrf g45.1 ?_
    refine zget (ci := 3) (C := RX3) (T := TX3) (v := .ref (ad 3 (F 11 l0 0) (6 + 1))) (k := 6) hx hb hts inW_3 hown hK hZ g45.1 g45.2 rfl (by decide) k_1_119 rfl d_13_13_234 ?_
    refine lv_iload_n hx hb d_13_13_237 rfl (lv_at hl 4 rfl) ?_
    obtain ⟨g46, hf⟩ := gif hf
    refine zald (ci := 3) (k := 6) hx hb hK rfl hZ g45.1 g45.2 rfl (Nat.le_of_ble_eq_true rfl) g46.1 g46.2 d_13_13_238 ?_
    obtain ⟨g47, hf⟩ := gif hf
    obtain ⟨g48, hf⟩ := gif hf
    refine zge (tgt := 273) hx hb g47 g48 d_13_13_239 (by decide) (fun h49 => ?_) (fun h49 => ?_)
    · replace hf := gpos hf h49
      exact b_Walker_makeEvent_273 X hf hZ hS (lv_sub hl [2, 3] rfl)
    · replace hf := gneg hf h49
      refine lv_aload_n hx hb d_13_13_242 rfl (lv_at hl 3 rfl) ?_
      refine zget (ci := 11) (C := RX11) (T := TX11) (v := .int (iI (F 11 l0 2))) (k := 2) hx hb hts inW_11 hown hK hZ g44.1 g44.2 rfl (by decide) k_1_192 rfl d_13_13_243 ?_
      obtain ⟨g50, hf⟩ := gif hf
      refine z0ne (tgt := 273) hx hb g50 d_13_13_246 (by decide) (fun h51 => ?_) (fun h51 => ?_)
      · replace hf := gneg hf h51
        exact b_Walker_makeEvent_273 X hf hZ hS (lv_sub hl [2, 3] rfl)
      · replace hf := gpos hf h51
        refine lv_aload_n hx hb d_13_13_249 rfl (lv_at hl 3 rfl) ?_
        refine zaload hx hb d_13_13_250 (lv_at hl 1 rfl) ?_
        refine lv_aload_n hx hb d_13_13_252 rfl (lv_at hl 3 rfl) ?_
        refine zget (ci := 11) (C := RX11) (T := TX11) (v := va_rf (zrf ad 3 (F 11 l0 0))) (k := 0) hx hb hts inW_11 hown hK hZ g44.1 g44.2 rfl (by decide) k_1_190 rfl d_13_13_253 ?_
        refine zunrf g45.1 ?_
        refine zget (ci := 3) (C := RX3) (T := TX3) (v := .ref (ad 3 (F 11 l0 0) (3 + 1))) (k := 3) hx hb hts inW_3 hown hK hZ g45.1 g45.2 rfl (by decide) k_1_113 rfl d_13_13_256 ?_
        refine lv_iload_n hx hb d_13_13_259 rfl (lv_at hl 4 rfl) ?_
        refine zald (ci := 3) (k := 3) hx hb hK rfl hZ g45.1 g45.2 rfl (Nat.le_of_ble_eq_true rfl) g46.1 g46.2 d_13_13_260 ?_
        refine lv_iload hx hb d_13_13_261 (lv_at hl 0 rfl) ?_
        refine zadd hx hb d_13_13_263 ?_
        obtain ⟨g52, hf⟩ := gif hf
        refine W.eq (g2 := F0 m 264 ls [.int (iI ((B 3 (F 11 l0 0) 3 l1) + l7)), .ref (ad 1 l6 0), .ref (ad 11 l0 0)]) (by rw [zrf_pos (ad := ad) (t := 1) g52.1]; try rfl) ?_
        obtain ⟨r53, F53, B53, hc53, hf⟩ := gbind hf
        refine va_callv (va_runV (As := [.ref (ad 1 l6 0), .int (iI ((B 3 (F 11 l0 0) 3 l1) + l7))]) (rest := []) ⟨hx, hb, hml, hown, hts⟩ (c_Walker_addPitch (l := l) hc53) (cwV 2 hts (gdV k_4_223 k_4_225 ks_40 k_1_6 k_4_226) rfl rfl rfl (by decide +kernel) ⟨Nat.le_of_ble_eq_true rfl, Nat.le_of_ble_eq_true rfl⟩) (zPV X hZ hS (ci := 11) g44.1 g44.2 (r := (RX11, TX11, 19)) rfl [.ref (ad 1 l6 0), .int (iI ((B 3 (F 11 l0 0) 3 l1) + l7))]) rfl rfl hl.1 rfl (lv_room (Nat.le_of_ble_eq_true rfl)) d_13_13_264 ⟨Nat.le_of_ble_eq_true rfl, Nat.le_of_ble_eq_true rfl⟩) hS (fun q _ h => zAin X hS q h) (zAin X hS) (fun u53 t53 H53 locs53 ht53 hv53 hw53 hB53 hz53 hk53 hS53 => ?_)
        have hZ53 := zBack X ht53 hB53
        refine lv_iinc (v := iI (l7 + 1)) (lv' := [(7, .int (iI (l7 + 1))), (6, va_rf (zrf ad 1 l6)), (4, .long (lI l4)), (0, .ref (ad 11 l0 0)), (1, .int (iI l1))]) hx hb d_13_13_267 hl (k := 0) rfl (iI_add _ 1) (by decide) (by cases zrf ad 1 l6 <;> rfl) (fun ls hl => ?_)
        refine lv_goto (tgt := 228) hx hb d_13_13_270 (by decide) ?_
        exact ih hf hZ53 hS53 (lv_sub hl [0, 1, 2, 3, 4] rfl)

noncomputable def f_Walker_makeEvent_178 (K : zK) (l6 : Int) (l4 : Int) (l2 : Int) (l0 : Int) (l1 : Int) (s0 : Int) (s1 : Int) (F : zF) (B : zB) : zO := if 0 ≤ s0 ∧ s0 < K.2 1 then if 0 ≤ l0 ∧ l0 < K.2 11 then if 0 ≤ l6 ∧ l6 < K.2 1 then if 0 ≤ (F 11 l0 0) ∧ (F 11 l0 0) < K.2 3 then if 0 ≤ l1 ∧ l1 < 3000 then f_Walker_makeEvent_228 K K.1 0 l6 l4 l0 l1 (zup3 (zup3 (zup3 (zup3 (zup3 (zup3 F 1 s0 5 s1) 1 l6 6 (F 11 l0 8)) 1 l6 7 (B 3 (F 11 l0 0) 7 l1)) 1 l6 8 (F 11 l0 4)) 1 l6 9 l2) 1 l6 10 0) B else none else none else none else none else none
set_option maxHeartbeats 4000000 in
set_option maxRecDepth 100000 in
theorem b_Walker_makeEvent_178 {D : va_G} {ca : Nat → ClassId} {ad : Nat → Int → Nat → Nat} {L : List Nat} {aS vS : Nat → Nat} {A : Nat → Prop} {p : Program} {l : Launch} {e : Env} {s : State} {m : MethodId} {args : Array Value} {below : List Frame} {meth : Method} {c : Code} {K : zK} {r : Int} {F9 : zF} {B9 : zB} (X : zX D ca L aS vS A p s m args meth c prog_13_method_13_code 8 (Option.none : Option Jvm.ClassFile.FieldType) "StaveHouse$Walker") {l6 : Int} {l4 : Int} {l2 : Int} {l0 : Int} {l1 : Int} {s0 : Int} {s1 : Int} {F : zF} {B : zB} {H : Heap} {locs : List Loc} {ls : Array Slot} (hf : f_Walker_makeEvent_178 K l6 l4 l2 l0 l1 s0 s1 F B = some (r, F9, B9)) (hZ : zH D ca ad lnC K.2 L F B A H) (hS : va_S A s.heap H locs) (hl : lv_has ls 8 [(6, va_rf (zrf ad 1 l6)), (4, .long (lI l4)), (2, .int (iI l2)), (0, .ref (ad 11 l0 0)), (1, .int (iI l1))]) : W p l e ({ frames := 3, cells := 0, slots := 0, locals := 68 } : Room) s m args below meth c H locs 0 0 (MQ below (Q_Walker_makeEvent K D ca ad L r F9 B9 A) args s 0 0 A) (F0 m 178 ls [.int (iI s1), va_rf (zrf ad 1 s0)]) := by
  obtain ⟨hx, hb, hr, hml, hown, hts, hlk, hK, hA, hL, hX⟩ := id X
  replace hf : (if 0 ≤ s0 ∧ s0 < K.2 1 then if 0 ≤ l0 ∧ l0 < K.2 11 then if 0 ≤ l6 ∧ l6 < K.2 1 then if 0 ≤ (F 11 l0 0) ∧ (F 11 l0 0) < K.2 3 then if 0 ≤ l1 ∧ l1 < 3000 then f_Walker_makeEvent_228 K K.1 0 l6 l4 l0 l1 (zup3 (zup3 (zup3 (zup3 (zup3 (zup3 F 1 s0 5 s1) 1 l6 6 (F 11 l0 8)) 1 l6 7 (B 3 (F 11 l0 0) 7 l1)) 1 l6 8 (F 11 l0 4)) 1 l6 9 l2) 1 l6 10 0) B else none else none else none else none else none) = some (r, F9, B9) := hf
  obtain ⟨g33, hf⟩ := gif hf
  refine W.eq (g2 := F0 m 178 ls [.int (iI s1), .ref (ad 1 s0 0)]) (by rw [zrf_pos (ad := ad) (t := 1) g33.1]; try rfl) ?_
  refine zput (ci := 1) (C := RX1) (T := TX1) (k := 5) (v := s1) (w := .int (iI s1)) hx hb hts inW_1 tyX1 tyX1_ok nmX1 hown hK hZ hS g33.1 g33.2 rfl (by decide) k_2_35 rfl (fun G h => congrArg (fun q => Value.int (iI q)) h) rfl rfl (zno (by decide)) d_13_13_178 (fun H34 locs34 hZ34 hS34 => ?_)
  refine zaload hx hb d_13_13_181 (lv_at hl 0 rfl) ?_
  refine lv_aload_n hx hb d_13_13_183 rfl (lv_at hl 3 rfl) ?_
  obtain ⟨g35, hf⟩ := gif hf
  refine zget (ci := 11) (C := RX11) (T := TX11) (v := .int (iI (F 11 l0 8))) (k := 8) hx hb hts inW_11 hown hK hZ34 g35.1 g35.2 rfl (by decide) k_1_198 (congrArg (fun q : Int => Value.int (iI q)) (show (zup3 F 1 s0 5 s1) 11 l0 8 = F 11 l0 8 by simp [zup3])) d_13_13_184 ?_
  obtain ⟨g36, hf⟩ := gif hf
  refine W.eq (g2 := F0 m 187 ls [.int (iI (F 11 l0 8)), .ref (ad 1 l6 0)]) (by rw [zrf_pos (ad := ad) (t := 1) g36.1]; try rfl) ?_
  refine zput (ci := 1) (C := RX1) (T := TX1) (k := 6) (v := (F 11 l0 8)) (w := .int (iI (F 11 l0 8))) hx hb hts inW_1 tyX1 tyX1_ok nmX1 hown hK hZ34 hS34 g36.1 g36.2 rfl (by decide) k_2_37 rfl (fun G h => congrArg (fun q => Value.int (iI q)) h) rfl rfl (zno (by decide)) d_13_13_187 (fun H37 locs37 hZ37 hS37 => ?_)
  refine zaload hx hb d_13_13_190 (lv_at hl 0 rfl) ?_
  refine lv_aload_n hx hb d_13_13_192 rfl (lv_at hl 3 rfl) ?_
  refine zget (ci := 11) (C := RX11) (T := TX11) (v := va_rf (zrf ad 3 (F 11 l0 0))) (k := 0) hx hb hts inW_11 hown hK hZ37 g35.1 g35.2 rfl (by decide) k_1_190 (congrArg (fun q : Int => va_rf (zrf ad 3 q)) (show (zup3 (zup3 F 1 s0 5 s1) 1 l6 6 (F 11 l0 8)) 11 l0 0 = F 11 l0 0 by simp [zup3])) d_13_13_193 ?_
  obtain ⟨g38, hf⟩ := gif hf
  refine zunrf g38.1 ?_
  refine zget (ci := 3) (C := RX3) (T := TX3) (v := .ref (ad 3 (F 11 l0 0) (7 + 1))) (k := 7) hx hb hts inW_3 hown hK hZ37 g38.1 g38.2 rfl (by decide) k_1_121 rfl d_13_13_196 ?_
  refine lv_iload_n hx hb d_13_13_199 rfl (lv_at hl 4 rfl) ?_
  obtain ⟨g39, hf⟩ := gif hf
  refine zald (ci := 3) (k := 7) hx hb hK rfl hZ37 g38.1 g38.2 rfl (Nat.le_of_ble_eq_true rfl) g39.1 g39.2 d_13_13_200 ?_
  refine W.eq (g2 := F0 m 201 ls [.int (iI (B 3 (F 11 l0 0) 7 l1)), .ref (ad 1 l6 0)]) (by rw [zrf_pos (ad := ad) (t := 1) g36.1]; try rfl) ?_
  refine zput (ci := 1) (C := RX1) (T := TX1) (k := 7) (v := (B 3 (F 11 l0 0) 7 l1)) (w := .int (iI (B 3 (F 11 l0 0) 7 l1))) hx hb hts inW_1 tyX1 tyX1_ok nmX1 hown hK hZ37 hS37 g36.1 g36.2 rfl (by decide) k_2_41 rfl (fun G h => congrArg (fun q => Value.int (iI q)) h) rfl rfl (zno (by decide)) d_13_13_201 (fun H40 locs40 hZ40 hS40 => ?_)
  refine zaload hx hb d_13_13_204 (lv_at hl 0 rfl) ?_
  refine lv_aload_n hx hb d_13_13_206 rfl (lv_at hl 3 rfl) ?_
  refine zget (ci := 11) (C := RX11) (T := TX11) (v := .int (iI (F 11 l0 4))) (k := 4) hx hb hts inW_11 hown hK hZ40 g35.1 g35.2 rfl (by decide) k_1_194 (congrArg (fun q : Int => Value.int (iI q)) (show (zup3 (zup3 (zup3 F 1 s0 5 s1) 1 l6 6 (F 11 l0 8)) 1 l6 7 (B 3 (F 11 l0 0) 7 l1)) 11 l0 4 = F 11 l0 4 by simp [zup3])) d_13_13_207 ?_
  refine W.eq (g2 := F0 m 210 ls [.int (iI (F 11 l0 4)), .ref (ad 1 l6 0)]) (by rw [zrf_pos (ad := ad) (t := 1) g36.1]; try rfl) ?_
  refine zput (ci := 1) (C := RX1) (T := TX1) (k := 8) (v := (F 11 l0 4)) (w := .int (iI (F 11 l0 4))) hx hb hts inW_1 tyX1 tyX1_ok nmX1 hown hK hZ40 hS40 g36.1 g36.2 rfl (by decide) k_2_44 rfl (fun G h => congrArg (fun q => Value.int (iI q)) h) rfl rfl (zno (by decide)) d_13_13_210 (fun H41 locs41 hZ41 hS41 => ?_)
  refine zaload hx hb d_13_13_213 (lv_at hl 0 rfl) ?_
  refine lv_iload_n hx hb d_13_13_215 rfl (lv_at hl 2 rfl) ?_
  refine W.eq (g2 := F0 m 216 ls [.int (iI l2), .ref (ad 1 l6 0)]) (by rw [zrf_pos (ad := ad) (t := 1) g36.1]; try rfl) ?_
  refine zput (ci := 1) (C := RX1) (T := TX1) (k := 9) (v := l2) (w := .int (iI l2)) hx hb hts inW_1 tyX1 tyX1_ok nmX1 hown hK hZ41 hS41 g36.1 g36.2 rfl (by decide) k_2_47 rfl (fun G h => congrArg (fun q => Value.int (iI q)) h) rfl rfl (zno (by decide)) d_13_13_216 (fun H42 locs42 hZ42 hS42 => ?_)
  refine zaload hx hb d_13_13_219 (lv_at hl 0 rfl) ?_
  refine lv_iconst (v := iI 0) hx hb d_13_13_221 rfl ?_
  refine W.eq (g2 := F0 m 222 ls [.int (iI 0), .ref (ad 1 l6 0)]) (by rw [zrf_pos (ad := ad) (t := 1) g36.1]; try rfl) ?_
  refine zput (ci := 1) (C := RX1) (T := TX1) (k := 10) (v := 0) (w := .int (iI 0)) hx hb hts inW_1 tyX1 tyX1_ok nmX1 hown hK hZ42 hS42 g36.1 g36.2 rfl (by decide) k_2_53 rfl (fun G h => congrArg (fun q => Value.int (iI q)) h) rfl rfl (zno (by decide)) d_13_13_222 (fun H43 locs43 hZ43 hS43 => ?_)
  refine lv_iconst (v := iI 0) hx hb d_13_13_225 rfl ?_
  refine lv_istore (lv' := [(7, .int (iI 0)), (6, va_rf (zrf ad 1 l6)), (4, .long (lI l4)), (2, .int (iI l2)), (0, .ref (ad 11 l0 0)), (1, .int (iI l1))]) hx hb d_13_13_226 hl (by decide) (by cases zrf ad 1 l6 <;> rfl) (fun ls hl => ?_)
  exact b_Walker_makeEvent_228 X hf hZ43 hS43 (lv_sub hl [0, 1, 2, 4, 5] rfl)

noncomputable def f_Walker_makeEvent_105 (K : zK) (l2 : Int) (l0 : Int) (F : zF) (B : zB) : zO := if 0 ≤ l0 ∧ l0 < K.2 11 then zbind (f_Walker_refuse K l0 8 l2 F B) (fun r31 F31 B31 => some (0, F31, B31)) else none
set_option maxHeartbeats 4000000 in
set_option maxRecDepth 100000 in
theorem b_Walker_makeEvent_105 {D : va_G} {ca : Nat → ClassId} {ad : Nat → Int → Nat → Nat} {L : List Nat} {aS vS : Nat → Nat} {A : Nat → Prop} {p : Program} {l : Launch} {e : Env} {s : State} {m : MethodId} {args : Array Value} {below : List Frame} {meth : Method} {c : Code} {K : zK} {r : Int} {F9 : zF} {B9 : zB} (X : zX D ca L aS vS A p s m args meth c prog_13_method_13_code 8 (Option.none : Option Jvm.ClassFile.FieldType) "StaveHouse$Walker") {l2 : Int} {l0 : Int} {F : zF} {B : zB} {H : Heap} {locs : List Loc} {ls : Array Slot} (hf : f_Walker_makeEvent_105 K l2 l0 F B = some (r, F9, B9)) (hZ : zH D ca ad lnC K.2 L F B A H) (hS : va_S A s.heap H locs) (hl : lv_has ls 8 [(2, .int (iI l2)), (0, .ref (ad 11 l0 0))]) : W p l e ({ frames := 3, cells := 0, slots := 0, locals := 68 } : Room) s m args below meth c H locs 0 0 (MQ below (Q_Walker_makeEvent K D ca ad L r F9 B9 A) args s 0 0 A) (F0 m 105 ls []) := by
  obtain ⟨hx, hb, hr, hml, hown, hts, hlk, hK, hA, hL, hX⟩ := id X
  replace hf : (if 0 ≤ l0 ∧ l0 < K.2 11 then zbind (f_Walker_refuse K l0 8 l2 F B) (fun r31 F31 B31 => some (0, F31, B31)) else none) = some (r, F9, B9) := hf
  refine lv_aload_n hx hb d_13_13_105 rfl (lv_at hl 1 rfl) ?_
  refine lv_bipush (v := iI 8) hx hb d_13_13_106 (by decide) ?_
  refine lv_iload_n hx hb d_13_13_108 rfl (lv_at hl 0 rfl) ?_
  obtain ⟨g30, hf⟩ := gif hf
  obtain ⟨r31, F31, B31, hc31, hf⟩ := gbind hf
  refine va_callv (va_runV (As := [.int (iI 8), .int (iI l2)]) (rest := []) ⟨hx, hb, hml, hown, hts⟩ (c_Walker_refuse (l := l) hc31) (cwV 2 hts (gdV k_4_204 k_4_206 ks_36 k_1_6 k_4_207) rfl rfl rfl (by decide +kernel) ⟨Nat.le_of_ble_eq_true rfl, Nat.le_of_ble_eq_true rfl⟩) (zPV X hZ hS (ci := 11) g30.1 g30.2 (r := (RX11, TX11, 19)) rfl [.int (iI 8), .int (iI l2)]) rfl rfl hl.1 rfl (lv_room (Nat.le_of_ble_eq_true rfl)) d_13_13_109 ⟨Nat.le_of_ble_eq_true rfl, Nat.le_of_ble_eq_true rfl⟩) hS (fun q _ h => zAin X hS q h) (zAin X hS) (fun u31 t31 H31 locs31 ht31 hv31 hw31 hB31 hz31 hk31 hS31 => ?_)
  have hZ31 := zBack X ht31 hB31
  cases hf
  exact W.vret hx hb hr (fun t ht hW => ⟨⟨(), rfl, trivial, by rw [ht]; exact hZ31, va_K.moved hW.alike hK⟩, hS31.F ht⟩) hS31.2.2 d_13_13_112 hlk

noncomputable def f_Walker_makeEvent_49 (K : zK) (l2 : Int) (l0 : Int) (F : zF) (B : zB) : zO := if 0 ≤ l0 ∧ l0 < K.2 11 then zbind (f_Walker_refuse K l0 12 l2 F B) (fun r29 F29 B29 => some (0, F29, B29)) else none
set_option maxHeartbeats 4000000 in
set_option maxRecDepth 100000 in
theorem b_Walker_makeEvent_49 {D : va_G} {ca : Nat → ClassId} {ad : Nat → Int → Nat → Nat} {L : List Nat} {aS vS : Nat → Nat} {A : Nat → Prop} {p : Program} {l : Launch} {e : Env} {s : State} {m : MethodId} {args : Array Value} {below : List Frame} {meth : Method} {c : Code} {K : zK} {r : Int} {F9 : zF} {B9 : zB} (X : zX D ca L aS vS A p s m args meth c prog_13_method_13_code 8 (Option.none : Option Jvm.ClassFile.FieldType) "StaveHouse$Walker") {l2 : Int} {l0 : Int} {F : zF} {B : zB} {H : Heap} {locs : List Loc} {ls : Array Slot} (hf : f_Walker_makeEvent_49 K l2 l0 F B = some (r, F9, B9)) (hZ : zH D ca ad lnC K.2 L F B A H) (hS : va_S A s.heap H locs) (hl : lv_has ls 8 [(2, .int (iI l2)), (0, .ref (ad 11 l0 0))]) : W p l e ({ frames := 3, cells := 0, slots := 0, locals := 68 } : Room) s m args below meth c H locs 0 0 (MQ below (Q_Walker_makeEvent K D ca ad L r F9 B9 A) args s 0 0 A) (F0 m 49 ls []) := by
  obtain ⟨hx, hb, hr, hml, hown, hts, hlk, hK, hA, hL, hX⟩ := id X
  replace hf : (if 0 ≤ l0 ∧ l0 < K.2 11 then zbind (f_Walker_refuse K l0 12 l2 F B) (fun r29 F29 B29 => some (0, F29, B29)) else none) = some (r, F9, B9) := hf
  refine lv_aload_n hx hb d_13_13_49 rfl (lv_at hl 1 rfl) ?_
  refine lv_bipush (v := iI 12) hx hb d_13_13_50 (by decide) ?_
  refine lv_iload_n hx hb d_13_13_52 rfl (lv_at hl 0 rfl) ?_
  obtain ⟨g28, hf⟩ := gif hf
  obtain ⟨r29, F29, B29, hc29, hf⟩ := gbind hf
  refine va_callv (va_runV (As := [.int (iI 12), .int (iI l2)]) (rest := []) ⟨hx, hb, hml, hown, hts⟩ (c_Walker_refuse (l := l) hc29) (cwV 2 hts (gdV k_4_204 k_4_206 ks_36 k_1_6 k_4_207) rfl rfl rfl (by decide +kernel) ⟨Nat.le_of_ble_eq_true rfl, Nat.le_of_ble_eq_true rfl⟩) (zPV X hZ hS (ci := 11) g28.1 g28.2 (r := (RX11, TX11, 19)) rfl [.int (iI 12), .int (iI l2)]) rfl rfl hl.1 rfl (lv_room (Nat.le_of_ble_eq_true rfl)) d_13_13_53 ⟨Nat.le_of_ble_eq_true rfl, Nat.le_of_ble_eq_true rfl⟩) hS (fun q _ h => zAin X hS q h) (zAin X hS) (fun u29 t29 H29 locs29 ht29 hv29 hw29 hB29 hz29 hk29 hS29 => ?_)
  have hZ29 := zBack X ht29 hB29
  cases hf
  exact W.vret hx hb hr (fun t ht hW => ⟨⟨(), rfl, trivial, by rw [ht]; exact hZ29, va_K.moved hW.alike hK⟩, hS29.F ht⟩) hS29.2.2 d_13_13_56 hlk

noncomputable def f_Walker_makeEvent_35 (K : zK) (l2 : Int) (l0 : Int) (l1 : Int) (s0 : Int) (F : zF) (B : zB) : zO := if r32 s0 then (if s0 = (-1) then f_Walker_makeEvent_49 K l2 l0 F B else if 0 ≤ l0 ∧ l0 < K.2 11 then if r32 (F 11 l0 9) then (if 1 ≤ (F 11 l0 9) then if ¬ lI (F 11 l0 9) = 0 then if r32 (F 11 l0 10) then if 0 ≤ (F 11 l0 1) ∧ (F 11 l0 1) < K.2 4 then if r32 (F 4 (F 11 l0 1) 6) then (if 200 ≤ (F 4 (F 11 l0 1) 6) then f_Walker_makeEvent_105 K l2 l0 F B else if r64 ((F 11 l0 11) + ((zldv (6350400 * s0) (F 11 l0 9)) * (F 11 l0 10))) then if r64 (F 11 l0 12) then (if (zcmp ((F 11 l0 11) + ((zldv (6350400 * s0) (F 11 l0 9)) * (F 11 l0 10))) (F 11 l0 12)) ≤ 0 then if 0 ≤ (F 4 (F 11 l0 1) 6) ∧ (F 4 (F 11 l0 1) 6) < 200 then if 0 ≤ (B 4 (F 11 l0 1) 5 (F 4 (F 11 l0 1) 6)) ∧ (B 4 (F 11 l0 1) 5 (F 4 (F 11 l0 1) 6)) < K.2 1 then if r32 (F 11 l0 6) then (if (F 11 l0 6) = 0 then f_Walker_makeEvent_178 K (B 4 (F 11 l0 1) 5 (F 4 (F 11 l0 1) 6)) ((zldv (6350400 * s0) (F 11 l0 9)) * (F 11 l0 10)) l2 l0 l1 (B 4 (F 11 l0 1) 5 (F 4 (F 11 l0 1) 6)) 0 (zup3 (zup3 (zup3 (zup3 F 1 (B 4 (F 11 l0 1) 5 (F 4 (F 11 l0 1) 6)) 1 ((zldv (6350400 * s0) (F 11 l0 9)) * (F 11 l0 10))) 1 (B 4 (F 11 l0 1) 5 (F 4 (F 11 l0 1) 6)) 2 s0) 1 (B 4 (F 11 l0 1) 5 (F 4 (F 11 l0 1) 6)) 3 (F 11 l0 9)) 1 (B 4 (F 11 l0 1) 5 (F 4 (F 11 l0 1) 6)) 4 (F 11 l0 10)) B else f_Walker_makeEvent_178 K (B 4 (F 11 l0 1) 5 (F 4 (F 11 l0 1) 6)) ((zldv (6350400 * s0) (F 11 l0 9)) * (F 11 l0 10)) l2 l0 l1 (B 4 (F 11 l0 1) 5 (F 4 (F 11 l0 1) 6)) (F 11 l0 7) (zup3 (zup3 (zup3 (zup3 F 1 (B 4 (F 11 l0 1) 5 (F 4 (F 11 l0 1) 6)) 1 ((zldv (6350400 * s0) (F 11 l0 9)) * (F 11 l0 10))) 1 (B 4 (F 11 l0 1) 5 (F 4 (F 11 l0 1) 6)) 2 s0) 1 (B 4 (F 11 l0 1) 5 (F 4 (F 11 l0 1) 6)) 3 (F 11 l0 9)) 1 (B 4 (F 11 l0 1) 5 (F 4 (F 11 l0 1) 6)) 4 (F 11 l0 10)) B) else none else none else none else f_Walker_makeEvent_105 K l2 l0 F B) else none else none) else none else none else none else none else f_Walker_makeEvent_49 K l2 l0 F B) else none else none) else none
set_option maxHeartbeats 4000000 in
set_option maxRecDepth 100000 in
theorem b_Walker_makeEvent_35 {D : va_G} {ca : Nat → ClassId} {ad : Nat → Int → Nat → Nat} {L : List Nat} {aS vS : Nat → Nat} {A : Nat → Prop} {p : Program} {l : Launch} {e : Env} {s : State} {m : MethodId} {args : Array Value} {below : List Frame} {meth : Method} {c : Code} {K : zK} {r : Int} {F9 : zF} {B9 : zB} (X : zX D ca L aS vS A p s m args meth c prog_13_method_13_code 8 (Option.none : Option Jvm.ClassFile.FieldType) "StaveHouse$Walker") {l2 : Int} {l0 : Int} {l1 : Int} {s0 : Int} {F : zF} {B : zB} {H : Heap} {locs : List Loc} {ls : Array Slot} (hf : f_Walker_makeEvent_35 K l2 l0 l1 s0 F B = some (r, F9, B9)) (hZ : zH D ca ad lnC K.2 L F B A H) (hS : va_S A s.heap H locs) (hl : lv_has ls 8 [(2, .int (iI l2)), (0, .ref (ad 11 l0 0)), (1, .int (iI l1))]) : W p l e ({ frames := 3, cells := 0, slots := 0, locals := 68 } : Room) s m args below meth c H locs 0 0 (MQ below (Q_Walker_makeEvent K D ca ad L r F9 B9 A) args s 0 0 A) (F0 m 35 ls [.int (iI s0)]) := by
  obtain ⟨hx, hb, hr, hml, hown, hts, hlk, hK, hA, hL, hX⟩ := id X
  replace hf : (if r32 s0 then (if s0 = (-1) then f_Walker_makeEvent_49 K l2 l0 F B else if 0 ≤ l0 ∧ l0 < K.2 11 then if r32 (F 11 l0 9) then (if 1 ≤ (F 11 l0 9) then if ¬ lI (F 11 l0 9) = 0 then if r32 (F 11 l0 10) then if 0 ≤ (F 11 l0 1) ∧ (F 11 l0 1) < K.2 4 then if r32 (F 4 (F 11 l0 1) 6) then (if 200 ≤ (F 4 (F 11 l0 1) 6) then f_Walker_makeEvent_105 K l2 l0 F B else if r64 ((F 11 l0 11) + ((zldv (6350400 * s0) (F 11 l0 9)) * (F 11 l0 10))) then if r64 (F 11 l0 12) then (if (zcmp ((F 11 l0 11) + ((zldv (6350400 * s0) (F 11 l0 9)) * (F 11 l0 10))) (F 11 l0 12)) ≤ 0 then if 0 ≤ (F 4 (F 11 l0 1) 6) ∧ (F 4 (F 11 l0 1) 6) < 200 then if 0 ≤ (B 4 (F 11 l0 1) 5 (F 4 (F 11 l0 1) 6)) ∧ (B 4 (F 11 l0 1) 5 (F 4 (F 11 l0 1) 6)) < K.2 1 then if r32 (F 11 l0 6) then (if (F 11 l0 6) = 0 then f_Walker_makeEvent_178 K (B 4 (F 11 l0 1) 5 (F 4 (F 11 l0 1) 6)) ((zldv (6350400 * s0) (F 11 l0 9)) * (F 11 l0 10)) l2 l0 l1 (B 4 (F 11 l0 1) 5 (F 4 (F 11 l0 1) 6)) 0 (zup3 (zup3 (zup3 (zup3 F 1 (B 4 (F 11 l0 1) 5 (F 4 (F 11 l0 1) 6)) 1 ((zldv (6350400 * s0) (F 11 l0 9)) * (F 11 l0 10))) 1 (B 4 (F 11 l0 1) 5 (F 4 (F 11 l0 1) 6)) 2 s0) 1 (B 4 (F 11 l0 1) 5 (F 4 (F 11 l0 1) 6)) 3 (F 11 l0 9)) 1 (B 4 (F 11 l0 1) 5 (F 4 (F 11 l0 1) 6)) 4 (F 11 l0 10)) B else f_Walker_makeEvent_178 K (B 4 (F 11 l0 1) 5 (F 4 (F 11 l0 1) 6)) ((zldv (6350400 * s0) (F 11 l0 9)) * (F 11 l0 10)) l2 l0 l1 (B 4 (F 11 l0 1) 5 (F 4 (F 11 l0 1) 6)) (F 11 l0 7) (zup3 (zup3 (zup3 (zup3 F 1 (B 4 (F 11 l0 1) 5 (F 4 (F 11 l0 1) 6)) 1 ((zldv (6350400 * s0) (F 11 l0 9)) * (F 11 l0 10))) 1 (B 4 (F 11 l0 1) 5 (F 4 (F 11 l0 1) 6)) 2 s0) 1 (B 4 (F 11 l0 1) 5 (F 4 (F 11 l0 1) 6)) 3 (F 11 l0 9)) 1 (B 4 (F 11 l0 1) 5 (F 4 (F 11 l0 1) 6)) 4 (F 11 l0 10)) B) else none else none else none else f_Walker_makeEvent_105 K l2 l0 F B) else none else none) else none else none else none else none else f_Walker_makeEvent_49 K l2 l0 F B) else none else none) else none) = some (r, F9, B9) := hf
  refine lv_istore_n (lv' := [(3, .int (iI s0)), (2, .int (iI l2)), (0, .ref (ad 11 l0 0)), (1, .int (iI l1))]) hx hb d_13_13_35 rfl hl (by decide) rfl (fun ls hl => ?_)
  refine lv_iload_n hx hb d_13_13_36 rfl (lv_at hl 0 rfl) ?_
  refine lv_iconst (v := iI (-1)) hx hb d_13_13_37 rfl ?_
  obtain ⟨g7, hf⟩ := gif hf
  refine zeq (tgt := 49) hx hb g7 (by decide) d_13_13_38 (by decide) (fun h8 => ?_) (fun h8 => ?_)
  · replace hf := gpos hf h8
    exact b_Walker_makeEvent_49 X hf hZ hS (lv_sub hl [1, 2] rfl)
  · replace hf := gneg hf h8
    refine lv_aload_n hx hb d_13_13_41 rfl (lv_at hl 2 rfl) ?_
    obtain ⟨g9, hf⟩ := gif hf
    refine zget (ci := 11) (C := RX11) (T := TX11) (v := .int (iI (F 11 l0 9))) (k := 9) hx hb hts inW_11 hown hK hZ g9.1 g9.2 rfl (by decide) k_1_199 rfl d_13_13_42 ?_
    refine lv_iconst (v := iI 1) hx hb d_13_13_45 rfl ?_
    obtain ⟨g10, hf⟩ := gif hf
    refine zge (tgt := 57) hx hb g10 (by decide) d_13_13_46 (by decide) (fun h11 => ?_) (fun h11 => ?_)
    · replace hf := gpos hf h11
      refine lv_ldc2 hx hb hown (hts _ k_4_222) d_13_13_57 ?_
      refine W.eq (g2 := F0 m 60 ls [.long (lI 6350400)]) rfl ?_
      refine lv_iload_n hx hb d_13_13_60 rfl (lv_at hl 0 rfl) ?_
      refine zi2l hx hb g7 d_13_13_61 ?_
      refine zlmul hx hb d_13_13_62 ?_
      refine lv_aload_n hx hb d_13_13_63 rfl (lv_at hl 2 rfl) ?_
      refine zget (ci := 11) (C := RX11) (T := TX11) (v := .int (iI (F 11 l0 9))) (k := 9) hx hb hts inW_11 hown hK hZ g9.1 g9.2 rfl (by decide) k_1_199 rfl d_13_13_64 ?_
      refine zi2l hx hb g10 d_13_13_67 ?_
      obtain ⟨g12, hf⟩ := gif hf
      refine zldv_r hx hb g12 d_13_13_68 ?_
      refine lv_aload_n hx hb d_13_13_69 rfl (lv_at hl 2 rfl) ?_
      refine zget (ci := 11) (C := RX11) (T := TX11) (v := .int (iI (F 11 l0 10))) (k := 10) hx hb hts inW_11 hown hK hZ g9.1 g9.2 rfl (by decide) k_1_200 rfl d_13_13_70 ?_
      obtain ⟨g13, hf⟩ := gif hf
      refine zi2l hx hb g13 d_13_13_73 ?_
      refine zlmul hx hb d_13_13_74 ?_
      refine lv_lstore (lv' := [(4, .long (lI ((zldv (6350400 * s0) (F 11 l0 9)) * (F 11 l0 10)))), (3, .int (iI s0)), (2, .int (iI l2)), (0, .ref (ad 11 l0 0)), (1, .int (iI l1))]) hx hb d_13_13_75 hl (by decide) rfl (fun ls hl => ?_)
      refine lv_aload_n hx hb d_13_13_77 rfl (lv_at hl 3 rfl) ?_
      refine zget (ci := 11) (C := RX11) (T := TX11) (v := va_rf (zrf ad 4 (F 11 l0 1))) (k := 1) hx hb hts inW_11 hown hK hZ g9.1 g9.2 rfl (by decide) k_1_191 rfl d_13_13_78 ?_
      obtain ⟨g14, hf⟩ := gif hf
      refine zunrf g14.1 ?_
      refine zget (ci := 4) (C := RX4) (T := TX4) (v := .int (iI (F 4 (F 11 l0 1) 6))) (k := 6) hx hb hts inW_4 hown hK hZ g14.1 g14.2 rfl (by decide) k_4_139 rfl d_13_13_81 ?_
      refine lv_sipush (v := iI 200) hx hb d_13_13_84 (by decide) ?_
      obtain ⟨g15, hf⟩ := gif hf
      refine zge (tgt := 105) hx hb g15 (by decide) d_13_13_87 (by decide) (fun h16 => ?_) (fun h16 => ?_)
      · replace hf := gpos hf h16
        exact b_Walker_makeEvent_105 X hf hZ hS (lv_sub hl [2, 3] rfl)
      · replace hf := gneg hf h16
        refine lv_aload_n hx hb d_13_13_90 rfl (lv_at hl 3 rfl) ?_
        refine zget (ci := 11) (C := RX11) (T := TX11) (v := .long (lI (F 11 l0 11))) (k := 11) hx hb hts inW_11 hown hK hZ g9.1 g9.2 rfl (by decide) k_1_201 rfl d_13_13_91 ?_
        refine lv_lload hx hb d_13_13_94 (lv_at hl 0 rfl) ?_
        refine zladd hx hb d_13_13_96 ?_
        refine lv_aload_n hx hb d_13_13_97 rfl (lv_at hl 3 rfl) ?_
        refine zget (ci := 11) (C := RX11) (T := TX11) (v := .long (lI (F 11 l0 12))) (k := 12) hx hb hts inW_11 hown hK hZ g9.1 g9.2 rfl (by decide) k_1_202 rfl d_13_13_98 ?_
        obtain ⟨g17, hf⟩ := gif hf
        obtain ⟨g18, hf⟩ := gif hf
        refine zcmp_r hx hb g17 g18 d_13_13_101 ?_
        refine z0le (tgt := 113) hx hb zcmp_32 d_13_13_102 (by decide) (fun h19 => ?_) (fun h19 => ?_)
        · replace hf := gpos hf h19
          refine lv_aload_n hx hb d_13_13_113 rfl (lv_at hl 3 rfl) ?_
          refine zget (ci := 11) (C := RX11) (T := TX11) (v := va_rf (zrf ad 4 (F 11 l0 1))) (k := 1) hx hb hts inW_11 hown hK hZ g9.1 g9.2 rfl (by decide) k_1_191 rfl d_13_13_114 ?_
          refine zunrf g14.1 ?_
          refine zget (ci := 4) (C := RX4) (T := TX4) (v := .ref (ad 4 (F 11 l0 1) (5 + 1))) (k := 5) hx hb hts inW_4 hown hK hZ g14.1 g14.2 rfl (by decide) k_4_134 rfl d_13_13_117 ?_
          refine lv_aload_n hx hb d_13_13_120 rfl (lv_at hl 3 rfl) ?_
          refine zget (ci := 11) (C := RX11) (T := TX11) (v := va_rf (zrf ad 4 (F 11 l0 1))) (k := 1) hx hb hts inW_11 hown hK hZ g9.1 g9.2 rfl (by decide) k_1_191 rfl d_13_13_121 ?_
          refine zunrf g14.1 ?_
          refine zget (ci := 4) (C := RX4) (T := TX4) (v := .int (iI (F 4 (F 11 l0 1) 6))) (k := 6) hx hb hts inW_4 hown hK hZ g14.1 g14.2 rfl (by decide) k_4_139 rfl d_13_13_124 ?_
          obtain ⟨g20, hf⟩ := gif hf
          refine zaldR (t := 1) (x := 7) (ci := 4) (k := 5) hx hb hK rfl rfl hZ g14.1 g14.2 rfl (Nat.le_of_ble_eq_true rfl) g20.1 g20.2 d_13_13_127 ?_
          refine zastore (lv' := [(4, .long (lI ((zldv (6350400 * s0) (F 11 l0 9)) * (F 11 l0 10)))), (3, .int (iI s0)), (2, .int (iI l2)), (0, .ref (ad 11 l0 0)), (1, .int (iI l1))]) hx hb d_13_13_128 hl (by decide) (fun _ _ => rfl) (fun ls hl => ?_)
          refine zaload hx hb d_13_13_130 (lv_at hl 0 rfl) ?_
          refine lv_lload hx hb d_13_13_132 (lv_at hl 1 rfl) ?_
          obtain ⟨g21, hf⟩ := gif hf
          refine W.eq (g2 := F0 m 134 ls [.long (lI ((zldv (6350400 * s0) (F 11 l0 9)) * (F 11 l0 10))), .ref (ad 1 (B 4 (F 11 l0 1) 5 (F 4 (F 11 l0 1) 6)) 0)]) (by rw [zrf_pos (ad := ad) (t := 1) g21.1]; try rfl) ?_
          refine zput (ci := 1) (C := RX1) (T := TX1) (k := 1) (v := ((zldv (6350400 * s0) (F 11 l0 9)) * (F 11 l0 10))) (w := .long (lI ((zldv (6350400 * s0) (F 11 l0 9)) * (F 11 l0 10)))) hx hb hts inW_1 tyX1 tyX1_ok nmX1 hown hK hZ hS g21.1 g21.2 rfl (by decide) k_2_27 rfl (fun G h => congrArg (fun q => Value.long (lI q)) h) rfl rfl (zno (by decide)) d_13_13_134 (fun H22 locs22 hZ22 hS22 => ?_)
          refine zaload hx hb d_13_13_137 (lv_at hl 0 rfl) ?_
          refine lv_iload_n hx hb d_13_13_139 rfl (lv_at hl 2 rfl) ?_
          refine W.eq (g2 := F0 m 140 ls [.int (iI s0), .ref (ad 1 (B 4 (F 11 l0 1) 5 (F 4 (F 11 l0 1) 6)) 0)]) (by rw [zrf_pos (ad := ad) (t := 1) g21.1]; try rfl) ?_
          refine zput (ci := 1) (C := RX1) (T := TX1) (k := 2) (v := s0) (w := .int (iI s0)) hx hb hts inW_1 tyX1 tyX1_ok nmX1 hown hK hZ22 hS22 g21.1 g21.2 rfl (by decide) k_2_29 rfl (fun G h => congrArg (fun q => Value.int (iI q)) h) rfl rfl (zno (by decide)) d_13_13_140 (fun H23 locs23 hZ23 hS23 => ?_)
          refine zaload hx hb d_13_13_143 (lv_at hl 0 rfl) ?_
          refine lv_aload_n hx hb d_13_13_145 rfl (lv_at hl 4 rfl) ?_
          refine zget (ci := 11) (C := RX11) (T := TX11) (v := .int (iI (F 11 l0 9))) (k := 9) hx hb hts inW_11 hown hK hZ23 g9.1 g9.2 rfl (by decide) k_1_199 (congrArg (fun q : Int => Value.int (iI q)) (show (zup3 (zup3 F 1 (B 4 (F 11 l0 1) 5 (F 4 (F 11 l0 1) 6)) 1 ((zldv (6350400 * s0) (F 11 l0 9)) * (F 11 l0 10))) 1 (B 4 (F 11 l0 1) 5 (F 4 (F 11 l0 1) 6)) 2 s0) 11 l0 9 = F 11 l0 9 by simp [zup3])) d_13_13_146 ?_
          refine W.eq (g2 := F0 m 149 ls [.int (iI (F 11 l0 9)), .ref (ad 1 (B 4 (F 11 l0 1) 5 (F 4 (F 11 l0 1) 6)) 0)]) (by rw [zrf_pos (ad := ad) (t := 1) g21.1]; try rfl) ?_
          refine zput (ci := 1) (C := RX1) (T := TX1) (k := 3) (v := (F 11 l0 9)) (w := .int (iI (F 11 l0 9))) hx hb hts inW_1 tyX1 tyX1_ok nmX1 hown hK hZ23 hS23 g21.1 g21.2 rfl (by decide) k_2_31 rfl (fun G h => congrArg (fun q => Value.int (iI q)) h) rfl rfl (zno (by decide)) d_13_13_149 (fun H24 locs24 hZ24 hS24 => ?_)
          refine zaload hx hb d_13_13_152 (lv_at hl 0 rfl) ?_
          refine lv_aload_n hx hb d_13_13_154 rfl (lv_at hl 4 rfl) ?_
          refine zget (ci := 11) (C := RX11) (T := TX11) (v := .int (iI (F 11 l0 10))) (k := 10) hx hb hts inW_11 hown hK hZ24 g9.1 g9.2 rfl (by decide) k_1_200 (congrArg (fun q : Int => Value.int (iI q)) (show (zup3 (zup3 (zup3 F 1 (B 4 (F 11 l0 1) 5 (F 4 (F 11 l0 1) 6)) 1 ((zldv (6350400 * s0) (F 11 l0 9)) * (F 11 l0 10))) 1 (B 4 (F 11 l0 1) 5 (F 4 (F 11 l0 1) 6)) 2 s0) 1 (B 4 (F 11 l0 1) 5 (F 4 (F 11 l0 1) 6)) 3 (F 11 l0 9)) 11 l0 10 = F 11 l0 10 by simp [zup3])) d_13_13_155 ?_
          refine W.eq (g2 := F0 m 158 ls [.int (iI (F 11 l0 10)), .ref (ad 1 (B 4 (F 11 l0 1) 5 (F 4 (F 11 l0 1) 6)) 0)]) (by rw [zrf_pos (ad := ad) (t := 1) g21.1]; try rfl) ?_
          refine zput (ci := 1) (C := RX1) (T := TX1) (k := 4) (v := (F 11 l0 10)) (w := .int (iI (F 11 l0 10))) hx hb hts inW_1 tyX1 tyX1_ok nmX1 hown hK hZ24 hS24 g21.1 g21.2 rfl (by decide) k_2_33 rfl (fun G h => congrArg (fun q => Value.int (iI q)) h) rfl rfl (zno (by decide)) d_13_13_158 (fun H25 locs25 hZ25 hS25 => ?_)
          refine zaload hx hb d_13_13_161 (lv_at hl 0 rfl) ?_
          refine lv_aload_n hx hb d_13_13_163 rfl (lv_at hl 4 rfl) ?_
          refine zget (ci := 11) (C := RX11) (T := TX11) (v := .int (iI (F 11 l0 6))) (k := 6) hx hb hts inW_11 hown hK hZ25 g9.1 g9.2 rfl (by decide) k_1_196 (congrArg (fun q : Int => Value.int (iI q)) (show (zup3 (zup3 (zup3 (zup3 F 1 (B 4 (F 11 l0 1) 5 (F 4 (F 11 l0 1) 6)) 1 ((zldv (6350400 * s0) (F 11 l0 9)) * (F 11 l0 10))) 1 (B 4 (F 11 l0 1) 5 (F 4 (F 11 l0 1) 6)) 2 s0) 1 (B 4 (F 11 l0 1) 5 (F 4 (F 11 l0 1) 6)) 3 (F 11 l0 9)) 1 (B 4 (F 11 l0 1) 5 (F 4 (F 11 l0 1) 6)) 4 (F 11 l0 10)) 11 l0 6 = F 11 l0 6 by simp [zup3])) d_13_13_164 ?_
          obtain ⟨g26, hf⟩ := gif hf
          refine z0ne (tgt := 174) hx hb g26 d_13_13_167 (by decide) (fun h27 => ?_) (fun h27 => ?_)
          · replace hf := gneg hf h27
            refine lv_aload_n hx hb d_13_13_174 rfl (lv_at hl 4 rfl) ?_
            refine zget (ci := 11) (C := RX11) (T := TX11) (v := .int (iI (F 11 l0 7))) (k := 7) hx hb hts inW_11 hown hK hZ25 g9.1 g9.2 rfl (by decide) k_1_197 (congrArg (fun q : Int => Value.int (iI q)) (show (zup3 (zup3 (zup3 (zup3 F 1 (B 4 (F 11 l0 1) 5 (F 4 (F 11 l0 1) 6)) 1 ((zldv (6350400 * s0) (F 11 l0 9)) * (F 11 l0 10))) 1 (B 4 (F 11 l0 1) 5 (F 4 (F 11 l0 1) 6)) 2 s0) 1 (B 4 (F 11 l0 1) 5 (F 4 (F 11 l0 1) 6)) 3 (F 11 l0 9)) 1 (B 4 (F 11 l0 1) 5 (F 4 (F 11 l0 1) 6)) 4 (F 11 l0 10)) 11 l0 7 = F 11 l0 7 by simp [zup3])) d_13_13_175 ?_
            exact b_Walker_makeEvent_178 X hf hZ25 hS25 (lv_sub hl [0, 1, 3, 4, 5] rfl)
          · replace hf := gpos hf h27
            refine lv_iconst (v := iI 0) hx hb d_13_13_170 rfl ?_
            refine lv_goto (tgt := 178) hx hb d_13_13_171 (by decide) ?_
            exact b_Walker_makeEvent_178 X hf hZ25 hS25 (lv_sub hl [0, 1, 3, 4, 5] rfl)
        · replace hf := gneg hf h19
          exact b_Walker_makeEvent_105 X hf hZ hS (lv_sub hl [2, 3] rfl)
    · replace hf := gneg hf h11
      exact b_Walker_makeEvent_49 X hf hZ hS (lv_sub hl [1, 2] rfl)

noncomputable def f_Walker_makeEvent (K : zK) (l0 : Int) (l1 : Int) (F : zF) (B : zB) : zO := if 0 ≤ l0 ∧ l0 < K.2 11 then if 0 ≤ (F 11 l0 0) ∧ (F 11 l0 0) < K.2 3 then if 0 ≤ l1 ∧ l1 < 3000 then if r32 (F 11 l0 6) then (if (F 11 l0 6) ≤ 2 then zbind (f_Walker_slowed K l0 (B 3 (F 11 l0 0) 2 l1) F B) (fun r6 F6 B6 => f_Walker_makeEvent_35 K (B 3 (F 11 l0 0) 1 l1) l0 l1 r6 F6 B6) else f_Walker_makeEvent_35 K (B 3 (F 11 l0 0) 1 l1) l0 l1 (-1) F B) else none else none else none else none
set_option maxHeartbeats 4000000 in
set_option maxRecDepth 100000 in
theorem c_Walker_makeEvent {l : Launch} {D : va_G} {ca : Nat → ClassId} {ad : Nat → Int → Nat → Nat} {L : List Nat} {aS vS : Nat → Nat} {sz : Nat} {K : zK}  {l0 : Int} {l1 : Int} {F F9 : zF} {B B9 : zB} {r : Int} (hf : f_Walker_makeEvent K l0 l1 F B = some (r, F9, B9)) : Met l ({ cls := "StaveHouse$Walker", name := "makeEvent", desc := "(I)V" } : Jvm.MethodName) (Cond.code ({ cls := "StaveHouse$Walker", name := "makeEvent", desc := "(I)V" } : Jvm.MethodName) prog_13_method_13_code 8 (Option.none : Option Jvm.ClassFile.FieldType) :: wAll) ({ frames := 3, cells := 0, slots := 0, locals := 68 } : Room) (va_Pc [.ref (ad 11 l0 0), .int (iI l1)] (zPre D ca ad lnC K.2 L aS vS F B sz)) (Q_Walker_makeEvent K D ca ad L r F9 B9 (zA L sz)) 0 0 (zA L sz) := by
  refine zMet (Qc := Q_Walker_makeEvent K D ca ad L r F9 B9) (lv := [(0, .ref (ad 11 l0 0)), (1, .int (iI l1))]) (by decide) (Nat.le_of_ble_eq_true rfl) rfl (fun A p e s m below meth c ls X hZ hS hl => ?_)
  obtain ⟨hx, hb, hr, hml, hown, hts, hlk, hK, hA, hL, hX⟩ := id X
  replace hf : (if 0 ≤ l0 ∧ l0 < K.2 11 then if 0 ≤ (F 11 l0 0) ∧ (F 11 l0 0) < K.2 3 then if 0 ≤ l1 ∧ l1 < 3000 then if r32 (F 11 l0 6) then (if (F 11 l0 6) ≤ 2 then zbind (f_Walker_slowed K l0 (B 3 (F 11 l0 0) 2 l1) F B) (fun r6 F6 B6 => f_Walker_makeEvent_35 K (B 3 (F 11 l0 0) 1 l1) l0 l1 r6 F6 B6) else f_Walker_makeEvent_35 K (B 3 (F 11 l0 0) 1 l1) l0 l1 (-1) F B) else none else none else none else none) = some (r, F9, B9) := hf
  refine lv_aload_n hx hb d_13_13_0 rfl (lv_at hl 0 rfl) ?_
  obtain ⟨g1, hf⟩ := gif hf
  refine zget (ci := 11) (C := RX11) (T := TX11) (v := va_rf (zrf ad 3 (F 11 l0 0))) (k := 0) hx hb hts inW_11 hown hK hZ g1.1 g1.2 rfl (by decide) k_1_190 rfl d_13_13_1 ?_
  obtain ⟨g2, hf⟩ := gif hf
  refine zunrf g2.1 ?_
  refine zget (ci := 3) (C := RX3) (T := TX3) (v := .ref (ad 3 (F 11 l0 0) (1 + 1))) (k := 1) hx hb hts inW_3 hown hK hZ g2.1 g2.2 rfl (by decide) k_1_109 rfl d_13_13_4 ?_
  refine lv_iload_n hx hb d_13_13_7 rfl (lv_at hl 1 rfl) ?_
  obtain ⟨g3, hf⟩ := gif hf
  refine zald (ci := 3) (k := 1) hx hb hK rfl hZ g2.1 g2.2 rfl (Nat.le_of_ble_eq_true rfl) g3.1 g3.2 d_13_13_8 ?_
  refine lv_istore_n (lv' := [(2, .int (iI (B 3 (F 11 l0 0) 1 l1))), (0, .ref (ad 11 l0 0)), (1, .int (iI l1))]) hx hb d_13_13_9 rfl hl (by decide) rfl (fun ls hl => ?_)
  refine lv_aload_n hx hb d_13_13_10 rfl (lv_at hl 1 rfl) ?_
  refine zget (ci := 11) (C := RX11) (T := TX11) (v := .int (iI (F 11 l0 6))) (k := 6) hx hb hts inW_11 hown hK hZ g1.1 g1.2 rfl (by decide) k_1_196 rfl d_13_13_11 ?_
  refine lv_iconst (v := iI 2) hx hb d_13_13_14 rfl ?_
  obtain ⟨g4, hf⟩ := gif hf
  refine zle (tgt := 22) hx hb g4 (by decide) d_13_13_15 (by decide) (fun h5 => ?_) (fun h5 => ?_)
  · replace hf := gpos hf h5
    refine lv_aload_n hx hb d_13_13_22 rfl (lv_at hl 1 rfl) ?_
    refine lv_aload_n hx hb d_13_13_23 rfl (lv_at hl 1 rfl) ?_
    refine zget (ci := 11) (C := RX11) (T := TX11) (v := va_rf (zrf ad 3 (F 11 l0 0))) (k := 0) hx hb hts inW_11 hown hK hZ g1.1 g1.2 rfl (by decide) k_1_190 rfl d_13_13_24 ?_
    refine zunrf g2.1 ?_
    refine zget (ci := 3) (C := RX3) (T := TX3) (v := .ref (ad 3 (F 11 l0 0) (2 + 1))) (k := 2) hx hb hts inW_3 hown hK hZ g2.1 g2.2 rfl (by decide) k_1_111 rfl d_13_13_27 ?_
    refine lv_iload_n hx hb d_13_13_30 rfl (lv_at hl 2 rfl) ?_
    refine zald (ci := 3) (k := 2) hx hb hK rfl hZ g2.1 g2.2 rfl (Nat.le_of_ble_eq_true rfl) g3.1 g3.2 d_13_13_31 ?_
    obtain ⟨r6, F6, B6, hc6, hf⟩ := gbind hf
    refine va_calli (va_runV (As := [.int (iI (B 3 (F 11 l0 0) 2 l1))]) (rest := []) ⟨hx, hb, hml, hown, hts⟩ (c_Walker_slowed (l := l) hc6) (cwV 1 hts (gdV k_4_216 k_4_218 ks_39 k_1_6 k_4_219) rfl rfl rfl (by decide +kernel) ⟨Nat.le_of_ble_eq_true rfl, Nat.le_of_ble_eq_true rfl⟩) (zPV X hZ hS (ci := 11) g1.1 g1.2 (r := (RX11, TX11, 19)) rfl [.int (iI (B 3 (F 11 l0 0) 2 l1))]) rfl rfl hl.1 rfl (lv_room (Nat.le_of_ble_eq_true rfl)) d_13_13_32 ⟨Nat.le_of_ble_eq_true rfl, Nat.le_of_ble_eq_true rfl⟩) hS (fun q _ h => zAin X hS q h) (zAin X hS) (fun p6 u6 t6 H6 locs6 ht6 hv6 hw6 hB6 hz6 hk6 hS6 => ?_)
    have hZ6 := zBack X ht6 hB6
    subst hw6
    exact b_Walker_makeEvent_35 X hf hZ6 hS6 (lv_sub hl [0, 1, 2] rfl)
  · replace hf := gneg hf h5
    refine lv_iconst (v := iI (-1)) hx hb d_13_13_18 rfl ?_
    refine lv_goto (tgt := 35) hx hb d_13_13_19 (by decide) ?_
    exact b_Walker_makeEvent_35 X hf hZ hS (lv_sub hl [0, 1, 2] rfl)

noncomputable abbrev Q_Part_tiedPitches (K : zK) (D : va_G) (ca : Nat → ClassId) (ad : Nat → Int → Nat → Nat) (L : List Nat) (r : Int) (F : zF) (B : zB) (A : Nat → Prop) : Array Value → State → Outcome → State → Prop := va_Qi (S := Unit) (fun p _ => p = iI r) (fun _ => zPo D ca ad lnC K.2 L F B A) A
noncomputable def f_Part_tiedPitches_27 (K : zK)  (F : zF) (B : zB) : zO := some (0, F, B)
set_option maxHeartbeats 4000000 in
set_option maxRecDepth 100000 in
theorem b_Part_tiedPitches_27 {D : va_G} {ca : Nat → ClassId} {ad : Nat → Int → Nat → Nat} {L : List Nat} {aS vS : Nat → Nat} {A : Nat → Prop} {p : Program} {l : Launch} {e : Env} {s : State} {m : MethodId} {args : Array Value} {below : List Frame} {meth : Method} {c : Code} {K : zK} {r : Int} {F9 : zF} {B9 : zB} (X : zX D ca L aS vS A p s m args meth c prog_6_method_7_code 2 (Option.some Jvm.ClassFile.FieldType.int) "StaveHouse$Part")  {F : zF} {B : zB} {H : Heap} {locs : List Loc} {ls : Array Slot} (hf : f_Part_tiedPitches_27 K  F B = some (r, F9, B9)) (hZ : zH D ca ad lnC K.2 L F B A H) (hS : va_S A s.heap H locs) (hl : lv_has ls 2 []) : W p l e ({ frames := 2, cells := 0, slots := 0, locals := 46 } : Room) s m args below meth c H locs 0 0 (MQ below (Q_Part_tiedPitches K D ca ad L r F9 B9 A) args s 0 0 A) (F0 m 27 ls []) := by
  obtain ⟨hx, hb, hr, hml, hown, hts, hlk, hK, hA, hL, hX⟩ := id X
  replace hf : (some (0, F, B)) = some (r, F9, B9) := hf
  refine lv_iconst (v := iI 0) hx hb d_6_7_27 rfl ?_
  cases hf
  exact W.iret hx hb hr (fun t ht hW => ⟨⟨_, (), rfl, rfl, by rw [ht]; exact hZ, va_K.moved hW.alike hK⟩, hS.F ht⟩) hS.2.2 d_6_7_28 hlk

noncomputable def f_Part_tiedPitches (K : zK) (l0 : Int) (l1 : Int) (F : zF) (B : zB) : zO := if r32 l1 then (if l1 < 0 then f_Part_tiedPitches_27 K F B else if 0 ≤ l0 ∧ l0 < K.2 4 then if r32 (l1 + 1) then if r32 (F 4 l0 6) then (if (F 4 l0 6) ≤ (l1 + 1) then f_Part_tiedPitches_27 K F B else if 0 ≤ l1 ∧ l1 < 200 then if 0 ≤ (B 4 l0 5 l1) ∧ (B 4 l0 5 l1) < K.2 1 then zbind (f_Event_has K (B 4 l0 5 l1) 1 F B) (fun r9 F9 B9 => if r32 r9 then (if r9 = 0 then f_Part_tiedPitches_27 K F9 B9 else if 0 ≤ (l1 + 1) ∧ (l1 + 1) < 200 then if 0 ≤ (B9 4 l0 5 l1) ∧ (B9 4 l0 5 l1) < K.2 1 then if 0 ≤ (B9 4 l0 5 (l1 + 1)) ∧ (B9 4 l0 5 (l1 + 1)) < K.2 1 then zbind (f_Event_sharedWith K (B9 4 l0 5 l1) (B9 4 l0 5 (l1 + 1)) F9 B9) (fun r15 F15 B15 => some (r15, F15, B15)) else none else none else none) else none) else none else none) else none else none else none) else none
