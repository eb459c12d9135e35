set_option maxHeartbeats 4000000 in
set_option maxRecDepth 100000 in
theorem c_Part_followedFor {l : Launch} {D : va_G} {ca : Nat → ClassId} {ad : Nat → Int → Nat → Nat} {L : List Nat} {aS vS : Nat → Nat} {sz : Nat} {K : zK}  {l0 : Int} {l1 : Int} {l2 : Int} {l3 : Int} {F F9 : zF} {B B9 : zB} {r : Int} (hf : f_Part_followedFor K l0 l1 l2 l3 F B = some (r, F9, B9)) : Met l ({ cls := "StaveHouse$Part", name := "followedFor", desc := "(LStaveHouse$Part;II)I" } : Jvm.MethodName) (Cond.code ({ cls := "StaveHouse$Part", name := "followedFor", desc := "(LStaveHouse$Part;II)I" } : Jvm.MethodName) prog_6_method_27_code 9 (Option.some Jvm.ClassFile.FieldType.int) :: wAll) ({ frames := 5, cells := 0, slots := 0, locals := 106 } : Room) (va_Pc [.ref (ad 4 l0 0), .ref (ad 4 l1 0), .int (iI l2), .int (iI l3)] (zPre D ca ad lnC K.2 L aS vS F B sz)) (Q_Part_followedFor K D ca ad L r F9 B9 (zA L sz)) 0 0 (zA L sz) := by
  refine zMet (Qc := Q_Part_followedFor K D ca ad L r F9 B9) (lv := [(0, .ref (ad 4 l0 0)), (1, .ref (ad 4 l1 0)), (2, .int (iI l2)), (3, .int (iI l3))]) (by decide) (Nat.le_of_ble_eq_true rfl) rfl (fun A p e s m below meth c ls X hZ hS hl => ?_)
  obtain ⟨hx, hb, hr, hml, hown, hts, hlk, hK, hA, hL, hX⟩ := id X
  replace hf : (if 0 ≤ l0 ∧ l0 < K.2 4 then if 0 ≤ l3 ∧ l3 < 200 then if 0 ≤ (B 4 l0 5 l3) ∧ (B 4 l0 5 l3) < K.2 1 then if 0 ≤ l1 ∧ l1 < K.2 4 then if 0 ≤ l2 ∧ l2 < 200 then if 0 ≤ (B 4 l1 5 l2) ∧ (B 4 l1 5 l2) < K.2 1 then if r64 (F 1 (B 4 l0 5 l3) 0) then if r64 (F 1 (B 4 l1 5 l2) 0) then (if 0 < (zcmp (F 1 (B 4 l0 5 l3) 0) (F 1 (B 4 l1 5 l2) 0)) then zbind (f_Event_topStep K (B 4 l0 5 l3) F B) (fun r10 F10 B10 => if 0 ≤ (B10 4 l1 5 l2) ∧ (B10 4 l1 5 l2) < K.2 1 then zbind (f_Event_topStep K (B10 4 l1 5 l2) F10 B10) (fun r12 F12 B12 => f_Part_followedFor_48 K K.1 0 (r10 - r12) l0 l1 l2 l3 F12 B12) else none) else some (0, F, B)) else none else none else none else none else none else none else none else none) = some (r, F9, B9) := hf
  refine lv_aload_n hx hb d_6_27_0 rfl (lv_at hl 0 rfl) ?_
  obtain ⟨g1, hf⟩ := gif hf
  refine zget (ci := 4) (C := RX4) (T := TX4) (v := .ref (ad 4 l0 (5 + 1))) (k := 5) hx hb hts inW_4 hown hK hZ g1.1 g1.2 rfl (by decide) k_4_130 rfl d_6_27_1 ?_
  refine lv_iload_n hx hb d_6_27_4 rfl (lv_at hl 3 rfl) ?_
  obtain ⟨g2, hf⟩ := gif hf
  refine zaldR (t := 1) (x := 7) (ci := 4) (k := 5) hx hb hK rfl rfl hZ g1.1 g1.2 rfl (Nat.le_of_ble_eq_true rfl) g2.1 g2.2 d_6_27_5 ?_
  obtain ⟨g3, hf⟩ := gif hf
  refine zunrf g3.1 ?_
  refine zget (ci := 1) (C := RX1) (T := TX1) (v := .long (lI (F 1 (B 4 l0 5 l3) 0))) (k := 0) hx hb hts inW_1 hown hK hZ g3.1 g3.2 rfl (by decide) k_2_21 rfl d_6_27_6 ?_
  refine lv_aload_n hx hb d_6_27_9 rfl (lv_at hl 1 rfl) ?_
  obtain ⟨g4, hf⟩ := gif hf
  refine zget (ci := 4) (C := RX4) (T := TX4) (v := .ref (ad 4 l1 (5 + 1))) (k := 5) hx hb hts inW_4 hown hK hZ g4.1 g4.2 rfl (by decide) k_4_130 rfl d_6_27_10 ?_
  refine lv_iload_n hx hb d_6_27_13 rfl (lv_at hl 2 rfl) ?_
  obtain ⟨g5, hf⟩ := gif hf
  refine zaldR (t := 1) (x := 7) (ci := 4) (k := 5) hx hb hK rfl rfl hZ g4.1 g4.2 rfl (Nat.le_of_ble_eq_true rfl) g5.1 g5.2 d_6_27_14 ?_
  obtain ⟨g6, hf⟩ := gif hf
  refine zunrf g6.1 ?_
  refine zget (ci := 1) (C := RX1) (T := TX1) (v := .long (lI (F 1 (B 4 l1 5 l2) 0))) (k := 0) hx hb hts inW_1 hown hK hZ g6.1 g6.2 rfl (by decide) k_2_21 rfl d_6_27_15 ?_
  obtain ⟨g7, hf⟩ := gif hf
  obtain ⟨g8, hf⟩ := gif hf
  refine zcmp_r hx hb g7 g8 d_6_27_18 ?_
  refine z0gt (tgt := 24) hx hb zcmp_32 d_6_27_19 (by decide) (fun h9 => ?_) (fun h9 => ?_)
  · replace hf := gpos hf h9
    refine lv_aload_n hx hb d_6_27_24 rfl (lv_at hl 0 rfl) ?_
    refine zget (ci := 4) (C := RX4) (T := TX4) (v := .ref (ad 4 l0 (5 + 1))) (k := 5) hx hb hts inW_4 hown hK hZ g1.1 g1.2 rfl (by decide) k_4_130 rfl d_6_27_25 ?_
    refine lv_iload_n hx hb d_6_27_28 rfl (lv_at hl 3 rfl) ?_
    refine zaldR (t := 1) (x := 7) (ci := 4) (k := 5) hx hb hK rfl rfl hZ g1.1 g1.2 rfl (Nat.le_of_ble_eq_true rfl) g2.1 g2.2 d_6_27_29 ?_
    refine W.eq (g2 := F0 m 30 ls [.ref (ad 1 (B 4 l0 5 l3) 0)]) (by rw [zrf_pos (ad := ad) (t := 1) g3.1]; try rfl) ?_
    obtain ⟨r10, F10, B10, hc10, hf⟩ := gbind hf
    refine va_calli (va_runV (As := []) (rest := []) ⟨hx, hb, hml, hown, hts⟩ (c_Event_topStep (l := l) hc10) (cwV 0 hts (gdV k_9_93 k_9_94 k_9_95 k_1_8 k_9_96) rfl rfl rfl (by decide +kernel) ⟨Nat.le_of_ble_eq_true rfl, Nat.le_of_ble_eq_true rfl⟩) (zPV X hZ hS (ci := 1) g3.1 g3.2 (r := (RX1, TX1, 14)) rfl []) rfl rfl hl.1 rfl (lv_room (Nat.le_of_ble_eq_true rfl)) d_6_27_30 ⟨Nat.le_of_ble_eq_true rfl, Nat.le_of_ble_eq_true rfl⟩) hS (fun q _ h => zAin X hS q h) (zAin X hS) (fun p10 u10 t10 H10 locs10 ht10 hv10 hw10 hB10 hz10 hk10 hS10 => ?_)
    have hZ10 := zBack X ht10 hB10
    subst hw10
    refine lv_aload_n hx hb d_6_27_33 rfl (lv_at hl 1 rfl) ?_
    refine zget (ci := 4) (C := RX4) (T := TX4) (v := .ref (ad 4 l1 (5 + 1))) (k := 5) hx hb hts inW_4 hown hK hZ10 g4.1 g4.2 rfl (by decide) k_4_130 rfl d_6_27_34 ?_
    refine lv_iload_n hx hb d_6_27_37 rfl (lv_at hl 2 rfl) ?_
    refine zaldR (t := 1) (x := 7) (ci := 4) (k := 5) hx hb hK rfl rfl hZ10 g4.1 g4.2 rfl (Nat.le_of_ble_eq_true rfl) g5.1 g5.2 d_6_27_38 ?_
    obtain ⟨g11, hf⟩ := gif hf
    refine W.eq (g2 := F0 m 39 ls [.ref (ad 1 (B10 4 l1 5 l2) 0), .int (iI r10)]) (by rw [zrf_pos (ad := ad) (t := 1) g11.1]; try rfl) ?_
    obtain ⟨r12, F12, B12, hc12, hf⟩ := gbind hf
    refine va_calli (va_runV (As := []) (rest := [.int (iI r10)]) ⟨hx, hb, hml, hown, hts⟩ (c_Event_topStep (l := l) hc12) (cwV 0 hts (gdV k_9_93 k_9_94 k_9_95 k_1_8 k_9_96) rfl rfl rfl (by decide +kernel) ⟨Nat.le_of_ble_eq_true rfl, Nat.le_of_ble_eq_true rfl⟩) (zPV X hZ10 hS10 (ci := 1) g11.1 g11.2 (r := (RX1, TX1, 14)) rfl []) rfl rfl hl.1 rfl (lv_room (Nat.le_of_ble_eq_true rfl)) d_6_27_39 ⟨Nat.le_of_ble_eq_true rfl, Nat.le_of_ble_eq_true rfl⟩) hS10 (fun q _ h => zAin X hS10 q h) (zAin X hS10) (fun p12 u12 t12 H12 locs12 ht12 hv12 hw12 hB12 hz12 hk12 hS12 => ?_)
    have hZ12 := zBack X ht12 hB12
    subst hw12
    refine zsub hx hb d_6_27_42 ?_
    refine lv_istore (lv' := [(4, .int (iI (r10 - r12))), (0, .ref (ad 4 l0 0)), (1, .ref (ad 4 l1 0)), (2, .int (iI l2)), (3, .int (iI l3))]) hx hb d_6_27_43 hl (by decide) rfl (fun ls hl => ?_)
    refine lv_iconst (v := iI 0) hx hb d_6_27_45 rfl ?_
    refine lv_istore (lv' := [(5, .int (iI 0)), (4, .int (iI (r10 - r12))), (0, .ref (ad 4 l0 0)), (1, .ref (ad 4 l1 0)), (2, .int (iI l2)), (3, .int (iI l3))]) hx hb d_6_27_46 hl (by decide) rfl (fun ls hl => ?_)
    exact b_Part_followedFor_48 X hf hZ12 hS12 (lv_sub hl [0, 1, 2, 3, 4, 5] rfl)
  · replace hf := gneg hf h9
    refine lv_iconst (v := iI 0) hx hb d_6_27_22 rfl ?_
    cases hf
    exact W.iret hx hb hr (fun t ht hW => ⟨⟨_, (), rfl, rfl, by rw [ht]; exact hZ, va_K.moved hW.alike hK⟩, hS.F ht⟩) hS.2.2 d_6_27_23 hlk

noncomputable abbrev Q_S_shape (K : zK) (D : va_G) (ca : Nat → ClassId) (ad : Nat → Int → Nat → Nat) (L : List Nat) (r : Int) (F : zF) (B : zB) (A : Nat → Prop) : Array Value → State → Outcome → State → Prop := va_Qi (S := Unit) (fun p _ => p = iI r) (fun _ => zPo D ca ad lnC K.2 L F B A) A
noncomputable def f_S_shape_136 (rec95 : Int → Int → Int → Int → Int → Int → Int → zF → zB → zO) (K : zK) (l13 : Int) (l12 : Int) (l10 : Int) (l9 : Int) (l3 : Int) (l4 : Int) (l7 : Int) (F : zF) (B : zB) : zO := rec95 (l13 + 1) l12 l10 l9 l3 l4 l7 F B
set_option maxHeartbeats 4000000 in
set_option maxRecDepth 100000 in
theorem b_S_shape_136 {D : va_G} {ca : Nat → ClassId} {ad : Nat → Int → Nat → Nat} {L : List Nat} {aS vS : Nat → Nat} {A : Nat → Prop} {p : Program} {l : Launch} {e : Env} {s : State} {m : MethodId} {args : Array Value} {below : List Frame} {meth : Method} {c : Code} {K : zK} {r : Int} {F9 : zF} {B9 : zB} (X : zX D ca L aS vS A p s m args meth c prog_1_method_33_code 14 (Option.some Jvm.ClassFile.FieldType.int) "StaveHouse") {rec95 : Int → Int → Int → Int → Int → Int → Int → zF → zB → zO} (hrec95 : ∀ {l13 : Int} {l12 : Int} {l10 : Int} {l9 : Int} {l3 : Int} {l4 : Int} {l7 : Int} {F : zF} {B : zB} {H : Heap} {locs : List Loc} {ls : Array Slot}, rec95 l13 l12 l10 l9 l3 l4 l7 F B = some (r, F9, B9) → zH D ca ad lnC K.2 L F B A H → va_S A s.heap H locs → lv_has ls 14 [(13, .int (iI l13)), (12, .int (iI l12)), (10, va_rf (zrf ad 4 l10)), (9, va_rf (zrf ad 4 l9)), (3, .int (iI l3)), (4, .int (iI l4)), (7, .int (iI l7))] → W p l e ({ frames := 6, cells := 0, slots := 0, locals := 143 } : Room) s m args below meth c H locs 0 0 (MQ below (Q_S_shape K D ca ad L r F9 B9 A) args s 0 0 A) (F0 m 95 ls [])) {l13 : Int} {l12 : Int} {l10 : Int} {l9 : Int} {l3 : Int} {l4 : Int} {l7 : Int} {F : zF} {B : zB} {H : Heap} {locs : List Loc} {ls : Array Slot} (hf : f_S_shape_136 rec95 K l13 l12 l10 l9 l3 l4 l7 F B = some (r, F9, B9)) (hZ : zH D ca ad lnC K.2 L F B A H) (hS : va_S A s.heap H locs) (hl : lv_has ls 14 [(13, .int (iI l13)), (12, .int (iI l12)), (10, va_rf (zrf ad 4 l10)), (9, va_rf (zrf ad 4 l9)), (3, .int (iI l3)), (4, .int (iI l4)), (7, .int (iI l7))]) : W p l e ({ frames := 6, cells := 0, slots := 0, locals := 143 } : Room) s m args below meth c H locs 0 0 (MQ below (Q_S_shape K D ca ad L r F9 B9 A) args s 0 0 A) (F0 m 136 ls []) := by
  obtain ⟨hx, hb, hr, hml, hown, hts, hlk, hK, hA, hL, hX⟩ := id X
  replace hf : (rec95 (l13 + 1) l12 l10 l9 l3 l4 l7 F B) = some (r, F9, B9) := hf
  refine lv_iinc (v := iI (l13 + 1)) (lv' := [(13, .int (iI (l13 + 1))), (12, .int (iI l12)), (10, va_rf (zrf ad 4 l10)), (9, va_rf (zrf ad 4 l9)), (3, .int (iI l3)), (4, .int (iI l4)), (7, .int (iI l7))]) hx hb d_1_33_136 hl (k := 0) rfl (iI_add _ 1) (by decide) rfl (fun ls hl => ?_)
  refine lv_goto (tgt := 95) hx hb d_1_33_139 (by decide) ?_
  exact hrec95 hf hZ hS (lv_sub hl [0, 1, 2, 3, 4, 5, 6] rfl)

noncomputable def f_S_shape_95 (K : zK) : Nat → Int → Int → Int → Int → Int → Int → Int → zF → zB → zO
  | 0, _, _, _, _, _, _, _, _, _ => none
  | n + 1, l13, l12, l10, l9, l3, l4, l7, F, B => if 0 ≤ l10 ∧ l10 < K.2 4 then if r32 l13 then if r32 ((F 4 l10 6) - l4) then (if ((F 4 l10 6) - l4) < l13 then some ((-1), F, B) else if 0 ≤ l9 ∧ l9 < K.2 4 then zbind (f_Part_hasShape K l10 l13 l9 l3 l4 l7 F B) (fun r26 F26 B26 => if r32 r26 then (if r26 = 0 then f_S_shape_136 (f_S_shape_95 K n) K l13 l12 l10 l9 l3 l4 l7 F26 B26 else if r32 l12 then (if l12 = 0 then some (l13, F26, B26) else f_S_shape_136 (f_S_shape_95 K n) K l13 (l12 - 1) l10 l9 l3 l4 l7 F26 B26) else none) else none) else none) else none else none else none
set_option maxHeartbeats 4000000 in
set_option maxRecDepth 100000 in
theorem b_S_shape_95 {D : va_G} {ca : Nat → ClassId} {ad : Nat → Int → Nat → Nat} {L : List Nat} {aS vS : Nat → Nat} {A : Nat → Prop} {p : Program} {l : Launch} {e : Env} {s : State} {m : MethodId} {args : Array Value} {below : List Frame} {meth : Method} {c : Code} {K : zK} {r : Int} {F9 : zF} {B9 : zB} (X : zX D ca L aS vS A p s m args meth c prog_1_method_33_code 14 (Option.some Jvm.ClassFile.FieldType.int) "StaveHouse") : ∀ {n : Nat} {l13 : Int} {l12 : Int} {l10 : Int} {l9 : Int} {l3 : Int} {l4 : Int} {l7 : Int} {F : zF} {B : zB} {H : Heap} {locs : List Loc} {ls : Array Slot}, f_S_shape_95 K n l13 l12 l10 l9 l3 l4 l7 F B = some (r, F9, B9) → zH D ca ad lnC K.2 L F B A H → va_S A s.heap H locs → lv_has ls 14 [(13, .int (iI l13)), (12, .int (iI l12)), (10, va_rf (zrf ad 4 l10)), (9, va_rf (zrf ad 4 l9)), (3, .int (iI l3)), (4, .int (iI l4)), (7, .int (iI l7))] → W p l e ({ frames := 6, cells := 0, slots := 0, locals := 143 } : Room) s m args below meth c H locs 0 0 (MQ below (Q_S_shape K D ca ad L r F9 B9 A) args s 0 0 A) (F0 m 95 ls []) := by
  obtain ⟨hx, hb, hr, hml, hown, hts, hlk, hK, hA, hL, hX⟩ := id X
  intro n
  induction n with
  | zero =>
    intros
    rename_i hf _ _ _
    cases hf
  | succ n ih =>
    intro l13 l12 l10 l9 l3 l4 l7 F B H locs ls hf hZ hS hl
    replace hf : (if 0 ≤ l10 ∧ l10 < K.2 4 then if r32 l13 then if r32 ((F 4 l10 6) - l4) then (if ((F 4 l10 6) - l4) < l13 then some ((-1), F, B) else if 0 ≤ l9 ∧ l9 < K.2 4 then zbind (f_Part_hasShape K l10 l13 l9 l3 l4 l7 F B) (fun r26 F26 B26 => if r32 r26 then (if r26 = 0 then f_S_shape_136 (f_S_shape_95 K n) K l13 l12 l10 l9 l3 l4 l7 F26 B26 else if r32 l12 then (if l12 = 0 then some (l13, F26, B26) else f_S_shape_136 (f_S_shape_95 K n) K l13 (l12 - 1) l10 l9 l3 l4 l7 F26 B26) else none) else none) else none) else none else none else none) = some (r, F9, B9) := hf
    refine lv_iload hx hb d_1_33_95 (lv_at hl 0 rfl) ?_
    refine zaload hx hb d_1_33_97 (lv_at hl 2 rfl) ?_
    obtain ⟨g21, hf⟩ := gif hf
    refine zunrf g21.1 ?_
    refine zget (ci := 4) (C := RX4) (T := TX4) (v := .int (iI (F 4 l10 6))) (k := 6) hx hb hts inW_4 hown hK hZ g21.1 g21.2 rfl (by decide) k_4_138 rfl d_1_33_99 ?_
    refine lv_iload hx hb d_1_33_102 (lv_at hl 5 rfl) ?_
    refine zsub hx hb d_1_33_104 ?_
    obtain ⟨g22, hf⟩ := gif hf
    obtain ⟨g23, hf⟩ := gif hf
    refine zgt (tgt := 142) hx hb g22 g23 d_1_33_105 (by decide) (fun h24 => ?_) (fun h24 => ?_)
    · replace hf := gpos hf h24
      refine lv_iconst (v := iI (-1)) hx hb d_1_33_142 rfl ?_
      cases hf
      exact W.iret hx hb hr (fun t ht hW => ⟨⟨_, (), rfl, rfl, by rw [ht]; exact hZ, va_K.moved hW.alike hK⟩, hS.F ht⟩) hS.2.2 d_1_33_143 hlk
    · replace hf := gneg hf h24
      refine zaload hx hb d_1_33_108 (lv_at hl 2 rfl) ?_
      refine lv_iload hx hb d_1_33_110 (lv_at hl 0 rfl) ?_
      refine zaload hx hb d_1_33_112 (lv_at hl 3 rfl) ?_
      refine lv_iload_n hx hb d_1_33_114 rfl (lv_at hl 4 rfl) ?_
      refine lv_iload hx hb d_1_33_115 (lv_at hl 5 rfl) ?_
      refine lv_iload hx hb d_1_33_117 (lv_at hl 6 rfl) ?_
      refine W.eq (g2 := F0 m 119 ls [.int (iI l7), .int (iI l4), .int (iI l3), va_rf (zrf ad 4 l9), .int (iI l13), .ref (ad 4 l10 0)]) (by rw [zrf_pos (ad := ad) (t := 4) g21.1]; try rfl) ?_
      obtain ⟨g25, hf⟩ := gif hf
      refine W.eq (g2 := F0 m 119 ls [.int (iI l7), .int (iI l4), .int (iI l3), .ref (ad 4 l9 0), .int (iI l13), .ref (ad 4 l10 0)]) (by rw [zrf_pos (ad := ad) (t := 4) g25.1]; try rfl) ?_
      obtain ⟨r26, F26, B26, hc26, hf⟩ := gbind hf
      refine va_calli (va_runV (As := [.int (iI l13), .ref (ad 4 l9 0), .int (iI l3), .int (iI l4), .int (iI l7)]) (rest := []) ⟨hx, hb, hml, hown, hts⟩ (c_Part_hasShape (l := l) hc26) (cwV 5 hts (gdV k_9_103 k_9_104 k_9_105 k_1_18 k_9_106) rfl rfl rfl (by decide +kernel) ⟨Nat.le_of_ble_eq_true rfl, Nat.le_of_ble_eq_true rfl⟩) (zPV X hZ hS (ci := 4) g21.1 g21.2 (r := (RX4, TX4, 13)) rfl [.int (iI l13), .ref (ad 4 l9 0), .int (iI l3), .int (iI l4), .int (iI l7)]) rfl rfl hl.1 rfl (lv_room (Nat.le_of_ble_eq_true rfl)) d_1_33_119 ⟨Nat.le_of_ble_eq_true rfl, Nat.le_of_ble_eq_true rfl⟩) hS (fun q _ h => zAin X hS q h) (zAin X hS) (fun p26 u26 t26 H26 locs26 ht26 hv26 hw26 hB26 hz26 hk26 hS26 => ?_)
      have hZ26 := zBack X ht26 hB26
      subst hw26
      obtain ⟨g27, hf⟩ := gif hf
      refine z0eq (tgt := 136) hx hb g27 d_1_33_122 (by decide) (fun h28 => ?_) (fun h28 => ?_)
      · replace hf := gpos hf h28
        exact b_S_shape_136 X ih hf hZ26 hS26 (lv_sub hl [0, 1, 2, 3, 4, 5, 6] rfl)
      · replace hf := gneg hf h28
        refine lv_iload hx hb d_1_33_125 (lv_at hl 1 rfl) ?_
        obtain ⟨g29, hf⟩ := gif hf
        refine z0ne (tgt := 133) hx hb g29 d_1_33_127 (by decide) (fun h30 => ?_) (fun h30 => ?_)
        · replace hf := gneg hf h30
          refine lv_iinc (v := iI (l12 - 1)) (lv' := [(12, .int (iI (l12 - 1))), (13, .int (iI l13)), (10, va_rf (zrf ad 4 l10)), (9, va_rf (zrf ad 4 l9)), (3, .int (iI l3)), (4, .int (iI l4)), (7, .int (iI l7))]) hx hb d_1_33_133 hl (k := 1) rfl (by rw [show Int32.ofInt (-1) = iI (-1) from rfl, iI_add]; congr 1) (by decide) rfl (fun ls hl => ?_)
          exact b_S_shape_136 X ih hf hZ26 hS26 (lv_sub hl [1, 0, 2, 3, 4, 5, 6] rfl)
        · replace hf := gpos hf h30
          refine lv_iload hx hb d_1_33_130 (lv_at hl 0 rfl) ?_
          cases hf
          exact W.iret hx hb hr (fun t ht hW => ⟨⟨_, (), rfl, rfl, by rw [ht]; exact hZ26, va_K.moved hW.alike hK⟩, hS26.F ht⟩) hS26.2.2 d_1_33_132 hlk

noncomputable def f_S_shape_86 (K : zK)  (F : zF) (B : zB) : zO := some ((-1), F, B)
set_option maxHeartbeats 4000000 in
set_option maxRecDepth 100000 in
theorem b_S_shape_86 {D : va_G} {ca : Nat → ClassId} {ad : Nat → Int → Nat → Nat} {L : List Nat} {aS vS : Nat → Nat} {A : Nat → Prop} {p : Program} {l : Launch} {e : Env} {s : State} {m : MethodId} {args : Array Value} {below : List Frame} {meth : Method} {c : Code} {K : zK} {r : Int} {F9 : zF} {B9 : zB} (X : zX D ca L aS vS A p s m args meth c prog_1_method_33_code 14 (Option.some Jvm.ClassFile.FieldType.int) "StaveHouse")  {F : zF} {B : zB} {H : Heap} {locs : List Loc} {ls : Array Slot} (hf : f_S_shape_86 K  F B = some (r, F9, B9)) (hZ : zH D ca ad lnC K.2 L F B A H) (hS : va_S A s.heap H locs) (hl : lv_has ls 14 []) : W p l e ({ frames := 6, cells := 0, slots := 0, locals := 143 } : Room) s m args below meth c H locs 0 0 (MQ below (Q_S_shape K D ca ad L r F9 B9 A) args s 0 0 A) (F0 m 86 ls []) := by
  obtain ⟨hx, hb, hr, hml, hown, hts, hlk, hK, hA, hL, hX⟩ := id X
  replace hf : (some ((-1), F, B)) = some (r, F9, B9) := hf
  refine lv_iconst (v := iI (-1)) hx hb d_1_33_86 rfl ?_
  cases hf
  exact W.iret hx hb hr (fun t ht hW => ⟨⟨_, (), rfl, rfl, by rw [ht]; exact hZ, va_K.moved hW.alike hK⟩, hS.F ht⟩) hS.2.2 d_1_33_87 hlk

noncomputable def f_S_shape_58 (K : zK) (l10 : Int) (l9 : Int) (l3 : Int) (l4 : Int) (l7 : Int) (l8 : Int) (s0 : Int) (F : zF) (B : zB) : zO := if r32 s0 then (if s0 = 0 then if r32 l8 then (if l8 < 0 then f_S_shape_86 K F B else if r32 l3 then (if l3 < 0 then f_S_shape_86 K F B else if 0 ≤ l9 ∧ l9 < K.2 4 then if r32 ((F 4 l9 6) - l4) then (if l3 ≤ ((F 4 l9 6) - l4) then f_S_shape_95 K K.1 0 l8 l10 l9 l3 l4 l7 F B else f_S_shape_86 K F B) else none else none) else none) else none else f_S_shape_86 K F B) else none
set_option maxHeartbeats 4000000 in
set_option maxRecDepth 100000 in
theorem b_S_shape_58 {D : va_G} {ca : Nat → ClassId} {ad : Nat → Int → Nat → Nat} {L : List Nat} {aS vS : Nat → Nat} {A : Nat → Prop} {p : Program} {l : Launch} {e : Env} {s : State} {m : MethodId} {args : Array Value} {below : List Frame} {meth : Method} {c : Code} {K : zK} {r : Int} {F9 : zF} {B9 : zB} (X : zX D ca L aS vS A p s m args meth c prog_1_method_33_code 14 (Option.some Jvm.ClassFile.FieldType.int) "StaveHouse") {l10 : Int} {l9 : Int} {l3 : Int} {l4 : Int} {l7 : Int} {l8 : Int} {s0 : Int} {F : zF} {B : zB} {H : Heap} {locs : List Loc} {ls : Array Slot} (hf : f_S_shape_58 K l10 l9 l3 l4 l7 l8 s0 F B = some (r, F9, B9)) (hZ : zH D ca ad lnC K.2 L F B A H) (hS : va_S A s.heap H locs) (hl : lv_has ls 14 [(10, va_rf (zrf ad 4 l10)), (9, va_rf (zrf ad 4 l9)), (3, .int (iI l3)), (4, .int (iI l4)), (7, .int (iI l7)), (8, .int (iI l8))]) : W p l e ({ frames := 6, cells := 0, slots := 0, locals := 143 } : Room) s m args below meth c H locs 0 0 (MQ below (Q_S_shape K D ca ad L r F9 B9 A) args s 0 0 A) (F0 m 58 ls [.int (iI s0)]) := by
  obtain ⟨hx, hb, hr, hml, hown, hts, hlk, hK, hA, hL, hX⟩ := id X
  replace hf : (if r32 s0 then (if s0 = 0 then if r32 l8 then (if l8 < 0 then f_S_shape_86 K F B else if r32 l3 then (if l3 < 0 then f_S_shape_86 K F B else if 0 ≤ l9 ∧ l9 < K.2 4 then if r32 ((F 4 l9 6) - l4) then (if l3 ≤ ((F 4 l9 6) - l4) then f_S_shape_95 K K.1 0 l8 l10 l9 l3 l4 l7 F B else f_S_shape_86 K F B) else none else none) else none) else none else f_S_shape_86 K F B) else none) = some (r, F9, B9) := hf
  refine lv_istore (lv' := [(11, .int (iI s0)), (10, va_rf (zrf ad 4 l10)), (9, va_rf (zrf ad 4 l9)), (3, .int (iI l3)), (4, .int (iI l4)), (7, .int (iI l7)), (8, .int (iI l8))]) hx hb d_1_33_58 hl (by decide) (by cases zrf ad 4 l10 <;> rfl) (fun ls hl => ?_)
  refine lv_iload hx hb d_1_33_60 (lv_at hl 0 rfl) ?_
  obtain ⟨g12, hf⟩ := gif hf
  refine z0ne (tgt := 86) hx hb g12 d_1_33_62 (by decide) (fun h13 => ?_) (fun h13 => ?_)
  · replace hf := gneg hf h13
    exact b_S_shape_86 X hf hZ hS (lv_sub hl [] rfl)
  · replace hf := gpos hf h13
    refine lv_iload hx hb d_1_33_65 (lv_at hl 6 rfl) ?_
    obtain ⟨g14, hf⟩ := gif hf
    refine z0lt (tgt := 86) hx hb g14 d_1_33_67 (by decide) (fun h15 => ?_) (fun h15 => ?_)
    · replace hf := gpos hf h15
      exact b_S_shape_86 X hf hZ hS (lv_sub hl [] rfl)
    · replace hf := gneg hf h15
      refine lv_iload_n hx hb d_1_33_70 rfl (lv_at hl 3 rfl) ?_
      obtain ⟨g16, hf⟩ := gif hf
      refine z0lt (tgt := 86) hx hb g16 d_1_33_71 (by decide) (fun h17 => ?_) (fun h17 => ?_)
      · replace hf := gpos hf h17
        exact b_S_shape_86 X hf hZ hS (lv_sub hl [] rfl)
      · replace hf := gneg hf h17
        refine lv_iload_n hx hb d_1_33_74 rfl (lv_at hl 3 rfl) ?_
        refine zaload hx hb d_1_33_75 (lv_at hl 2 rfl) ?_
        obtain ⟨g18, hf⟩ := gif hf
        refine zunrf g18.1 ?_
        refine zget (ci := 4) (C := RX4) (T := TX4) (v := .int (iI (F 4 l9 6))) (k := 6) hx hb hts inW_4 hown hK hZ g18.1 g18.2 rfl (by decide) k_4_138 rfl d_1_33_77 ?_
        refine lv_iload hx hb d_1_33_80 (lv_at hl 4 rfl) ?_
        refine zsub hx hb d_1_33_82 ?_
        obtain ⟨g19, hf⟩ := gif hf
        refine zle (tgt := 88) hx hb g16 g19 d_1_33_83 (by decide) (fun h20 => ?_) (fun h20 => ?_)
        · replace hf := gpos hf h20
          refine lv_iload hx hb d_1_33_88 (lv_at hl 6 rfl) ?_
          refine lv_istore (lv' := [(12, .int (iI l8)), (11, .int (iI s0)), (10, va_rf (zrf ad 4 l10)), (9, va_rf (zrf ad 4 l9)), (3, .int (iI l3)), (4, .int (iI l4)), (7, .int (iI l7)), (8, .int (iI l8))]) hx hb d_1_33_90 hl (by decide) rfl (fun ls hl => ?_)
          refine lv_iconst (v := iI 0) hx hb d_1_33_92 rfl ?_
          refine lv_istore (lv' := [(13, .int (iI 0)), (12, .int (iI l8)), (11, .int (iI s0)), (10, va_rf (zrf ad 4 l10)), (9, va_rf (zrf ad 4 l9)), (3, .int (iI l3)), (4, .int (iI l4)), (7, .int (iI l7)), (8, .int (iI l8))]) hx hb d_1_33_93 hl (by decide) rfl (fun ls hl => ?_)
          exact b_S_shape_95 X hf hZ hS (lv_sub hl [0, 1, 3, 4, 5, 6, 7] rfl)
        · replace hf := gneg hf h20
          exact b_S_shape_86 X hf hZ hS (lv_sub hl [] rfl)

noncomputable def f_S_shape_53 (K : zK) (l10 : Int) (l9 : Int) (l3 : Int) (l4 : Int) (l7 : Int) (l8 : Int) (F : zF) (B : zB) : zO := f_S_shape_58 K l10 l9 l3 l4 l7 l8 1 F B
set_option maxHeartbeats 4000000 in
set_option maxRecDepth 100000 in
theorem b_S_shape_53 {D : va_G} {ca : Nat → ClassId} {ad : Nat → Int → Nat → Nat} {L : List Nat} {aS vS : Nat → Nat} {A : Nat → Prop} {p : Program} {l : Launch} {e : Env} {s : State} {m : MethodId} {args : Array Value} {below : List Frame} {meth : Method} {c : Code} {K : zK} {r : Int} {F9 : zF} {B9 : zB} (X : zX D ca L aS vS A p s m args meth c prog_1_method_33_code 14 (Option.some Jvm.ClassFile.FieldType.int) "StaveHouse") {l10 : Int} {l9 : Int} {l3 : Int} {l4 : Int} {l7 : Int} {l8 : Int} {F : zF} {B : zB} {H : Heap} {locs : List Loc} {ls : Array Slot} (hf : f_S_shape_53 K l10 l9 l3 l4 l7 l8 F B = some (r, F9, B9)) (hZ : zH D ca ad lnC K.2 L F B A H) (hS : va_S A s.heap H locs) (hl : lv_has ls 14 [(10, va_rf (zrf ad 4 l10)), (9, va_rf (zrf ad 4 l9)), (3, .int (iI l3)), (4, .int (iI l4)), (7, .int (iI l7)), (8, .int (iI l8))]) : W p l e ({ frames := 6, cells := 0, slots := 0, locals := 143 } : Room) s m args below meth c H locs 0 0 (MQ below (Q_S_shape K D ca ad L r F9 B9 A) args s 0 0 A) (F0 m 53 ls []) := by
  obtain ⟨hx, hb, hr, hml, hown, hts, hlk, hK, hA, hL, hX⟩ := id X
  replace hf : (f_S_shape_58 K l10 l9 l3 l4 l7 l8 1 F B) = some (r, F9, B9) := hf
  refine lv_iconst (v := iI 1) hx hb d_1_33_53 rfl ?_
  refine lv_goto (tgt := 58) hx hb d_1_33_54 (by decide) ?_
  exact b_S_shape_58 X hf hZ hS (lv_sub hl [0, 1, 2, 3, 4, 5] rfl)

noncomputable def f_S_shape (K : zK) (l0 : Int) (l1 : Int) (l2 : Int) (l3 : Int) (l4 : Int) (l5 : Int) (l6 : Int) (l7 : Int) (l8 : Int) (F : zF) (B : zB) : zO := if 0 ≤ l0 ∧ l0 < K.2 12 then zbind (f_S_partAt K l0 l1 l2 F B) (fun r2 F2 B2 => zbind (f_S_partAt K l0 l5 l6 F2 B2) (fun r3 F3 B3 => (if r2 < 0 then f_S_shape_53 K r3 r2 l3 l4 l7 l8 F3 B3 else (if r3 < 0 then f_S_shape_53 K r3 r2 l3 l4 l7 l8 F3 B3 else if r32 l4 then (if l4 < 2 then f_S_shape_53 K r3 r2 l3 l4 l7 l8 F3 B3 else (if 20 < l4 then f_S_shape_53 K r3 r2 l3 l4 l7 l8 F3 B3 else if r32 l7 then (if l7 < 0 then f_S_shape_53 K r3 r2 l3 l4 l7 l8 F3 B3 else (if l7 ≤ 7 then f_S_shape_58 K r3 r2 l3 l4 l7 l8 0 F3 B3 else f_S_shape_53 K r3 r2 l3 l4 l7 l8 F3 B3)) else none)) else none)))) else none
set_option maxHeartbeats 4000000 in
set_option maxRecDepth 100000 in
theorem c_S_shape {l : Launch} {D : va_G} {ca : Nat → ClassId} {ad : Nat → Int → Nat → Nat} {L : List Nat} {aS vS : Nat → Nat} {sz : Nat} {K : zK}  {l0 : Int} {l1 : Int} {l2 : Int} {l3 : Int} {l4 : Int} {l5 : Int} {l6 : Int} {l7 : Int} {l8 : Int} {F F9 : zF} {B B9 : zB} {r : Int} (hf : f_S_shape K l0 l1 l2 l3 l4 l5 l6 l7 l8 F B = some (r, F9, B9)) : Met l ({ cls := "StaveHouse", name := "shape", desc := "(IIIIIIII)I" } : Jvm.MethodName) (Cond.code ({ cls := "StaveHouse", name := "shape", desc := "(IIIIIIII)I" } : Jvm.MethodName) prog_1_method_33_code 14 (Option.some Jvm.ClassFile.FieldType.int) :: wAll) ({ frames := 6, cells := 0, slots := 0, locals := 143 } : Room) (va_Pc [.ref (ad 12 l0 0), .int (iI l1), .int (iI l2), .int (iI l3), .int (iI l4), .int (iI l5), .int (iI l6), .int (iI l7), .int (iI l8)] (zPre D ca ad lnC K.2 L aS vS F B sz)) (Q_S_shape K D ca ad L r F9 B9 (zA L sz)) 0 0 (zA L sz) := by
  refine zMet (Qc := Q_S_shape K D ca ad L r F9 B9) (lv := [(0, .ref (ad 12 l0 0)), (1, .int (iI l1)), (2, .int (iI l2)), (3, .int (iI l3)), (4, .int (iI l4)), (5, .int (iI l5)), (6, .int (iI l6)), (7, .int (iI l7)), (8, .int (iI l8))]) (by decide) (Nat.le_of_ble_eq_true rfl) rfl (fun A p e s m below meth c ls X hZ hS hl => ?_)
  obtain ⟨hx, hb, hr, hml, hown, hts, hlk, hK, hA, hL, hX⟩ := id X
  replace hf : (if 0 ≤ l0 ∧ l0 < K.2 12 then zbind (f_S_partAt K l0 l1 l2 F B) (fun r2 F2 B2 => zbind (f_S_partAt K l0 l5 l6 F2 B2) (fun r3 F3 B3 => (if r2 < 0 then f_S_shape_53 K r3 r2 l3 l4 l7 l8 F3 B3 else (if r3 < 0 then f_S_shape_53 K r3 r2 l3 l4 l7 l8 F3 B3 else if r32 l4 then (if l4 < 2 then f_S_shape_53 K r3 r2 l3 l4 l7 l8 F3 B3 else (if 20 < l4 then f_S_shape_53 K r3 r2 l3 l4 l7 l8 F3 B3 else if r32 l7 then (if l7 < 0 then f_S_shape_53 K r3 r2 l3 l4 l7 l8 F3 B3 else (if l7 ≤ 7 then f_S_shape_58 K r3 r2 l3 l4 l7 l8 0 F3 B3 else f_S_shape_53 K r3 r2 l3 l4 l7 l8 F3 B3)) else none)) else none)))) else none) = some (r, F9, B9) := hf
  refine lv_aload_n hx hb d_1_33_0 rfl (lv_at hl 0 rfl) ?_
  refine lv_iload_n hx hb d_1_33_1 rfl (lv_at hl 1 rfl) ?_
  refine lv_iload_n hx hb d_1_33_2 rfl (lv_at hl 2 rfl) ?_
  obtain ⟨g1, hf⟩ := gif hf
  obtain ⟨r2, F2, B2, hc2, hf⟩ := gbind hf
  refine va_callq (va_runV (As := [.int (iI l1), .int (iI l2)]) (rest := []) ⟨hx, hb, hml, hown, hts⟩ (c_S_partAt (l := l) hc2) (cwV 2 hts (gdV k_6_168 k_6_170 ks_77 k_1_1 k_6_171) rfl rfl rfl (by decide +kernel) ⟨Nat.le_of_ble_eq_true rfl, Nat.le_of_ble_eq_true rfl⟩) (zPV X hZ hS (ci := 12) g1.1 g1.2 (r := (RX12, TX12, 10)) rfl [.int (iI l1), .int (iI l2)]) rfl rfl hl.1 rfl (lv_room (Nat.le_of_ble_eq_true rfl)) d_1_33_3 ⟨Nat.le_of_ble_eq_true rfl, Nat.le_of_ble_eq_true rfl⟩) hS (fun q _ h => zAin X hS q h) (zAin X hS) (fun p2 u2 t2 H2 locs2 ht2 hv2 hw2 hB2 hz2 hk2 hS2 => ?_)
  have hZ2 := zBack X ht2 hB2
  subst hw2
  refine zastore (lv' := [(0, .ref (ad 12 l0 0)), (1, .int (iI l1)), (2, .int (iI l2)), (3, .int (iI l3)), (4, .int (iI l4)), (5, .int (iI l5)), (6, .int (iI l6)), (7, .int (iI l7)), (8, .int (iI l8))]) hx hb d_1_33_6 hl (by decide) (fun _ _ => rfl) (fun ls hl => ?_)
  refine lv_aload_n hx hb d_1_33_8 rfl (lv_at hl 1 rfl) ?_
  refine lv_iload hx hb d_1_33_9 (lv_at hl 6 rfl) ?_
  refine lv_iload hx hb d_1_33_11 (lv_at hl 7 rfl) ?_
  obtain ⟨r3, F3, B3, hc3, hf⟩ := gbind hf
  refine va_callq (va_runV (As := [.int (iI l5), .int (iI l6)]) (rest := []) ⟨hx, hb, hml, hown, hts⟩ (c_S_partAt (l := l) hc3) (cwV 2 hts (gdV k_6_168 k_6_170 ks_77 k_1_1 k_6_171) rfl rfl rfl (by decide +kernel) ⟨Nat.le_of_ble_eq_true rfl, Nat.le_of_ble_eq_true rfl⟩) (zPV X hZ2 hS2 (ci := 12) g1.1 g1.2 (r := (RX12, TX12, 10)) rfl [.int (iI l5), .int (iI l6)]) rfl rfl hl.1 rfl (lv_room (Nat.le_of_ble_eq_true rfl)) d_1_33_13 ⟨Nat.le_of_ble_eq_true rfl, Nat.le_of_ble_eq_true rfl⟩) hS2 (fun q _ h => zAin X hS2 q h) (zAin X hS2) (fun p3 u3 t3 H3 locs3 ht3 hv3 hw3 hB3 hz3 hk3 hS3 => ?_)
  have hZ3 := zBack X ht3 hB3
  subst hw3
  refine zastore (lv' := [(9, va_rf (zrf ad 4 r2)), (0, .ref (ad 12 l0 0)), (1, .int (iI l1)), (2, .int (iI l2)), (3, .int (iI l3)), (4, .int (iI l4)), (5, .int (iI l5)), (6, .int (iI l6)), (7, .int (iI l7)), (8, .int (iI l8))]) hx hb d_1_33_16 hl (by decide) (fun v hv => by cases zrf ad 4 r2 <;> rfl) (fun ls hl => ?_)
  refine zaload hx hb d_1_33_18 (lv_at hl 1 rfl) ?_
  refine zifnull (tgt := 53) hx hb d_1_33_20 (by decide) (fun h4 => ?_) (fun h4 => ?_)
  · replace hf := gpos hf h4
    exact b_S_shape_53 X hf hZ3 hS3 (lv_sub hl [0, 1, 5, 6, 9, 10] rfl)
  · replace hf := gneg hf h4
    refine zaload hx hb d_1_33_23 (lv_at hl 0 rfl) ?_
    refine zifnull (tgt := 53) hx hb d_1_33_25 (by decide) (fun h5 => ?_) (fun h5 => ?_)
    · replace hf := gpos hf h5
      exact b_S_shape_53 X hf hZ3 hS3 (lv_sub hl [0, 1, 5, 6, 9, 10] rfl)
    · replace hf := gneg hf h5
      refine lv_iload hx hb d_1_33_28 (lv_at hl 6 rfl) ?_
      refine lv_iconst (v := iI 2) hx hb d_1_33_30 rfl ?_
      obtain ⟨g6, hf⟩ := gif hf
      refine zlt (tgt := 53) hx hb g6 (by decide) d_1_33_31 (by decide) (fun h7 => ?_) (fun h7 => ?_)
      · replace hf := gpos hf h7
        exact b_S_shape_53 X hf hZ3 hS3 (lv_sub hl [0, 1, 5, 6, 9, 10] rfl)
      · replace hf := gneg hf h7
        refine lv_iload hx hb d_1_33_34 (lv_at hl 6 rfl) ?_
        refine lv_bipush (v := iI 20) hx hb d_1_33_36 (by decide) ?_
        refine zgt (tgt := 53) hx hb g6 (by decide) d_1_33_38 (by decide) (fun h8 => ?_) (fun h8 => ?_)
        · replace hf := gpos hf h8
          exact b_S_shape_53 X hf hZ3 hS3 (lv_sub hl [0, 1, 5, 6, 9, 10] rfl)
        · replace hf := gneg hf h8
          refine lv_iload hx hb d_1_33_41 (lv_at hl 9 rfl) ?_
          obtain ⟨g9, hf⟩ := gif hf
          refine z0lt (tgt := 53) hx hb g9 d_1_33_43 (by decide) (fun h10 => ?_) (fun h10 => ?_)
          · replace hf := gpos hf h10
            exact b_S_shape_53 X hf hZ3 hS3 (lv_sub hl [0, 1, 5, 6, 9, 10] rfl)
          · replace hf := gneg hf h10
            refine lv_iload hx hb d_1_33_46 (lv_at hl 9 rfl) ?_
            refine lv_bipush (v := iI 7) hx hb d_1_33_48 (by decide) ?_
            refine zle (tgt := 57) hx hb g9 (by decide) d_1_33_50 (by decide) (fun h11 => ?_) (fun h11 => ?_)
            · replace hf := gpos hf h11
              refine lv_iconst (v := iI 0) hx hb d_1_33_57 rfl ?_
              exact b_S_shape_58 X hf hZ3 hS3 (lv_sub hl [0, 1, 5, 6, 9, 10] rfl)
            · replace hf := gneg hf h11
              exact b_S_shape_53 X hf hZ3 hS3 (lv_sub hl [0, 1, 5, 6, 9, 10] rfl)

noncomputable abbrev Q_Tokens_start (K : zK) (D : va_G) (ca : Nat → ClassId) (ad : Nat → Int → Nat → Nat) (L : List Nat) (r : Int) (F : zF) (B : zB) (A : Nat → Prop) : Array Value → State → Outcome → State → Prop := va_Qv (S := Unit) (fun _ => True) (fun _ => zPo D ca ad lnC K.2 L F B A) A
noncomputable def f_Tokens_start_135 (K : zK) (l3 : Int) (l0 : Int) (l1 : Int) (F : zF) (B : zB) : zO := if 0 ≤ l0 ∧ l0 < K.2 10 then if 0 ≤ l3 ∧ l3 < 3001 then if 0 ≤ l1 ∧ l1 < K.2 0 then zbind (f_Tokens_advance K l0 (zup3 F 10 l0 8 0) (zup4 (zup4 (zup4 B 10 l0 5 l3 0) 10 l0 6 l3 (F 0 l1 1)) 10 l0 7 l3 0)) (fun r40 F40 B40 => some (0, F40, B40)) else none else none else none
set_option maxHeartbeats 4000000 in
set_option maxRecDepth 100000 in
theorem b_Tokens_start_135 {D : va_G} {ca : Nat → ClassId} {ad : Nat → Int → Nat → Nat} {L : List Nat} {aS vS : Nat → Nat} {A : Nat → Prop} {p : Program} {l : Launch} {e : Env} {s : State} {m : MethodId} {args : Array Value} {below : List Frame} {meth : Method} {c : Code} {K : zK} {r : Int} {F9 : zF} {B9 : zB} (X : zX D ca L aS vS A p s m args meth c prog_12_method_2_code 7 (Option.none : Option Jvm.ClassFile.FieldType) "StaveHouse$Tokens") {l3 : Int} {l0 : Int} {l1 : Int} {F : zF} {B : zB} {H : Heap} {locs : List Loc} {ls : Array Slot} (hf : f_Tokens_start_135 K l3 l0 l1 F B = some (r, F9, B9)) (hZ : zH D ca ad lnC K.2 L F B A H) (hS : va_S A s.heap H locs) (hl : lv_has ls 7 [(3, .int (iI l3)), (0, .ref (ad 10 l0 0)), (1, .ref (ad 0 l1 0))]) : W p l e ({ frames := 4, cells := 0, slots := 0, locals := 91 } : Room) s m args below meth c H locs 0 0 (MQ below (Q_Tokens_start K D ca ad L r F9 B9 A) args s 0 0 A) (F0 m 135 ls []) := by
  obtain ⟨hx, hb, hr, hml, hown, hts, hlk, hK, hA, hL, hX⟩ := id X
  replace hf : (if 0 ≤ l0 ∧ l0 < K.2 10 then if 0 ≤ l3 ∧ l3 < 3001 then if 0 ≤ l1 ∧ l1 < K.2 0 then zbind (f_Tokens_advance K l0 (zup3 F 10 l0 8 0) (zup4 (zup4 (zup4 B 10 l0 5 l3 0) 10 l0 6 l3 (F 0 l1 1)) 10 l0 7 l3 0)) (fun r40 F40 B40 => some (0, F40, B40)) else none else none else none) = some (r, F9, B9) := hf
  refine lv_aload_n hx hb d_12_2_135 rfl (lv_at hl 1 rfl) ?_
  obtain ⟨g33, hf⟩ := gif hf
  refine zget (ci := 10) (C := RX10) (T := TX10) (v := .ref (ad 10 l0 (5 + 1))) (k := 5) hx hb hts inW_10 hown hK hZ g33.1 g33.2 rfl (by decide) k_1_82 rfl d_12_2_136 ?_
  refine lv_iload_n hx hb d_12_2_139 rfl (lv_at hl 0 rfl) ?_
  refine lv_iconst (v := iI 0) hx hb d_12_2_140 rfl ?_
  obtain ⟨g34, hf⟩ := gif hf
  refine zast (ci := 10) (k := 5) hx hb hK rfl hZ hS g33.1 g33.2 rfl (Nat.le_of_ble_eq_true rfl) g34.1 g34.2 d_12_2_141 (fun H35 locs35 hZ35 hS35 => ?_)
  refine lv_aload_n hx hb d_12_2_142 rfl (lv_at hl 1 rfl) ?_
  refine zget (ci := 10) (C := RX10) (T := TX10) (v := .ref (ad 10 l0 (6 + 1))) (k := 6) hx hb hts inW_10 hown hK hZ35 g33.1 g33.2 rfl (by decide) k_1_83 rfl d_12_2_143 ?_
  refine lv_iload_n hx hb d_12_2_146 rfl (lv_at hl 0 rfl) ?_
  refine lv_aload_n hx hb d_12_2_147 rfl (lv_at hl 2 rfl) ?_
  obtain ⟨g36, hf⟩ := gif hf
  refine zget (ci := 0) (C := RX0) (T := TX0) (v := .int (iI (F 0 l1 1))) (k := 1) hx hb hts inW_0 hown hK hZ35 g36.1 g36.2 rfl (by decide) k_1_44 rfl d_12_2_148 ?_
  refine zast (ci := 10) (k := 6) hx hb hK rfl hZ35 hS35 g33.1 g33.2 rfl (Nat.le_of_ble_eq_true rfl) g34.1 g34.2 d_12_2_151 (fun H37 locs37 hZ37 hS37 => ?_)
  refine lv_aload_n hx hb d_12_2_152 rfl (lv_at hl 1 rfl) ?_
  refine zget (ci := 10) (C := RX10) (T := TX10) (v := .ref (ad 10 l0 (7 + 1))) (k := 7) hx hb hts inW_10 hown hK hZ37 g33.1 g33.2 rfl (by decide) k_1_84 rfl d_12_2_153 ?_
  refine lv_iload_n hx hb d_12_2_156 rfl (lv_at hl 0 rfl) ?_
  refine lv_lconst (v := lI 0) hx hb d_12_2_157 (by decide) ?_
  refine zlast (ci := 10) (k := 7) hx hb hK rfl hZ37 hS37 g33.1 g33.2 rfl (Nat.le_of_ble_eq_true rfl) g34.1 g34.2 d_12_2_158 (fun H38 locs38 hZ38 hS38 => ?_)
  refine lv_aload_n hx hb d_12_2_159 rfl (lv_at hl 1 rfl) ?_
  refine lv_iconst (v := iI 0) hx hb d_12_2_160 rfl ?_
  refine zput (ci := 10) (C := RX10) (T := TX10) (k := 8) (v := 0) (w := .int (iI 0)) hx hb hts inW_10 tyX10 tyX10_ok nmX10 hown hK hZ38 hS38 g33.1 g33.2 rfl (by decide) k_1_85 rfl (fun G h => congrArg (fun q => Value.int (iI q)) h) rfl rfl (zno (by decide)) d_12_2_161 (fun H39 locs39 hZ39 hS39 => ?_)
  refine lv_aload_n hx hb d_12_2_164 rfl (lv_at hl 1 rfl) ?_
  obtain ⟨r40, F40, B40, hc40, hf⟩ := gbind hf
  refine va_callv (va_runV (As := []) (rest := []) ⟨hx, hb, hml, hown, hts⟩ (c_Tokens_advance (l := l) hc40) (cwV 0 hts (gdV k_3_151 k_3_152 k_3_153 k_1_5 k_3_154) rfl rfl rfl (by decide +kernel) ⟨Nat.le_of_ble_eq_true rfl, Nat.le_of_ble_eq_true rfl⟩) (zPV X hZ39 hS39 (ci := 10) g33.1 g33.2 (r := (RX10, TX10, 9)) rfl []) rfl rfl hl.1 rfl (lv_room (Nat.le_of_ble_eq_true rfl)) d_12_2_165 ⟨Nat.le_of_ble_eq_true rfl, Nat.le_of_ble_eq_true rfl⟩) hS39 (fun q _ h => zAin X hS39 q h) (zAin X hS39) (fun u40 t40 H40 locs40 ht40 hv40 hw40 hB40 hz40 hk40 hS40 => ?_)
  have hZ40 := zBack X ht40 hB40
  cases hf
  exact W.vret hx hb hr (fun t ht hW => ⟨⟨(), rfl, trivial, by rw [ht]; exact hZ40, va_K.moved hW.alike hK⟩, hS40.F ht⟩) hS40.2.2 d_12_2_168 hlk

noncomputable def f_Tokens_start_129 (rec7 : Int → Int → Int → Int → Int → zF → zB → zO) (K : zK) (l2 : Int) (l4 : Int) (l3 : Int) (l0 : Int) (l1 : Int) (F : zF) (B : zB) : zO := rec7 (l4 + 1) l3 l2 l0 l1 F B
set_option maxHeartbeats 4000000 in
set_option maxRecDepth 100000 in
theorem b_Tokens_start_129 {D : va_G} {ca : Nat → ClassId} {ad : Nat → Int → Nat → Nat} {L : List Nat} {aS vS : Nat → Nat} {A : Nat → Prop} {p : Program} {l : Launch} {e : Env} {s : State} {m : MethodId} {args : Array Value} {below : List Frame} {meth : Method} {c : Code} {K : zK} {r : Int} {F9 : zF} {B9 : zB} (X : zX D ca L aS vS A p s m args meth c prog_12_method_2_code 7 (Option.none : Option Jvm.ClassFile.FieldType) "StaveHouse$Tokens") {rec7 : Int → Int → Int → Int → Int → zF → zB → zO} (hrec7 : ∀ {l4 : Int} {l3 : Int} {l2 : Int} {l0 : Int} {l1 : Int} {F : zF} {B : zB} {H : Heap} {locs : List Loc} {ls : Array Slot}, rec7 l4 l3 l2 l0 l1 F B = some (r, F9, B9) → zH D ca ad lnC K.2 L F B A H → va_S A s.heap H locs → lv_has ls 7 [(4, .int (iI l4)), (3, .int (iI l3)), (2, .int (iI l2)), (0, .ref (ad 10 l0 0)), (1, .ref (ad 0 l1 0))] → W p l e ({ frames := 4, cells := 0, slots := 0, locals := 91 } : Room) s m args below meth c H locs 0 0 (MQ below (Q_Tokens_start K D ca ad L r F9 B9 A) args s 0 0 A) (F0 m 7 ls [])) {l2 : Int} {l4 : Int} {l3 : Int} {l0 : Int} {l1 : Int} {F : zF} {B : zB} {H : Heap} {locs : List Loc} {ls : Array Slot} (hf : f_Tokens_start_129 rec7 K l2 l4 l3 l0 l1 F B = some (r, F9, B9)) (hZ : zH D ca ad lnC K.2 L F B A H) (hS : va_S A s.heap H locs) (hl : lv_has ls 7 [(2, .int (iI l2)), (4, .int (iI l4)), (3, .int (iI l3)), (0, .ref (ad 10 l0 0)), (1, .ref (ad 0 l1 0))]) : W p l e ({ frames := 4, cells := 0, slots := 0, locals := 91 } : Room) s m args below meth c H locs 0 0 (MQ below (Q_Tokens_start K D ca ad L r F9 B9 A) args s 0 0 A) (F0 m 129 ls []) := by
  obtain ⟨hx, hb, hr, hml, hown, hts, hlk, hK, hA, hL, hX⟩ := id X
  replace hf : (rec7 (l4 + 1) l3 l2 l0 l1 F B) = some (r, F9, B9) := hf
  refine lv_iinc (v := iI (l4 + 1)) (lv' := [(4, .int (iI (l4 + 1))), (2, .int (iI l2)), (3, .int (iI l3)), (0, .ref (ad 10 l0 0)), (1, .ref (ad 0 l1 0))]) hx hb d_12_2_129 hl (k := 1) rfl (iI_add _ 1) (by decide) rfl (fun ls hl => ?_)
  refine lv_goto (tgt := 7) hx hb d_12_2_132 (by decide) ?_
  exact hrec7 hf hZ hS (lv_sub hl [0, 2, 1, 3, 4] rfl)

noncomputable def f_Tokens_start_123 (rec7 : Int → Int → Int → Int → Int → zF → zB → zO) (K : zK) (l6 : Int) (l4 : Int) (l3 : Int) (l0 : Int) (l1 : Int) (F : zF) (B : zB) : zO := f_Tokens_start_129 rec7 K l6 l4 (l3 + 1) l0 l1 F B
set_option maxHeartbeats 4000000 in
set_option maxRecDepth 100000 in
theorem b_Tokens_start_123 {D : va_G} {ca : Nat → ClassId} {ad : Nat → Int → Nat → Nat} {L : List Nat} {aS vS : Nat → Nat} {A : Nat → Prop} {p : Program} {l : Launch} {e : Env} {s : State} {m : MethodId} {args : Array Value} {below : List Frame} {meth : Method} {c : Code} {K : zK} {r : Int} {F9 : zF} {B9 : zB} (X : zX D ca L aS vS A p s m args meth c prog_12_method_2_code 7 (Option.none : Option Jvm.ClassFile.FieldType) "StaveHouse$Tokens") {rec7 : Int → Int → Int → Int → Int → zF → zB → zO} (hrec7 : ∀ {l4 : Int} {l3 : Int} {l2 : Int} {l0 : Int} {l1 : Int} {F : zF} {B : zB} {H : Heap} {locs : List Loc} {ls : Array Slot}, rec7 l4 l3 l2 l0 l1 F B = some (r, F9, B9) → zH D ca ad lnC K.2 L F B A H → va_S A s.heap H locs → lv_has ls 7 [(4, .int (iI l4)), (3, .int (iI l3)), (2, .int (iI l2)), (0, .ref (ad 10 l0 0)), (1, .ref (ad 0 l1 0))] → W p l e ({ frames := 4, cells := 0, slots := 0, locals := 91 } : Room) s m args below meth c H locs 0 0 (MQ below (Q_Tokens_start K D ca ad L r F9 B9 A) args s 0 0 A) (F0 m 7 ls [])) {l6 : Int} {l4 : Int} {l3 : Int} {l0 : Int} {l1 : Int} {F : zF} {B : zB} {H : Heap} {locs : List Loc} {ls : Array Slot} (hf : f_Tokens_start_123 rec7 K l6 l4 l3 l0 l1 F B = some (r, F9, B9)) (hZ : zH D ca ad lnC K.2 L F B A H) (hS : va_S A s.heap H locs) (hl : lv_has ls 7 [(6, .int (iI l6)), (4, .int (iI l4)), (3, .int (iI l3)), (0, .ref (ad 10 l0 0)), (1, .ref (ad 0 l1 0))]) : W p l e ({ frames := 4, cells := 0, slots := 0, locals := 91 } : Room) s m args below meth c H locs 0 0 (MQ below (Q_Tokens_start K D ca ad L r F9 B9 A) args s 0 0 A) (F0 m 123 ls []) := by
  obtain ⟨hx, hb, hr, hml, hown, hts, hlk, hK, hA, hL, hX⟩ := id X
  replace hf : (f_Tokens_start_129 rec7 K l6 l4 (l3 + 1) l0 l1 F B) = some (r, F9, B9) := hf
  refine lv_iload hx hb d_12_2_123 (lv_at hl 0 rfl) ?_
  refine lv_istore_n (lv' := [(2, .int (iI l6)), (6, .int (iI l6)), (4, .int (iI l4)), (3, .int (iI l3)), (0, .ref (ad 10 l0 0)), (1, .ref (ad 0 l1 0))]) hx hb d_12_2_125 rfl hl (by decide) rfl (fun ls hl => ?_)
  refine lv_iinc (v := iI (l3 + 1)) (lv' := [(3, .int (iI (l3 + 1))), (2, .int (iI l6)), (6, .int (iI l6)), (4, .int (iI l4)), (0, .ref (ad 10 l0 0)), (1, .ref (ad 0 l1 0))]) hx hb d_12_2_126 hl (k := 3) rfl (iI_add _ 1) (by decide) rfl (fun ls hl => ?_)
  exact b_Tokens_start_129 X hrec7 hf hZ hS (lv_sub hl [1, 3, 0, 4, 5] rfl)

noncomputable def f_Tokens_start_113 (rec7 : Int → Int → Int → Int → Int → zF → zB → zO) (K : zK) (l6 : Int) (l5 : Int) (l4 : Int) (l3 : Int) (l0 : Int) (l1 : Int) (s0 : Int) (s1 : Int) (s2 : Int) (F : zF) (B : zB) : zO := if 0 ≤ s0 ∧ s0 < K.2 10 then if 0 ≤ s1 ∧ s1 < 3001 then if 0 ≤ l0 ∧ l0 < K.2 10 then if r32 l5 then if 0 ≤ l3 ∧ l3 < 3001 then f_Tokens_start_123 rec7 K l6 l4 l3 l0 l1 F (zup4 (zup4 B 10 s0 5 s1 s2) 10 l0 7 l3 l5) else none else none else none else none else none
set_option maxHeartbeats 4000000 in
set_option maxRecDepth 100000 in
theorem b_Tokens_start_113 {D : va_G} {ca : Nat → ClassId} {ad : Nat → Int → Nat → Nat} {L : List Nat} {aS vS : Nat → Nat} {A : Nat → Prop} {p : Program} {l : Launch} {e : Env} {s : State} {m : MethodId} {args : Array Value} {below : List Frame} {meth : Method} {c : Code} {K : zK} {r : Int} {F9 : zF} {B9 : zB} (X : zX D ca L aS vS A p s m args meth c prog_12_method_2_code 7 (Option.none : Option Jvm.ClassFile.FieldType) "StaveHouse$Tokens") {rec7 : Int → Int → Int → Int → Int → zF → zB → zO} (hrec7 : ∀ {l4 : Int} {l3 : Int} {l2 : Int} {l0 : Int} {l1 : Int} {F : zF} {B : zB} {H : Heap} {locs : List Loc} {ls : Array Slot}, rec7 l4 l3 l2 l0 l1 F B = some (r, F9, B9) → zH D ca ad lnC K.2 L F B A H → va_S A s.heap H locs → lv_has ls 7 [(4, .int (iI l4)), (3, .int (iI l3)), (2, .int (iI l2)), (0, .ref (ad 10 l0 0)), (1, .ref (ad 0 l1 0))] → W p l e ({ frames := 4, cells := 0, slots := 0, locals := 91 } : Room) s m args below meth c H locs 0 0 (MQ below (Q_Tokens_start K D ca ad L r F9 B9 A) args s 0 0 A) (F0 m 7 ls [])) {l6 : Int} {l5 : Int} {l4 : Int} {l3 : Int} {l0 : Int} {l1 : Int} {s0 : Int} {s1 : Int} {s2 : Int} {F : zF} {B : zB} {H : Heap} {locs : List Loc} {ls : Array Slot} (hf : f_Tokens_start_113 rec7 K l6 l5 l4 l3 l0 l1 s0 s1 s2 F B = some (r, F9, B9)) (hZ : zH D ca ad lnC K.2 L F B A H) (hS : va_S A s.heap H locs) (hl : lv_has ls 7 [(6, .int (iI l6)), (5, .int (iI l5)), (4, .int (iI l4)), (3, .int (iI l3)), (0, .ref (ad 10 l0 0)), (1, .ref (ad 0 l1 0))]) : W p l e ({ frames := 4, cells := 0, slots := 0, locals := 91 } : Room) s m args below meth c H locs 0 0 (MQ below (Q_Tokens_start K D ca ad L r F9 B9 A) args s 0 0 A) (F0 m 113 ls [.int (iI s2), .int (iI s1), .ref (ad 10 s0 (5 + 1))]) := by
  obtain ⟨hx, hb, hr, hml, hown, hts, hlk, hK, hA, hL, hX⟩ := id X
  replace hf : (if 0 ≤ s0 ∧ s0 < K.2 10 then if 0 ≤ s1 ∧ s1 < 3001 then if 0 ≤ l0 ∧ l0 < K.2 10 then if r32 l5 then if 0 ≤ l3 ∧ l3 < 3001 then f_Tokens_start_123 rec7 K l6 l4 l3 l0 l1 F (zup4 (zup4 B 10 s0 5 s1 s2) 10 l0 7 l3 l5) else none else none else none else none else none) = some (r, F9, B9) := hf
  obtain ⟨g25, hf⟩ := gif hf
  obtain ⟨g26, hf⟩ := gif hf
  refine zast (ci := 10) (k := 5) hx hb hK rfl hZ hS g25.1 g25.2 rfl (Nat.le_of_ble_eq_true rfl) g26.1 g26.2 d_12_2_113 (fun H27 locs27 hZ27 hS27 => ?_)
  refine lv_aload_n hx hb d_12_2_114 rfl (lv_at hl 4 rfl) ?_
  obtain ⟨g28, hf⟩ := gif hf
  refine zget (ci := 10) (C := RX10) (T := TX10) (v := .ref (ad 10 l0 (7 + 1))) (k := 7) hx hb hts inW_10 hown hK hZ27 g28.1 g28.2 rfl (by decide) k_1_84 rfl d_12_2_115 ?_
  refine lv_iload_n hx hb d_12_2_118 rfl (lv_at hl 3 rfl) ?_
  refine lv_iload hx hb d_12_2_119 (lv_at hl 1 rfl) ?_
  obtain ⟨g29, hf⟩ := gif hf
  refine zi2l hx hb g29 d_12_2_121 ?_
  obtain ⟨g30, hf⟩ := gif hf
  refine zlast (ci := 10) (k := 7) hx hb hK rfl hZ27 hS27 g28.1 g28.2 rfl (Nat.le_of_ble_eq_true rfl) g30.1 g30.2 d_12_2_122 (fun H31 locs31 hZ31 hS31 => ?_)
  exact b_Tokens_start_123 X hrec7 hf hZ31 hS31 (lv_sub hl [0, 2, 3, 4, 5] rfl)

noncomputable def f_Tokens_start_63 (rec7 : Int → Int → Int → Int → Int → zF → zB → zO) (K : zK) (l5 : Int) (l4 : Int) (l3 : Int) (l2 : Int) (l0 : Int) (l1 : Int) (s0 : Int) (F : zF) (B : zB) : zO := if 0 ≤ l0 ∧ l0 < K.2 10 then if 0 ≤ l3 ∧ l3 < 3001 then zbind (f_Tokens_isRunByte K l5 F (zup4 B 10 l0 6 l3 l2)) (fun r18 F18 B18 => if r32 r18 then (if r18 = 0 then zbind (f_CString_indexOf_0 K 22 (zi2c l5) F18 B18) (fun r21 F21 B21 => if r32 r21 then (if r21 < 0 then f_Tokens_start_113 rec7 K s0 l5 l4 l3 l0 l1 l0 l3 1 F21 B21 else f_Tokens_start_113 rec7 K s0 l5 l4 l3 l0 l1 l0 l3 5 F21 B21) else none) else zbind (f_Tokens_keepRun K l0 l1 l3 l2 s0 F18 B18) (fun r24 F24 B24 => f_Tokens_start_123 rec7 K s0 l4 l3 l0 l1 F24 B24)) else none) else none else none
set_option maxHeartbeats 4000000 in
set_option maxRecDepth 100000 in
theorem b_Tokens_start_63 {D : va_G} {ca : Nat → ClassId} {ad : Nat → Int → Nat → Nat} {L : List Nat} {aS vS : Nat → Nat} {A : Nat → Prop} {p : Program} {l : Launch} {e : Env} {s : State} {m : MethodId} {args : Array Value} {below : List Frame} {meth : Method} {c : Code} {K : zK} {r : Int} {F9 : zF} {B9 : zB} (X : zX D ca L aS vS A p s m args meth c prog_12_method_2_code 7 (Option.none : Option Jvm.ClassFile.FieldType) "StaveHouse$Tokens") {rec7 : Int → Int → Int → Int → Int → zF → zB → zO} (hrec7 : ∀ {l4 : Int} {l3 : Int} {l2 : Int} {l0 : Int} {l1 : Int} {F : zF} {B : zB} {H : Heap} {locs : List Loc} {ls : Array Slot}, rec7 l4 l3 l2 l0 l1 F B = some (r, F9, B9) → zH D ca ad lnC K.2 L F B A H → va_S A s.heap H locs → lv_has ls 7 [(4, .int (iI l4)), (3, .int (iI l3)), (2, .int (iI l2)), (0, .ref (ad 10 l0 0)), (1, .ref (ad 0 l1 0))] → W p l e ({ frames := 4, cells := 0, slots := 0, locals := 91 } : Room) s m args below meth c H locs 0 0 (MQ below (Q_Tokens_start K D ca ad L r F9 B9 A) args s 0 0 A) (F0 m 7 ls [])) {l5 : Int} {l4 : Int} {l3 : Int} {l2 : Int} {l0 : Int} {l1 : Int} {s0 : Int} {F : zF} {B : zB} {H : Heap} {locs : List Loc} {ls : Array Slot} (hf : f_Tokens_start_63 rec7 K l5 l4 l3 l2 l0 l1 s0 F B = some (r, F9, B9)) (hZ : zH D ca ad lnC K.2 L F B A H) (hS : va_S A s.heap H locs) (hl : lv_has ls 7 [(5, .int (iI l5)), (4, .int (iI l4)), (3, .int (iI l3)), (2, .int (iI l2)), (0, .ref (ad 10 l0 0)), (1, .ref (ad 0 l1 0))]) : W p l e ({ frames := 4, cells := 0, slots := 0, locals := 91 } : Room) s m args below meth c H locs 0 0 (MQ below (Q_Tokens_start K D ca ad L r F9 B9 A) args s 0 0 A) (F0 m 63 ls [.int (iI s0)]) := by
  obtain ⟨hx, hb, hr, hml, hown, hts, hlk, hK, hA, hL, hX⟩ := id X
  replace hf : (if 0 ≤ l0 ∧ l0 < K.2 10 then if 0 ≤ l3 ∧ l3 < 3001 then zbind (f_Tokens_isRunByte K l5 F (zup4 B 10 l0 6 l3 l2)) (fun r18 F18 B18 => if r32 r18 then (if r18 = 0 then zbind (f_CString_indexOf_0 K 22 (zi2c l5) F18 B18) (fun r21 F21 B21 => if r32 r21 then (if r21 < 0 then f_Tokens_start_113 rec7 K s0 l5 l4 l3 l0 l1 l0 l3 1 F21 B21 else f_Tokens_start_113 rec7 K s0 l5 l4 l3 l0 l1 l0 l3 5 F21 B21) else none) else zbind (f_Tokens_keepRun K l0 l1 l3 l2 s0 F18 B18) (fun r24 F24 B24 => f_Tokens_start_123 rec7 K s0 l4 l3 l0 l1 F24 B24)) else none) else none else none) = some (r, F9, B9) := hf
  refine lv_istore (lv' := [(6, .int (iI s0)), (5, .int (iI l5)), (4, .int (iI l4)), (3, .int (iI l3)), (2, .int (iI l2)), (0, .ref (ad 10 l0 0)), (1, .ref (ad 0 l1 0))]) hx hb d_12_2_63 hl (by decide) rfl (fun ls hl => ?_)
  refine lv_aload_n hx hb d_12_2_65 rfl (lv_at hl 5 rfl) ?_
  obtain ⟨g15, hf⟩ := gif hf
  refine zget (ci := 10) (C := RX10) (T := TX10) (v := .ref (ad 10 l0 (6 + 1))) (k := 6) hx hb hts inW_10 hown hK hZ g15.1 g15.2 rfl (by decide) k_1_83 rfl d_12_2_66 ?_
  refine lv_iload_n hx hb d_12_2_69 rfl (lv_at hl 3 rfl) ?_
  refine lv_iload_n hx hb d_12_2_70 rfl (lv_at hl 4 rfl) ?_
  obtain ⟨g16, hf⟩ := gif hf
  refine zast (ci := 10) (k := 6) hx hb hK rfl hZ hS g15.1 g15.2 rfl (Nat.le_of_ble_eq_true rfl) g16.1 g16.2 d_12_2_71 (fun H17 locs17 hZ17 hS17 => ?_)
  refine lv_iload hx hb d_12_2_72 (lv_at hl 1 rfl) ?_
  obtain ⟨r18, F18, B18, hc18, hf⟩ := gbind hf
  refine va_calli (va_runS (As := [.int (iI l5)]) (rest := []) ⟨hx, hb, hml, hown, hts⟩ (c_Tokens_isRunByte (l := l) hc18) (va_cwS 1 hts (gdS k_3_41 k_3_42 k_1_5 k_3_43) rfl rfl rfl (by decide +kernel) ⟨Nat.le_of_ble_eq_true rfl, Nat.le_of_ble_eq_true rfl⟩) (zPS X hZ17 hS17 [.int (iI l5)]) rfl rfl hl.1 rfl (lv_room (Nat.le_of_ble_eq_true rfl)) d_12_2_74 ⟨Nat.le_of_ble_eq_true rfl, Nat.le_of_ble_eq_true rfl⟩) hS17 (fun q _ h => zAin X hS17 q h) (zAin X hS17) (fun p18 u18 t18 H18 locs18 ht18 hv18 hw18 hB18 hz18 hk18 hS18 => ?_)
  have hZ18 := zBack X ht18 hB18
  subst hw18
  obtain ⟨g19, hf⟩ := gif hf
  refine z0eq (tgt := 92) hx hb g19 d_12_2_77 (by decide) (fun h20 => ?_) (fun h20 => ?_)
  · replace hf := gpos hf h20
    refine lv_aload_n hx hb d_12_2_92 rfl (lv_at hl 5 rfl) ?_
    refine zget (ci := 10) (C := RX10) (T := TX10) (v := .ref (ad 10 l0 (5 + 1))) (k := 5) hx hb hts inW_10 hown hK hZ18 g15.1 g15.2 rfl (by decide) k_1_82 rfl d_12_2_93 ?_
    refine lv_iload_n hx hb d_12_2_96 rfl (lv_at hl 3 rfl) ?_
    refine va_ldcS hx hb hown (hX.2.2.2.2.1 22 _ rfl).1 d_12_2_97 ?_
    refine lv_iload hx hb d_12_2_99 (lv_at hl 1 rfl) ?_
    refine zi2c_r hx hb d_12_2_101 ?_
    obtain ⟨r21, F21, B21, hc21, hf⟩ := gbind hf
    refine va_calli (va_runV (As := [.int (iI (zi2c l5))]) (rest := [.int (iI l3), .ref (ad 10 l0 (5 + 1))]) ⟨hx, hb, hml, hown, hts⟩ (c_CString_indexOf_0 (l := l) hc21) (cwV 1 hts (gdV k_3_67 k_3_68 k_3_69 k_1_11 k_3_70) rfl rfl rfl (by decide +kernel) ⟨Nat.le_of_ble_eq_true rfl, Nat.le_of_ble_eq_true rfl⟩) ⟨zBlind, zsrecv hX (by decide) hS18, zAt X hZ18 hS18 [.ref (aS 22), .int (iI (zi2c l5))]⟩ rfl rfl hl.1 rfl (lv_room (Nat.le_of_ble_eq_true rfl)) d_12_2_102 ⟨Nat.le_of_ble_eq_true rfl, Nat.le_of_ble_eq_true rfl⟩) hS18 (fun q _ h => zAin X hS18 q h) (zAin X hS18) (fun p21 u21 t21 H21 locs21 ht21 hv21 hw21 hB21 hz21 hk21 hS21 => ?_)
    have hZ21 := zBack X ht21 hB21
    subst hw21
    obtain ⟨g22, hf⟩ := gif hf
    refine z0lt (tgt := 112) hx hb g22 d_12_2_105 (by decide) (fun h23 => ?_) (fun h23 => ?_)
    · replace hf := gpos hf h23
      refine lv_iconst (v := iI 1) hx hb d_12_2_112 rfl ?_
      exact b_Tokens_start_113 X hrec7 hf hZ21 hS21 (lv_sub hl [0, 1, 2, 3, 5, 6] rfl)
    · replace hf := gneg hf h23
      refine lv_iconst (v := iI 5) hx hb d_12_2_108 rfl ?_
      refine lv_goto (tgt := 113) hx hb d_12_2_109 (by decide) ?_
      exact b_Tokens_start_113 X hrec7 hf hZ21 hS21 (lv_sub hl [0, 1, 2, 3, 5, 6] rfl)
  · replace hf := gneg hf h20
    refine lv_aload_n hx hb d_12_2_80 rfl (lv_at hl 5 rfl) ?_
    refine lv_aload_n hx hb d_12_2_81 rfl (lv_at hl 6 rfl) ?_
    refine lv_iload_n hx hb d_12_2_82 rfl (lv_at hl 3 rfl) ?_
    refine lv_iload_n hx hb d_12_2_83 rfl (lv_at hl 4 rfl) ?_
    refine lv_iload hx hb d_12_2_84 (lv_at hl 0 rfl) ?_
    obtain ⟨r24, F24, B24, hc24, hf⟩ := gbind hf
    refine va_callv (va_runV (As := [.ref (ad 0 l1 0), .int (iI l3), .int (iI l2), .int (iI s0)]) (rest := []) ⟨hx, hb, hml, hown, hts⟩ (c_Tokens_keepRun (l := l) hc24) (cwV 4 hts (gdV k_3_53 k_3_55 ks_1 k_1_5 k_3_56) rfl rfl rfl (by decide +kernel) ⟨Nat.le_of_ble_eq_true rfl, Nat.le_of_ble_eq_true rfl⟩) (zPV X hZ18 hS18 (ci := 10) g15.1 g15.2 (r := (RX10, TX10, 9)) rfl [.ref (ad 0 l1 0), .int (iI l3), .int (iI l2), .int (iI s0)]) rfl rfl hl.1 rfl (lv_room (Nat.le_of_ble_eq_true rfl)) d_12_2_86 ⟨Nat.le_of_ble_eq_true rfl, Nat.le_of_ble_eq_true rfl⟩) hS18 (fun q _ h => zAin X hS18 q h) (zAin X hS18) (fun u24 t24 H24 locs24 ht24 hv24 hw24 hB24 hz24 hk24 hS24 => ?_)
    have hZ24 := zBack X ht24 hB24
    refine lv_goto (tgt := 123) hx hb d_12_2_89 (by decide) ?_
    exact b_Tokens_start_123 X hrec7 hf hZ24 hS24 (lv_sub hl [0, 2, 3, 5, 6] rfl)

noncomputable def f_Tokens_start_7 (K : zK) : Nat → Int → Int → Int → Int → Int → zF → zB → zO
  | 0, _, _, _, _, _, _, _ => none
  | n + 1, l4, l3, l2, l0, l1, F, B => if r32 l4 then (if 3000 ≤ l4 then f_Tokens_start_135 K l3 l0 l1 F B else if 0 ≤ l1 ∧ l1 < K.2 0 then if r32 l2 then if r32 (F 0 l1 1) then (if (F 0 l1 1) ≤ l2 then f_Tokens_start_135 K l3 l0 l1 F B else zbind (f_ByteRow_at K l1 l2 F B) (fun r7 F7 B7 => zbind (f_Tokens_isBlank K r7 F7 B7) (fun r8 F8 B8 => if r32 r8 then (if r8 = 0 then zbind (f_Tokens_isRunByte K r7 F8 B8) (fun r11 F11 B11 => if r32 r11 then (if r11 = 0 then f_Tokens_start_63 (f_Tokens_start_7 K n) K r7 l4 l3 l2 l0 l1 (l2 + 1) F11 B11 else zbind (f_Tokens_runEnd K l1 l2 F11 B11) (fun r14 F14 B14 => f_Tokens_start_63 (f_Tokens_start_7 K n) K r7 l4 l3 l2 l0 l1 r14 F14 B14)) else none) else f_Tokens_start_129 (f_Tokens_start_7 K n) K (l2 + 1) l4 l3 l0 l1 F8 B8) else none))) else none else none else none) else none
