set_option maxHeartbeats 4000000 in
set_option maxRecDepth 100000 in
theorem c_Layout_lead {l : Launch} {D : va_G} {ca : Nat → ClassId} {ad : Nat → Int → Nat → Nat} {L : List Nat} {aS vS : Nat → Nat} {sz : Nat} {K : zK}  {l0 : Int} {l1 : Int} {F F9 : zF} {B B9 : zB} {r : Int} (hf : f_Layout_lead K l0 l1 F B = some (r, F9, B9)) : Met l ({ cls := "StaveHouse$Layout", name := "lead", desc := "(LStaveHouse$Piece;I)I" } : Jvm.MethodName) (Cond.code ({ cls := "StaveHouse$Layout", name := "lead", desc := "(LStaveHouse$Piece;I)I" } : Jvm.MethodName) prog_4_method_8_code 2 (Option.some Jvm.ClassFile.FieldType.int) :: wAll) ({ frames := 1, cells := 0, slots := 0, locals := 15 } : Room) (va_Pc [.ref (ad 6 l0 0), .int (iI l1)] (zPre D ca ad lnC K.2 L aS vS F B sz)) (Q_Layout_lead K D ca ad L r F9 B9 (zA L sz)) 0 0 (zA L sz) := by
  refine zMet (Qc := Q_Layout_lead K D ca ad L r F9 B9) (lv := [(0, .ref (ad 6 l0 0)), (1, .int (iI l1))]) (by decide) (Nat.le_of_ble_eq_true rfl) rfl (fun A p e s m below meth c ls X hZ hS hl => ?_)
  obtain ⟨hx, hb, hr, hml, hown, hts, hlk, hK, hA, hL, hX⟩ := id X
  replace hf : (if 0 ≤ l0 ∧ l0 < K.2 6 then if r32 (F 6 l0 2) then if r32 l1 then (if l1 = 0 then f_Layout_lead_22 K (24 + (5 * (zabs (F 6 l0 2)))) 12 F B else f_Layout_lead_22 K (24 + (5 * (zabs (F 6 l0 2)))) 0 F B) else none else none else none) = some (r, F9, B9) := hf
  refine lv_bipush (v := iI 24) hx hb d_4_8_0 (by decide) ?_
  refine lv_iconst (v := iI 5) hx hb d_4_8_2 rfl ?_
  refine lv_aload_n hx hb d_4_8_3 rfl (lv_at hl 0 rfl) ?_
  obtain ⟨g1, hf⟩ := gif hf
  refine zget (ci := 6) (C := RX6) (T := TX6) (v := .int (iI (F 6 l0 2))) (k := 2) hx hb hts inW_6 hown hK hZ g1.1 g1.2 rfl (by decide) k_2_196 rfl d_4_8_4 ?_
  obtain ⟨g2, hf⟩ := gif hf
  refine va_mabs hx hb (by rw [hml]; exact hl.1.symm) hown (hts _ k_7_53) (hts _ k_4_229) (hts _ k_1_3) (hts _ k_4_230) (Nat.le_of_ble_eq_true rfl) (Nat.le_of_ble_eq_true rfl) (Nat.le_of_ble_eq_true rfl) (Nat.le_of_ble_eq_true rfl) d_4_8_7 ?_
  rw [zabs_e g2]
  refine zmul hx hb d_4_8_10 ?_
  refine zadd hx hb d_4_8_11 ?_
  refine lv_iload_n hx hb d_4_8_12 rfl (lv_at hl 1 rfl) ?_
  obtain ⟨g3, hf⟩ := gif hf
  refine z0ne (tgt := 21) hx hb g3 d_4_8_13 (by decide) (fun h4 => ?_) (fun h4 => ?_)
  · replace hf := gneg hf h4
    refine lv_iconst (v := iI 0) hx hb d_4_8_21 rfl ?_
    exact b_Layout_lead_22 X hf hZ hS (lv_sub hl [] rfl)
  · replace hf := gpos hf h4
    refine lv_bipush (v := iI 12) hx hb d_4_8_16 (by decide) ?_
    refine lv_goto (tgt := 22) hx hb d_4_8_18 (by decide) ?_
    exact b_Layout_lead_22 X hf hZ hS (lv_sub hl [] rfl)

noncomputable abbrev Q_Layout_price (K : zK) (D : va_G) (ca : Nat → ClassId) (ad : Nat → Int → Nat → Nat) (L : List Nat) (r : Int) (F : zF) (B : zB) (A : Nat → Prop) : Array Value → State → Outcome → State → Prop := va_Ql (S := Unit) (fun p _ => p = lI r) (fun _ => zPo D ca ad lnC K.2 L F B A) A
noncomputable def f_Layout_price_34 (K : zK) (s0 : Int) (F : zF) (B : zB) : zO := some (s0, F, B)
set_option maxHeartbeats 4000000 in
set_option maxRecDepth 100000 in
theorem b_Layout_price_34 {D : va_G} {ca : Nat → ClassId} {ad : Nat → Int → Nat → Nat} {L : List Nat} {aS vS : Nat → Nat} {A : Nat → Prop} {p : Program} {l : Launch} {e : Env} {s : State} {m : MethodId} {args : Array Value} {below : List Frame} {meth : Method} {c : Code} {K : zK} {r : Int} {F9 : zF} {B9 : zB} (X : zX D ca L aS vS A p s m args meth c prog_4_method_11_code 5 (Option.some Jvm.ClassFile.FieldType.long) "StaveHouse$Layout") {s0 : Int} {F : zF} {B : zB} {H : Heap} {locs : List Loc} {ls : Array Slot} (hf : f_Layout_price_34 K s0 F B = some (r, F9, B9)) (hZ : zH D ca ad lnC K.2 L F B A H) (hS : va_S A s.heap H locs) (hl : lv_has ls 5 []) : W p l e ({ frames := 0, cells := 0, slots := 0, locals := 0 } : Room) s m args below meth c H locs 0 0 (MQ below (Q_Layout_price K D ca ad L r F9 B9 A) args s 0 0 A) (F0 m 34 ls [.long (lI s0)]) := by
  obtain ⟨hx, hb, hr, hml, hown, hts, hlk, hK, hA, hL, hX⟩ := id X
  replace hf : (some (s0, F, B)) = some (r, F9, B9) := hf
  cases hf
  exact W.lret hx hb hr (fun t ht hW => ⟨⟨_, (), rfl, rfl, by rw [ht]; exact hZ, va_K.moved hW.alike hK⟩, hS.F ht⟩) hS.2.2 d_4_11_34 hlk

noncomputable def f_Layout_price (K : zK) (l0 : Int) (l2 : Int) (l4 : Int) (F : zF) (B : zB) : zO := if r64 l2 then if r64 l0 then (if (zcmp l2 l0) ≤ 0 then if r32 l4 then (if l4 = 0 then f_Layout_price_34 K ((l0 - l2) * (l0 - l2)) F B else f_Layout_price_34 K 0 F B) else none else some ((4 * (l2 - l0)) * (l2 - l0), F, B)) else none else none
set_option maxHeartbeats 4000000 in
set_option maxRecDepth 100000 in
theorem c_Layout_price {l : Launch} {D : va_G} {ca : Nat → ClassId} {ad : Nat → Int → Nat → Nat} {L : List Nat} {aS vS : Nat → Nat} {sz : Nat} {K : zK}  {l0 : Int} {l2 : Int} {l4 : Int} {F F9 : zF} {B B9 : zB} {r : Int} (hf : f_Layout_price K l0 l2 l4 F B = some (r, F9, B9)) : Met l ({ cls := "StaveHouse$Layout", name := "price", desc := "(JJZ)J" } : Jvm.MethodName) (Cond.code ({ cls := "StaveHouse$Layout", name := "price", desc := "(JJZ)J" } : Jvm.MethodName) prog_4_method_11_code 5 (Option.some Jvm.ClassFile.FieldType.long) :: wAll) ({ frames := 0, cells := 0, slots := 0, locals := 0 } : Room) (va_Pc [.long (lI l0), .long (lI l2), .int (iI l4)] (zPre D ca ad lnC K.2 L aS vS F B sz)) (Q_Layout_price K D ca ad L r F9 B9 (zA L sz)) 0 0 (zA L sz) := by
  refine zMet (Qc := Q_Layout_price K D ca ad L r F9 B9) (lv := [(0, .long (lI l0)), (2, .long (lI l2)), (4, .int (iI l4))]) (by decide) (Nat.le_of_ble_eq_true rfl) rfl (fun A p e s m below meth c ls X hZ hS hl => ?_)
  obtain ⟨hx, hb, hr, hml, hown, hts, hlk, hK, hA, hL, hX⟩ := id X
  replace hf : (if r64 l2 then if r64 l0 then (if (zcmp l2 l0) ≤ 0 then if r32 l4 then (if l4 = 0 then f_Layout_price_34 K ((l0 - l2) * (l0 - l2)) F B else f_Layout_price_34 K 0 F B) else none else some ((4 * (l2 - l0)) * (l2 - l0), F, B)) else none else none) = some (r, F9, B9) := hf
  refine lv_lload_n hx hb d_4_11_0 rfl (lv_at hl 1 rfl) ?_
  refine lv_lload_n hx hb d_4_11_1 rfl (lv_at hl 0 rfl) ?_
  obtain ⟨g1, hf⟩ := gif hf
  obtain ⟨g2, hf⟩ := gif hf
  refine zcmp_r hx hb g1 g2 d_4_11_2 ?_
  refine z0le (tgt := 18) hx hb zcmp_32 d_4_11_3 (by decide) (fun h3 => ?_) (fun h3 => ?_)
  · replace hf := gpos hf h3
    refine lv_iload hx hb d_4_11_18 (lv_at hl 2 rfl) ?_
    obtain ⟨g4, hf⟩ := gif hf
    refine z0eq (tgt := 27) hx hb g4 d_4_11_20 (by decide) (fun h5 => ?_) (fun h5 => ?_)
    · replace hf := gpos hf h5
      refine lv_lload_n hx hb d_4_11_27 rfl (lv_at hl 0 rfl) ?_
      refine lv_lload_n hx hb d_4_11_28 rfl (lv_at hl 1 rfl) ?_
      refine zlsub hx hb d_4_11_29 ?_
      refine lv_lload_n hx hb d_4_11_30 rfl (lv_at hl 0 rfl) ?_
      refine lv_lload_n hx hb d_4_11_31 rfl (lv_at hl 1 rfl) ?_
      refine zlsub hx hb d_4_11_32 ?_
      refine zlmul hx hb d_4_11_33 ?_
      exact b_Layout_price_34 X hf hZ hS (lv_sub hl [] rfl)
    · replace hf := gneg hf h5
      refine lv_lconst (v := lI 0) hx hb d_4_11_23 (by decide) ?_
      refine lv_goto (tgt := 34) hx hb d_4_11_24 (by decide) ?_
      exact b_Layout_price_34 X hf hZ hS (lv_sub hl [] rfl)
  · replace hf := gneg hf h3
    refine lv_ldc2 hx hb hown (hts _ k_7_58) d_4_11_6 ?_
    refine W.eq (g2 := F0 m 9 ls [.long (lI 4)]) rfl ?_
    refine lv_lload_n hx hb d_4_11_9 rfl (lv_at hl 1 rfl) ?_
    refine lv_lload_n hx hb d_4_11_10 rfl (lv_at hl 0 rfl) ?_
    refine zlsub hx hb d_4_11_11 ?_
    refine zlmul hx hb d_4_11_12 ?_
    refine lv_lload_n hx hb d_4_11_13 rfl (lv_at hl 1 rfl) ?_
    refine lv_lload_n hx hb d_4_11_14 rfl (lv_at hl 0 rfl) ?_
    refine zlsub hx hb d_4_11_15 ?_
    refine zlmul hx hb d_4_11_16 ?_
    cases hf
    exact W.lret hx hb hr (fun t ht hW => ⟨⟨_, (), rfl, rfl, by rw [ht]; exact hZ, va_K.moved hW.alike hK⟩, hS.F ht⟩) hS.2.2 d_4_11_17 hlk

noncomputable abbrev Q_Layout_widthOf (K : zK) (D : va_G) (ca : Nat → ClassId) (ad : Nat → Int → Nat → Nat) (L : List Nat) (r : Int) (F : zF) (B : zB) (A : Nat → Prop) : Array Value → State → Outcome → State → Prop := va_Qi (S := Unit) (fun p _ => p = iI r) (fun _ => zPo D ca ad lnC K.2 L F B A) A
noncomputable def f_Layout_widthOf_10 (K : zK) : Nat → Int → Int → Int → Int → zF → zB → zO
  | 0, _, _, _, _, _, _ => none
  | n + 1, l5, l4, l0, l3, F, B => if r32 l5 then if r32 l3 then (if l3 ≤ l5 then some (l4, F, B) else if 0 ≤ l0 ∧ l0 < K.2 2 then if 0 ≤ l5 ∧ l5 < 100 then f_Layout_widthOf_10 K n (l5 + 1) (l4 + (B 2 l0 6 l5)) l0 l3 F B else none else none) else none else none
set_option maxHeartbeats 4000000 in
set_option maxRecDepth 100000 in
theorem b_Layout_widthOf_10 {D : va_G} {ca : Nat → ClassId} {ad : Nat → Int → Nat → Nat} {L : List Nat} {aS vS : Nat → Nat} {A : Nat → Prop} {p : Program} {l : Launch} {e : Env} {s : State} {m : MethodId} {args : Array Value} {below : List Frame} {meth : Method} {c : Code} {K : zK} {r : Int} {F9 : zF} {B9 : zB} (X : zX D ca L aS vS A p s m args meth c prog_4_method_9_code 6 (Option.some Jvm.ClassFile.FieldType.int) "StaveHouse$Layout") : ∀ {n : Nat} {l5 : Int} {l4 : Int} {l0 : Int} {l3 : Int} {F : zF} {B : zB} {H : Heap} {locs : List Loc} {ls : Array Slot}, f_Layout_widthOf_10 K n l5 l4 l0 l3 F B = some (r, F9, B9) → zH D ca ad lnC K.2 L F B A H → va_S A s.heap H locs → lv_has ls 6 [(5, .int (iI l5)), (4, .int (iI l4)), (0, .ref (ad 2 l0 0)), (3, .int (iI l3))] → W p l e ({ frames := 2, cells := 0, slots := 0, locals := 36 } : Room) s m args below meth c H locs 0 0 (MQ below (Q_Layout_widthOf K D ca ad L r F9 B9 A) args s 0 0 A) (F0 m 10 ls []) := by
  obtain ⟨hx, hb, hr, hml, hown, hts, hlk, hK, hA, hL, hX⟩ := id X
  intro n
  induction n with
  | zero =>
    intros
    rename_i hf _ _ _
    cases hf
  | succ n ih =>
    intro l5 l4 l0 l3 F B H locs ls hf hZ hS hl
    replace hf : (if r32 l5 then if r32 l3 then (if l3 ≤ l5 then some (l4, F, B) else if 0 ≤ l0 ∧ l0 < K.2 2 then if 0 ≤ l5 ∧ l5 < 100 then f_Layout_widthOf_10 K n (l5 + 1) (l4 + (B 2 l0 6 l5)) l0 l3 F B else none else none) else none else none) = some (r, F9, B9) := hf
    refine lv_iload hx hb d_4_9_10 (lv_at hl 0 rfl) ?_
    refine lv_iload_n hx hb d_4_9_12 rfl (lv_at hl 3 rfl) ?_
    obtain ⟨g2, hf⟩ := gif hf
    obtain ⟨g3, hf⟩ := gif hf
    refine zge (tgt := 34) hx hb g2 g3 d_4_9_13 (by decide) (fun h4 => ?_) (fun h4 => ?_)
    · replace hf := gpos hf h4
      refine lv_iload hx hb d_4_9_34 (lv_at hl 1 rfl) ?_
      cases hf
      exact W.iret hx hb hr (fun t ht hW => ⟨⟨_, (), rfl, rfl, by rw [ht]; exact hZ, va_K.moved hW.alike hK⟩, hS.F ht⟩) hS.2.2 d_4_9_36 hlk
    · replace hf := gneg hf h4
      refine lv_iload hx hb d_4_9_16 (lv_at hl 1 rfl) ?_
      refine lv_aload_n hx hb d_4_9_18 rfl (lv_at hl 2 rfl) ?_
      obtain ⟨g5, hf⟩ := gif hf
      refine zget (ci := 2) (C := RX2) (T := TX2) (v := .ref (ad 2 l0 (6 + 1))) (k := 6) hx hb hts inW_2 hown hK hZ g5.1 g5.2 rfl (by decide) k_6_223 rfl d_4_9_19 ?_
      refine lv_iload hx hb d_4_9_22 (lv_at hl 0 rfl) ?_
      obtain ⟨g6, hf⟩ := gif hf
      refine zald (ci := 2) (k := 6) hx hb hK rfl hZ g5.1 g5.2 rfl (Nat.le_of_ble_eq_true rfl) g6.1 g6.2 d_4_9_24 ?_
      refine zadd hx hb d_4_9_25 ?_
      refine lv_istore (lv' := [(4, .int (iI (l4 + (B 2 l0 6 l5)))), (5, .int (iI l5)), (0, .ref (ad 2 l0 0)), (3, .int (iI l3))]) hx hb d_4_9_26 hl (by decide) rfl (fun ls hl => ?_)
      refine lv_iinc (v := iI (l5 + 1)) (lv' := [(5, .int (iI (l5 + 1))), (4, .int (iI (l4 + (B 2 l0 6 l5)))), (0, .ref (ad 2 l0 0)), (3, .int (iI l3))]) hx hb d_4_9_28 hl (k := 1) rfl (iI_add _ 1) (by decide) rfl (fun ls hl => ?_)
      refine lv_goto (tgt := 10) hx hb d_4_9_31 (by decide) ?_
      exact ih hf hZ hS (lv_sub hl [0, 1, 2, 3] rfl)

noncomputable def f_Layout_widthOf (K : zK) (l0 : Int) (l1 : Int) (l2 : Int) (l3 : Int) (F : zF) (B : zB) : zO := zbind (f_Layout_lead K l1 l2 F B) (fun r1 F1 B1 => f_Layout_widthOf_10 K K.1 l2 r1 l0 l3 F1 B1)
set_option maxHeartbeats 4000000 in
set_option maxRecDepth 100000 in
theorem c_Layout_widthOf {l : Launch} {D : va_G} {ca : Nat → ClassId} {ad : Nat → Int → Nat → Nat} {L : List Nat} {aS vS : Nat → Nat} {sz : Nat} {K : zK}  {l0 : Int} {l1 : Int} {l2 : Int} {l3 : Int} {F F9 : zF} {B B9 : zB} {r : Int} (hf : f_Layout_widthOf K l0 l1 l2 l3 F B = some (r, F9, B9)) : Met l ({ cls := "StaveHouse$Layout", name := "widthOf", desc := "(LStaveHouse$Piece;II)I" } : Jvm.MethodName) (Cond.code ({ cls := "StaveHouse$Layout", name := "widthOf", desc := "(LStaveHouse$Piece;II)I" } : Jvm.MethodName) prog_4_method_9_code 6 (Option.some Jvm.ClassFile.FieldType.int) :: wAll) ({ frames := 2, cells := 0, slots := 0, locals := 36 } : Room) (va_Pc [.ref (ad 2 l0 0), .ref (ad 6 l1 0), .int (iI l2), .int (iI l3)] (zPre D ca ad lnC K.2 L aS vS F B sz)) (Q_Layout_widthOf K D ca ad L r F9 B9 (zA L sz)) 0 0 (zA L sz) := by
  refine zMet (Qc := Q_Layout_widthOf K D ca ad L r F9 B9) (lv := [(0, .ref (ad 2 l0 0)), (1, .ref (ad 6 l1 0)), (2, .int (iI l2)), (3, .int (iI l3))]) (by decide) (Nat.le_of_ble_eq_true rfl) rfl (fun A p e s m below meth c ls X hZ hS hl => ?_)
  obtain ⟨hx, hb, hr, hml, hown, hts, hlk, hK, hA, hL, hX⟩ := id X
  replace hf : (zbind (f_Layout_lead K l1 l2 F B) (fun r1 F1 B1 => f_Layout_widthOf_10 K K.1 l2 r1 l0 l3 F1 B1)) = some (r, F9, B9) := hf
  refine lv_aload_n hx hb d_4_9_0 rfl (lv_at hl 1 rfl) ?_
  refine lv_iload_n hx hb d_4_9_1 rfl (lv_at hl 2 rfl) ?_
  obtain ⟨r1, F1, B1, hc1, hf⟩ := gbind hf
  refine va_calli (va_runS (As := [.ref (ad 6 l1 0), .int (iI l2)]) (rest := []) ⟨hx, hb, hml, hown, hts⟩ (c_Layout_lead (l := l) hc1) (va_cwS 2 hts (gdS k_7_50 k_7_51 k_1_21 k_7_52) rfl rfl rfl (by decide +kernel) ⟨Nat.le_of_ble_eq_true rfl, Nat.le_of_ble_eq_true rfl⟩) (zPS X hZ hS [.ref (ad 6 l1 0), .int (iI l2)]) rfl rfl hl.1 rfl (lv_room (Nat.le_of_ble_eq_true rfl)) d_4_9_2 ⟨Nat.le_of_ble_eq_true rfl, Nat.le_of_ble_eq_true rfl⟩) hS (fun q _ h => zAin X hS q h) (zAin X hS) (fun p1 u1 t1 H1 locs1 ht1 hv1 hw1 hB1 hz1 hk1 hS1 => ?_)
  have hZ1 := zBack X ht1 hB1
  subst hw1
  refine lv_istore (lv' := [(4, .int (iI r1)), (0, .ref (ad 2 l0 0)), (1, .ref (ad 6 l1 0)), (2, .int (iI l2)), (3, .int (iI l3))]) hx hb d_4_9_5 hl (by decide) rfl (fun ls hl => ?_)
  refine lv_iload_n hx hb d_4_9_7 rfl (lv_at hl 3 rfl) ?_
  refine lv_istore (lv' := [(5, .int (iI l2)), (4, .int (iI r1)), (0, .ref (ad 2 l0 0)), (1, .ref (ad 6 l1 0)), (2, .int (iI l2)), (3, .int (iI l3))]) hx hb d_4_9_8 hl (by decide) rfl (fun ls hl => ?_)
  exact b_Layout_widthOf_10 X hf hZ1 hS1 (lv_sub hl [0, 1, 2, 5] rfl)

noncomputable abbrev Q_Layout_setXs (K : zK) (D : va_G) (ca : Nat → ClassId) (ad : Nat → Int → Nat → Nat) (L : List Nat) (r : Int) (F : zF) (B : zB) (A : Nat → Prop) : Array Value → State → Outcome → State → Prop := va_Qv (S := Unit) (fun _ => True) (fun _ => zPo D ca ad lnC K.2 L F B A) A
noncomputable def f_Layout_setXs_108 (rec83 : Int → Int → Int → Int → Int → Int → Int → zF → zB → zO) (K : zK) : Nat → Int → Int → Int → Int → Int → Int → Int → Int → zF → zB → zO
  | 0, _, _, _, _, _, _, _, _, _, _ => none
  | n + 1, l9, l4, l8, l7, l6, l5, l0, l2, F, B => if 0 ≤ l0 ∧ l0 < K.2 2 then if 0 ≤ (l8 + 1) ∧ (l8 + 1) < 101 then if r32 l9 then if r32 (B 2 l0 5 (l8 + 1)) then (if (B 2 l0 5 (l8 + 1)) ≤ l9 then rec83 (l8 + 1) l7 l6 l5 l4 l0 l2 F B else if ¬ iI l6 = 0 then if 0 ≤ l9 ∧ l9 < 3200 then f_Layout_setXs_108 rec83 K n (l9 + 1) (l4 + ((zup4 B 2 l0 3 l9 (l4 + (zdv (l7 * (l9 - l5)) l6))) 2 l0 2 l9)) l8 l7 l6 l5 l0 l2 F (zup4 B 2 l0 3 l9 (l4 + (zdv (l7 * (l9 - l5)) l6))) else none else none) else none else none else none else none
set_option maxHeartbeats 4000000 in
set_option maxRecDepth 100000 in
theorem b_Layout_setXs_108 {D : va_G} {ca : Nat → ClassId} {ad : Nat → Int → Nat → Nat} {L : List Nat} {aS vS : Nat → Nat} {A : Nat → Prop} {p : Program} {l : Launch} {e : Env} {s : State} {m : MethodId} {args : Array Value} {below : List Frame} {meth : Method} {c : Code} {K : zK} {r : Int} {F9 : zF} {B9 : zB} (X : zX D ca L aS vS A p s m args meth c prog_4_method_12_code 10 (Option.none : Option Jvm.ClassFile.FieldType) "StaveHouse$Layout") {rec83 : Int → Int → Int → Int → Int → Int → Int → zF → zB → zO} (hrec83 : ∀ {l8 : Int} {l7 : Int} {l6 : Int} {l5 : Int} {l4 : Int} {l0 : Int} {l2 : Int} {F : zF} {B : zB} {H : Heap} {locs : List Loc} {ls : Array Slot}, rec83 l8 l7 l6 l5 l4 l0 l2 F B = some (r, F9, B9) → zH D ca ad lnC K.2 L F B A H → va_S A s.heap H locs → lv_has ls 10 [(8, .int (iI l8)), (7, .int (iI l7)), (6, .int (iI l6)), (5, .int (iI l5)), (4, .int (iI l4)), (0, .ref (ad 2 l0 0)), (2, .int (iI l2))] → W p l e ({ frames := 2, cells := 0, slots := 0, locals := 36 } : Room) s m args below meth c H locs 0 0 (MQ below (Q_Layout_setXs K D ca ad L r F9 B9 A) args s 0 0 A) (F0 m 83 ls [])) : ∀ {n : Nat} {l9 : Int} {l4 : Int} {l8 : Int} {l7 : Int} {l6 : Int} {l5 : Int} {l0 : Int} {l2 : Int} {F : zF} {B : zB} {H : Heap} {locs : List Loc} {ls : Array Slot}, f_Layout_setXs_108 rec83 K n l9 l4 l8 l7 l6 l5 l0 l2 F B = some (r, F9, B9) → zH D ca ad lnC K.2 L F B A H → va_S A s.heap H locs → lv_has ls 10 [(9, .int (iI l9)), (4, .int (iI l4)), (8, .int (iI l8)), (7, .int (iI l7)), (6, .int (iI l6)), (5, .int (iI l5)), (0, .ref (ad 2 l0 0)), (2, .int (iI l2))] → W p l e ({ frames := 2, cells := 0, slots := 0, locals := 36 } : Room) s m args below meth c H locs 0 0 (MQ below (Q_Layout_setXs K D ca ad L r F9 B9 A) args s 0 0 A) (F0 m 108 ls []) := by
  obtain ⟨hx, hb, hr, hml, hown, hts, hlk, hK, hA, hL, hX⟩ := id X
  intro n
  induction n with
  | zero =>
    intros
    rename_i hf _ _ _
    cases hf
  | succ n ih =>
    intro l9 l4 l8 l7 l6 l5 l0 l2 F B H locs ls hf hZ hS hl
    replace hf : (if 0 ≤ l0 ∧ l0 < K.2 2 then if 0 ≤ (l8 + 1) ∧ (l8 + 1) < 101 then if r32 l9 then if r32 (B 2 l0 5 (l8 + 1)) then (if (B 2 l0 5 (l8 + 1)) ≤ l9 then rec83 (l8 + 1) l7 l6 l5 l4 l0 l2 F B else if ¬ iI l6 = 0 then if 0 ≤ l9 ∧ l9 < 3200 then f_Layout_setXs_108 rec83 K n (l9 + 1) (l4 + ((zup4 B 2 l0 3 l9 (l4 + (zdv (l7 * (l9 - l5)) l6))) 2 l0 2 l9)) l8 l7 l6 l5 l0 l2 F (zup4 B 2 l0 3 l9 (l4 + (zdv (l7 * (l9 - l5)) l6))) else none else none) else none else none else none else none) = some (r, F9, B9) := hf
    refine lv_iload hx hb d_4_12_108 (lv_at hl 0 rfl) ?_
    refine lv_aload_n hx hb d_4_12_110 rfl (lv_at hl 6 rfl) ?_
    obtain ⟨g21, hf⟩ := gif hf
    refine zget (ci := 2) (C := RX2) (T := TX2) (v := .ref (ad 2 l0 (5 + 1))) (k := 5) hx hb hts inW_2 hown hK hZ g21.1 g21.2 rfl (by decide) k_6_222 rfl d_4_12_111 ?_
    refine lv_iload hx hb d_4_12_114 (lv_at hl 2 rfl) ?_
    refine lv_iconst (v := iI 1) hx hb d_4_12_116 rfl ?_
    refine zadd hx hb d_4_12_117 ?_
    obtain ⟨g22, hf⟩ := gif hf
    refine zald (ci := 2) (k := 5) hx hb hK rfl hZ g21.1 g21.2 rfl (Nat.le_of_ble_eq_true rfl) g22.1 g22.2 d_4_12_118 ?_
    obtain ⟨g23, hf⟩ := gif hf
    obtain ⟨g24, hf⟩ := gif hf
    refine zge (tgt := 161) hx hb g23 g24 d_4_12_119 (by decide) (fun h25 => ?_) (fun h25 => ?_)
    · replace hf := gpos hf h25
      refine lv_iinc (v := iI (l8 + 1)) (lv' := [(8, .int (iI (l8 + 1))), (9, .int (iI l9)), (4, .int (iI l4)), (7, .int (iI l7)), (6, .int (iI l6)), (5, .int (iI l5)), (0, .ref (ad 2 l0 0)), (2, .int (iI l2))]) hx hb d_4_12_161 hl (k := 2) rfl (iI_add _ 1) (by decide) rfl (fun ls hl => ?_)
      refine lv_goto (tgt := 83) hx hb d_4_12_164 (by decide) ?_
      exact hrec83 hf hZ hS (lv_sub hl [0, 3, 4, 5, 2, 6, 7] rfl)
    · replace hf := gneg hf h25
      refine lv_aload_n hx hb d_4_12_122 rfl (lv_at hl 6 rfl) ?_
      refine zget (ci := 2) (C := RX2) (T := TX2) (v := .ref (ad 2 l0 (3 + 1))) (k := 3) hx hb hts inW_2 hown hK hZ g21.1 g21.2 rfl (by decide) k_6_220 rfl d_4_12_123 ?_
      refine lv_iload hx hb d_4_12_126 (lv_at hl 0 rfl) ?_
      refine lv_iload hx hb d_4_12_128 (lv_at hl 1 rfl) ?_
      refine lv_iload hx hb d_4_12_130 (lv_at hl 3 rfl) ?_
      refine lv_iload hx hb d_4_12_132 (lv_at hl 0 rfl) ?_
      refine lv_iload hx hb d_4_12_134 (lv_at hl 5 rfl) ?_
      refine zsub hx hb d_4_12_136 ?_
      refine zmul hx hb d_4_12_137 ?_
      refine lv_iload hx hb d_4_12_138 (lv_at hl 4 rfl) ?_
      obtain ⟨g26, hf⟩ := gif hf
      refine zdv_r hx hb g26 d_4_12_140 ?_
      refine zadd hx hb d_4_12_141 ?_
      obtain ⟨g27, hf⟩ := gif hf
      refine zast (ci := 2) (k := 3) hx hb hK rfl hZ hS g21.1 g21.2 rfl (Nat.le_of_ble_eq_true rfl) g27.1 g27.2 d_4_12_142 (fun H28 locs28 hZ28 hS28 => ?_)
      refine lv_iload hx hb d_4_12_143 (lv_at hl 1 rfl) ?_
      refine lv_aload_n hx hb d_4_12_145 rfl (lv_at hl 6 rfl) ?_
      refine zget (ci := 2) (C := RX2) (T := TX2) (v := .ref (ad 2 l0 (2 + 1))) (k := 2) hx hb hts inW_2 hown hK hZ28 g21.1 g21.2 rfl (by decide) k_6_219 rfl d_4_12_146 ?_
      refine lv_iload hx hb d_4_12_149 (lv_at hl 0 rfl) ?_
      refine zald (ci := 2) (k := 2) hx hb hK rfl hZ28 g21.1 g21.2 rfl (Nat.le_of_ble_eq_true rfl) g27.1 g27.2 d_4_12_151 ?_
      refine zadd hx hb d_4_12_152 ?_
      refine lv_istore (lv' := [(4, .int (iI (l4 + ((zup4 B 2 l0 3 l9 (l4 + (zdv (l7 * (l9 - l5)) l6))) 2 l0 2 l9)))), (9, .int (iI l9)), (8, .int (iI l8)), (7, .int (iI l7)), (6, .int (iI l6)), (5, .int (iI l5)), (0, .ref (ad 2 l0 0)), (2, .int (iI l2))]) hx hb d_4_12_153 hl (by decide) rfl (fun ls hl => ?_)
      refine lv_iinc (v := iI (l9 + 1)) (lv' := [(9, .int (iI (l9 + 1))), (4, .int (iI (l4 + ((zup4 B 2 l0 3 l9 (l4 + (zdv (l7 * (l9 - l5)) l6))) 2 l0 2 l9)))), (8, .int (iI l8)), (7, .int (iI l7)), (6, .int (iI l6)), (5, .int (iI l5)), (0, .ref (ad 2 l0 0)), (2, .int (iI l2))]) hx hb d_4_12_155 hl (k := 1) rfl (iI_add _ 1) (by decide) rfl (fun ls hl => ?_)
      refine lv_goto (tgt := 108) hx hb d_4_12_158 (by decide) ?_
      exact ih hf hZ28 hS28 (lv_sub hl [0, 1, 2, 3, 4, 5, 6, 7] rfl)

noncomputable def f_Layout_setXs_83 (K : zK) : Nat → Int → Int → Int → Int → Int → Int → Int → zF → zB → zO
  | 0, _, _, _, _, _, _, _, _, _ => none
  | n + 1, l8, l7, l6, l5, l4, l0, l2, F, B => if 0 ≤ l0 ∧ l0 < K.2 2 then if 0 ≤ (l2 + 1) ∧ (l2 + 1) < 101 then if r32 l8 then if r32 (B 2 l0 7 (l2 + 1)) then (if (B 2 l0 7 (l2 + 1)) ≤ l8 then some (0, F, B) else if 0 ≤ l8 ∧ l8 < 101 then f_Layout_setXs_108 (f_Layout_setXs_83 K n) K K.1 (B 2 l0 5 l8) (l4 + 6) l8 l7 l6 l5 l0 l2 F B else none) else none else none else none else none
set_option maxHeartbeats 4000000 in
set_option maxRecDepth 100000 in
theorem b_Layout_setXs_83 {D : va_G} {ca : Nat → ClassId} {ad : Nat → Int → Nat → Nat} {L : List Nat} {aS vS : Nat → Nat} {A : Nat → Prop} {p : Program} {l : Launch} {e : Env} {s : State} {m : MethodId} {args : Array Value} {below : List Frame} {meth : Method} {c : Code} {K : zK} {r : Int} {F9 : zF} {B9 : zB} (X : zX D ca L aS vS A p s m args meth c prog_4_method_12_code 10 (Option.none : Option Jvm.ClassFile.FieldType) "StaveHouse$Layout") : ∀ {n : Nat} {l8 : Int} {l7 : Int} {l6 : Int} {l5 : Int} {l4 : Int} {l0 : Int} {l2 : Int} {F : zF} {B : zB} {H : Heap} {locs : List Loc} {ls : Array Slot}, f_Layout_setXs_83 K n l8 l7 l6 l5 l4 l0 l2 F B = some (r, F9, B9) → zH D ca ad lnC K.2 L F B A H → va_S A s.heap H locs → lv_has ls 10 [(8, .int (iI l8)), (7, .int (iI l7)), (6, .int (iI l6)), (5, .int (iI l5)), (4, .int (iI l4)), (0, .ref (ad 2 l0 0)), (2, .int (iI l2))] → W p l e ({ frames := 2, cells := 0, slots := 0, locals := 36 } : Room) s m args below meth c H locs 0 0 (MQ below (Q_Layout_setXs K D ca ad L r F9 B9 A) args s 0 0 A) (F0 m 83 ls []) := by
  obtain ⟨hx, hb, hr, hml, hown, hts, hlk, hK, hA, hL, hX⟩ := id X
  intro n
  induction n with
  | zero =>
    intros
    rename_i hf _ _ _
    cases hf
  | succ n ih =>
    intro l8 l7 l6 l5 l4 l0 l2 F B H locs ls hf hZ hS hl
    replace hf : (if 0 ≤ l0 ∧ l0 < K.2 2 then if 0 ≤ (l2 + 1) ∧ (l2 + 1) < 101 then if r32 l8 then if r32 (B 2 l0 7 (l2 + 1)) then (if (B 2 l0 7 (l2 + 1)) ≤ l8 then some (0, F, B) else if 0 ≤ l8 ∧ l8 < 101 then f_Layout_setXs_108 (f_Layout_setXs_83 K n) K K.1 (B 2 l0 5 l8) (l4 + 6) l8 l7 l6 l5 l0 l2 F B else none) else none else none else none else none) = some (r, F9, B9) := hf
    refine lv_iload hx hb d_4_12_83 (lv_at hl 0 rfl) ?_
    refine lv_aload_n hx hb d_4_12_85 rfl (lv_at hl 5 rfl) ?_
    obtain ⟨g15, hf⟩ := gif hf
    refine zget (ci := 2) (C := RX2) (T := TX2) (v := .ref (ad 2 l0 (7 + 1))) (k := 7) hx hb hts inW_2 hown hK hZ g15.1 g15.2 rfl (by decide) k_6_224 rfl d_4_12_86 ?_
    refine lv_iload_n hx hb d_4_12_89 rfl (lv_at hl 6 rfl) ?_
    refine lv_iconst (v := iI 1) hx hb d_4_12_90 rfl ?_
    refine zadd hx hb d_4_12_91 ?_
    obtain ⟨g16, hf⟩ := gif hf
    refine zald (ci := 2) (k := 7) hx hb hK rfl hZ g15.1 g15.2 rfl (Nat.le_of_ble_eq_true rfl) g16.1 g16.2 d_4_12_92 ?_
    obtain ⟨g17, hf⟩ := gif hf
    obtain ⟨g18, hf⟩ := gif hf
    refine zge (tgt := 167) hx hb g17 g18 d_4_12_93 (by decide) (fun h19 => ?_) (fun h19 => ?_)
    · replace hf := gpos hf h19
      cases hf
      exact W.vret hx hb hr (fun t ht hW => ⟨⟨(), rfl, trivial, by rw [ht]; exact hZ, va_K.moved hW.alike hK⟩, hS.F ht⟩) hS.2.2 d_4_12_167 hlk
    · replace hf := gneg hf h19
      refine lv_iinc (v := iI (l4 + 6)) (lv' := [(4, .int (iI (l4 + 6))), (8, .int (iI l8)), (7, .int (iI l7)), (6, .int (iI l6)), (5, .int (iI l5)), (0, .ref (ad 2 l0 0)), (2, .int (iI l2))]) hx hb d_4_12_96 hl (k := 4) rfl (iI_add _ 6) (by decide) rfl (fun ls hl => ?_)
      refine lv_aload_n hx hb d_4_12_99 rfl (lv_at hl 5 rfl) ?_
      refine zget (ci := 2) (C := RX2) (T := TX2) (v := .ref (ad 2 l0 (5 + 1))) (k := 5) hx hb hts inW_2 hown hK hZ g15.1 g15.2 rfl (by decide) k_6_222 rfl d_4_12_100 ?_
      refine lv_iload hx hb d_4_12_103 (lv_at hl 1 rfl) ?_
      obtain ⟨g20, hf⟩ := gif hf
      refine zald (ci := 2) (k := 5) hx hb hK rfl hZ g15.1 g15.2 rfl (Nat.le_of_ble_eq_true rfl) g20.1 g20.2 d_4_12_105 ?_
      refine lv_istore (lv' := [(9, .int (iI (B 2 l0 5 l8))), (4, .int (iI (l4 + 6))), (8, .int (iI l8)), (7, .int (iI l7)), (6, .int (iI l6)), (5, .int (iI l5)), (0, .ref (ad 2 l0 0)), (2, .int (iI l2))]) hx hb d_4_12_106 hl (by decide) rfl (fun ls hl => ?_)
      exact b_Layout_setXs_108 X ih hf hZ hS (lv_sub hl [0, 1, 2, 3, 4, 5, 6, 7] rfl)

noncomputable def f_Layout_setXs_73 (K : zK) (l6 : Int) (l5 : Int) (l4 : Int) (l0 : Int) (l2 : Int) (s0 : Int) (F : zF) (B : zB) : zO := if 0 ≤ l0 ∧ l0 < K.2 2 then if 0 ≤ l2 ∧ l2 < 101 then f_Layout_setXs_83 K K.1 (B 2 l0 7 l2) s0 l6 l5 l4 l0 l2 F B else none else none
set_option maxHeartbeats 4000000 in
set_option maxRecDepth 100000 in
theorem b_Layout_setXs_73 {D : va_G} {ca : Nat → ClassId} {ad : Nat → Int → Nat → Nat} {L : List Nat} {aS vS : Nat → Nat} {A : Nat → Prop} {p : Program} {l : Launch} {e : Env} {s : State} {m : MethodId} {args : Array Value} {below : List Frame} {meth : Method} {c : Code} {K : zK} {r : Int} {F9 : zF} {B9 : zB} (X : zX D ca L aS vS A p s m args meth c prog_4_method_12_code 10 (Option.none : Option Jvm.ClassFile.FieldType) "StaveHouse$Layout") {l6 : Int} {l5 : Int} {l4 : Int} {l0 : Int} {l2 : Int} {s0 : Int} {F : zF} {B : zB} {H : Heap} {locs : List Loc} {ls : Array Slot} (hf : f_Layout_setXs_73 K l6 l5 l4 l0 l2 s0 F B = some (r, F9, B9)) (hZ : zH D ca ad lnC K.2 L F B A H) (hS : va_S A s.heap H locs) (hl : lv_has ls 10 [(6, .int (iI l6)), (5, .int (iI l5)), (4, .int (iI l4)), (0, .ref (ad 2 l0 0)), (2, .int (iI l2))]) : W p l e ({ frames := 2, cells := 0, slots := 0, locals := 36 } : Room) s m args below meth c H locs 0 0 (MQ below (Q_Layout_setXs K D ca ad L r F9 B9 A) args s 0 0 A) (F0 m 73 ls [.int (iI s0)]) := by
  obtain ⟨hx, hb, hr, hml, hown, hts, hlk, hK, hA, hL, hX⟩ := id X
  replace hf : (if 0 ≤ l0 ∧ l0 < K.2 2 then if 0 ≤ l2 ∧ l2 < 101 then f_Layout_setXs_83 K K.1 (B 2 l0 7 l2) s0 l6 l5 l4 l0 l2 F B else none else none) = some (r, F9, B9) := hf
  refine lv_istore (lv' := [(7, .int (iI s0)), (6, .int (iI l6)), (5, .int (iI l5)), (4, .int (iI l4)), (0, .ref (ad 2 l0 0)), (2, .int (iI l2))]) hx hb d_4_12_73 hl (by decide) rfl (fun ls hl => ?_)
  refine lv_aload_n hx hb d_4_12_75 rfl (lv_at hl 4 rfl) ?_
  obtain ⟨g13, hf⟩ := gif hf
  refine zget (ci := 2) (C := RX2) (T := TX2) (v := .ref (ad 2 l0 (7 + 1))) (k := 7) hx hb hts inW_2 hown hK hZ g13.1 g13.2 rfl (by decide) k_6_224 rfl d_4_12_76 ?_
  refine lv_iload_n hx hb d_4_12_79 rfl (lv_at hl 5 rfl) ?_
  obtain ⟨g14, hf⟩ := gif hf
  refine zald (ci := 2) (k := 7) hx hb hK rfl hZ g13.1 g13.2 rfl (Nat.le_of_ble_eq_true rfl) g14.1 g14.2 d_4_12_80 ?_
  refine lv_istore (lv' := [(8, .int (iI (B 2 l0 7 l2))), (7, .int (iI s0)), (6, .int (iI l6)), (5, .int (iI l5)), (4, .int (iI l4)), (0, .ref (ad 2 l0 0)), (2, .int (iI l2))]) hx hb d_4_12_81 hl (by decide) rfl (fun ls hl => ?_)
  exact b_Layout_setXs_83 X hf hZ hS (lv_sub hl [0, 1, 2, 3, 4, 5, 6] rfl)

noncomputable def f_Layout_setXs (K : zK) (l0 : Int) (l1 : Int) (l2 : Int) (l3 : Int) (F : zF) (B : zB) : zO := if 0 ≤ l0 ∧ l0 < K.2 2 then if 0 ≤ l2 ∧ l2 < 101 then zbind (f_Layout_lead K l1 (B 2 l0 7 l2) F B) (fun r3 F3 B3 => if 0 ≤ (B3 2 l0 7 l2) ∧ (B3 2 l0 7 l2) < 101 then if 0 ≤ (l2 + 1) ∧ (l2 + 1) < 101 then if 0 ≤ (B3 2 l0 7 (l2 + 1)) ∧ (B3 2 l0 7 (l2 + 1)) < 101 then if r32 ((B3 2 l0 5 (B3 2 l0 7 (l2 + 1))) - (B3 2 l0 5 (B3 2 l0 7 l2))) then if r32 (l2 + 1) then if r32 (F3 2 l0 0) then (if (F3 2 l0 0) ≤ (l2 + 1) then f_Layout_setXs_73 K (zmax ((B3 2 l0 5 (B3 2 l0 7 (l2 + 1))) - (B3 2 l0 5 (B3 2 l0 7 l2))) 1) (B3 2 l0 5 (B3 2 l0 7 l2)) r3 l0 l2 0 F3 B3 else if 0 ≤ l2 ∧ l2 < 100 then if r32 (l3 - (B3 2 l0 8 l2)) then f_Layout_setXs_73 K (zmax ((B3 2 l0 5 (B3 2 l0 7 (l2 + 1))) - (B3 2 l0 5 (B3 2 l0 7 l2))) 1) (B3 2 l0 5 (B3 2 l0 7 l2)) r3 l0 l2 (zmax (l3 - (B3 2 l0 8 l2)) 0) F3 B3 else none else none) else none else none else none else none else none else none) else none else none
set_option maxHeartbeats 4000000 in
set_option maxRecDepth 100000 in
theorem c_Layout_setXs {l : Launch} {D : va_G} {ca : Nat → ClassId} {ad : Nat → Int → Nat → Nat} {L : List Nat} {aS vS : Nat → Nat} {sz : Nat} {K : zK}  {l0 : Int} {l1 : Int} {l2 : Int} {l3 : Int} {F F9 : zF} {B B9 : zB} {r : Int} (hf : f_Layout_setXs K l0 l1 l2 l3 F B = some (r, F9, B9)) : Met l ({ cls := "StaveHouse$Layout", name := "setXs", desc := "(LStaveHouse$Piece;II)V" } : Jvm.MethodName) (Cond.code ({ cls := "StaveHouse$Layout", name := "setXs", desc := "(LStaveHouse$Piece;II)V" } : Jvm.MethodName) prog_4_method_12_code 10 (Option.none : Option Jvm.ClassFile.FieldType) :: wAll) ({ frames := 2, cells := 0, slots := 0, locals := 36 } : Room) (va_Pc [.ref (ad 2 l0 0), .ref (ad 6 l1 0), .int (iI l2), .int (iI l3)] (zPre D ca ad lnC K.2 L aS vS F B sz)) (Q_Layout_setXs K D ca ad L r F9 B9 (zA L sz)) 0 0 (zA L sz) := by
  refine zMet (Qc := Q_Layout_setXs K D ca ad L r F9 B9) (lv := [(0, .ref (ad 2 l0 0)), (1, .ref (ad 6 l1 0)), (2, .int (iI l2)), (3, .int (iI l3))]) (by decide) (Nat.le_of_ble_eq_true rfl) rfl (fun A p e s m below meth c ls X hZ hS hl => ?_)
  obtain ⟨hx, hb, hr, hml, hown, hts, hlk, hK, hA, hL, hX⟩ := id X
  replace hf : (if 0 ≤ l0 ∧ l0 < K.2 2 then if 0 ≤ l2 ∧ l2 < 101 then zbind (f_Layout_lead K l1 (B 2 l0 7 l2) F B) (fun r3 F3 B3 => if 0 ≤ (B3 2 l0 7 l2) ∧ (B3 2 l0 7 l2) < 101 then if 0 ≤ (l2 + 1) ∧ (l2 + 1) < 101 then if 0 ≤ (B3 2 l0 7 (l2 + 1)) ∧ (B3 2 l0 7 (l2 + 1)) < 101 then if r32 ((B3 2 l0 5 (B3 2 l0 7 (l2 + 1))) - (B3 2 l0 5 (B3 2 l0 7 l2))) then if r32 (l2 + 1) then if r32 (F3 2 l0 0) then (if (F3 2 l0 0) ≤ (l2 + 1) then f_Layout_setXs_73 K (zmax ((B3 2 l0 5 (B3 2 l0 7 (l2 + 1))) - (B3 2 l0 5 (B3 2 l0 7 l2))) 1) (B3 2 l0 5 (B3 2 l0 7 l2)) r3 l0 l2 0 F3 B3 else if 0 ≤ l2 ∧ l2 < 100 then if r32 (l3 - (B3 2 l0 8 l2)) then f_Layout_setXs_73 K (zmax ((B3 2 l0 5 (B3 2 l0 7 (l2 + 1))) - (B3 2 l0 5 (B3 2 l0 7 l2))) 1) (B3 2 l0 5 (B3 2 l0 7 l2)) r3 l0 l2 (zmax (l3 - (B3 2 l0 8 l2)) 0) F3 B3 else none else none) else none else none else none else none else none else none) else none else none) = some (r, F9, B9) := hf
  refine lv_aload_n hx hb d_4_12_0 rfl (lv_at hl 1 rfl) ?_
  refine lv_aload_n hx hb d_4_12_1 rfl (lv_at hl 0 rfl) ?_
  obtain ⟨g1, hf⟩ := gif hf
  refine zget (ci := 2) (C := RX2) (T := TX2) (v := .ref (ad 2 l0 (7 + 1))) (k := 7) hx hb hts inW_2 hown hK hZ g1.1 g1.2 rfl (by decide) k_6_224 rfl d_4_12_2 ?_
  refine lv_iload_n hx hb d_4_12_5 rfl (lv_at hl 2 rfl) ?_
  obtain ⟨g2, hf⟩ := gif hf
  refine zald (ci := 2) (k := 7) hx hb hK rfl hZ g1.1 g1.2 rfl (Nat.le_of_ble_eq_true rfl) g2.1 g2.2 d_4_12_6 ?_
  obtain ⟨r3, F3, B3, hc3, hf⟩ := gbind hf
  refine va_calli (va_runS (As := [.ref (ad 6 l1 0), .int (iI (B 2 l0 7 l2))]) (rest := []) ⟨hx, hb, hml, hown, hts⟩ (c_Layout_lead (l := l) hc3) (va_cwS 2 hts (gdS k_7_50 k_7_51 k_1_21 k_7_52) rfl rfl rfl (by decide +kernel) ⟨Nat.le_of_ble_eq_true rfl, Nat.le_of_ble_eq_true rfl⟩) (zPS X hZ hS [.ref (ad 6 l1 0), .int (iI (B 2 l0 7 l2))]) rfl rfl hl.1 rfl (lv_room (Nat.le_of_ble_eq_true rfl)) d_4_12_7 ⟨Nat.le_of_ble_eq_true rfl, Nat.le_of_ble_eq_true rfl⟩) hS (fun q _ h => zAin X hS q h) (zAin X hS) (fun p3 u3 t3 H3 locs3 ht3 hv3 hw3 hB3 hz3 hk3 hS3 => ?_)
  have hZ3 := zBack X ht3 hB3
  subst hw3
  refine lv_istore (lv' := [(4, .int (iI r3)), (0, .ref (ad 2 l0 0)), (1, .ref (ad 6 l1 0)), (2, .int (iI l2)), (3, .int (iI l3))]) hx hb d_4_12_10 hl (by decide) rfl (fun ls hl => ?_)
  refine lv_aload_n hx hb d_4_12_12 rfl (lv_at hl 1 rfl) ?_
  refine zget (ci := 2) (C := RX2) (T := TX2) (v := .ref (ad 2 l0 (5 + 1))) (k := 5) hx hb hts inW_2 hown hK hZ3 g1.1 g1.2 rfl (by decide) k_6_222 rfl d_4_12_13 ?_
  refine lv_aload_n hx hb d_4_12_16 rfl (lv_at hl 1 rfl) ?_
  refine zget (ci := 2) (C := RX2) (T := TX2) (v := .ref (ad 2 l0 (7 + 1))) (k := 7) hx hb hts inW_2 hown hK hZ3 g1.1 g1.2 rfl (by decide) k_6_224 rfl d_4_12_17 ?_
  refine lv_iload_n hx hb d_4_12_20 rfl (lv_at hl 3 rfl) ?_
  refine zald (ci := 2) (k := 7) hx hb hK rfl hZ3 g1.1 g1.2 rfl (Nat.le_of_ble_eq_true rfl) g2.1 g2.2 d_4_12_21 ?_
  obtain ⟨g4, hf⟩ := gif hf
  refine zald (ci := 2) (k := 5) hx hb hK rfl hZ3 g1.1 g1.2 rfl (Nat.le_of_ble_eq_true rfl) g4.1 g4.2 d_4_12_22 ?_
  refine lv_istore (lv' := [(5, .int (iI (B3 2 l0 5 (B3 2 l0 7 l2)))), (4, .int (iI r3)), (0, .ref (ad 2 l0 0)), (1, .ref (ad 6 l1 0)), (2, .int (iI l2)), (3, .int (iI l3))]) hx hb d_4_12_23 hl (by decide) rfl (fun ls hl => ?_)
  refine lv_aload_n hx hb d_4_12_25 rfl (lv_at hl 2 rfl) ?_
  refine zget (ci := 2) (C := RX2) (T := TX2) (v := .ref (ad 2 l0 (5 + 1))) (k := 5) hx hb hts inW_2 hown hK hZ3 g1.1 g1.2 rfl (by decide) k_6_222 rfl d_4_12_26 ?_
  refine lv_aload_n hx hb d_4_12_29 rfl (lv_at hl 2 rfl) ?_
  refine zget (ci := 2) (C := RX2) (T := TX2) (v := .ref (ad 2 l0 (7 + 1))) (k := 7) hx hb hts inW_2 hown hK hZ3 g1.1 g1.2 rfl (by decide) k_6_224 rfl d_4_12_30 ?_
  refine lv_iload_n hx hb d_4_12_33 rfl (lv_at hl 4 rfl) ?_
  refine lv_iconst (v := iI 1) hx hb d_4_12_34 rfl ?_
  refine zadd hx hb d_4_12_35 ?_
  obtain ⟨g5, hf⟩ := gif hf
  refine zald (ci := 2) (k := 7) hx hb hK rfl hZ3 g1.1 g1.2 rfl (Nat.le_of_ble_eq_true rfl) g5.1 g5.2 d_4_12_36 ?_
  obtain ⟨g6, hf⟩ := gif hf
  refine zald (ci := 2) (k := 5) hx hb hK rfl hZ3 g1.1 g1.2 rfl (Nat.le_of_ble_eq_true rfl) g6.1 g6.2 d_4_12_37 ?_
  refine lv_iload hx hb d_4_12_38 (lv_at hl 0 rfl) ?_
  refine zsub hx hb d_4_12_40 ?_
  refine lv_iconst (v := iI 1) hx hb d_4_12_41 rfl ?_
  obtain ⟨g7, hf⟩ := gif hf
  refine va_mmax hx hb (by rw [hml]; exact hl.1.symm) hown (hts _ k_7_38) (hts _ k_1_39) (hts _ k_1_3) (hts _ k_1_40) (Nat.le_of_ble_eq_true rfl) (Nat.le_of_ble_eq_true rfl) (Nat.le_of_ble_eq_true rfl) (Nat.le_of_ble_eq_true rfl) d_4_12_42 ?_
  rw [zmax_e g7 (by decide)]
  refine lv_istore (lv' := [(6, .int (iI (zmax ((B3 2 l0 5 (B3 2 l0 7 (l2 + 1))) - (B3 2 l0 5 (B3 2 l0 7 l2))) 1))), (5, .int (iI (B3 2 l0 5 (B3 2 l0 7 l2)))), (4, .int (iI r3)), (0, .ref (ad 2 l0 0)), (1, .ref (ad 6 l1 0)), (2, .int (iI l2)), (3, .int (iI l3))]) hx hb d_4_12_45 hl (by decide) rfl (fun ls hl => ?_)
  refine lv_iload_n hx hb d_4_12_47 rfl (lv_at hl 5 rfl) ?_
  refine lv_iconst (v := iI 1) hx hb d_4_12_48 rfl ?_
  refine zadd hx hb d_4_12_49 ?_
  refine lv_aload_n hx hb d_4_12_50 rfl (lv_at hl 3 rfl) ?_
  refine zget (ci := 2) (C := RX2) (T := TX2) (v := .int (iI (F3 2 l0 0))) (k := 0) hx hb hts inW_2 hown hK hZ3 g1.1 g1.2 rfl (by decide) k_6_215 rfl d_4_12_51 ?_
  obtain ⟨g8, hf⟩ := gif hf
  obtain ⟨g9, hf⟩ := gif hf
  refine zge (tgt := 72) hx hb g8 g9 d_4_12_54 (by decide) (fun h10 => ?_) (fun h10 => ?_)
  · replace hf := gpos hf h10
    refine lv_iconst (v := iI 0) hx hb d_4_12_72 rfl ?_
    exact b_Layout_setXs_73 X hf hZ3 hS3 (lv_sub hl [0, 1, 2, 3, 5] rfl)
  · replace hf := gneg hf h10
    refine lv_iload_n hx hb d_4_12_57 rfl (lv_at hl 6 rfl) ?_
    refine lv_aload_n hx hb d_4_12_58 rfl (lv_at hl 3 rfl) ?_
    refine zget (ci := 2) (C := RX2) (T := TX2) (v := .ref (ad 2 l0 (8 + 1))) (k := 8) hx hb hts inW_2 hown hK hZ3 g1.1 g1.2 rfl (by decide) k_6_225 rfl d_4_12_59 ?_
    refine lv_iload_n hx hb d_4_12_62 rfl (lv_at hl 5 rfl) ?_
    obtain ⟨g11, hf⟩ := gif hf
    refine zald (ci := 2) (k := 8) hx hb hK rfl hZ3 g1.1 g1.2 rfl (Nat.le_of_ble_eq_true rfl) g11.1 g11.2 d_4_12_63 ?_
    refine zsub hx hb d_4_12_64 ?_
    refine lv_iconst (v := iI 0) hx hb d_4_12_65 rfl ?_
    obtain ⟨g12, hf⟩ := gif hf
    refine va_mmax hx hb (by rw [hml]; exact hl.1.symm) hown (hts _ k_7_38) (hts _ k_1_39) (hts _ k_1_3) (hts _ k_1_40) (Nat.le_of_ble_eq_true rfl) (Nat.le_of_ble_eq_true rfl) (Nat.le_of_ble_eq_true rfl) (Nat.le_of_ble_eq_true rfl) d_4_12_66 ?_
    rw [zmax_e g12 (by decide)]
    refine lv_goto (tgt := 73) hx hb d_4_12_69 (by decide) ?_
    exact b_Layout_setXs_73 X hf hZ3 hS3 (lv_sub hl [0, 1, 2, 3, 5] rfl)

noncomputable abbrev Q_Layout_tell (K : zK) (D : va_G) (ca : Nat → ClassId) (ad : Nat → Int → Nat → Nat) (L : List Nat) (r : Int) (F : zF) (B : zB) (A : Nat → Prop) : Array Value → State → Outcome → State → Prop := va_Ql (S := Unit) (fun p _ => p = lI r) (fun _ => zPo D ca ad lnC K.2 L F B A) A
noncomputable def f_Layout_tell_12 (K : zK)  (F : zF) (B : zB) : zO := some ((-1), F, B)
set_option maxHeartbeats 4000000 in
set_option maxRecDepth 100000 in
theorem b_Layout_tell_12 {D : va_G} {ca : Nat → ClassId} {ad : Nat → Int → Nat → Nat} {L : List Nat} {aS vS : Nat → Nat} {A : Nat → Prop} {p : Program} {l : Launch} {e : Env} {s : State} {m : MethodId} {args : Array Value} {below : List Frame} {meth : Method} {c : Code} {K : zK} {r : Int} {F9 : zF} {B9 : zB} (X : zX D ca L aS vS A p s m args meth c prog_4_method_13_code 3 (Option.some Jvm.ClassFile.FieldType.long) "StaveHouse$Layout")  {F : zF} {B : zB} {H : Heap} {locs : List Loc} {ls : Array Slot} (hf : f_Layout_tell_12 K  F B = some (r, F9, B9)) (hZ : zH D ca ad lnC K.2 L F B A H) (hS : va_S A s.heap H locs) (hl : lv_has ls 3 []) : W p l e ({ frames := 0, cells := 0, slots := 0, locals := 0 } : Room) s m args below meth c H locs 0 0 (MQ below (Q_Layout_tell K D ca ad L r F9 B9 A) args s 0 0 A) (F0 m 12 ls []) := by
  obtain ⟨hx, hb, hr, hml, hown, hts, hlk, hK, hA, hL, hX⟩ := id X
  replace hf : (some ((-1), F, B)) = some (r, F9, B9) := hf
  refine lv_ldc2 hx hb hown (hts _ k_7_34) d_4_13_12 ?_
  refine W.eq (g2 := F0 m 15 ls [.long (lI (-1))]) rfl ?_
  cases hf
  exact W.lret hx hb hr (fun t ht hW => ⟨⟨_, (), rfl, rfl, by rw [ht]; exact hZ, va_K.moved hW.alike hK⟩, hS.F ht⟩) hS.2.2 d_4_13_15 hlk

noncomputable def f_Layout_tell (K : zK) (l0 : Int) (l1 : Int) (l2 : Int) (F : zF) (B : zB) : zO := if r32 l1 then (if l1 < 0 then f_Layout_tell_12 K F B else if 0 ≤ l0 ∧ l0 < K.2 2 then if r32 (F 2 l0 0) then (if l1 < (F 2 l0 0) then if r32 l2 then (if l2 = 0 then if 0 ≤ l1 ∧ l1 < 101 then if r32 (B 2 l0 7 l1) then some (B 2 l0 7 l1, F, B) else none else none else (if l2 = 1 then if 0 ≤ (l1 + 1) ∧ (l1 + 1) < 101 then if 0 ≤ l1 ∧ l1 < 101 then if r32 ((B 2 l0 7 (l1 + 1)) - (B 2 l0 7 l1)) then some ((B 2 l0 7 (l1 + 1)) - (B 2 l0 7 l1), F, B) else none else none else none else (if l2 = 2 then if 0 ≤ l1 ∧ l1 < 100 then if r32 (B 2 l0 8 l1) then some (B 2 l0 8 l1, F, B) else none else none else (if l2 = 3 then if 0 ≤ (l1 + 1) ∧ (l1 + 1) < 101 then if 0 ≤ (B 2 l0 7 (l1 + 1)) ∧ (B 2 l0 7 (l1 + 1)) < 101 then if 0 ≤ l1 ∧ l1 < 101 then if 0 ≤ (B 2 l0 7 l1) ∧ (B 2 l0 7 l1) < 101 then if r32 ((B 2 l0 5 (B 2 l0 7 (l1 + 1))) - (B 2 l0 5 (B 2 l0 7 l1))) then some ((B 2 l0 5 (B 2 l0 7 (l1 + 1))) - (B 2 l0 5 (B 2 l0 7 l1)), F, B) else none else none else none else none else none else (if l2 = 4 then if 0 ≤ l1 ∧ l1 < 100 then some (B 2 l0 9 l1, F, B) else none else some ((-1), F, B)))))) else none else f_Layout_tell_12 K F B) else none else none) else none
set_option maxHeartbeats 4000000 in
set_option maxRecDepth 100000 in
theorem c_Layout_tell {l : Launch} {D : va_G} {ca : Nat → ClassId} {ad : Nat → Int → Nat → Nat} {L : List Nat} {aS vS : Nat → Nat} {sz : Nat} {K : zK}  {l0 : Int} {l1 : Int} {l2 : Int} {F F9 : zF} {B B9 : zB} {r : Int} (hf : f_Layout_tell K l0 l1 l2 F B = some (r, F9, B9)) : Met l ({ cls := "StaveHouse$Layout", name := "tell", desc := "(II)J" } : Jvm.MethodName) (Cond.code ({ cls := "StaveHouse$Layout", name := "tell", desc := "(II)J" } : Jvm.MethodName) prog_4_method_13_code 3 (Option.some Jvm.ClassFile.FieldType.long) :: wAll) ({ frames := 0, cells := 0, slots := 0, locals := 0 } : Room) (va_Pc [.ref (ad 2 l0 0), .int (iI l1), .int (iI l2)] (zPre D ca ad lnC K.2 L aS vS F B sz)) (Q_Layout_tell K D ca ad L r F9 B9 (zA L sz)) 0 0 (zA L sz) := by
  refine zMet (Qc := Q_Layout_tell K D ca ad L r F9 B9) (lv := [(0, .ref (ad 2 l0 0)), (1, .int (iI l1)), (2, .int (iI l2))]) (by decide) (Nat.le_of_ble_eq_true rfl) rfl (fun A p e s m below meth c ls X hZ hS hl => ?_)
  obtain ⟨hx, hb, hr, hml, hown, hts, hlk, hK, hA, hL, hX⟩ := id X
  replace hf : (if r32 l1 then (if l1 < 0 then f_Layout_tell_12 K F B else if 0 ≤ l0 ∧ l0 < K.2 2 then if r32 (F 2 l0 0) then (if l1 < (F 2 l0 0) then if r32 l2 then (if l2 = 0 then if 0 ≤ l1 ∧ l1 < 101 then if r32 (B 2 l0 7 l1) then some (B 2 l0 7 l1, F, B) else none else none else (if l2 = 1 then if 0 ≤ (l1 + 1) ∧ (l1 + 1) < 101 then if 0 ≤ l1 ∧ l1 < 101 then if r32 ((B 2 l0 7 (l1 + 1)) - (B 2 l0 7 l1)) then some ((B 2 l0 7 (l1 + 1)) - (B 2 l0 7 l1), F, B) else none else none else none else (if l2 = 2 then if 0 ≤ l1 ∧ l1 < 100 then if r32 (B 2 l0 8 l1) then some (B 2 l0 8 l1, F, B) else none else none else (if l2 = 3 then if 0 ≤ (l1 + 1) ∧ (l1 + 1) < 101 then if 0 ≤ (B 2 l0 7 (l1 + 1)) ∧ (B 2 l0 7 (l1 + 1)) < 101 then if 0 ≤ l1 ∧ l1 < 101 then if 0 ≤ (B 2 l0 7 l1) ∧ (B 2 l0 7 l1) < 101 then if r32 ((B 2 l0 5 (B 2 l0 7 (l1 + 1))) - (B 2 l0 5 (B 2 l0 7 l1))) then some ((B 2 l0 5 (B 2 l0 7 (l1 + 1))) - (B 2 l0 5 (B 2 l0 7 l1)), F, B) else none else none else none else none else none else (if l2 = 4 then if 0 ≤ l1 ∧ l1 < 100 then some (B 2 l0 9 l1, F, B) else none else some ((-1), F, B)))))) else none else f_Layout_tell_12 K F B) else none else none) else none) = some (r, F9, B9) := hf
  refine lv_iload_n hx hb d_4_13_0 rfl (lv_at hl 1 rfl) ?_
  obtain ⟨g1, hf⟩ := gif hf
  refine z0lt (tgt := 12) hx hb g1 d_4_13_1 (by decide) (fun h2 => ?_) (fun h2 => ?_)
  · replace hf := gpos hf h2
    exact b_Layout_tell_12 X hf hZ hS (lv_sub hl [] rfl)
  · replace hf := gneg hf h2
    refine lv_iload_n hx hb d_4_13_4 rfl (lv_at hl 1 rfl) ?_
    refine lv_aload_n hx hb d_4_13_5 rfl (lv_at hl 0 rfl) ?_
    obtain ⟨g3, hf⟩ := gif hf
    refine zget (ci := 2) (C := RX2) (T := TX2) (v := .int (iI (F 2 l0 0))) (k := 0) hx hb hts inW_2 hown hK hZ g3.1 g3.2 rfl (by decide) k_6_215 rfl d_4_13_6 ?_
    obtain ⟨g4, hf⟩ := gif hf
    refine zlt (tgt := 16) hx hb g1 g4 d_4_13_9 (by decide) (fun h5 => ?_) (fun h5 => ?_)
    · replace hf := gpos hf h5
      refine lv_iload_n hx hb d_4_13_16 rfl (lv_at hl 2 rfl) ?_
      obtain ⟨g6, hf⟩ := gif hf
      by_cases h7 : l2 = 0
      · replace hf := gpos hf h7
        refine lv_tableIn (off := 35) (tgt := 52) hx hb d_4_13_17 (by rw [iI_to g6, h7]; decide) (by rw [iI_to g6, h7]; decide) (by rw [iI_to g6, h7]; rfl) (by decide) ?_
        refine lv_aload_n hx hb d_4_13_52 rfl (lv_at hl 0 rfl) ?_
        refine zget (ci := 2) (C := RX2) (T := TX2) (v := .ref (ad 2 l0 (7 + 1))) (k := 7) hx hb hts inW_2 hown hK hZ g3.1 g3.2 rfl (by decide) k_6_224 rfl d_4_13_53 ?_
        refine lv_iload_n hx hb d_4_13_56 rfl (lv_at hl 1 rfl) ?_
        obtain ⟨g8, hf⟩ := gif hf
        refine zald (ci := 2) (k := 7) hx hb hK rfl hZ g3.1 g3.2 rfl (Nat.le_of_ble_eq_true rfl) g8.1 g8.2 d_4_13_57 ?_
        obtain ⟨g9, hf⟩ := gif hf
        refine zi2l hx hb g9 d_4_13_58 ?_
        cases hf
        exact W.lret hx hb hr (fun t ht hW => ⟨⟨_, (), rfl, rfl, by rw [ht]; exact hZ, va_K.moved hW.alike hK⟩, hS.F ht⟩) hS.2.2 d_4_13_59 hlk
      replace hf := gneg hf h7
      by_cases h10 : l2 = 1
      · replace hf := gpos hf h10
        refine lv_tableIn (off := 43) (tgt := 60) hx hb d_4_13_17 (by rw [iI_to g6, h10]; decide) (by rw [iI_to g6, h10]; decide) (by rw [iI_to g6, h10]; rfl) (by decide) ?_
        refine lv_aload_n hx hb d_4_13_60 rfl (lv_at hl 0 rfl) ?_
        refine zget (ci := 2) (C := RX2) (T := TX2) (v := .ref (ad 2 l0 (7 + 1))) (k := 7) hx hb hts inW_2 hown hK hZ g3.1 g3.2 rfl (by decide) k_6_224 rfl d_4_13_61 ?_
        refine lv_iload_n hx hb d_4_13_64 rfl (lv_at hl 1 rfl) ?_
        refine lv_iconst (v := iI 1) hx hb d_4_13_65 rfl ?_
        refine zadd hx hb d_4_13_66 ?_
        obtain ⟨g11, hf⟩ := gif hf
        refine zald (ci := 2) (k := 7) hx hb hK rfl hZ g3.1 g3.2 rfl (Nat.le_of_ble_eq_true rfl) g11.1 g11.2 d_4_13_67 ?_
        refine lv_aload_n hx hb d_4_13_68 rfl (lv_at hl 0 rfl) ?_
        refine zget (ci := 2) (C := RX2) (T := TX2) (v := .ref (ad 2 l0 (7 + 1))) (k := 7) hx hb hts inW_2 hown hK hZ g3.1 g3.2 rfl (by decide) k_6_224 rfl d_4_13_69 ?_
        refine lv_iload_n hx hb d_4_13_72 rfl (lv_at hl 1 rfl) ?_
        obtain ⟨g12, hf⟩ := gif hf
        refine zald (ci := 2) (k := 7) hx hb hK rfl hZ g3.1 g3.2 rfl (Nat.le_of_ble_eq_true rfl) g12.1 g12.2 d_4_13_73 ?_
        refine zsub hx hb d_4_13_74 ?_
        obtain ⟨g13, hf⟩ := gif hf
        refine zi2l hx hb g13 d_4_13_75 ?_
        cases hf
        exact W.lret hx hb hr (fun t ht hW => ⟨⟨_, (), rfl, rfl, by rw [ht]; exact hZ, va_K.moved hW.alike hK⟩, hS.F ht⟩) hS.2.2 d_4_13_76 hlk
      replace hf := gneg hf h10
      by_cases h14 : l2 = 2
      · replace hf := gpos hf h14
        refine lv_tableIn (off := 60) (tgt := 77) hx hb d_4_13_17 (by rw [iI_to g6, h14]; decide) (by rw [iI_to g6, h14]; decide) (by rw [iI_to g6, h14]; rfl) (by decide) ?_
        refine lv_aload_n hx hb d_4_13_77 rfl (lv_at hl 0 rfl) ?_
        refine zget (ci := 2) (C := RX2) (T := TX2) (v := .ref (ad 2 l0 (8 + 1))) (k := 8) hx hb hts inW_2 hown hK hZ g3.1 g3.2 rfl (by decide) k_6_225 rfl d_4_13_78 ?_
        refine lv_iload_n hx hb d_4_13_81 rfl (lv_at hl 1 rfl) ?_
        obtain ⟨g15, hf⟩ := gif hf
        refine zald (ci := 2) (k := 8) hx hb hK rfl hZ g3.1 g3.2 rfl (Nat.le_of_ble_eq_true rfl) g15.1 g15.2 d_4_13_82 ?_
        obtain ⟨g16, hf⟩ := gif hf
        refine zi2l hx hb g16 d_4_13_83 ?_
        cases hf
        exact W.lret hx hb hr (fun t ht hW => ⟨⟨_, (), rfl, rfl, by rw [ht]; exact hZ, va_K.moved hW.alike hK⟩, hS.F ht⟩) hS.2.2 d_4_13_84 hlk
      replace hf := gneg hf h14
      by_cases h17 : l2 = 3
      · replace hf := gpos hf h17
        refine lv_tableIn (off := 68) (tgt := 85) hx hb d_4_13_17 (by rw [iI_to g6, h17]; decide) (by rw [iI_to g6, h17]; decide) (by rw [iI_to g6, h17]; rfl) (by decide) ?_
        refine lv_aload_n hx hb d_4_13_85 rfl (lv_at hl 0 rfl) ?_
        refine zget (ci := 2) (C := RX2) (T := TX2) (v := .ref (ad 2 l0 (5 + 1))) (k := 5) hx hb hts inW_2 hown hK hZ g3.1 g3.2 rfl (by decide) k_6_222 rfl d_4_13_86 ?_
        refine lv_aload_n hx hb d_4_13_89 rfl (lv_at hl 0 rfl) ?_
        refine zget (ci := 2) (C := RX2) (T := TX2) (v := .ref (ad 2 l0 (7 + 1))) (k := 7) hx hb hts inW_2 hown hK hZ g3.1 g3.2 rfl (by decide) k_6_224 rfl d_4_13_90 ?_
        refine lv_iload_n hx hb d_4_13_93 rfl (lv_at hl 1 rfl) ?_
        refine lv_iconst (v := iI 1) hx hb d_4_13_94 rfl ?_
        refine zadd hx hb d_4_13_95 ?_
        obtain ⟨g18, hf⟩ := gif hf
        refine zald (ci := 2) (k := 7) hx hb hK rfl hZ g3.1 g3.2 rfl (Nat.le_of_ble_eq_true rfl) g18.1 g18.2 d_4_13_96 ?_
        obtain ⟨g19, hf⟩ := gif hf
        refine zald (ci := 2) (k := 5) hx hb hK rfl hZ g3.1 g3.2 rfl (Nat.le_of_ble_eq_true rfl) g19.1 g19.2 d_4_13_97 ?_
        refine lv_aload_n hx hb d_4_13_98 rfl (lv_at hl 0 rfl) ?_
        refine zget (ci := 2) (C := RX2) (T := TX2) (v := .ref (ad 2 l0 (5 + 1))) (k := 5) hx hb hts inW_2 hown hK hZ g3.1 g3.2 rfl (by decide) k_6_222 rfl d_4_13_99 ?_
        refine lv_aload_n hx hb d_4_13_102 rfl (lv_at hl 0 rfl) ?_
        refine zget (ci := 2) (C := RX2) (T := TX2) (v := .ref (ad 2 l0 (7 + 1))) (k := 7) hx hb hts inW_2 hown hK hZ g3.1 g3.2 rfl (by decide) k_6_224 rfl d_4_13_103 ?_
        refine lv_iload_n hx hb d_4_13_106 rfl (lv_at hl 1 rfl) ?_
        obtain ⟨g20, hf⟩ := gif hf
        refine zald (ci := 2) (k := 7) hx hb hK rfl hZ g3.1 g3.2 rfl (Nat.le_of_ble_eq_true rfl) g20.1 g20.2 d_4_13_107 ?_
        obtain ⟨g21, hf⟩ := gif hf
        refine zald (ci := 2) (k := 5) hx hb hK rfl hZ g3.1 g3.2 rfl (Nat.le_of_ble_eq_true rfl) g21.1 g21.2 d_4_13_108 ?_
        refine zsub hx hb d_4_13_109 ?_
        obtain ⟨g22, hf⟩ := gif hf
        refine zi2l hx hb g22 d_4_13_110 ?_
        cases hf
        exact W.lret hx hb hr (fun t ht hW => ⟨⟨_, (), rfl, rfl, by rw [ht]; exact hZ, va_K.moved hW.alike hK⟩, hS.F ht⟩) hS.2.2 d_4_13_111 hlk
      replace hf := gneg hf h17
      by_cases h23 : l2 = 4
      · replace hf := gpos hf h23
        refine lv_tableIn (off := 95) (tgt := 112) hx hb d_4_13_17 (by rw [iI_to g6, h23]; decide) (by rw [iI_to g6, h23]; decide) (by rw [iI_to g6, h23]; rfl) (by decide) ?_
        refine lv_aload_n hx hb d_4_13_112 rfl (lv_at hl 0 rfl) ?_
        refine zget (ci := 2) (C := RX2) (T := TX2) (v := .ref (ad 2 l0 (9 + 1))) (k := 9) hx hb hts inW_2 hown hK hZ g3.1 g3.2 rfl (by decide) k_6_226 rfl d_4_13_113 ?_
        refine lv_iload_n hx hb d_4_13_116 rfl (lv_at hl 1 rfl) ?_
        obtain ⟨g24, hf⟩ := gif hf
        refine zlald (ci := 2) (k := 9) hx hb hK rfl hZ g3.1 g3.2 rfl (Nat.le_of_ble_eq_true rfl) g24.1 g24.2 d_4_13_117 ?_
        cases hf
        exact W.lret hx hb hr (fun t ht hW => ⟨⟨_, (), rfl, rfl, by rw [ht]; exact hZ, va_K.moved hW.alike hK⟩, hS.F ht⟩) hS.2.2 d_4_13_118 hlk
      replace hf := gneg hf h23
      refine lv_tableOut (tgt := 119) hx hb d_4_13_17 (by rw [iI_to g6]; omega) (by decide) ?_
      refine lv_ldc2 hx hb hown (hts _ k_7_34) d_4_13_119 ?_
      refine W.eq (g2 := F0 m 122 ls [.long (lI (-1))]) rfl ?_
      cases hf
      exact W.lret hx hb hr (fun t ht hW => ⟨⟨_, (), rfl, rfl, by rw [ht]; exact hZ, va_K.moved hW.alike hK⟩, hS.F ht⟩) hS.2.2 d_4_13_122 hlk
    · replace hf := gneg hf h5
      exact b_Layout_tell_12 X hf hZ hS (lv_sub hl [] rfl)


