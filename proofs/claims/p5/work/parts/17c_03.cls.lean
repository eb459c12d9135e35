set_option maxHeartbeats 4000000 in
set_option maxRecDepth 100000 in
theorem c_Study_nextPlace {l : Launch} {D : va_G} {ca : Nat → ClassId} {ad : Nat → Int → Nat → Nat} {L : List Nat} {aS vS : Nat → Nat} {sz : Nat} {K : zK}  {l0 : Int} {l1 : Int} {l2 : Int} {F F9 : zF} {B B9 : zB} {r : Int} (hf : f_Study_nextPlace K l0 l1 l2 F B = some (r, F9, B9)) : Met l ({ cls := "StaveHouse$Study", name := "nextPlace", desc := "(LStaveHouse$Piece;I)J" } : Jvm.MethodName) (Cond.code ({ cls := "StaveHouse$Study", name := "nextPlace", desc := "(LStaveHouse$Piece;I)J" } : Jvm.MethodName) prog_11_method_4_code 8 (Option.some Jvm.ClassFile.FieldType.long) :: wAll) ({ frames := 0, cells := 0, slots := 0, locals := 0 } : Room) (va_Pc [.ref (ad 9 l0 0), .ref (ad 6 l1 0), .int (iI l2)] (zPre D ca ad lnC K.2 L aS vS F B sz)) (Q_Study_nextPlace K D ca ad L r F9 B9 (zA L sz)) 0 0 (zA L sz) := by
  refine zMet (Qc := Q_Study_nextPlace K D ca ad L r F9 B9) (lv := [(0, .ref (ad 9 l0 0)), (1, .ref (ad 6 l1 0)), (2, .int (iI l2))]) (by decide) (Nat.le_of_ble_eq_true rfl) rfl (fun A p e s m below meth c ls X hZ hS hl => ?_)
  obtain ⟨hx, hb, hr, hml, hown, hts, hlk, hK, hA, hL, hX⟩ := id X
  replace hf : (f_Study_nextPlace_7 K K.1 0 (-1) l0 l1 l2 F B) = some (r, F9, B9) := hf
  refine lv_ldc2 hx hb hown (hts _ k_6_8) d_11_4_0 ?_
  refine W.eq (g2 := F0 m 3 ls [.long (lI (-1))]) rfl ?_
  refine lv_lstore_n (lv' := [(3, .long (lI (-1))), (0, .ref (ad 9 l0 0)), (1, .ref (ad 6 l1 0)), (2, .int (iI l2))]) hx hb d_11_4_3 rfl hl (by decide) rfl (fun ls hl => ?_)
  refine lv_iconst (v := iI 0) hx hb d_11_4_4 rfl ?_
  refine lv_istore (lv' := [(5, .int (iI 0)), (3, .long (lI (-1))), (0, .ref (ad 9 l0 0)), (1, .ref (ad 6 l1 0)), (2, .int (iI l2))]) hx hb d_11_4_5 hl (by decide) rfl (fun ls hl => ?_)
  exact b_Study_nextPlace_7 X hf hZ hS (lv_sub hl [0, 1, 2, 3, 4] rfl)

noncomputable abbrev Q_Study_eventOf (K : zK) (D : va_G) (ca : Nat → ClassId) (ad : Nat → Int → Nat → Nat) (L : List Nat) (r : Int) (F : zF) (B : zB) (A : Nat → Prop) : Array Value → State → Outcome → State → Prop := va_Qq (S := Unit) (fun p _ => p = zrf ad 1 r) (fun _ => zPo D ca ad lnC K.2 L F B A) A
noncomputable def f_Study_eventOf_45 (K : zK) (s0 : Int) (F : zF) (B : zB) : zO := some (s0, F, B)
set_option maxHeartbeats 4000000 in
set_option maxRecDepth 100000 in
theorem b_Study_eventOf_45 {D : va_G} {ca : Nat → ClassId} {ad : Nat → Int → Nat → Nat} {L : List Nat} {aS vS : Nat → Nat} {A : Nat → Prop} {p : Program} {l : Launch} {e : Env} {s : State} {m : MethodId} {args : Array Value} {below : List Frame} {meth : Method} {c : Code} {K : zK} {r : Int} {F9 : zF} {B9 : zB} (X : zX D ca L aS vS A p s m args meth c prog_11_method_5_code 5 (Option.some (Jvm.ClassFile.FieldType.object "StaveHouse$Event")) "StaveHouse$Study") {s0 : Int} {F : zF} {B : zB} {H : Heap} {locs : List Loc} {ls : Array Slot} (hf : f_Study_eventOf_45 K s0 F B = some (r, F9, B9)) (hZ : zH D ca ad lnC K.2 L F B A H) (hS : va_S A s.heap H locs) (hl : lv_has ls 5 []) : W p l e ({ frames := 0, cells := 0, slots := 0, locals := 0 } : Room) s m args below meth c H locs 0 0 (MQ below (Q_Study_eventOf K D ca ad L r F9 B9 A) args s 0 0 A) (F0 m 45 ls [va_rf (zrf ad 1 s0)]) := by
  obtain ⟨hx, hb, hr, hml, hown, hts, hlk, hK, hA, hL, hX⟩ := id X
  replace hf : (some (s0, F, B)) = some (r, F9, B9) := hf
  cases hf
  exact W.aret hx hb hr (Or.inl ⟨_, rfl⟩) (va_rf_or _) (fun t ht hW => ⟨⟨_, (), rfl, rfl, by rw [ht]; exact hZ, va_K.moved hW.alike hK⟩, hS.F ht⟩) hS.2.2 d_11_5_45 hlk

noncomputable def f_Study_eventOf_29 (K : zK)  (F : zF) (B : zB) : zO := f_Study_eventOf_45 K (-1) F B
set_option maxHeartbeats 4000000 in
set_option maxRecDepth 100000 in
theorem b_Study_eventOf_29 {D : va_G} {ca : Nat → ClassId} {ad : Nat → Int → Nat → Nat} {L : List Nat} {aS vS : Nat → Nat} {A : Nat → Prop} {p : Program} {l : Launch} {e : Env} {s : State} {m : MethodId} {args : Array Value} {below : List Frame} {meth : Method} {c : Code} {K : zK} {r : Int} {F9 : zF} {B9 : zB} (X : zX D ca L aS vS A p s m args meth c prog_11_method_5_code 5 (Option.some (Jvm.ClassFile.FieldType.object "StaveHouse$Event")) "StaveHouse$Study")  {F : zF} {B : zB} {H : Heap} {locs : List Loc} {ls : Array Slot} (hf : f_Study_eventOf_29 K  F B = some (r, F9, B9)) (hZ : zH D ca ad lnC K.2 L F B A H) (hS : va_S A s.heap H locs) (hl : lv_has ls 5 []) : W p l e ({ frames := 0, cells := 0, slots := 0, locals := 0 } : Room) s m args below meth c H locs 0 0 (MQ below (Q_Study_eventOf K D ca ad L r F9 B9 A) args s 0 0 A) (F0 m 29 ls []) := by
  obtain ⟨hx, hb, hr, hml, hown, hts, hlk, hK, hA, hL, hX⟩ := id X
  replace hf : (f_Study_eventOf_45 K (-1) F B) = some (r, F9, B9) := hf
  refine lv_null hx hb d_11_5_29 ?_
  refine W.eq (g2 := F0 m 30 ls [va_rf (zrf ad 1 (-1))]) rfl ?_
  refine lv_goto (tgt := 45) hx hb d_11_5_30 (by decide) ?_
  exact b_Study_eventOf_45 X hf hZ hS (lv_sub hl [] rfl)

noncomputable def f_Study_eventOf (K : zK) (l0 : Int) (l1 : Int) (l2 : Int) (l3 : Int) (F : zF) (B : zB) : zO := if 0 ≤ l0 ∧ l0 < K.2 9 then if 0 ≤ l2 ∧ l2 < 4 then if 0 ≤ l3 ∧ l3 < 800 then if r32 (B 9 l0 (280 + l2.toNat) l3) then (if (B 9 l0 (280 + l2.toNat) l3) < 0 then f_Study_eventOf_29 K F B else if 0 ≤ l1 ∧ l1 < K.2 6 then if 0 ≤ (B 6 l1 0 l2) ∧ (B 6 l1 0 l2) < K.2 4 then if r32 (F 4 (B 6 l1 0 l2) 6) then (if (B 9 l0 (280 + l2.toNat) l3) < (F 4 (B 6 l1 0 l2) 6) then if 0 ≤ (B 9 l0 (280 + l2.toNat) l3) ∧ (B 9 l0 (280 + l2.toNat) l3) < 200 then f_Study_eventOf_45 K (B 4 (B 6 l1 0 l2) 5 (B 9 l0 (280 + l2.toNat) l3)) F B else none else f_Study_eventOf_29 K F B) else none else none else none) else none else none else none else none
set_option maxHeartbeats 4000000 in
set_option maxRecDepth 100000 in
theorem c_Study_eventOf {l : Launch} {D : va_G} {ca : Nat → ClassId} {ad : Nat → Int → Nat → Nat} {L : List Nat} {aS vS : Nat → Nat} {sz : Nat} {K : zK}  {l0 : Int} {l1 : Int} {l2 : Int} {l3 : Int} {F F9 : zF} {B B9 : zB} {r : Int} (hf : f_Study_eventOf K l0 l1 l2 l3 F B = some (r, F9, B9)) : Met l ({ cls := "StaveHouse$Study", name := "eventOf", desc := "(LStaveHouse$Piece;II)LStaveHouse$Event;" } : Jvm.MethodName) (Cond.code ({ cls := "StaveHouse$Study", name := "eventOf", desc := "(LStaveHouse$Piece;II)LStaveHouse$Event;" } : Jvm.MethodName) prog_11_method_5_code 5 (Option.some (Jvm.ClassFile.FieldType.object "StaveHouse$Event")) :: wAll) ({ frames := 0, cells := 0, slots := 0, locals := 0 } : Room) (va_Pc [.ref (ad 9 l0 0), .ref (ad 6 l1 0), .int (iI l2), .int (iI l3)] (zPre D ca ad lnC K.2 L aS vS F B sz)) (Q_Study_eventOf K D ca ad L r F9 B9 (zA L sz)) 0 0 (zA L sz) := by
  refine zMet (Qc := Q_Study_eventOf K D ca ad L r F9 B9) (lv := [(0, .ref (ad 9 l0 0)), (1, .ref (ad 6 l1 0)), (2, .int (iI l2)), (3, .int (iI l3))]) (by decide) (Nat.le_of_ble_eq_true rfl) rfl (fun A p e s m below meth c ls X hZ hS hl => ?_)
  obtain ⟨hx, hb, hr, hml, hown, hts, hlk, hK, hA, hL, hX⟩ := id X
  replace hf : (if 0 ≤ l0 ∧ l0 < K.2 9 then if 0 ≤ l2 ∧ l2 < 4 then if 0 ≤ l3 ∧ l3 < 800 then if r32 (B 9 l0 (280 + l2.toNat) l3) then (if (B 9 l0 (280 + l2.toNat) l3) < 0 then f_Study_eventOf_29 K F B else if 0 ≤ l1 ∧ l1 < K.2 6 then if 0 ≤ (B 6 l1 0 l2) ∧ (B 6 l1 0 l2) < K.2 4 then if r32 (F 4 (B 6 l1 0 l2) 6) then (if (B 9 l0 (280 + l2.toNat) l3) < (F 4 (B 6 l1 0 l2) 6) then if 0 ≤ (B 9 l0 (280 + l2.toNat) l3) ∧ (B 9 l0 (280 + l2.toNat) l3) < 200 then f_Study_eventOf_45 K (B 4 (B 6 l1 0 l2) 5 (B 9 l0 (280 + l2.toNat) l3)) F B else none else f_Study_eventOf_29 K F B) else none else none else none) else none else none else none else none) = some (r, F9, B9) := hf
  refine lv_aload_n hx hb d_11_5_0 rfl (lv_at hl 0 rfl) ?_
  obtain ⟨g1, hf⟩ := gif hf
  refine zget (ci := 9) (C := RX9) (T := TX9) (v := .ref (ad 9 l0 (4 + 1))) (k := 4) hx hb hts inW_9 hown hK hZ g1.1 g1.2 rfl (by decide) k_5_205 rfl d_11_5_1 ?_
  refine lv_iload_n hx hb d_11_5_4 rfl (lv_at hl 2 rfl) ?_
  obtain ⟨g2, hf⟩ := gif hf
  refine zaldQ (t := 0) (ci := 9) (k := 4) hx hb hK rfl hZ g1.1 g1.2 rfl (Nat.le_of_ble_eq_true rfl) g2.1 g2.2 d_11_5_5 ?_
  refine W.eq (g2 := F0 m 6 ls [.ref (ad 9 l0 (280 + l2.toNat + 1))]) rfl ?_
  refine lv_iload_n hx hb d_11_5_6 rfl (lv_at hl 3 rfl) ?_
  obtain ⟨g3, hf⟩ := gif hf
  refine zald (ci := 9) (k := (280 + l2.toNat)) hx hb hK rfl hZ g1.1 g1.2 (zkq (c := 9) (b := 280) (n := 4) (t := 0) (by decide) g2.1 g2.2) (lnq_le (c := 9) (b := 280) (n := 4) (m := 800) (by decide) (by decide) (by decide) g2.1 g2.2) g3.1 (lnq_lt (c := 9) (b := 280) (n := 4) (m := 800) (by decide) (by decide) g2.1 g2.2 g3.2) d_11_5_7 ?_
  refine lv_istore (lv' := [(4, .int (iI (B 9 l0 (280 + l2.toNat) l3))), (0, .ref (ad 9 l0 0)), (1, .ref (ad 6 l1 0)), (2, .int (iI l2)), (3, .int (iI l3))]) hx hb d_11_5_8 hl (by decide) rfl (fun ls hl => ?_)
  refine lv_iload hx hb d_11_5_10 (lv_at hl 0 rfl) ?_
  obtain ⟨g4, hf⟩ := gif hf
  refine z0lt (tgt := 29) hx hb g4 d_11_5_12 (by decide) (fun h5 => ?_) (fun h5 => ?_)
  · replace hf := gpos hf h5
    exact b_Study_eventOf_29 X hf hZ hS (lv_sub hl [] rfl)
  · replace hf := gneg hf h5
    refine lv_iload hx hb d_11_5_15 (lv_at hl 0 rfl) ?_
    refine lv_aload_n hx hb d_11_5_17 rfl (lv_at hl 2 rfl) ?_
    obtain ⟨g6, hf⟩ := gif hf
    refine zget (ci := 6) (C := RX6) (T := TX6) (v := .ref (ad 6 l1 (0 + 1))) (k := 0) hx hb hts inW_6 hown hK hZ g6.1 g6.2 rfl (by decide) k_2_187 rfl d_11_5_18 ?_
    refine lv_iload_n hx hb d_11_5_21 rfl (lv_at hl 3 rfl) ?_
    refine zaldR (t := 4) (x := 6) (ci := 6) (k := 0) hx hb hK rfl rfl hZ g6.1 g6.2 rfl (Nat.le_of_ble_eq_true rfl) g2.1 g2.2 d_11_5_22 ?_
    obtain ⟨g7, hf⟩ := gif hf
    refine zunrf g7.1 ?_
    refine zget (ci := 4) (C := RX4) (T := TX4) (v := .int (iI (F 4 (B 6 l1 0 l2) 6))) (k := 6) hx hb hts inW_4 hown hK hZ g7.1 g7.2 rfl (by decide) k_4_137 rfl d_11_5_23 ?_
    obtain ⟨g8, hf⟩ := gif hf
    refine zlt (tgt := 33) hx hb g4 g8 d_11_5_26 (by decide) (fun h9 => ?_) (fun h9 => ?_)
    · replace hf := gpos hf h9
      refine lv_aload_n hx hb d_11_5_33 rfl (lv_at hl 2 rfl) ?_
      refine zget (ci := 6) (C := RX6) (T := TX6) (v := .ref (ad 6 l1 (0 + 1))) (k := 0) hx hb hts inW_6 hown hK hZ g6.1 g6.2 rfl (by decide) k_2_187 rfl d_11_5_34 ?_
      refine lv_iload_n hx hb d_11_5_37 rfl (lv_at hl 3 rfl) ?_
      refine zaldR (t := 4) (x := 6) (ci := 6) (k := 0) hx hb hK rfl rfl hZ g6.1 g6.2 rfl (Nat.le_of_ble_eq_true rfl) g2.1 g2.2 d_11_5_38 ?_
      refine zunrf g7.1 ?_
      refine zget (ci := 4) (C := RX4) (T := TX4) (v := .ref (ad 4 (B 6 l1 0 l2) (5 + 1))) (k := 5) hx hb hts inW_4 hown hK hZ g7.1 g7.2 rfl (by decide) k_4_132 rfl d_11_5_39 ?_
      refine lv_iload hx hb d_11_5_42 (lv_at hl 0 rfl) ?_
      obtain ⟨g10, hf⟩ := gif hf
      refine zaldR (t := 1) (x := 7) (ci := 4) (k := 5) hx hb hK rfl rfl hZ g7.1 g7.2 rfl (Nat.le_of_ble_eq_true rfl) g10.1 g10.2 d_11_5_44 ?_
      exact b_Study_eventOf_45 X hf hZ hS (lv_sub hl [] rfl)
    · replace hf := gneg hf h9
      exact b_Study_eventOf_29 X hf hZ hS (lv_sub hl [] rfl)

noncomputable abbrev Q_Study_consonance (K : zK) (D : va_G) (ca : Nat → ClassId) (ad : Nat → Int → Nat → Nat) (L : List Nat) (r : Int) (F : zF) (B : zB) (A : Nat → Prop) : Array Value → State → Outcome → State → Prop := va_Qi (S := Unit) (fun p _ => p = iI r) (fun _ => zPo D ca ad lnC K.2 L F B A) A
noncomputable def f_Study_consonance_74 (K : zK) (s0 : Int) (F : zF) (B : zB) : zO := some (s0, F, B)
set_option maxHeartbeats 4000000 in
set_option maxRecDepth 100000 in
theorem b_Study_consonance_74 {D : va_G} {ca : Nat → ClassId} {ad : Nat → Int → Nat → Nat} {L : List Nat} {aS vS : Nat → Nat} {A : Nat → Prop} {p : Program} {l : Launch} {e : Env} {s : State} {m : MethodId} {args : Array Value} {below : List Frame} {meth : Method} {c : Code} {K : zK} {r : Int} {F9 : zF} {B9 : zB} (X : zX D ca L aS vS A p s m args meth c prog_11_method_10_code 7 (Option.some Jvm.ClassFile.FieldType.int) "StaveHouse$Study") {s0 : Int} {F : zF} {B : zB} {H : Heap} {locs : List Loc} {ls : Array Slot} (hf : f_Study_consonance_74 K s0 F B = some (r, F9, B9)) (hZ : zH D ca ad lnC K.2 L F B A H) (hS : va_S A s.heap H locs) (hl : lv_has ls 7 []) : W p l e ({ frames := 1, cells := 0, slots := 0, locals := 22 } : Room) s m args below meth c H locs 0 0 (MQ below (Q_Study_consonance K D ca ad L r F9 B9 A) args s 0 0 A) (F0 m 74 ls [.int (iI s0)]) := by
  obtain ⟨hx, hb, hr, hml, hown, hts, hlk, hK, hA, hL, hX⟩ := id X
  replace hf : (some (s0, F, B)) = some (r, F9, B9) := hf
  cases hf
  exact W.iret hx hb hr (fun t ht hW => ⟨⟨_, (), rfl, rfl, by rw [ht]; exact hZ, va_K.moved hW.alike hK⟩, hS.F ht⟩) hS.2.2 d_11_10_74 hlk

noncomputable def f_Study_consonance_73 (K : zK)  (F : zF) (B : zB) : zO := f_Study_consonance_74 K 0 F B
set_option maxHeartbeats 4000000 in
set_option maxRecDepth 100000 in
theorem b_Study_consonance_73 {D : va_G} {ca : Nat → ClassId} {ad : Nat → Int → Nat → Nat} {L : List Nat} {aS vS : Nat → Nat} {A : Nat → Prop} {p : Program} {l : Launch} {e : Env} {s : State} {m : MethodId} {args : Array Value} {below : List Frame} {meth : Method} {c : Code} {K : zK} {r : Int} {F9 : zF} {B9 : zB} (X : zX D ca L aS vS A p s m args meth c prog_11_method_10_code 7 (Option.some Jvm.ClassFile.FieldType.int) "StaveHouse$Study")  {F : zF} {B : zB} {H : Heap} {locs : List Loc} {ls : Array Slot} (hf : f_Study_consonance_73 K  F B = some (r, F9, B9)) (hZ : zH D ca ad lnC K.2 L F B A H) (hS : va_S A s.heap H locs) (hl : lv_has ls 7 []) : W p l e ({ frames := 1, cells := 0, slots := 0, locals := 22 } : Room) s m args below meth c H locs 0 0 (MQ below (Q_Study_consonance K D ca ad L r F9 B9 A) args s 0 0 A) (F0 m 73 ls []) := by
  obtain ⟨hx, hb, hr, hml, hown, hts, hlk, hK, hA, hL, hX⟩ := id X
  replace hf : (f_Study_consonance_74 K 0 F B) = some (r, F9, B9) := hf
  refine lv_iconst (v := iI 0) hx hb d_11_10_73 rfl ?_
  exact b_Study_consonance_74 X hf hZ hS (lv_sub hl [] rfl)

noncomputable def f_Study_consonance_56 (K : zK) (l6 : Int) (l5 : Int) (F : zF) (B : zB) : zO := if r32 l5 then (if l5 = 4 then if r32 l6 then (if l6 = 7 then f_Study_consonance_74 K 2 F B else f_Study_consonance_73 K F B) else none else f_Study_consonance_73 K F B) else none
set_option maxHeartbeats 4000000 in
set_option maxRecDepth 100000 in
theorem b_Study_consonance_56 {D : va_G} {ca : Nat → ClassId} {ad : Nat → Int → Nat → Nat} {L : List Nat} {aS vS : Nat → Nat} {A : Nat → Prop} {p : Program} {l : Launch} {e : Env} {s : State} {m : MethodId} {args : Array Value} {below : List Frame} {meth : Method} {c : Code} {K : zK} {r : Int} {F9 : zF} {B9 : zB} (X : zX D ca L aS vS A p s m args meth c prog_11_method_10_code 7 (Option.some Jvm.ClassFile.FieldType.int) "StaveHouse$Study") {l6 : Int} {l5 : Int} {F : zF} {B : zB} {H : Heap} {locs : List Loc} {ls : Array Slot} (hf : f_Study_consonance_56 K l6 l5 F B = some (r, F9, B9)) (hZ : zH D ca ad lnC K.2 L F B A H) (hS : va_S A s.heap H locs) (hl : lv_has ls 7 [(6, .int (iI l6)), (5, .int (iI l5))]) : W p l e ({ frames := 1, cells := 0, slots := 0, locals := 22 } : Room) s m args below meth c H locs 0 0 (MQ below (Q_Study_consonance K D ca ad L r F9 B9 A) args s 0 0 A) (F0 m 56 ls []) := by
  obtain ⟨hx, hb, hr, hml, hown, hts, hlk, hK, hA, hL, hX⟩ := id X
  replace hf : (if r32 l5 then (if l5 = 4 then if r32 l6 then (if l6 = 7 then f_Study_consonance_74 K 2 F B else f_Study_consonance_73 K F B) else none else f_Study_consonance_73 K F B) else none) = some (r, F9, B9) := hf
  refine lv_iload hx hb d_11_10_56 (lv_at hl 1 rfl) ?_
  refine lv_iconst (v := iI 4) hx hb d_11_10_58 rfl ?_
  obtain ⟨g12, hf⟩ := gif hf
  refine zne (tgt := 73) hx hb g12 (by decide) d_11_10_59 (by decide) (fun h13 => ?_) (fun h13 => ?_)
  · replace hf := gneg hf h13
    exact b_Study_consonance_73 X hf hZ hS (lv_sub hl [] rfl)
  · replace hf := gpos hf h13
    refine lv_iload hx hb d_11_10_62 (lv_at hl 0 rfl) ?_
    refine lv_bipush (v := iI 7) hx hb d_11_10_64 (by decide) ?_
    obtain ⟨g14, hf⟩ := gif hf
    refine zne (tgt := 73) hx hb g14 (by decide) d_11_10_66 (by decide) (fun h15 => ?_) (fun h15 => ?_)
    · replace hf := gneg hf h15
      exact b_Study_consonance_73 X hf hZ hS (lv_sub hl [] rfl)
    · replace hf := gpos hf h15
      refine lv_iconst (v := iI 2) hx hb d_11_10_69 rfl ?_
      refine lv_goto (tgt := 74) hx hb d_11_10_70 (by decide) ?_
      exact b_Study_consonance_74 X hf hZ hS (lv_sub hl [] rfl)

noncomputable def f_Study_consonance_26 (K : zK) (l1 : Int) (l3 : Int) (s0 : Int) (F : zF) (B : zB) : zO := zbind (f_Math_floorMod K s0 7 F B) (fun r6 F6 B6 => if r32 (l1 - l3) then if r32 r6 then (if r6 = 0 then if r32 (zrm (zabs (l1 - l3)) 12) then (if (zrm (zabs (l1 - l3)) 12) = 0 then some (1, F6, B6) else f_Study_consonance_56 K (zrm (zabs (l1 - l3)) 12) r6 F6 B6) else none else f_Study_consonance_56 K (zrm (zabs (l1 - l3)) 12) r6 F6 B6) else none else none)
set_option maxHeartbeats 4000000 in
set_option maxRecDepth 100000 in
theorem b_Study_consonance_26 {D : va_G} {ca : Nat → ClassId} {ad : Nat → Int → Nat → Nat} {L : List Nat} {aS vS : Nat → Nat} {A : Nat → Prop} {p : Program} {l : Launch} {e : Env} {s : State} {m : MethodId} {args : Array Value} {below : List Frame} {meth : Method} {c : Code} {K : zK} {r : Int} {F9 : zF} {B9 : zB} (X : zX D ca L aS vS A p s m args meth c prog_11_method_10_code 7 (Option.some Jvm.ClassFile.FieldType.int) "StaveHouse$Study") {l1 : Int} {l3 : Int} {s0 : Int} {F : zF} {B : zB} {H : Heap} {locs : List Loc} {ls : Array Slot} (hf : f_Study_consonance_26 K l1 l3 s0 F B = some (r, F9, B9)) (hZ : zH D ca ad lnC K.2 L F B A H) (hS : va_S A s.heap H locs) (hl : lv_has ls 7 [(1, .int (iI l1)), (3, .int (iI l3))]) : W p l e ({ frames := 1, cells := 0, slots := 0, locals := 22 } : Room) s m args below meth c H locs 0 0 (MQ below (Q_Study_consonance K D ca ad L r F9 B9 A) args s 0 0 A) (F0 m 26 ls [.int (iI s0)]) := by
  obtain ⟨hx, hb, hr, hml, hown, hts, hlk, hK, hA, hL, hX⟩ := id X
  replace hf : (zbind (f_Math_floorMod K s0 7 F B) (fun r6 F6 B6 => if r32 (l1 - l3) then if r32 r6 then (if r6 = 0 then if r32 (zrm (zabs (l1 - l3)) 12) then (if (zrm (zabs (l1 - l3)) 12) = 0 then some (1, F6, B6) else f_Study_consonance_56 K (zrm (zabs (l1 - l3)) 12) r6 F6 B6) else none else f_Study_consonance_56 K (zrm (zabs (l1 - l3)) 12) r6 F6 B6) else none else none)) = some (r, F9, B9) := hf
  refine lv_bipush (v := iI 7) hx hb d_11_10_26 (by decide) ?_
  obtain ⟨r6, F6, B6, hc6, hf⟩ := gbind hf
  refine va_calli (va_runS (As := [.int (iI s0), .int (iI 7)]) (rest := []) ⟨hx, hb, hml, hown, hts⟩ (c_Math_floorMod (l := l) hc6) (va_cwS 2 hts (gdS k_6_38 k_4_71 k_1_3 k_4_72) rfl rfl rfl (by decide +kernel) ⟨Nat.le_of_ble_eq_true rfl, Nat.le_of_ble_eq_true rfl⟩) (zPS X hZ hS [.int (iI s0), .int (iI 7)]) rfl rfl hl.1 rfl (lv_room (Nat.le_of_ble_eq_true rfl)) d_11_10_28 ⟨Nat.le_of_ble_eq_true rfl, Nat.le_of_ble_eq_true rfl⟩) hS (fun q _ h => zAin X hS q h) (zAin X hS) (fun p6 u6 t6 H6 locs6 ht6 hv6 hw6 hB6 hz6 hk6 hS6 => ?_)
  have hZ6 := zBack X ht6 hB6
  subst hw6
  refine lv_istore (lv' := [(5, .int (iI r6)), (1, .int (iI l1)), (3, .int (iI l3))]) hx hb d_11_10_31 hl (by decide) rfl (fun ls hl => ?_)
  refine lv_iload_n hx hb d_11_10_33 rfl (lv_at hl 1 rfl) ?_
  refine lv_iload_n hx hb d_11_10_34 rfl (lv_at hl 2 rfl) ?_
  refine zsub hx hb d_11_10_35 ?_
  obtain ⟨g7, hf⟩ := gif hf
  refine va_mabs hx hb (by rw [hml]; exact hl.1.symm) hown (hts _ k_6_39) (hts _ k_4_229) (hts _ k_1_3) (hts _ k_4_230) (Nat.le_of_ble_eq_true rfl) (Nat.le_of_ble_eq_true rfl) (Nat.le_of_ble_eq_true rfl) (Nat.le_of_ble_eq_true rfl) d_11_10_36 ?_
  rw [zabs_e g7]
  refine lv_bipush (v := iI 12) hx hb d_11_10_39 (by decide) ?_
  refine zrm_r hx hb (by decide) d_11_10_41 ?_
  refine lv_istore (lv' := [(6, .int (iI (zrm (zabs (l1 - l3)) 12))), (5, .int (iI r6)), (1, .int (iI l1)), (3, .int (iI l3))]) hx hb d_11_10_42 hl (by decide) rfl (fun ls hl => ?_)
  refine lv_iload hx hb d_11_10_44 (lv_at hl 1 rfl) ?_
  obtain ⟨g8, hf⟩ := gif hf
  refine z0ne (tgt := 56) hx hb g8 d_11_10_46 (by decide) (fun h9 => ?_) (fun h9 => ?_)
  · replace hf := gneg hf h9
    exact b_Study_consonance_56 X hf hZ6 hS6 (lv_sub hl [0, 1] rfl)
  · replace hf := gpos hf h9
    refine lv_iload hx hb d_11_10_49 (lv_at hl 0 rfl) ?_
    obtain ⟨g10, hf⟩ := gif hf
    refine z0ne (tgt := 56) hx hb g10 d_11_10_51 (by decide) (fun h11 => ?_) (fun h11 => ?_)
    · replace hf := gneg hf h11
      exact b_Study_consonance_56 X hf hZ6 hS6 (lv_sub hl [0, 1] rfl)
    · replace hf := gpos hf h11
      refine lv_iconst (v := iI 1) hx hb d_11_10_54 rfl ?_
      cases hf
      exact W.iret hx hb hr (fun t ht hW => ⟨⟨_, (), rfl, rfl, by rw [ht]; exact hZ6, va_K.moved hW.alike hK⟩, hS6.F ht⟩) hS6.2.2 d_11_10_55 hlk

noncomputable def f_Study_consonance_10 (K : zK) (l0 : Int) (l1 : Int) (l2 : Int) (l3 : Int) (s0 : Int) (F : zF) (B : zB) : zO := if r32 s0 then (if s0 = 0 then f_Study_consonance_26 K l1 l3 (l0 - l2) F B else f_Study_consonance_26 K l1 l3 (l2 - l0) F B) else none
set_option maxHeartbeats 4000000 in
set_option maxRecDepth 100000 in
theorem b_Study_consonance_10 {D : va_G} {ca : Nat → ClassId} {ad : Nat → Int → Nat → Nat} {L : List Nat} {aS vS : Nat → Nat} {A : Nat → Prop} {p : Program} {l : Launch} {e : Env} {s : State} {m : MethodId} {args : Array Value} {below : List Frame} {meth : Method} {c : Code} {K : zK} {r : Int} {F9 : zF} {B9 : zB} (X : zX D ca L aS vS A p s m args meth c prog_11_method_10_code 7 (Option.some Jvm.ClassFile.FieldType.int) "StaveHouse$Study") {l0 : Int} {l1 : Int} {l2 : Int} {l3 : Int} {s0 : Int} {F : zF} {B : zB} {H : Heap} {locs : List Loc} {ls : Array Slot} (hf : f_Study_consonance_10 K l0 l1 l2 l3 s0 F B = some (r, F9, B9)) (hZ : zH D ca ad lnC K.2 L F B A H) (hS : va_S A s.heap H locs) (hl : lv_has ls 7 [(0, .int (iI l0)), (1, .int (iI l1)), (2, .int (iI l2)), (3, .int (iI l3))]) : W p l e ({ frames := 1, cells := 0, slots := 0, locals := 22 } : Room) s m args below meth c H locs 0 0 (MQ below (Q_Study_consonance K D ca ad L r F9 B9 A) args s 0 0 A) (F0 m 10 ls [.int (iI s0)]) := by
  obtain ⟨hx, hb, hr, hml, hown, hts, hlk, hK, hA, hL, hX⟩ := id X
  replace hf : (if r32 s0 then (if s0 = 0 then f_Study_consonance_26 K l1 l3 (l0 - l2) F B else f_Study_consonance_26 K l1 l3 (l2 - l0) F B) else none) = some (r, F9, B9) := hf
  refine lv_istore (lv' := [(4, .int (iI s0)), (0, .int (iI l0)), (1, .int (iI l1)), (2, .int (iI l2)), (3, .int (iI l3))]) hx hb d_11_10_10 hl (by decide) rfl (fun ls hl => ?_)
  refine lv_iload hx hb d_11_10_12 (lv_at hl 0 rfl) ?_
  obtain ⟨g4, hf⟩ := gif hf
  refine z0eq (tgt := 23) hx hb g4 d_11_10_14 (by decide) (fun h5 => ?_) (fun h5 => ?_)
  · replace hf := gpos hf h5
    refine lv_iload_n hx hb d_11_10_23 rfl (lv_at hl 1 rfl) ?_
    refine lv_iload_n hx hb d_11_10_24 rfl (lv_at hl 3 rfl) ?_
    refine zsub hx hb d_11_10_25 ?_
    exact b_Study_consonance_26 X hf hZ hS (lv_sub hl [2, 4] rfl)
  · replace hf := gneg hf h5
    refine lv_iload_n hx hb d_11_10_17 rfl (lv_at hl 3 rfl) ?_
    refine lv_iload_n hx hb d_11_10_18 rfl (lv_at hl 1 rfl) ?_
    refine zsub hx hb d_11_10_19 ?_
    refine lv_goto (tgt := 26) hx hb d_11_10_20 (by decide) ?_
    exact b_Study_consonance_26 X hf hZ hS (lv_sub hl [2, 4] rfl)

noncomputable def f_Study_consonance (K : zK) (l0 : Int) (l1 : Int) (l2 : Int) (l3 : Int) (F : zF) (B : zB) : zO := if r32 l3 then if r32 l1 then (if l3 ≤ l1 then f_Study_consonance_10 K l0 l1 l2 l3 0 F B else f_Study_consonance_10 K l0 l1 l2 l3 1 F B) else none else none
set_option maxHeartbeats 4000000 in
set_option maxRecDepth 100000 in
theorem c_Study_consonance {l : Launch} {D : va_G} {ca : Nat → ClassId} {ad : Nat → Int → Nat → Nat} {L : List Nat} {aS vS : Nat → Nat} {sz : Nat} {K : zK}  {l0 : Int} {l1 : Int} {l2 : Int} {l3 : Int} {F F9 : zF} {B B9 : zB} {r : Int} (hf : f_Study_consonance K l0 l1 l2 l3 F B = some (r, F9, B9)) : Met l ({ cls := "StaveHouse$Study", name := "consonance", desc := "(IIII)I" } : Jvm.MethodName) (Cond.code ({ cls := "StaveHouse$Study", name := "consonance", desc := "(IIII)I" } : Jvm.MethodName) prog_11_method_10_code 7 (Option.some Jvm.ClassFile.FieldType.int) :: wAll) ({ frames := 1, cells := 0, slots := 0, locals := 22 } : Room) (va_Pc [.int (iI l0), .int (iI l1), .int (iI l2), .int (iI l3)] (zPre D ca ad lnC K.2 L aS vS F B sz)) (Q_Study_consonance K D ca ad L r F9 B9 (zA L sz)) 0 0 (zA L sz) := by
  refine zMet (Qc := Q_Study_consonance K D ca ad L r F9 B9) (lv := [(0, .int (iI l0)), (1, .int (iI l1)), (2, .int (iI l2)), (3, .int (iI l3))]) (by decide) (Nat.le_of_ble_eq_true rfl) rfl (fun A p e s m below meth c ls X hZ hS hl => ?_)
  obtain ⟨hx, hb, hr, hml, hown, hts, hlk, hK, hA, hL, hX⟩ := id X
  replace hf : (if r32 l3 then if r32 l1 then (if l3 ≤ l1 then f_Study_consonance_10 K l0 l1 l2 l3 0 F B else f_Study_consonance_10 K l0 l1 l2 l3 1 F B) else none else none) = some (r, F9, B9) := hf
  refine lv_iload_n hx hb d_11_10_0 rfl (lv_at hl 3 rfl) ?_
  refine lv_iload_n hx hb d_11_10_1 rfl (lv_at hl 1 rfl) ?_
  obtain ⟨g1, hf⟩ := gif hf
  obtain ⟨g2, hf⟩ := gif hf
  refine zle (tgt := 9) hx hb g1 g2 d_11_10_2 (by decide) (fun h3 => ?_) (fun h3 => ?_)
  · replace hf := gpos hf h3
    refine lv_iconst (v := iI 0) hx hb d_11_10_9 rfl ?_
    exact b_Study_consonance_10 X hf hZ hS (lv_sub hl [0, 1, 2, 3] rfl)
  · replace hf := gneg hf h3
    refine lv_iconst (v := iI 1) hx hb d_11_10_5 rfl ?_
    refine lv_goto (tgt := 10) hx hb d_11_10_6 (by decide) ?_
    exact b_Study_consonance_10 X hf hZ hS (lv_sub hl [0, 1, 2, 3] rfl)

noncomputable abbrev Q_Study_addFault (K : zK) (D : va_G) (ca : Nat → ClassId) (ad : Nat → Int → Nat → Nat) (L : List Nat) (r : Int) (F : zF) (B : zB) (A : Nat → Prop) : Array Value → State → Outcome → State → Prop := va_Qv (S := Unit) (fun _ => True) (fun _ => zPo D ca ad lnC K.2 L F B A) A
noncomputable def f_Study_addFault (K : zK) (l0 : Int) (l1 : Int) (l2 : Int) (l3 : Int) (l4 : Int) (F : zF) (B : zB) : zO := if 0 ≤ l0 ∧ l0 < K.2 9 then if r32 (F 9 l0 2) then (if (F 9 l0 2) < 300 then if 0 ≤ (F 9 l0 2) ∧ (F 9 l0 2) < 300 then some (0, (zup3 F 9 l0 2 ((F 9 l0 2) + 1)), (zup4 (zup4 (zup4 (zup4 B 9 l0 260 (F 9 l0 2) l1) 9 l0 261 (F 9 l0 2) l2) 9 l0 262 (F 9 l0 2) l3) 9 l0 263 (F 9 l0 2) l4)) else none else some (0, F, B)) else none else none
set_option maxHeartbeats 4000000 in
set_option maxRecDepth 100000 in
theorem c_Study_addFault {l : Launch} {D : va_G} {ca : Nat → ClassId} {ad : Nat → Int → Nat → Nat} {L : List Nat} {aS vS : Nat → Nat} {sz : Nat} {K : zK}  {l0 : Int} {l1 : Int} {l2 : Int} {l3 : Int} {l4 : Int} {F F9 : zF} {B B9 : zB} {r : Int} (hf : f_Study_addFault K l0 l1 l2 l3 l4 F B = some (r, F9, B9)) : Met l ({ cls := "StaveHouse$Study", name := "addFault", desc := "(IIII)V" } : Jvm.MethodName) (Cond.code ({ cls := "StaveHouse$Study", name := "addFault", desc := "(IIII)V" } : Jvm.MethodName) prog_11_method_8_code 5 (Option.none : Option Jvm.ClassFile.FieldType) :: wAll) ({ frames := 0, cells := 0, slots := 0, locals := 0 } : Room) (va_Pc [.ref (ad 9 l0 0), .int (iI l1), .int (iI l2), .int (iI l3), .int (iI l4)] (zPre D ca ad lnC K.2 L aS vS F B sz)) (Q_Study_addFault K D ca ad L r F9 B9 (zA L sz)) 0 0 (zA L sz) := by
  refine zMet (Qc := Q_Study_addFault K D ca ad L r F9 B9) (lv := [(0, .ref (ad 9 l0 0)), (1, .int (iI l1)), (2, .int (iI l2)), (3, .int (iI l3)), (4, .int (iI l4))]) (by decide) (Nat.le_of_ble_eq_true rfl) rfl (fun A p e s m below meth c ls X hZ hS hl => ?_)
  obtain ⟨hx, hb, hr, hml, hown, hts, hlk, hK, hA, hL, hX⟩ := id X
  replace hf : (if 0 ≤ l0 ∧ l0 < K.2 9 then if r32 (F 9 l0 2) then (if (F 9 l0 2) < 300 then if 0 ≤ (F 9 l0 2) ∧ (F 9 l0 2) < 300 then some (0, (zup3 F 9 l0 2 ((F 9 l0 2) + 1)), (zup4 (zup4 (zup4 (zup4 B 9 l0 260 (F 9 l0 2) l1) 9 l0 261 (F 9 l0 2) l2) 9 l0 262 (F 9 l0 2) l3) 9 l0 263 (F 9 l0 2) l4)) else none else some (0, F, B)) else none else none) = some (r, F9, B9) := hf
  refine lv_aload_n hx hb d_11_8_0 rfl (lv_at hl 0 rfl) ?_
  obtain ⟨g1, hf⟩ := gif hf
  refine zget (ci := 9) (C := RX9) (T := TX9) (v := .int (iI (F 9 l0 2))) (k := 2) hx hb hts inW_9 hown hK hZ g1.1 g1.2 rfl (by decide) k_5_201 rfl d_11_8_1 ?_
  refine lv_sipush (v := iI 300) hx hb d_11_8_4 (by decide) ?_
  obtain ⟨g2, hf⟩ := gif hf
  refine zlt (tgt := 11) hx hb g2 (by decide) d_11_8_7 (by decide) (fun h3 => ?_) (fun h3 => ?_)
  · replace hf := gpos hf h3
    refine lv_aload_n hx hb d_11_8_11 rfl (lv_at hl 0 rfl) ?_
    refine zget (ci := 9) (C := RX9) (T := TX9) (v := .ref (ad 9 l0 (3 + 1))) (k := 3) hx hb hts inW_9 hown hK hZ g1.1 g1.2 rfl (by decide) k_5_203 rfl d_11_8_12 ?_
    refine lv_iconst (v := iI 0) hx hb d_11_8_15 rfl ?_
    refine zaldQ (t := 0) (ci := 9) (k := 3) hx hb hK rfl hZ g1.1 g1.2 rfl (Nat.le_of_ble_eq_true rfl) (by decide) (by decide) d_11_8_16 ?_
    refine W.eq (g2 := F0 m 17 ls [.ref (ad 9 l0 (260 + 1))]) rfl ?_
    refine lv_aload_n hx hb d_11_8_17 rfl (lv_at hl 0 rfl) ?_
    refine zget (ci := 9) (C := RX9) (T := TX9) (v := .int (iI (F 9 l0 2))) (k := 2) hx hb hts inW_9 hown hK hZ g1.1 g1.2 rfl (by decide) k_5_201 rfl d_11_8_18 ?_
    refine lv_iload_n hx hb d_11_8_21 rfl (lv_at hl 1 rfl) ?_
    obtain ⟨g4, hf⟩ := gif hf
    refine zast (ci := 9) (k := 260) hx hb hK rfl hZ hS g1.1 g1.2 rfl (Nat.le_of_ble_eq_true rfl) g4.1 g4.2 d_11_8_22 (fun H5 locs5 hZ5 hS5 => ?_)
    refine lv_aload_n hx hb d_11_8_23 rfl (lv_at hl 0 rfl) ?_
    refine zget (ci := 9) (C := RX9) (T := TX9) (v := .ref (ad 9 l0 (3 + 1))) (k := 3) hx hb hts inW_9 hown hK hZ5 g1.1 g1.2 rfl (by decide) k_5_203 rfl d_11_8_24 ?_
    refine lv_iconst (v := iI 1) hx hb d_11_8_27 rfl ?_
    refine zaldQ (t := 0) (ci := 9) (k := 3) hx hb hK rfl hZ5 g1.1 g1.2 rfl (Nat.le_of_ble_eq_true rfl) (by decide) (by decide) d_11_8_28 ?_
    refine W.eq (g2 := F0 m 29 ls [.ref (ad 9 l0 (261 + 1))]) rfl ?_
    refine lv_aload_n hx hb d_11_8_29 rfl (lv_at hl 0 rfl) ?_
    refine zget (ci := 9) (C := RX9) (T := TX9) (v := .int (iI (F 9 l0 2))) (k := 2) hx hb hts inW_9 hown hK hZ5 g1.1 g1.2 rfl (by decide) k_5_201 rfl d_11_8_30 ?_
    refine lv_iload_n hx hb d_11_8_33 rfl (lv_at hl 2 rfl) ?_
    refine zast (ci := 9) (k := 261) hx hb hK rfl hZ5 hS5 g1.1 g1.2 rfl (Nat.le_of_ble_eq_true rfl) g4.1 g4.2 d_11_8_34 (fun H6 locs6 hZ6 hS6 => ?_)
    refine lv_aload_n hx hb d_11_8_35 rfl (lv_at hl 0 rfl) ?_
    refine zget (ci := 9) (C := RX9) (T := TX9) (v := .ref (ad 9 l0 (3 + 1))) (k := 3) hx hb hts inW_9 hown hK hZ6 g1.1 g1.2 rfl (by decide) k_5_203 rfl d_11_8_36 ?_
    refine lv_iconst (v := iI 2) hx hb d_11_8_39 rfl ?_
    refine zaldQ (t := 0) (ci := 9) (k := 3) hx hb hK rfl hZ6 g1.1 g1.2 rfl (Nat.le_of_ble_eq_true rfl) (by decide) (by decide) d_11_8_40 ?_
    refine W.eq (g2 := F0 m 41 ls [.ref (ad 9 l0 (262 + 1))]) rfl ?_
    refine lv_aload_n hx hb d_11_8_41 rfl (lv_at hl 0 rfl) ?_
    refine zget (ci := 9) (C := RX9) (T := TX9) (v := .int (iI (F 9 l0 2))) (k := 2) hx hb hts inW_9 hown hK hZ6 g1.1 g1.2 rfl (by decide) k_5_201 rfl d_11_8_42 ?_
    refine lv_iload_n hx hb d_11_8_45 rfl (lv_at hl 3 rfl) ?_
    refine zast (ci := 9) (k := 262) hx hb hK rfl hZ6 hS6 g1.1 g1.2 rfl (Nat.le_of_ble_eq_true rfl) g4.1 g4.2 d_11_8_46 (fun H7 locs7 hZ7 hS7 => ?_)
    refine lv_aload_n hx hb d_11_8_47 rfl (lv_at hl 0 rfl) ?_
    refine zget (ci := 9) (C := RX9) (T := TX9) (v := .ref (ad 9 l0 (3 + 1))) (k := 3) hx hb hts inW_9 hown hK hZ7 g1.1 g1.2 rfl (by decide) k_5_203 rfl d_11_8_48 ?_
    refine lv_iconst (v := iI 3) hx hb d_11_8_51 rfl ?_
    refine zaldQ (t := 0) (ci := 9) (k := 3) hx hb hK rfl hZ7 g1.1 g1.2 rfl (Nat.le_of_ble_eq_true rfl) (by decide) (by decide) d_11_8_52 ?_
    refine W.eq (g2 := F0 m 53 ls [.ref (ad 9 l0 (263 + 1))]) rfl ?_
    refine lv_aload_n hx hb d_11_8_53 rfl (lv_at hl 0 rfl) ?_
    refine zget (ci := 9) (C := RX9) (T := TX9) (v := .int (iI (F 9 l0 2))) (k := 2) hx hb hts inW_9 hown hK hZ7 g1.1 g1.2 rfl (by decide) k_5_201 rfl d_11_8_54 ?_
    refine lv_iload hx hb d_11_8_57 (lv_at hl 4 rfl) ?_
    refine zast (ci := 9) (k := 263) hx hb hK rfl hZ7 hS7 g1.1 g1.2 rfl (Nat.le_of_ble_eq_true rfl) g4.1 g4.2 d_11_8_59 (fun H8 locs8 hZ8 hS8 => ?_)
    refine lv_aload_n hx hb d_11_8_60 rfl (lv_at hl 0 rfl) ?_
    refine lv_dup hx hb d_11_8_61 rfl ?_
    refine zget (ci := 9) (C := RX9) (T := TX9) (v := .int (iI (F 9 l0 2))) (k := 2) hx hb hts inW_9 hown hK hZ8 g1.1 g1.2 rfl (by decide) k_5_201 rfl d_11_8_62 ?_
    refine lv_iconst (v := iI 1) hx hb d_11_8_65 rfl ?_
    refine zadd hx hb d_11_8_66 ?_
    refine zput (ci := 9) (C := RX9) (T := TX9) (k := 2) (v := ((F 9 l0 2) + 1)) (w := .int (iI ((F 9 l0 2) + 1))) hx hb hts inW_9 tyX9 tyX9_ok nmX9 hown hK hZ8 hS8 g1.1 g1.2 rfl (by decide) k_5_201 rfl (fun G h => congrArg (fun q => Value.int (iI q)) h) rfl rfl (zno (by decide)) d_11_8_67 (fun H9 locs9 hZ9 hS9 => ?_)
    cases hf
    exact W.vret hx hb hr (fun t ht hW => ⟨⟨(), rfl, trivial, by rw [ht]; exact hZ9, va_K.moved hW.alike hK⟩, hS9.F ht⟩) hS9.2.2 d_11_8_70 hlk
  · replace hf := gneg hf h3
    cases hf
    exact W.vret hx hb hr (fun t ht hW => ⟨⟨(), rfl, trivial, by rw [ht]; exact hZ, va_K.moved hW.alike hK⟩, hS.F ht⟩) hS.2.2 d_11_8_10 hlk

noncomputable abbrev Q_Study_isFaultOfOne (K : zK) (D : va_G) (ca : Nat → ClassId) (ad : Nat → Int → Nat → Nat) (L : List Nat) (r : Int) (F : zF) (B : zB) (A : Nat → Prop) : Array Value → State → Outcome → State → Prop := va_Qi (S := Unit) (fun p _ => p = iI r) (fun _ => zPo D ca ad lnC K.2 L F B A) A
noncomputable def f_Study_isFaultOfOne_167 (K : zK) (s0 : Int) (F : zF) (B : zB) : zO := if (s0 = 0 ∨ s0 = 1) then some (s0, F, B) else none
set_option maxHeartbeats 4000000 in
set_option maxRecDepth 100000 in
theorem b_Study_isFaultOfOne_167 {D : va_G} {ca : Nat → ClassId} {ad : Nat → Int → Nat → Nat} {L : List Nat} {aS vS : Nat → Nat} {A : Nat → Prop} {p : Program} {l : Launch} {e : Env} {s : State} {m : MethodId} {args : Array Value} {below : List Frame} {meth : Method} {c : Code} {K : zK} {r : Int} {F9 : zF} {B9 : zB} (X : zX D ca L aS vS A p s m args meth c prog_11_method_11_code 7 (Option.some Jvm.ClassFile.FieldType.boolean) "StaveHouse$Study") {s0 : Int} {F : zF} {B : zB} {H : Heap} {locs : List Loc} {ls : Array Slot} (hf : f_Study_isFaultOfOne_167 K s0 F B = some (r, F9, B9)) (hZ : zH D ca ad lnC K.2 L F B A H) (hS : va_S A s.heap H locs) (hl : lv_has ls 7 []) : W p l e ({ frames := 1, cells := 0, slots := 0, locals := 22 } : Room) s m args below meth c H locs 0 0 (MQ below (Q_Study_isFaultOfOne K D ca ad L r F9 B9 A) args s 0 0 A) (F0 m 167 ls [.int (iI s0)]) := by
  obtain ⟨hx, hb, hr, hml, hown, hts, hlk, hK, hA, hL, hX⟩ := id X
  replace hf : (if (s0 = 0 ∨ s0 = 1) then some (s0, F, B) else none) = some (r, F9, B9) := hf
  obtain ⟨g29, hf⟩ := gif hf
  cases hf
  exact W.zret hx hb hr (zbool g29) (fun t ht hW => ⟨⟨_, (), rfl, rfl, by rw [ht]; exact hZ, va_K.moved hW.alike hK⟩, hS.F ht⟩) hS.2.2 d_11_11_167 hlk

noncomputable def f_Study_isFaultOfOne_162 (K : zK)  (F : zF) (B : zB) : zO := f_Study_isFaultOfOne_167 K 1 F B
set_option maxHeartbeats 4000000 in
set_option maxRecDepth 100000 in
theorem b_Study_isFaultOfOne_162 {D : va_G} {ca : Nat → ClassId} {ad : Nat → Int → Nat → Nat} {L : List Nat} {aS vS : Nat → Nat} {A : Nat → Prop} {p : Program} {l : Launch} {e : Env} {s : State} {m : MethodId} {args : Array Value} {below : List Frame} {meth : Method} {c : Code} {K : zK} {r : Int} {F9 : zF} {B9 : zB} (X : zX D ca L aS vS A p s m args meth c prog_11_method_11_code 7 (Option.some Jvm.ClassFile.FieldType.boolean) "StaveHouse$Study")  {F : zF} {B : zB} {H : Heap} {locs : List Loc} {ls : Array Slot} (hf : f_Study_isFaultOfOne_162 K  F B = some (r, F9, B9)) (hZ : zH D ca ad lnC K.2 L F B A H) (hS : va_S A s.heap H locs) (hl : lv_has ls 7 []) : W p l e ({ frames := 1, cells := 0, slots := 0, locals := 22 } : Room) s m args below meth c H locs 0 0 (MQ below (Q_Study_isFaultOfOne K D ca ad L r F9 B9 A) args s 0 0 A) (F0 m 162 ls []) := by
  obtain ⟨hx, hb, hr, hml, hown, hts, hlk, hK, hA, hL, hX⟩ := id X
  replace hf : (f_Study_isFaultOfOne_167 K 1 F B) = some (r, F9, B9) := hf
  refine lv_iconst (v := iI 1) hx hb d_11_11_162 rfl ?_
  refine lv_goto (tgt := 167) hx hb d_11_11_163 (by decide) ?_
  exact b_Study_isFaultOfOne_167 X hf hZ hS (lv_sub hl [] rfl)

noncomputable def f_Study_isFaultOfOne_125 (K : zK) (l3 : Int) (s0 : Int) (F : zF) (B : zB) : zO := zbind (f_Math_floorMod K s0 12 F B) (fun r21 F21 B21 => if 0 ≤ (zrm l3 7) ∧ (zrm l3 7) < ztl 9 then if r32 r21 then if r32 (ztv 9 (zrm l3 7)) then (if r21 < (ztv 9 (zrm l3 7)) then f_Study_isFaultOfOne_162 K F21 B21 else if 0 ≤ (zrm l3 7) ∧ (zrm l3 7) < ztl 10 then if r32 (ztv 10 (zrm l3 7)) then (if r21 ≤ (ztv 10 (zrm l3 7)) then f_Study_isFaultOfOne_167 K 0 F21 B21 else f_Study_isFaultOfOne_162 K F21 B21) else none else none) else none else none else none)
set_option maxHeartbeats 4000000 in
set_option maxRecDepth 100000 in
theorem b_Study_isFaultOfOne_125 {D : va_G} {ca : Nat → ClassId} {ad : Nat → Int → Nat → Nat} {L : List Nat} {aS vS : Nat → Nat} {A : Nat → Prop} {p : Program} {l : Launch} {e : Env} {s : State} {m : MethodId} {args : Array Value} {below : List Frame} {meth : Method} {c : Code} {K : zK} {r : Int} {F9 : zF} {B9 : zB} (X : zX D ca L aS vS A p s m args meth c prog_11_method_11_code 7 (Option.some Jvm.ClassFile.FieldType.boolean) "StaveHouse$Study") {l3 : Int} {s0 : Int} {F : zF} {B : zB} {H : Heap} {locs : List Loc} {ls : Array Slot} (hf : f_Study_isFaultOfOne_125 K l3 s0 F B = some (r, F9, B9)) (hZ : zH D ca ad lnC K.2 L F B A H) (hS : va_S A s.heap H locs) (hl : lv_has ls 7 [(3, .int (iI l3))]) : W p l e ({ frames := 1, cells := 0, slots := 0, locals := 22 } : Room) s m args below meth c H locs 0 0 (MQ below (Q_Study_isFaultOfOne K D ca ad L r F9 B9 A) args s 0 0 A) (F0 m 125 ls [.int (iI s0)]) := by
  obtain ⟨hx, hb, hr, hml, hown, hts, hlk, hK, hA, hL, hX⟩ := id X
  replace hf : (zbind (f_Math_floorMod K s0 12 F B) (fun r21 F21 B21 => if 0 ≤ (zrm l3 7) ∧ (zrm l3 7) < ztl 9 then if r32 r21 then if r32 (ztv 9 (zrm l3 7)) then (if r21 < (ztv 9 (zrm l3 7)) then f_Study_isFaultOfOne_162 K F21 B21 else if 0 ≤ (zrm l3 7) ∧ (zrm l3 7) < ztl 10 then if r32 (ztv 10 (zrm l3 7)) then (if r21 ≤ (ztv 10 (zrm l3 7)) then f_Study_isFaultOfOne_167 K 0 F21 B21 else f_Study_isFaultOfOne_162 K F21 B21) else none else none) else none else none else none)) = some (r, F9, B9) := hf
  refine lv_istore (lv' := [(5, .int (iI s0)), (3, .int (iI l3))]) hx hb d_11_11_125 hl (by decide) rfl (fun ls hl => ?_)
  refine lv_iload hx hb d_11_11_127 (lv_at hl 0 rfl) ?_
  refine lv_bipush (v := iI 12) hx hb d_11_11_129 (by decide) ?_
  obtain ⟨r21, F21, B21, hc21, hf⟩ := gbind hf
  refine va_calli (va_runS (As := [.int (iI s0), .int (iI 12)]) (rest := []) ⟨hx, hb, hml, hown, hts⟩ (c_Math_floorMod (l := l) hc21) (va_cwS 2 hts (gdS k_6_38 k_4_71 k_1_3 k_4_72) rfl rfl rfl (by decide +kernel) ⟨Nat.le_of_ble_eq_true rfl, Nat.le_of_ble_eq_true rfl⟩) (zPS X hZ hS [.int (iI s0), .int (iI 12)]) rfl rfl hl.1 rfl (lv_room (Nat.le_of_ble_eq_true rfl)) d_11_11_131 ⟨Nat.le_of_ble_eq_true rfl, Nat.le_of_ble_eq_true rfl⟩) hS (fun q _ h => zAin X hS q h) (zAin X hS) (fun p21 u21 t21 H21 locs21 ht21 hv21 hw21 hB21 hz21 hk21 hS21 => ?_)
  have hZ21 := zBack X ht21 hB21
  subst hw21
  refine lv_istore (lv' := [(6, .int (iI r21)), (5, .int (iI s0)), (3, .int (iI l3))]) hx hb d_11_11_134 hl (by decide) rfl (fun ls hl => ?_)
  refine lv_iload hx hb d_11_11_136 (lv_at hl 0 rfl) ?_
  refine va_gets hx hb (hX.2.2.2.2.2.2 9 _ rfl).1 hS21 hown (hts _ k_6_48) (fun _ h => h) d_11_11_138 ?_
  refine W.eq (g2 := F0 m 141 ls [.ref (vS (1000 + 9)), .int (iI r21)]) rfl ?_
  refine lv_iload_n hx hb d_11_11_141 rfl (lv_at hl 2 rfl) ?_
  refine lv_bipush (v := iI 7) hx hb d_11_11_142 (by decide) ?_
  refine zrm_r hx hb (by decide) d_11_11_144 ?_
  obtain ⟨g22, hf⟩ := gif hf
  refine va_ti (v := .int (iI (ztv 9 (zrm l3 7)))) hx hb (ztI hX (by decide) (by decide)) hS21 (zt_in (by decide) g22) (ztI_v (by decide) g22) d_11_11_145 ?_
  obtain ⟨g23, hf⟩ := gif hf
  obtain ⟨g24, hf⟩ := gif hf
  refine zlt (tgt := 162) hx hb g23 g24 d_11_11_146 (by decide) (fun h25 => ?_) (fun h25 => ?_)
  · replace hf := gpos hf h25
    exact b_Study_isFaultOfOne_162 X hf hZ21 hS21 (lv_sub hl [] rfl)
  · replace hf := gneg hf h25
    refine lv_iload hx hb d_11_11_149 (lv_at hl 0 rfl) ?_
    refine va_gets hx hb (hX.2.2.2.2.2.2 10 _ rfl).1 hS21 hown (hts _ k_6_50) (fun _ h => h) d_11_11_151 ?_
    refine W.eq (g2 := F0 m 154 ls [.ref (vS (1000 + 10)), .int (iI r21)]) rfl ?_
    refine lv_iload_n hx hb d_11_11_154 rfl (lv_at hl 2 rfl) ?_
    refine lv_bipush (v := iI 7) hx hb d_11_11_155 (by decide) ?_
    refine zrm_r hx hb (by decide) d_11_11_157 ?_
    obtain ⟨g26, hf⟩ := gif hf
    refine va_ti (v := .int (iI (ztv 10 (zrm l3 7)))) hx hb (ztI hX (by decide) (by decide)) hS21 (zt_in (by decide) g26) (ztI_v (by decide) g26) d_11_11_158 ?_
    obtain ⟨g27, hf⟩ := gif hf
    refine zle (tgt := 166) hx hb g23 g27 d_11_11_159 (by decide) (fun h28 => ?_) (fun h28 => ?_)
    · replace hf := gpos hf h28
      refine lv_iconst (v := iI 0) hx hb d_11_11_166 rfl ?_
      exact b_Study_isFaultOfOne_167 X hf hZ21 hS21 (lv_sub hl [] rfl)
    · replace hf := gneg hf h28
      exact b_Study_isFaultOfOne_162 X hf hZ21 hS21 (lv_sub hl [] rfl)

noncomputable def f_Study_isFaultOfOne_109 (K : zK) (l3 : Int) (s0 : Int) (F : zF) (B : zB) : zO := if r32 l3 then (if l3 = 0 then if r32 s0 then f_Study_isFaultOfOne_125 K l3 (zabs s0) F B else none else f_Study_isFaultOfOne_125 K l3 s0 F B) else none
set_option maxHeartbeats 4000000 in
set_option maxRecDepth 100000 in
theorem b_Study_isFaultOfOne_109 {D : va_G} {ca : Nat → ClassId} {ad : Nat → Int → Nat → Nat} {L : List Nat} {aS vS : Nat → Nat} {A : Nat → Prop} {p : Program} {l : Launch} {e : Env} {s : State} {m : MethodId} {args : Array Value} {below : List Frame} {meth : Method} {c : Code} {K : zK} {r : Int} {F9 : zF} {B9 : zB} (X : zX D ca L aS vS A p s m args meth c prog_11_method_11_code 7 (Option.some Jvm.ClassFile.FieldType.boolean) "StaveHouse$Study") {l3 : Int} {s0 : Int} {F : zF} {B : zB} {H : Heap} {locs : List Loc} {ls : Array Slot} (hf : f_Study_isFaultOfOne_109 K l3 s0 F B = some (r, F9, B9)) (hZ : zH D ca ad lnC K.2 L F B A H) (hS : va_S A s.heap H locs) (hl : lv_has ls 7 [(3, .int (iI l3))]) : W p l e ({ frames := 1, cells := 0, slots := 0, locals := 22 } : Room) s m args below meth c H locs 0 0 (MQ below (Q_Study_isFaultOfOne K D ca ad L r F9 B9 A) args s 0 0 A) (F0 m 109 ls [.int (iI s0)]) := by
  obtain ⟨hx, hb, hr, hml, hown, hts, hlk, hK, hA, hL, hX⟩ := id X
  replace hf : (if r32 l3 then (if l3 = 0 then if r32 s0 then f_Study_isFaultOfOne_125 K l3 (zabs s0) F B else none else f_Study_isFaultOfOne_125 K l3 s0 F B) else none) = some (r, F9, B9) := hf
  refine lv_istore (lv' := [(4, .int (iI s0)), (3, .int (iI l3))]) hx hb d_11_11_109 hl (by decide) rfl (fun ls hl => ?_)
  refine lv_iload_n hx hb d_11_11_111 rfl (lv_at hl 1 rfl) ?_
  obtain ⟨g18, hf⟩ := gif hf
  refine z0ne (tgt := 123) hx hb g18 d_11_11_112 (by decide) (fun h19 => ?_) (fun h19 => ?_)
  · replace hf := gneg hf h19
    refine lv_iload hx hb d_11_11_123 (lv_at hl 0 rfl) ?_
    exact b_Study_isFaultOfOne_125 X hf hZ hS (lv_sub hl [1] rfl)
  · replace hf := gpos hf h19
    refine lv_iload hx hb d_11_11_115 (lv_at hl 0 rfl) ?_
    obtain ⟨g20, hf⟩ := gif hf
    refine va_mabs hx hb (by rw [hml]; exact hl.1.symm) hown (hts _ k_6_39) (hts _ k_4_229) (hts _ k_1_3) (hts _ k_4_230) (Nat.le_of_ble_eq_true rfl) (Nat.le_of_ble_eq_true rfl) (Nat.le_of_ble_eq_true rfl) (Nat.le_of_ble_eq_true rfl) d_11_11_117 ?_
    rw [zabs_e g20]
    refine lv_goto (tgt := 125) hx hb d_11_11_120 (by decide) ?_
    exact b_Study_isFaultOfOne_125 X hf hZ hS (lv_sub hl [1] rfl)

noncomputable def f_Study_isFaultOfOne_64 (K : zK) (s0 : Int) (F : zF) (B : zB) : zO := if (s0 = 0 ∨ s0 = 1) then some (s0, F, B) else none
set_option maxHeartbeats 4000000 in
set_option maxRecDepth 100000 in
theorem b_Study_isFaultOfOne_64 {D : va_G} {ca : Nat → ClassId} {ad : Nat → Int → Nat → Nat} {L : List Nat} {aS vS : Nat → Nat} {A : Nat → Prop} {p : Program} {l : Launch} {e : Env} {s : State} {m : MethodId} {args : Array Value} {below : List Frame} {meth : Method} {c : Code} {K : zK} {r : Int} {F9 : zF} {B9 : zB} (X : zX D ca L aS vS A p s m args meth c prog_11_method_11_code 7 (Option.some Jvm.ClassFile.FieldType.boolean) "StaveHouse$Study") {s0 : Int} {F : zF} {B : zB} {H : Heap} {locs : List Loc} {ls : Array Slot} (hf : f_Study_isFaultOfOne_64 K s0 F B = some (r, F9, B9)) (hZ : zH D ca ad lnC K.2 L F B A H) (hS : va_S A s.heap H locs) (hl : lv_has ls 7 []) : W p l e ({ frames := 1, cells := 0, slots := 0, locals := 22 } : Room) s m args below meth c H locs 0 0 (MQ below (Q_Study_isFaultOfOne K D ca ad L r F9 B9 A) args s 0 0 A) (F0 m 64 ls [.int (iI s0)]) := by
  obtain ⟨hx, hb, hr, hml, hown, hts, hlk, hK, hA, hL, hX⟩ := id X
  replace hf : (if (s0 = 0 ∨ s0 = 1) then some (s0, F, B) else none) = some (r, F9, B9) := hf
  obtain ⟨g17, hf⟩ := gif hf
  cases hf
  exact W.zret hx hb hr (zbool g17) (fun t ht hW => ⟨⟨_, (), rfl, rfl, by rw [ht]; exact hZ, va_K.moved hW.alike hK⟩, hS.F ht⟩) hS.2.2 d_11_11_64 hlk

noncomputable def f_Study_isFaultOfOne_29 (K : zK)  (F : zF) (B : zB) : zO := some (0, F, B)
set_option maxHeartbeats 4000000 in
set_option maxRecDepth 100000 in
theorem b_Study_isFaultOfOne_29 {D : va_G} {ca : Nat → ClassId} {ad : Nat → Int → Nat → Nat} {L : List Nat} {aS vS : Nat → Nat} {A : Nat → Prop} {p : Program} {l : Launch} {e : Env} {s : State} {m : MethodId} {args : Array Value} {below : List Frame} {meth : Method} {c : Code} {K : zK} {r : Int} {F9 : zF} {B9 : zB} (X : zX D ca L aS vS A p s m args meth c prog_11_method_11_code 7 (Option.some Jvm.ClassFile.FieldType.boolean) "StaveHouse$Study")  {F : zF} {B : zB} {H : Heap} {locs : List Loc} {ls : Array Slot} (hf : f_Study_isFaultOfOne_29 K  F B = some (r, F9, B9)) (hZ : zH D ca ad lnC K.2 L F B A H) (hS : va_S A s.heap H locs) (hl : lv_has ls 7 []) : W p l e ({ frames := 1, cells := 0, slots := 0, locals := 22 } : Room) s m args below meth c H locs 0 0 (MQ below (Q_Study_isFaultOfOne K D ca ad L r F9 B9 A) args s 0 0 A) (F0 m 29 ls []) := by
  obtain ⟨hx, hb, hr, hml, hown, hts, hlk, hK, hA, hL, hX⟩ := id X
  replace hf : (some (0, F, B)) = some (r, F9, B9) := hf
  refine lv_iconst (v := iI 0) hx hb d_11_11_29 rfl ?_
  cases hf
  exact W.zret hx hb hr rfl (fun t ht hW => ⟨⟨_, (), rfl, rfl, by rw [ht]; exact hZ, va_K.moved hW.alike hK⟩, hS.F ht⟩) hS.2.2 d_11_11_30 hlk

noncomputable def f_Study_isFaultOfOne (K : zK) (l0 : Int) (l1 : Int) (l2 : Int) (F : zF) (B : zB) : zO := if 0 ≤ l0 ∧ l0 < K.2 9 then if 0 ≤ l2 ∧ l2 < 4 then if r32 (B 9 l0 9 l2) then (if (B 9 l0 9 l2) = 0 then f_Study_isFaultOfOne_29 K F B else if r32 (B 9 l0 6 l2) then (if (B 9 l0 6 l2) = (-1) then f_Study_isFaultOfOne_29 K F B else if r32 (B 9 l0 8 l2) then (if (B 9 l0 8 l2) = (-1) then f_Study_isFaultOfOne_29 K F B else if r32 ((B 9 l0 5 l2) - (B 9 l0 7 l2)) then if r32 l1 then (if l1 = 5 then if r32 (zabs ((B 9 l0 5 l2) - (B 9 l0 7 l2))) then (if (zabs ((B 9 l0 5 l2) - (B 9 l0 7 l2))) ≤ 7 then f_Study_isFaultOfOne_64 K 0 F B else f_Study_isFaultOfOne_64 K 1 F B) else none else if r32 (B 9 l0 5 l2) then if r32 (B 9 l0 7 l2) then (if (B 9 l0 5 l2) ≤ (B 9 l0 7 l2) then f_Study_isFaultOfOne_109 K (zabs ((B 9 l0 5 l2) - (B 9 l0 7 l2))) ((B 9 l0 8 l2) - (B 9 l0 6 l2)) F B else f_Study_isFaultOfOne_109 K (zabs ((B 9 l0 5 l2) - (B 9 l0 7 l2))) ((B 9 l0 6 l2) - (B 9 l0 8 l2)) F B) else none else none) else none else none) else none) else none) else none else none else none
set_option maxHeartbeats 4000000 in
set_option maxRecDepth 100000 in
theorem c_Study_isFaultOfOne {l : Launch} {D : va_G} {ca : Nat → ClassId} {ad : Nat → Int → Nat → Nat} {L : List Nat} {aS vS : Nat → Nat} {sz : Nat} {K : zK}  {l0 : Int} {l1 : Int} {l2 : Int} {F F9 : zF} {B B9 : zB} {r : Int} (hf : f_Study_isFaultOfOne K l0 l1 l2 F B = some (r, F9, B9)) : Met l ({ cls := "StaveHouse$Study", name := "isFaultOfOne", desc := "(II)Z" } : Jvm.MethodName) (Cond.code ({ cls := "StaveHouse$Study", name := "isFaultOfOne", desc := "(II)Z" } : Jvm.MethodName) prog_11_method_11_code 7 (Option.some Jvm.ClassFile.FieldType.boolean) :: wAll) ({ frames := 1, cells := 0, slots := 0, locals := 22 } : Room) (va_Pc [.ref (ad 9 l0 0), .int (iI l1), .int (iI l2)] (zPre D ca ad lnC K.2 L aS vS F B sz)) (Q_Study_isFaultOfOne K D ca ad L r F9 B9 (zA L sz)) 0 0 (zA L sz) := by
  refine zMet (Qc := Q_Study_isFaultOfOne K D ca ad L r F9 B9) (lv := [(0, .ref (ad 9 l0 0)), (1, .int (iI l1)), (2, .int (iI l2))]) (by decide) (Nat.le_of_ble_eq_true rfl) rfl (fun A p e s m below meth c ls X hZ hS hl => ?_)
  obtain ⟨hx, hb, hr, hml, hown, hts, hlk, hK, hA, hL, hX⟩ := id X
  replace hf : (if 0 ≤ l0 ∧ l0 < K.2 9 then if 0 ≤ l2 ∧ l2 < 4 then if r32 (B 9 l0 9 l2) then (if (B 9 l0 9 l2) = 0 then f_Study_isFaultOfOne_29 K F B else if r32 (B 9 l0 6 l2) then (if (B 9 l0 6 l2) = (-1) then f_Study_isFaultOfOne_29 K F B else if r32 (B 9 l0 8 l2) then (if (B 9 l0 8 l2) = (-1) then f_Study_isFaultOfOne_29 K F B else if r32 ((B 9 l0 5 l2) - (B 9 l0 7 l2)) then if r32 l1 then (if l1 = 5 then if r32 (zabs ((B 9 l0 5 l2) - (B 9 l0 7 l2))) then (if (zabs ((B 9 l0 5 l2) - (B 9 l0 7 l2))) ≤ 7 then f_Study_isFaultOfOne_64 K 0 F B else f_Study_isFaultOfOne_64 K 1 F B) else none else if r32 (B 9 l0 5 l2) then if r32 (B 9 l0 7 l2) then (if (B 9 l0 5 l2) ≤ (B 9 l0 7 l2) then f_Study_isFaultOfOne_109 K (zabs ((B 9 l0 5 l2) - (B 9 l0 7 l2))) ((B 9 l0 8 l2) - (B 9 l0 6 l2)) F B else f_Study_isFaultOfOne_109 K (zabs ((B 9 l0 5 l2) - (B 9 l0 7 l2))) ((B 9 l0 6 l2) - (B 9 l0 8 l2)) F B) else none else none) else none else none) else none) else none) else none else none else none) = some (r, F9, B9) := hf
  refine lv_aload_n hx hb d_11_11_0 rfl (lv_at hl 0 rfl) ?_
  obtain ⟨g1, hf⟩ := gif hf
  refine zget (ci := 9) (C := RX9) (T := TX9) (v := .ref (ad 9 l0 (9 + 1))) (k := 9) hx hb hts inW_9 hown hK hZ g1.1 g1.2 rfl (by decide) k_5_210 rfl d_11_11_1 ?_
  refine lv_iload_n hx hb d_11_11_4 rfl (lv_at hl 2 rfl) ?_
  obtain ⟨g2, hf⟩ := gif hf
  refine zzald (ci := 9) (k := 9) hx hb hK rfl hZ g1.1 g1.2 rfl (Nat.le_of_ble_eq_true rfl) g2.1 g2.2 d_11_11_5 ?_
  obtain ⟨g3, hf⟩ := gif hf
  refine z0eq (tgt := 29) hx hb g3 d_11_11_6 (by decide) (fun h4 => ?_) (fun h4 => ?_)
  · replace hf := gpos hf h4
    exact b_Study_isFaultOfOne_29 X hf hZ hS (lv_sub hl [] rfl)
  · replace hf := gneg hf h4
    refine lv_aload_n hx hb d_11_11_9 rfl (lv_at hl 0 rfl) ?_
    refine zget (ci := 9) (C := RX9) (T := TX9) (v := .ref (ad 9 l0 (6 + 1))) (k := 6) hx hb hts inW_9 hown hK hZ g1.1 g1.2 rfl (by decide) k_5_207 rfl d_11_11_10 ?_
    refine lv_iload_n hx hb d_11_11_13 rfl (lv_at hl 2 rfl) ?_
    refine zald (ci := 9) (k := 6) hx hb hK rfl hZ g1.1 g1.2 rfl (Nat.le_of_ble_eq_true rfl) g2.1 g2.2 d_11_11_14 ?_
    refine lv_iconst (v := iI (-1)) hx hb d_11_11_15 rfl ?_
    obtain ⟨g5, hf⟩ := gif hf
    refine zeq (tgt := 29) hx hb g5 (by decide) d_11_11_16 (by decide) (fun h6 => ?_) (fun h6 => ?_)
    · replace hf := gpos hf h6
      exact b_Study_isFaultOfOne_29 X hf hZ hS (lv_sub hl [] rfl)
    · replace hf := gneg hf h6
      refine lv_aload_n hx hb d_11_11_19 rfl (lv_at hl 0 rfl) ?_
      refine zget (ci := 9) (C := RX9) (T := TX9) (v := .ref (ad 9 l0 (8 + 1))) (k := 8) hx hb hts inW_9 hown hK hZ g1.1 g1.2 rfl (by decide) k_5_209 rfl d_11_11_20 ?_
      refine lv_iload_n hx hb d_11_11_23 rfl (lv_at hl 2 rfl) ?_
      refine zald (ci := 9) (k := 8) hx hb hK rfl hZ g1.1 g1.2 rfl (Nat.le_of_ble_eq_true rfl) g2.1 g2.2 d_11_11_24 ?_
      refine lv_iconst (v := iI (-1)) hx hb d_11_11_25 rfl ?_
      obtain ⟨g7, hf⟩ := gif hf
      refine zne (tgt := 31) hx hb g7 (by decide) d_11_11_26 (by decide) (fun h8 => ?_) (fun h8 => ?_)
      · replace hf := gneg hf h8
        refine lv_aload_n hx hb d_11_11_31 rfl (lv_at hl 0 rfl) ?_
        refine zget (ci := 9) (C := RX9) (T := TX9) (v := .ref (ad 9 l0 (5 + 1))) (k := 5) hx hb hts inW_9 hown hK hZ g1.1 g1.2 rfl (by decide) k_5_206 rfl d_11_11_32 ?_
        refine lv_iload_n hx hb d_11_11_35 rfl (lv_at hl 2 rfl) ?_
        refine zald (ci := 9) (k := 5) hx hb hK rfl hZ g1.1 g1.2 rfl (Nat.le_of_ble_eq_true rfl) g2.1 g2.2 d_11_11_36 ?_
        refine lv_aload_n hx hb d_11_11_37 rfl (lv_at hl 0 rfl) ?_
        refine zget (ci := 9) (C := RX9) (T := TX9) (v := .ref (ad 9 l0 (7 + 1))) (k := 7) hx hb hts inW_9 hown hK hZ g1.1 g1.2 rfl (by decide) k_5_208 rfl d_11_11_38 ?_
        refine lv_iload_n hx hb d_11_11_41 rfl (lv_at hl 2 rfl) ?_
        refine zald (ci := 9) (k := 7) hx hb hK rfl hZ g1.1 g1.2 rfl (Nat.le_of_ble_eq_true rfl) g2.1 g2.2 d_11_11_42 ?_
        refine zsub hx hb d_11_11_43 ?_
        obtain ⟨g9, hf⟩ := gif hf
        refine va_mabs hx hb (by rw [hml]; exact hl.1.symm) hown (hts _ k_6_39) (hts _ k_4_229) (hts _ k_1_3) (hts _ k_4_230) (Nat.le_of_ble_eq_true rfl) (Nat.le_of_ble_eq_true rfl) (Nat.le_of_ble_eq_true rfl) (Nat.le_of_ble_eq_true rfl) d_11_11_44 ?_
        rw [zabs_e g9]
        refine lv_istore_n (lv' := [(3, .int (iI (zabs ((B 9 l0 5 l2) - (B 9 l0 7 l2))))), (0, .ref (ad 9 l0 0)), (1, .int (iI l1)), (2, .int (iI l2))]) hx hb d_11_11_47 rfl hl (by decide) rfl (fun ls hl => ?_)
        refine lv_iload_n hx hb d_11_11_48 rfl (lv_at hl 2 rfl) ?_
        refine lv_iconst (v := iI 5) hx hb d_11_11_49 rfl ?_
        obtain ⟨g10, hf⟩ := gif hf
        refine zne (tgt := 65) hx hb g10 (by decide) d_11_11_50 (by decide) (fun h11 => ?_) (fun h11 => ?_)
        · replace hf := gneg hf h11
          refine lv_aload_n hx hb d_11_11_65 rfl (lv_at hl 1 rfl) ?_
          refine zget (ci := 9) (C := RX9) (T := TX9) (v := .ref (ad 9 l0 (5 + 1))) (k := 5) hx hb hts inW_9 hown hK hZ g1.1 g1.2 rfl (by decide) k_5_206 rfl d_11_11_66 ?_
          refine lv_iload_n hx hb d_11_11_69 rfl (lv_at hl 3 rfl) ?_
          refine zald (ci := 9) (k := 5) hx hb hK rfl hZ g1.1 g1.2 rfl (Nat.le_of_ble_eq_true rfl) g2.1 g2.2 d_11_11_70 ?_
          refine lv_aload_n hx hb d_11_11_71 rfl (lv_at hl 1 rfl) ?_
          refine zget (ci := 9) (C := RX9) (T := TX9) (v := .ref (ad 9 l0 (7 + 1))) (k := 7) hx hb hts inW_9 hown hK hZ g1.1 g1.2 rfl (by decide) k_5_208 rfl d_11_11_72 ?_
          refine lv_iload_n hx hb d_11_11_75 rfl (lv_at hl 3 rfl) ?_
          refine zald (ci := 9) (k := 7) hx hb hK rfl hZ g1.1 g1.2 rfl (Nat.le_of_ble_eq_true rfl) g2.1 g2.2 d_11_11_76 ?_
          obtain ⟨g12, hf⟩ := gif hf
          obtain ⟨g13, hf⟩ := gif hf
          refine zle (tgt := 96) hx hb g12 g13 d_11_11_77 (by decide) (fun h14 => ?_) (fun h14 => ?_)
          · replace hf := gpos hf h14
            refine lv_aload_n hx hb d_11_11_96 rfl (lv_at hl 1 rfl) ?_
            refine zget (ci := 9) (C := RX9) (T := TX9) (v := .ref (ad 9 l0 (8 + 1))) (k := 8) hx hb hts inW_9 hown hK hZ g1.1 g1.2 rfl (by decide) k_5_209 rfl d_11_11_97 ?_
            refine lv_iload_n hx hb d_11_11_100 rfl (lv_at hl 3 rfl) ?_
            refine zald (ci := 9) (k := 8) hx hb hK rfl hZ g1.1 g1.2 rfl (Nat.le_of_ble_eq_true rfl) g2.1 g2.2 d_11_11_101 ?_
            refine lv_aload_n hx hb d_11_11_102 rfl (lv_at hl 1 rfl) ?_
            refine zget (ci := 9) (C := RX9) (T := TX9) (v := .ref (ad 9 l0 (6 + 1))) (k := 6) hx hb hts inW_9 hown hK hZ g1.1 g1.2 rfl (by decide) k_5_207 rfl d_11_11_103 ?_
            refine lv_iload_n hx hb d_11_11_106 rfl (lv_at hl 3 rfl) ?_
            refine zald (ci := 9) (k := 6) hx hb hK rfl hZ g1.1 g1.2 rfl (Nat.le_of_ble_eq_true rfl) g2.1 g2.2 d_11_11_107 ?_
            refine zsub hx hb d_11_11_108 ?_
            exact b_Study_isFaultOfOne_109 X hf hZ hS (lv_sub hl [0] rfl)
          · replace hf := gneg hf h14
            refine lv_aload_n hx hb d_11_11_80 rfl (lv_at hl 1 rfl) ?_
            refine zget (ci := 9) (C := RX9) (T := TX9) (v := .ref (ad 9 l0 (6 + 1))) (k := 6) hx hb hts inW_9 hown hK hZ g1.1 g1.2 rfl (by decide) k_5_207 rfl d_11_11_81 ?_
            refine lv_iload_n hx hb d_11_11_84 rfl (lv_at hl 3 rfl) ?_
            refine zald (ci := 9) (k := 6) hx hb hK rfl hZ g1.1 g1.2 rfl (Nat.le_of_ble_eq_true rfl) g2.1 g2.2 d_11_11_85 ?_
            refine lv_aload_n hx hb d_11_11_86 rfl (lv_at hl 1 rfl) ?_
            refine zget (ci := 9) (C := RX9) (T := TX9) (v := .ref (ad 9 l0 (8 + 1))) (k := 8) hx hb hts inW_9 hown hK hZ g1.1 g1.2 rfl (by decide) k_5_209 rfl d_11_11_87 ?_
            refine lv_iload_n hx hb d_11_11_90 rfl (lv_at hl 3 rfl) ?_
            refine zald (ci := 9) (k := 8) hx hb hK rfl hZ g1.1 g1.2 rfl (Nat.le_of_ble_eq_true rfl) g2.1 g2.2 d_11_11_91 ?_
            refine zsub hx hb d_11_11_92 ?_
            refine lv_goto (tgt := 109) hx hb d_11_11_93 (by decide) ?_
            exact b_Study_isFaultOfOne_109 X hf hZ hS (lv_sub hl [0] rfl)
        · replace hf := gpos hf h11
          refine lv_iload_n hx hb d_11_11_53 rfl (lv_at hl 0 rfl) ?_
          refine lv_bipush (v := iI 7) hx hb d_11_11_54 (by decide) ?_
          obtain ⟨g15, hf⟩ := gif hf
          refine zle (tgt := 63) hx hb g15 (by decide) d_11_11_56 (by decide) (fun h16 => ?_) (fun h16 => ?_)
          · replace hf := gpos hf h16
            refine lv_iconst (v := iI 0) hx hb d_11_11_63 rfl ?_
            exact b_Study_isFaultOfOne_64 X hf hZ hS (lv_sub hl [] rfl)
          · replace hf := gneg hf h16
            refine lv_iconst (v := iI 1) hx hb d_11_11_59 rfl ?_
            refine lv_goto (tgt := 64) hx hb d_11_11_60 (by decide) ?_
            exact b_Study_isFaultOfOne_64 X hf hZ hS (lv_sub hl [] rfl)
      · replace hf := gpos hf h8
        exact b_Study_isFaultOfOne_29 X hf hZ hS (lv_sub hl [] rfl)

noncomputable abbrev Q_Performance_tick (K : zK) (D : va_G) (ca : Nat → ClassId) (ad : Nat → Int → Nat → Nat) (L : List Nat) (r : Int) (F : zF) (B : zB) (A : Nat → Prop) : Array Value → State → Outcome → State → Prop := va_Qi (S := Unit) (fun p _ => p = iI r) (fun _ => zPo D ca ad lnC K.2 L F B A) A
noncomputable def f_Performance_tick (K : zK) (l0 : Int) (F : zF) (B : zB) : zO := some (zldv (384 * l0) 812851200, F, B)
set_option maxHeartbeats 4000000 in
set_option maxRecDepth 100000 in
theorem c_Performance_tick {l : Launch} {D : va_G} {ca : Nat → ClassId} {ad : Nat → Int → Nat → Nat} {L : List Nat} {aS vS : Nat → Nat} {sz : Nat} {K : zK}  {l0 : Int} {F F9 : zF} {B B9 : zB} {r : Int} (hf : f_Performance_tick K l0 F B = some (r, F9, B9)) : Met l ({ cls := "StaveHouse$Performance", name := "tick", desc := "(J)I" } : Jvm.MethodName) (Cond.code ({ cls := "StaveHouse$Performance", name := "tick", desc := "(J)I" } : Jvm.MethodName) prog_7_method_4_code 2 (Option.some Jvm.ClassFile.FieldType.int) :: wAll) ({ frames := 0, cells := 0, slots := 0, locals := 0 } : Room) (va_Pc [.long (lI l0)] (zPre D ca ad lnC K.2 L aS vS F B sz)) (Q_Performance_tick K D ca ad L r F9 B9 (zA L sz)) 0 0 (zA L sz) := by
  refine zMet (Qc := Q_Performance_tick K D ca ad L r F9 B9) (lv := [(0, .long (lI l0))]) (by decide) (Nat.le_of_ble_eq_true rfl) rfl (fun A p e s m below meth c ls X hZ hS hl => ?_)
  obtain ⟨hx, hb, hr, hml, hown, hts, hlk, hK, hA, hL, hX⟩ := id X
  replace hf : (some (zldv (384 * l0) 812851200, F, B)) = some (r, F9, B9) := hf
  refine lv_ldc2 hx hb hown (hts _ k_6_129) d_7_4_0 ?_
  refine W.eq (g2 := F0 m 3 ls [.long (lI 384)]) rfl ?_
  refine lv_lload_n hx hb d_7_4_3 rfl (lv_at hl 0 rfl) ?_
  refine zlmul hx hb d_7_4_4 ?_
  refine lv_ldc2 hx hb hown (hts _ k_6_130) d_7_4_5 ?_
  refine W.eq (g2 := F0 m 8 ls [.long (lI 812851200), .long (lI (384 * l0))]) rfl ?_
  refine zldv_r hx hb (by decide) d_7_4_8 ?_
  refine zl2iw hx hb d_7_4_9 ?_
  cases hf
  exact W.iret hx hb hr (fun t ht hW => ⟨⟨_, (), rfl, rfl, by rw [ht]; exact hZ, va_K.moved hW.alike hK⟩, hS.F ht⟩) hS.2.2 d_7_4_10 hlk

noncomputable abbrev Q_Performance_force (K : zK) (D : va_G) (ca : Nat → ClassId) (ad : Nat → Int → Nat → Nat) (L : List Nat) (r : Int) (F : zF) (B : zB) (A : Nat → Prop) : Array Value → State → Outcome → State → Prop := va_Qi (S := Unit) (fun p _ => p = iI r) (fun _ => zPo D ca ad lnC K.2 L F B A) A
noncomputable def f_Performance_force_25 (K : zK) (s0 : Int) (s1 : Int) (F : zF) (B : zB) : zO := if r32 (s0 + s1) then some (zmin (s0 + s1) 127, F, B) else none
