set_option maxHeartbeats 4000000 in
set_option maxRecDepth 100000 in
theorem b_Study_isFaultOfTwo_46 {D : va_G} {ca : Nat → ClassId} {ad : Nat → Int → Nat → Nat} {L : List Nat} {aS vS : Nat → Nat} {A : Nat → Prop} {p : Program} {l : Launch} {e : Env} {s : State} {m : MethodId} {args : Array Value} {below : List Frame} {meth : Method} {c : Code} {K : zK} {r : Int} {F9 : zF} {B9 : zB} (X : zX D ca L aS vS A p s m args meth c prog_11_method_9_code 10 (Option.some Jvm.ClassFile.FieldType.boolean) "StaveHouse$Study") {l0 : Int} {l1 : Int} {l2 : Int} {l3 : Int} {F : zF} {B : zB} {H : Heap} {locs : List Loc} {ls : Array Slot} (hf : f_Study_isFaultOfTwo_46 K l0 l1 l2 l3 F B = some (r, F9, B9)) (hZ : zH D ca ad lnC K.2 L F B A H) (hS : va_S A s.heap H locs) (hl : lv_has ls 10 [(0, .ref (ad 9 l0 0)), (1, .int (iI l1)), (2, .int (iI l2)), (3, .int (iI l3))]) : W p l e ({ frames := 2, cells := 0, slots := 0, locals := 48 } : Room) s m args below meth c H locs 0 0 (MQ below (Q_Study_isFaultOfTwo K D ca ad L r F9 B9 A) args s 0 0 A) (F0 m 46 ls []) := by
  obtain ⟨hx, hb, hr, hml, hown, hts, hlk, hK, hA, hL, hX⟩ := id X
  replace hf : (f_Study_isFaultOfTwo_47 K l0 l1 l2 l3 0 F B) = some (r, F9, B9) := hf
  refine lv_iconst (v := iI 0) hx hb d_11_9_46 rfl ?_
  exact b_Study_isFaultOfTwo_47 X hf hZ hS (lv_sub hl [0, 1, 2, 3] rfl)

noncomputable def f_Study_isFaultOfTwo_20 (K : zK)  (F : zF) (B : zB) : zO := some (0, F, B)
set_option maxHeartbeats 4000000 in
set_option maxRecDepth 100000 in
theorem b_Study_isFaultOfTwo_20 {D : va_G} {ca : Nat → ClassId} {ad : Nat → Int → Nat → Nat} {L : List Nat} {aS vS : Nat → Nat} {A : Nat → Prop} {p : Program} {l : Launch} {e : Env} {s : State} {m : MethodId} {args : Array Value} {below : List Frame} {meth : Method} {c : Code} {K : zK} {r : Int} {F9 : zF} {B9 : zB} (X : zX D ca L aS vS A p s m args meth c prog_11_method_9_code 10 (Option.some Jvm.ClassFile.FieldType.boolean) "StaveHouse$Study")  {F : zF} {B : zB} {H : Heap} {locs : List Loc} {ls : Array Slot} (hf : f_Study_isFaultOfTwo_20 K  F B = some (r, F9, B9)) (hZ : zH D ca ad lnC K.2 L F B A H) (hS : va_S A s.heap H locs) (hl : lv_has ls 10 []) : W p l e ({ frames := 2, cells := 0, slots := 0, locals := 48 } : Room) s m args below meth c H locs 0 0 (MQ below (Q_Study_isFaultOfTwo K D ca ad L r F9 B9 A) args s 0 0 A) (F0 m 20 ls []) := by
  obtain ⟨hx, hb, hr, hml, hown, hts, hlk, hK, hA, hL, hX⟩ := id X
  replace hf : (some (0, F, B)) = some (r, F9, B9) := hf
  refine lv_iconst (v := iI 0) hx hb d_11_9_20 rfl ?_
  cases hf
  exact W.zret hx hb hr rfl (fun t ht hW => ⟨⟨_, (), rfl, rfl, by rw [ht]; exact hZ, va_K.moved hW.alike hK⟩, hS.F ht⟩) hS.2.2 d_11_9_21 hlk

noncomputable def f_Study_isFaultOfTwo (K : zK) (l0 : Int) (l1 : Int) (l2 : Int) (l3 : Int) (F : zF) (B : zB) : zO := if 0 ≤ l0 ∧ l0 < K.2 9 then if 0 ≤ l2 ∧ l2 < 4 then if r32 (B 9 l0 6 l2) then (if (B 9 l0 6 l2) = (-1) then f_Study_isFaultOfTwo_20 K F B else if 0 ≤ l3 ∧ l3 < 4 then if r32 (B 9 l0 6 l3) then (if (B 9 l0 6 l3) = (-1) then f_Study_isFaultOfTwo_20 K F B else if r32 (B 9 l0 8 l2) then (if (B 9 l0 8 l2) = (-1) then f_Study_isFaultOfTwo_46 K l0 l1 l2 l3 F B else if r32 (B 9 l0 8 l3) then (if (B 9 l0 8 l3) = (-1) then f_Study_isFaultOfTwo_46 K l0 l1 l2 l3 F B else f_Study_isFaultOfTwo_47 K l0 l1 l2 l3 1 F B) else none) else none) else none else none) else none else none else none
set_option maxHeartbeats 4000000 in
set_option maxRecDepth 100000 in
theorem c_Study_isFaultOfTwo {l : Launch} {D : va_G} {ca : Nat → ClassId} {ad : Nat → Int → Nat → Nat} {L : List Nat} {aS vS : Nat → Nat} {sz : Nat} {K : zK}  {l0 : Int} {l1 : Int} {l2 : Int} {l3 : Int} {F F9 : zF} {B B9 : zB} {r : Int} (hf : f_Study_isFaultOfTwo K l0 l1 l2 l3 F B = some (r, F9, B9)) : Met l ({ cls := "StaveHouse$Study", name := "isFaultOfTwo", desc := "(III)Z" } : Jvm.MethodName) (Cond.code ({ cls := "StaveHouse$Study", name := "isFaultOfTwo", desc := "(III)Z" } : Jvm.MethodName) prog_11_method_9_code 10 (Option.some Jvm.ClassFile.FieldType.boolean) :: wAll) ({ frames := 2, cells := 0, slots := 0, locals := 48 } : Room) (va_Pc [.ref (ad 9 l0 0), .int (iI l1), .int (iI l2), .int (iI l3)] (zPre D ca ad lnC K.2 L aS vS F B sz)) (Q_Study_isFaultOfTwo K D ca ad L r F9 B9 (zA L sz)) 0 0 (zA L sz) := by
  refine zMet (Qc := Q_Study_isFaultOfTwo K D ca ad L r F9 B9) (lv := [(0, .ref (ad 9 l0 0)), (1, .int (iI l1)), (2, .int (iI l2)), (3, .int (iI l3))]) (by decide) (Nat.le_of_ble_eq_true rfl) rfl (fun A p e s m below meth c ls X hZ hS hl => ?_)
  obtain ⟨hx, hb, hr, hml, hown, hts, hlk, hK, hA, hL, hX⟩ := id X
  replace hf : (if 0 ≤ l0 ∧ l0 < K.2 9 then if 0 ≤ l2 ∧ l2 < 4 then if r32 (B 9 l0 6 l2) then (if (B 9 l0 6 l2) = (-1) then f_Study_isFaultOfTwo_20 K F B else if 0 ≤ l3 ∧ l3 < 4 then if r32 (B 9 l0 6 l3) then (if (B 9 l0 6 l3) = (-1) then f_Study_isFaultOfTwo_20 K F B else if r32 (B 9 l0 8 l2) then (if (B 9 l0 8 l2) = (-1) then f_Study_isFaultOfTwo_46 K l0 l1 l2 l3 F B else if r32 (B 9 l0 8 l3) then (if (B 9 l0 8 l3) = (-1) then f_Study_isFaultOfTwo_46 K l0 l1 l2 l3 F B else f_Study_isFaultOfTwo_47 K l0 l1 l2 l3 1 F B) else none) else none) else none else none) else none else none else none) = some (r, F9, B9) := hf
  refine lv_aload_n hx hb d_11_9_0 rfl (lv_at hl 0 rfl) ?_
  obtain ⟨g1, hf⟩ := gif hf
  refine zget (ci := 9) (C := RX9) (T := TX9) (v := .ref (ad 9 l0 (6 + 1))) (k := 6) hx hb hts inW_9 hown hK hZ g1.1 g1.2 rfl (by decide) k_5_207 rfl d_11_9_1 ?_
  refine lv_iload_n hx hb d_11_9_4 rfl (lv_at hl 2 rfl) ?_
  obtain ⟨g2, hf⟩ := gif hf
  refine zald (ci := 9) (k := 6) hx hb hK rfl hZ g1.1 g1.2 rfl (Nat.le_of_ble_eq_true rfl) g2.1 g2.2 d_11_9_5 ?_
  refine lv_iconst (v := iI (-1)) hx hb d_11_9_6 rfl ?_
  obtain ⟨g3, hf⟩ := gif hf
  refine zeq (tgt := 20) hx hb g3 (by decide) d_11_9_7 (by decide) (fun h4 => ?_) (fun h4 => ?_)
  · replace hf := gpos hf h4
    exact b_Study_isFaultOfTwo_20 X hf hZ hS (lv_sub hl [] rfl)
  · replace hf := gneg hf h4
    refine lv_aload_n hx hb d_11_9_10 rfl (lv_at hl 0 rfl) ?_
    refine zget (ci := 9) (C := RX9) (T := TX9) (v := .ref (ad 9 l0 (6 + 1))) (k := 6) hx hb hts inW_9 hown hK hZ g1.1 g1.2 rfl (by decide) k_5_207 rfl d_11_9_11 ?_
    refine lv_iload_n hx hb d_11_9_14 rfl (lv_at hl 3 rfl) ?_
    obtain ⟨g5, hf⟩ := gif hf
    refine zald (ci := 9) (k := 6) hx hb hK rfl hZ g1.1 g1.2 rfl (Nat.le_of_ble_eq_true rfl) g5.1 g5.2 d_11_9_15 ?_
    refine lv_iconst (v := iI (-1)) hx hb d_11_9_16 rfl ?_
    obtain ⟨g6, hf⟩ := gif hf
    refine zne (tgt := 22) hx hb g6 (by decide) d_11_9_17 (by decide) (fun h7 => ?_) (fun h7 => ?_)
    · replace hf := gneg hf h7
      refine lv_aload_n hx hb d_11_9_22 rfl (lv_at hl 0 rfl) ?_
      refine zget (ci := 9) (C := RX9) (T := TX9) (v := .ref (ad 9 l0 (8 + 1))) (k := 8) hx hb hts inW_9 hown hK hZ g1.1 g1.2 rfl (by decide) k_5_209 rfl d_11_9_23 ?_
      refine lv_iload_n hx hb d_11_9_26 rfl (lv_at hl 2 rfl) ?_
      refine zald (ci := 9) (k := 8) hx hb hK rfl hZ g1.1 g1.2 rfl (Nat.le_of_ble_eq_true rfl) g2.1 g2.2 d_11_9_27 ?_
      refine lv_iconst (v := iI (-1)) hx hb d_11_9_28 rfl ?_
      obtain ⟨g8, hf⟩ := gif hf
      refine zeq (tgt := 46) hx hb g8 (by decide) d_11_9_29 (by decide) (fun h9 => ?_) (fun h9 => ?_)
      · replace hf := gpos hf h9
        exact b_Study_isFaultOfTwo_46 X hf hZ hS (lv_sub hl [0, 1, 2, 3] rfl)
      · replace hf := gneg hf h9
        refine lv_aload_n hx hb d_11_9_32 rfl (lv_at hl 0 rfl) ?_
        refine zget (ci := 9) (C := RX9) (T := TX9) (v := .ref (ad 9 l0 (8 + 1))) (k := 8) hx hb hts inW_9 hown hK hZ g1.1 g1.2 rfl (by decide) k_5_209 rfl d_11_9_33 ?_
        refine lv_iload_n hx hb d_11_9_36 rfl (lv_at hl 3 rfl) ?_
        refine zald (ci := 9) (k := 8) hx hb hK rfl hZ g1.1 g1.2 rfl (Nat.le_of_ble_eq_true rfl) g5.1 g5.2 d_11_9_37 ?_
        refine lv_iconst (v := iI (-1)) hx hb d_11_9_38 rfl ?_
        obtain ⟨g10, hf⟩ := gif hf
        refine zeq (tgt := 46) hx hb g10 (by decide) d_11_9_39 (by decide) (fun h11 => ?_) (fun h11 => ?_)
        · replace hf := gpos hf h11
          exact b_Study_isFaultOfTwo_46 X hf hZ hS (lv_sub hl [0, 1, 2, 3] rfl)
        · replace hf := gneg hf h11
          refine lv_iconst (v := iI 1) hx hb d_11_9_42 rfl ?_
          refine lv_goto (tgt := 47) hx hb d_11_9_43 (by decide) ?_
          exact b_Study_isFaultOfTwo_47 X hf hZ hS (lv_sub hl [0, 1, 2, 3] rfl)
    · replace hf := gpos hf h7
      exact b_Study_isFaultOfTwo_20 X hf hZ hS (lv_sub hl [] rfl)

noncomputable abbrev Q_Performance_addSound (K : zK) (D : va_G) (ca : Nat → ClassId) (ad : Nat → Int → Nat → Nat) (L : List Nat) (r : Int) (F : zF) (B : zB) (A : Nat → Prop) : Array Value → State → Outcome → State → Prop := va_Qv (S := Unit) (fun _ => True) (fun _ => zPo D ca ad lnC K.2 L F B A) A
noncomputable def f_Performance_addSound (K : zK) (l0 : Int) (l1 : Int) (l2 : Int) (l3 : Int) (l4 : Int) (l5 : Int) (l6 : Int) (F : zF) (B : zB) : zO := if 0 ≤ l0 ∧ l0 < K.2 5 then if r32 (F 5 l0 0) then (if (F 5 l0 0) < 2000 then if 0 ≤ (F 5 l0 0) ∧ (F 5 l0 0) < 2000 then zbind (f_Performance_force K l4 F (zup4 (zup4 (zup4 B 5 l0 340 (F 5 l0 0) l1) 5 l0 341 (F 5 l0 0) l2) 5 l0 342 (F 5 l0 0) l3)) (fun r8 F8 B8 => if 0 ≤ (F8 5 l0 0) ∧ (F8 5 l0 0) < 2000 then some (0, (zup3 F8 5 l0 0 ((F8 5 l0 0) + 1)), (zup4 (zup4 (zup4 B8 5 l0 343 (F 5 l0 0) r8) 5 l0 344 (F8 5 l0 0) l5) 5 l0 345 (F8 5 l0 0) l6)) else none) else none else some (0, (zup3 F 5 l0 1 1), B)) else none else none
set_option maxHeartbeats 4000000 in
set_option maxRecDepth 100000 in
theorem c_Performance_addSound {l : Launch} {D : va_G} {ca : Nat → ClassId} {ad : Nat → Int → Nat → Nat} {L : List Nat} {aS vS : Nat → Nat} {sz : Nat} {K : zK}  {l0 : Int} {l1 : Int} {l2 : Int} {l3 : Int} {l4 : Int} {l5 : Int} {l6 : Int} {F F9 : zF} {B B9 : zB} {r : Int} (hf : f_Performance_addSound K l0 l1 l2 l3 l4 l5 l6 F B = some (r, F9, B9)) : Met l ({ cls := "StaveHouse$Performance", name := "addSound", desc := "(IIILStaveHouse$Event;II)V" } : Jvm.MethodName) (Cond.code ({ cls := "StaveHouse$Performance", name := "addSound", desc := "(IIILStaveHouse$Event;II)V" } : Jvm.MethodName) prog_7_method_6_code 7 (Option.none : Option Jvm.ClassFile.FieldType) :: wAll) ({ frames := 2, cells := 0, slots := 0, locals := 41 } : Room) (va_Pc [.ref (ad 5 l0 0), .int (iI l1), .int (iI l2), .int (iI l3), .ref (ad 1 l4 0), .int (iI l5), .int (iI l6)] (zPre D ca ad lnC K.2 L aS vS F B sz)) (Q_Performance_addSound K D ca ad L r F9 B9 (zA L sz)) 0 0 (zA L sz) := by
  refine zMet (Qc := Q_Performance_addSound K D ca ad L r F9 B9) (lv := [(0, .ref (ad 5 l0 0)), (1, .int (iI l1)), (2, .int (iI l2)), (3, .int (iI l3)), (4, .ref (ad 1 l4 0)), (5, .int (iI l5)), (6, .int (iI l6))]) (by decide) (Nat.le_of_ble_eq_true rfl) rfl (fun A p e s m below meth c ls X hZ hS hl => ?_)
  obtain ⟨hx, hb, hr, hml, hown, hts, hlk, hK, hA, hL, hX⟩ := id X
  replace hf : (if 0 ≤ l0 ∧ l0 < K.2 5 then if r32 (F 5 l0 0) then (if (F 5 l0 0) < 2000 then if 0 ≤ (F 5 l0 0) ∧ (F 5 l0 0) < 2000 then zbind (f_Performance_force K l4 F (zup4 (zup4 (zup4 B 5 l0 340 (F 5 l0 0) l1) 5 l0 341 (F 5 l0 0) l2) 5 l0 342 (F 5 l0 0) l3)) (fun r8 F8 B8 => if 0 ≤ (F8 5 l0 0) ∧ (F8 5 l0 0) < 2000 then some (0, (zup3 F8 5 l0 0 ((F8 5 l0 0) + 1)), (zup4 (zup4 (zup4 B8 5 l0 343 (F 5 l0 0) r8) 5 l0 344 (F8 5 l0 0) l5) 5 l0 345 (F8 5 l0 0) l6)) else none) else none else some (0, (zup3 F 5 l0 1 1), B)) else none else none) = some (r, F9, B9) := hf
  refine lv_aload_n hx hb d_7_6_0 rfl (lv_at hl 0 rfl) ?_
  obtain ⟨g1, hf⟩ := gif hf
  refine zget (ci := 5) (C := RX5) (T := TX5) (v := .int (iI (F 5 l0 0))) (k := 0) hx hb hts inW_5 hown hK hZ g1.1 g1.2 rfl (by decide) k_6_63 rfl d_7_6_1 ?_
  refine lv_sipush (v := iI 2000) hx hb d_7_6_4 (by decide) ?_
  obtain ⟨g2, hf⟩ := gif hf
  refine zlt (tgt := 16) hx hb g2 (by decide) d_7_6_7 (by decide) (fun h3 => ?_) (fun h3 => ?_)
  · replace hf := gpos hf h3
    refine lv_aload_n hx hb d_7_6_16 rfl (lv_at hl 0 rfl) ?_
    refine zget (ci := 5) (C := RX5) (T := TX5) (v := .ref (ad 5 l0 (7 + 1))) (k := 7) hx hb hts inW_5 hown hK hZ g1.1 g1.2 rfl (by decide) k_6_76 rfl d_7_6_17 ?_
    refine lv_iconst (v := iI 0) hx hb d_7_6_20 rfl ?_
    refine zaldQ (t := 0) (ci := 5) (k := 7) hx hb hK rfl hZ g1.1 g1.2 rfl (Nat.le_of_ble_eq_true rfl) (by decide) (by decide) d_7_6_21 ?_
    refine W.eq (g2 := F0 m 22 ls [.ref (ad 5 l0 (340 + 1))]) rfl ?_
    refine lv_aload_n hx hb d_7_6_22 rfl (lv_at hl 0 rfl) ?_
    refine zget (ci := 5) (C := RX5) (T := TX5) (v := .int (iI (F 5 l0 0))) (k := 0) hx hb hts inW_5 hown hK hZ g1.1 g1.2 rfl (by decide) k_6_63 rfl d_7_6_23 ?_
    refine lv_iload_n hx hb d_7_6_26 rfl (lv_at hl 1 rfl) ?_
    obtain ⟨g4, hf⟩ := gif hf
    refine zast (ci := 5) (k := 340) hx hb hK rfl hZ hS g1.1 g1.2 rfl (Nat.le_of_ble_eq_true rfl) g4.1 g4.2 d_7_6_27 (fun H5 locs5 hZ5 hS5 => ?_)
    refine lv_aload_n hx hb d_7_6_28 rfl (lv_at hl 0 rfl) ?_
    refine zget (ci := 5) (C := RX5) (T := TX5) (v := .ref (ad 5 l0 (7 + 1))) (k := 7) hx hb hts inW_5 hown hK hZ5 g1.1 g1.2 rfl (by decide) k_6_76 rfl d_7_6_29 ?_
    refine lv_iconst (v := iI 1) hx hb d_7_6_32 rfl ?_
    refine zaldQ (t := 0) (ci := 5) (k := 7) hx hb hK rfl hZ5 g1.1 g1.2 rfl (Nat.le_of_ble_eq_true rfl) (by decide) (by decide) d_7_6_33 ?_
    refine W.eq (g2 := F0 m 34 ls [.ref (ad 5 l0 (341 + 1))]) rfl ?_
    refine lv_aload_n hx hb d_7_6_34 rfl (lv_at hl 0 rfl) ?_
    refine zget (ci := 5) (C := RX5) (T := TX5) (v := .int (iI (F 5 l0 0))) (k := 0) hx hb hts inW_5 hown hK hZ5 g1.1 g1.2 rfl (by decide) k_6_63 rfl d_7_6_35 ?_
    refine lv_iload_n hx hb d_7_6_38 rfl (lv_at hl 2 rfl) ?_
    refine zast (ci := 5) (k := 341) hx hb hK rfl hZ5 hS5 g1.1 g1.2 rfl (Nat.le_of_ble_eq_true rfl) g4.1 g4.2 d_7_6_39 (fun H6 locs6 hZ6 hS6 => ?_)
    refine lv_aload_n hx hb d_7_6_40 rfl (lv_at hl 0 rfl) ?_
    refine zget (ci := 5) (C := RX5) (T := TX5) (v := .ref (ad 5 l0 (7 + 1))) (k := 7) hx hb hts inW_5 hown hK hZ6 g1.1 g1.2 rfl (by decide) k_6_76 rfl d_7_6_41 ?_
    refine lv_iconst (v := iI 2) hx hb d_7_6_44 rfl ?_
    refine zaldQ (t := 0) (ci := 5) (k := 7) hx hb hK rfl hZ6 g1.1 g1.2 rfl (Nat.le_of_ble_eq_true rfl) (by decide) (by decide) d_7_6_45 ?_
    refine W.eq (g2 := F0 m 46 ls [.ref (ad 5 l0 (342 + 1))]) rfl ?_
    refine lv_aload_n hx hb d_7_6_46 rfl (lv_at hl 0 rfl) ?_
    refine zget (ci := 5) (C := RX5) (T := TX5) (v := .int (iI (F 5 l0 0))) (k := 0) hx hb hts inW_5 hown hK hZ6 g1.1 g1.2 rfl (by decide) k_6_63 rfl d_7_6_47 ?_
    refine lv_iload_n hx hb d_7_6_50 rfl (lv_at hl 3 rfl) ?_
    refine zast (ci := 5) (k := 342) hx hb hK rfl hZ6 hS6 g1.1 g1.2 rfl (Nat.le_of_ble_eq_true rfl) g4.1 g4.2 d_7_6_51 (fun H7 locs7 hZ7 hS7 => ?_)
    refine lv_aload_n hx hb d_7_6_52 rfl (lv_at hl 0 rfl) ?_
    refine zget (ci := 5) (C := RX5) (T := TX5) (v := .ref (ad 5 l0 (7 + 1))) (k := 7) hx hb hts inW_5 hown hK hZ7 g1.1 g1.2 rfl (by decide) k_6_76 rfl d_7_6_53 ?_
    refine lv_iconst (v := iI 3) hx hb d_7_6_56 rfl ?_
    refine zaldQ (t := 0) (ci := 5) (k := 7) hx hb hK rfl hZ7 g1.1 g1.2 rfl (Nat.le_of_ble_eq_true rfl) (by decide) (by decide) d_7_6_57 ?_
    refine W.eq (g2 := F0 m 58 ls [.ref (ad 5 l0 (343 + 1))]) rfl ?_
    refine lv_aload_n hx hb d_7_6_58 rfl (lv_at hl 0 rfl) ?_
    refine zget (ci := 5) (C := RX5) (T := TX5) (v := .int (iI (F 5 l0 0))) (k := 0) hx hb hts inW_5 hown hK hZ7 g1.1 g1.2 rfl (by decide) k_6_63 rfl d_7_6_59 ?_
    refine lv_aload hx hb d_7_6_62 (lv_at hl 4 rfl) ?_
    obtain ⟨r8, F8, B8, hc8, hf⟩ := gbind hf
    refine va_calli (va_runS (As := [.ref (ad 1 l4 0)]) (rest := [.int (iI (F 5 l0 0)), .ref (ad 5 l0 (343 + 1))]) ⟨hx, hb, hml, hown, hts⟩ (c_Performance_force (l := l) hc8) (va_cwS 1 hts (gdS k_6_139 k_6_140 k_1_20 k_6_141) rfl rfl rfl (by decide +kernel) ⟨Nat.le_of_ble_eq_true rfl, Nat.le_of_ble_eq_true rfl⟩) (zPS X hZ7 hS7 [.ref (ad 1 l4 0)]) rfl rfl hl.1 rfl (lv_room (Nat.le_of_ble_eq_true rfl)) d_7_6_64 ⟨Nat.le_of_ble_eq_true rfl, Nat.le_of_ble_eq_true rfl⟩) hS7 (fun q _ h => zAin X hS7 q h) (zAin X hS7) (fun p8 u8 t8 H8 locs8 ht8 hv8 hw8 hB8 hz8 hk8 hS8 => ?_)
    have hZ8 := zBack X ht8 hB8
    subst hw8
    refine zast (ci := 5) (k := 343) hx hb hK rfl hZ8 hS8 g1.1 g1.2 rfl (Nat.le_of_ble_eq_true rfl) g4.1 g4.2 d_7_6_67 (fun H9 locs9 hZ9 hS9 => ?_)
    refine lv_aload_n hx hb d_7_6_68 rfl (lv_at hl 0 rfl) ?_
    refine zget (ci := 5) (C := RX5) (T := TX5) (v := .ref (ad 5 l0 (7 + 1))) (k := 7) hx hb hts inW_5 hown hK hZ9 g1.1 g1.2 rfl (by decide) k_6_76 rfl d_7_6_69 ?_
    refine lv_iconst (v := iI 4) hx hb d_7_6_72 rfl ?_
    refine zaldQ (t := 0) (ci := 5) (k := 7) hx hb hK rfl hZ9 g1.1 g1.2 rfl (Nat.le_of_ble_eq_true rfl) (by decide) (by decide) d_7_6_73 ?_
    refine W.eq (g2 := F0 m 74 ls [.ref (ad 5 l0 (344 + 1))]) rfl ?_
    refine lv_aload_n hx hb d_7_6_74 rfl (lv_at hl 0 rfl) ?_
    refine zget (ci := 5) (C := RX5) (T := TX5) (v := .int (iI (F8 5 l0 0))) (k := 0) hx hb hts inW_5 hown hK hZ9 g1.1 g1.2 rfl (by decide) k_6_63 rfl d_7_6_75 ?_
    refine lv_iload hx hb d_7_6_78 (lv_at hl 5 rfl) ?_
    obtain ⟨g10, hf⟩ := gif hf
    refine zast (ci := 5) (k := 344) hx hb hK rfl hZ9 hS9 g1.1 g1.2 rfl (Nat.le_of_ble_eq_true rfl) g10.1 g10.2 d_7_6_80 (fun H11 locs11 hZ11 hS11 => ?_)
    refine lv_aload_n hx hb d_7_6_81 rfl (lv_at hl 0 rfl) ?_
    refine zget (ci := 5) (C := RX5) (T := TX5) (v := .ref (ad 5 l0 (7 + 1))) (k := 7) hx hb hts inW_5 hown hK hZ11 g1.1 g1.2 rfl (by decide) k_6_76 rfl d_7_6_82 ?_
    refine lv_iconst (v := iI 5) hx hb d_7_6_85 rfl ?_
    refine zaldQ (t := 0) (ci := 5) (k := 7) hx hb hK rfl hZ11 g1.1 g1.2 rfl (Nat.le_of_ble_eq_true rfl) (by decide) (by decide) d_7_6_86 ?_
    refine W.eq (g2 := F0 m 87 ls [.ref (ad 5 l0 (345 + 1))]) rfl ?_
    refine lv_aload_n hx hb d_7_6_87 rfl (lv_at hl 0 rfl) ?_
    refine zget (ci := 5) (C := RX5) (T := TX5) (v := .int (iI (F8 5 l0 0))) (k := 0) hx hb hts inW_5 hown hK hZ11 g1.1 g1.2 rfl (by decide) k_6_63 rfl d_7_6_88 ?_
    refine lv_iload hx hb d_7_6_91 (lv_at hl 6 rfl) ?_
    refine zast (ci := 5) (k := 345) hx hb hK rfl hZ11 hS11 g1.1 g1.2 rfl (Nat.le_of_ble_eq_true rfl) g10.1 g10.2 d_7_6_93 (fun H12 locs12 hZ12 hS12 => ?_)
    refine lv_aload_n hx hb d_7_6_94 rfl (lv_at hl 0 rfl) ?_
    refine lv_dup hx hb d_7_6_95 rfl ?_
    refine zget (ci := 5) (C := RX5) (T := TX5) (v := .int (iI (F8 5 l0 0))) (k := 0) hx hb hts inW_5 hown hK hZ12 g1.1 g1.2 rfl (by decide) k_6_63 rfl d_7_6_96 ?_
    refine lv_iconst (v := iI 1) hx hb d_7_6_99 rfl ?_
    refine zadd hx hb d_7_6_100 ?_
    refine zput (ci := 5) (C := RX5) (T := TX5) (k := 0) (v := ((F8 5 l0 0) + 1)) (w := .int (iI ((F8 5 l0 0) + 1))) hx hb hts inW_5 tyX5 tyX5_ok nmX5 hown hK hZ12 hS12 g1.1 g1.2 rfl (by decide) k_6_63 rfl (fun G h => congrArg (fun q => Value.int (iI q)) h) rfl rfl (zno (by decide)) d_7_6_101 (fun H13 locs13 hZ13 hS13 => ?_)
    cases hf
    exact W.vret hx hb hr (fun t ht hW => ⟨⟨(), rfl, trivial, by rw [ht]; exact hZ13, va_K.moved hW.alike hK⟩, hS13.F ht⟩) hS13.2.2 d_7_6_104 hlk
  · replace hf := gneg hf h3
    refine lv_aload_n hx hb d_7_6_10 rfl (lv_at hl 0 rfl) ?_
    refine lv_iconst (v := iI 1) hx hb d_7_6_11 rfl ?_
    refine zput (ci := 5) (C := RX5) (T := TX5) (k := 1) (v := 1) (w := .int (iI 1)) hx hb hts inW_5 tyX5 tyX5_ok nmX5 hown hK hZ hS g1.1 g1.2 rfl (by decide) k_6_65 rfl (fun G h => congrArg (fun q => Value.int (iI q)) h) rfl rfl (zno (by decide)) d_7_6_12 (fun H14 locs14 hZ14 hS14 => ?_)
    cases hf
    exact W.vret hx hb hr (fun t ht hW => ⟨⟨(), rfl, trivial, by rw [ht]; exact hZ14, va_K.moved hW.alike hK⟩, hS14.F ht⟩) hS14.2.2 d_7_6_15 hlk

noncomputable abbrev Q_Performance_soundAll (K : zK) (D : va_G) (ca : Nat → ClassId) (ad : Nat → Int → Nat → Nat) (L : List Nat) (r : Int) (F : zF) (B : zB) (A : Nat → Prop) : Array Value → State → Outcome → State → Prop := va_Qv (S := Unit) (fun _ => True) (fun _ => zPo D ca ad lnC K.2 L F B A) A
noncomputable def f_Performance_soundAll_106 (rec21 : Int → Int → Int → Int → Int → Int → Int → zF → zB → zO) (K : zK) (l6 : Int) (l5 : Int) (l4 : Int) (l0 : Int) (l1 : Int) (l2 : Int) (l3 : Int) (F : zF) (B : zB) : zO := rec21 (l6 + 1) l5 l4 l0 l1 l2 l3 F B
set_option maxHeartbeats 4000000 in
set_option maxRecDepth 100000 in
theorem b_Performance_soundAll_106 {D : va_G} {ca : Nat → ClassId} {ad : Nat → Int → Nat → Nat} {L : List Nat} {aS vS : Nat → Nat} {A : Nat → Prop} {p : Program} {l : Launch} {e : Env} {s : State} {m : MethodId} {args : Array Value} {below : List Frame} {meth : Method} {c : Code} {K : zK} {r : Int} {F9 : zF} {B9 : zB} (X : zX D ca L aS vS A p s m args meth c prog_7_method_7_code 9 (Option.none : Option Jvm.ClassFile.FieldType) "StaveHouse$Performance") {rec21 : Int → Int → Int → Int → Int → Int → Int → zF → zB → zO} (hrec21 : ∀ {l6 : Int} {l5 : Int} {l4 : Int} {l0 : Int} {l1 : Int} {l2 : Int} {l3 : Int} {F : zF} {B : zB} {H : Heap} {locs : List Loc} {ls : Array Slot}, rec21 l6 l5 l4 l0 l1 l2 l3 F B = some (r, F9, B9) → zH D ca ad lnC K.2 L F B A H → va_S A s.heap H locs → lv_has ls 9 [(6, .int (iI l6)), (5, .int (iI l5)), (4, va_rf (zrf ad 1 l4)), (0, .ref (ad 5 l0 0)), (1, .ref (ad 4 l1 0)), (2, .int (iI l2)), (3, .int (iI l3))] → W p l e ({ frames := 3, cells := 0, slots := 0, locals := 67 } : Room) s m args below meth c H locs 0 0 (MQ below (Q_Performance_soundAll K D ca ad L r F9 B9 A) args s 0 0 A) (F0 m 21 ls [])) {l6 : Int} {l5 : Int} {l4 : Int} {l0 : Int} {l1 : Int} {l2 : Int} {l3 : Int} {F : zF} {B : zB} {H : Heap} {locs : List Loc} {ls : Array Slot} (hf : f_Performance_soundAll_106 rec21 K l6 l5 l4 l0 l1 l2 l3 F B = some (r, F9, B9)) (hZ : zH D ca ad lnC K.2 L F B A H) (hS : va_S A s.heap H locs) (hl : lv_has ls 9 [(6, .int (iI l6)), (5, .int (iI l5)), (4, va_rf (zrf ad 1 l4)), (0, .ref (ad 5 l0 0)), (1, .ref (ad 4 l1 0)), (2, .int (iI l2)), (3, .int (iI l3))]) : W p l e ({ frames := 3, cells := 0, slots := 0, locals := 67 } : Room) s m args below meth c H locs 0 0 (MQ below (Q_Performance_soundAll K D ca ad L r F9 B9 A) args s 0 0 A) (F0 m 106 ls []) := by
  obtain ⟨hx, hb, hr, hml, hown, hts, hlk, hK, hA, hL, hX⟩ := id X
  replace hf : (rec21 (l6 + 1) l5 l4 l0 l1 l2 l3 F B) = some (r, F9, B9) := hf
  refine lv_iinc (v := iI (l6 + 1)) (lv' := [(6, .int (iI (l6 + 1))), (5, .int (iI l5)), (4, va_rf (zrf ad 1 l4)), (0, .ref (ad 5 l0 0)), (1, .ref (ad 4 l1 0)), (2, .int (iI l2)), (3, .int (iI l3))]) hx hb d_7_7_106 hl (k := 0) rfl (iI_add _ 1) (by decide) rfl (fun ls hl => ?_)
  refine lv_goto (tgt := 21) hx hb d_7_7_109 (by decide) ?_
  exact hrec21 hf hZ hS (lv_sub hl [0, 1, 2, 3, 4, 5, 6] rfl)

noncomputable def f_Performance_soundAll_21 (K : zK) : Nat → Int → Int → Int → Int → Int → Int → Int → zF → zB → zO
  | 0, _, _, _, _, _, _, _, _, _ => none
  | n + 1, l6, l5, l4, l0, l1, l2, l3, F, B => if 0 ≤ l4 ∧ l4 < K.2 1 then if r32 l6 then if r32 (F 1 l4 10) then (if (F 1 l4 10) ≤ l6 then some (0, F, B) else if 0 ≤ l1 ∧ l1 < K.2 4 then zbind (f_Part_isTiedFrom K l1 l3 l6 F B) (fun r10 F10 B10 => if r32 r10 then (if r10 = 0 then zbind (f_Performance_lastTied K l1 l3 l6 F10 B10) (fun r13 F13 B13 => if 0 ≤ r13 ∧ r13 < 200 then if 0 ≤ (B13 4 l1 5 r13) ∧ (B13 4 l1 5 r13) < K.2 1 then zbind (f_Performance_tick K ((F13 1 (B13 4 l1 5 r13) 0) + (F13 1 (B13 4 l1 5 r13) 1)) F13 B13) (fun r16 F16 B16 => if r32 (r16 - l5) then (if (r16 - l5) ≤ 0 then f_Performance_soundAll_106 (f_Performance_soundAll_21 K n) K l6 l5 l4 l0 l1 l2 l3 F16 B16 else zbind (f_Event_tone K l4 l6 F16 B16) (fun r19 F19 B19 => zbind (f_Performance_sounded K (B13 4 l1 5 r13) (r16 - l5) F19 B19) (fun r20 F20 B20 => if 0 ≤ l0 ∧ l0 < K.2 5 then zbind (f_Performance_addSound K l0 l2 l3 r19 l4 l5 (l5 + r20) F20 B20) (fun r22 F22 B22 => f_Performance_soundAll_106 (f_Performance_soundAll_21 K n) K l6 l5 l4 l0 l1 l2 l3 F22 B22) else none))) else none) else none else none) else f_Performance_soundAll_106 (f_Performance_soundAll_21 K n) K l6 l5 l4 l0 l1 l2 l3 F10 B10) else none) else none) else none else none else none
set_option maxHeartbeats 4000000 in
set_option maxRecDepth 100000 in
theorem b_Performance_soundAll_21 {D : va_G} {ca : Nat → ClassId} {ad : Nat → Int → Nat → Nat} {L : List Nat} {aS vS : Nat → Nat} {A : Nat → Prop} {p : Program} {l : Launch} {e : Env} {s : State} {m : MethodId} {args : Array Value} {below : List Frame} {meth : Method} {c : Code} {K : zK} {r : Int} {F9 : zF} {B9 : zB} (X : zX D ca L aS vS A p s m args meth c prog_7_method_7_code 9 (Option.none : Option Jvm.ClassFile.FieldType) "StaveHouse$Performance") : ∀ {n : Nat} {l6 : Int} {l5 : Int} {l4 : Int} {l0 : Int} {l1 : Int} {l2 : Int} {l3 : Int} {F : zF} {B : zB} {H : Heap} {locs : List Loc} {ls : Array Slot}, f_Performance_soundAll_21 K n l6 l5 l4 l0 l1 l2 l3 F B = some (r, F9, B9) → zH D ca ad lnC K.2 L F B A H → va_S A s.heap H locs → lv_has ls 9 [(6, .int (iI l6)), (5, .int (iI l5)), (4, va_rf (zrf ad 1 l4)), (0, .ref (ad 5 l0 0)), (1, .ref (ad 4 l1 0)), (2, .int (iI l2)), (3, .int (iI l3))] → W p l e ({ frames := 3, cells := 0, slots := 0, locals := 67 } : Room) s m args below meth c H locs 0 0 (MQ below (Q_Performance_soundAll K D ca ad L r F9 B9 A) args s 0 0 A) (F0 m 21 ls []) := by
  obtain ⟨hx, hb, hr, hml, hown, hts, hlk, hK, hA, hL, hX⟩ := id X
  intro n
  induction n with
  | zero =>
    intros
    rename_i hf _ _ _
    cases hf
  | succ n ih =>
    intro l6 l5 l4 l0 l1 l2 l3 F B H locs ls hf hZ hS hl
    replace hf : (if 0 ≤ l4 ∧ l4 < K.2 1 then if r32 l6 then if r32 (F 1 l4 10) then (if (F 1 l4 10) ≤ l6 then some (0, F, B) else if 0 ≤ l1 ∧ l1 < K.2 4 then zbind (f_Part_isTiedFrom K l1 l3 l6 F B) (fun r10 F10 B10 => if r32 r10 then (if r10 = 0 then zbind (f_Performance_lastTied K l1 l3 l6 F10 B10) (fun r13 F13 B13 => if 0 ≤ r13 ∧ r13 < 200 then if 0 ≤ (B13 4 l1 5 r13) ∧ (B13 4 l1 5 r13) < K.2 1 then zbind (f_Performance_tick K ((F13 1 (B13 4 l1 5 r13) 0) + (F13 1 (B13 4 l1 5 r13) 1)) F13 B13) (fun r16 F16 B16 => if r32 (r16 - l5) then (if (r16 - l5) ≤ 0 then f_Performance_soundAll_106 (f_Performance_soundAll_21 K n) K l6 l5 l4 l0 l1 l2 l3 F16 B16 else zbind (f_Event_tone K l4 l6 F16 B16) (fun r19 F19 B19 => zbind (f_Performance_sounded K (B13 4 l1 5 r13) (r16 - l5) F19 B19) (fun r20 F20 B20 => if 0 ≤ l0 ∧ l0 < K.2 5 then zbind (f_Performance_addSound K l0 l2 l3 r19 l4 l5 (l5 + r20) F20 B20) (fun r22 F22 B22 => f_Performance_soundAll_106 (f_Performance_soundAll_21 K n) K l6 l5 l4 l0 l1 l2 l3 F22 B22) else none))) else none) else none else none) else f_Performance_soundAll_106 (f_Performance_soundAll_21 K n) K l6 l5 l4 l0 l1 l2 l3 F10 B10) else none) else none) else none else none else none) = some (r, F9, B9) := hf
    refine lv_iload hx hb d_7_7_21 (lv_at hl 0 rfl) ?_
    refine zaload hx hb d_7_7_23 (lv_at hl 2 rfl) ?_
    obtain ⟨g5, hf⟩ := gif hf
    refine zunrf g5.1 ?_
    refine zget (ci := 1) (C := RX1) (T := TX1) (v := .int (iI (F 1 l4 10))) (k := 10) hx hb hts inW_1 hown hK hZ g5.1 g5.2 rfl (by decide) k_2_49 rfl d_7_7_25 ?_
    obtain ⟨g6, hf⟩ := gif hf
    obtain ⟨g7, hf⟩ := gif hf
    refine zge (tgt := 112) hx hb g6 g7 d_7_7_28 (by decide) (fun h8 => ?_) (fun h8 => ?_)
    · replace hf := gpos hf h8
      cases hf
      exact W.vret hx hb hr (fun t ht hW => ⟨⟨(), rfl, trivial, by rw [ht]; exact hZ, va_K.moved hW.alike hK⟩, hS.F ht⟩) hS.2.2 d_7_7_112 hlk
    · replace hf := gneg hf h8
      refine lv_aload_n hx hb d_7_7_31 rfl (lv_at hl 4 rfl) ?_
      refine lv_iload_n hx hb d_7_7_32 rfl (lv_at hl 6 rfl) ?_
      refine lv_iload hx hb d_7_7_33 (lv_at hl 0 rfl) ?_
      obtain ⟨g9, hf⟩ := gif hf
      obtain ⟨r10, F10, B10, hc10, hf⟩ := gbind hf
      refine va_calli (va_runV (As := [.int (iI l3), .int (iI l6)]) (rest := []) ⟨hx, hb, hml, hown, hts⟩ (c_Part_isTiedFrom (l := l) hc10) (cwV 2 hts (gdV k_6_121 k_5_126 k_5_127 k_1_18 k_5_128) rfl rfl rfl (by decide +kernel) ⟨Nat.le_of_ble_eq_true rfl, Nat.le_of_ble_eq_true rfl⟩) (zPV X hZ hS (ci := 4) g9.1 g9.2 (r := (RX4, TX4, 13)) rfl [.int (iI l3), .int (iI l6)]) rfl rfl hl.1 rfl (lv_room (Nat.le_of_ble_eq_true rfl)) d_7_7_35 ⟨Nat.le_of_ble_eq_true rfl, Nat.le_of_ble_eq_true rfl⟩) hS (fun q _ h => zAin X hS q h) (zAin X hS) (fun p10 u10 t10 H10 locs10 ht10 hv10 hw10 hB10 hz10 hk10 hS10 => ?_)
      have hZ10 := zBack X ht10 hB10
      subst hw10
      obtain ⟨g11, hf⟩ := gif hf
      refine z0ne (tgt := 106) hx hb g11 d_7_7_38 (by decide) (fun h12 => ?_) (fun h12 => ?_)
      · replace hf := gneg hf h12
        exact b_Performance_soundAll_106 X ih hf hZ10 hS10 (lv_sub hl [0, 1, 2, 3, 4, 5, 6] rfl)
      · replace hf := gpos hf h12
        refine lv_aload_n hx hb d_7_7_41 rfl (lv_at hl 4 rfl) ?_
        refine zget (ci := 4) (C := RX4) (T := TX4) (v := .ref (ad 4 l1 (5 + 1))) (k := 5) hx hb hts inW_4 hown hK hZ10 g9.1 g9.2 rfl (by decide) k_4_131 rfl d_7_7_42 ?_
        refine lv_aload_n hx hb d_7_7_45 rfl (lv_at hl 4 rfl) ?_
        refine lv_iload_n hx hb d_7_7_46 rfl (lv_at hl 6 rfl) ?_
        refine lv_iload hx hb d_7_7_47 (lv_at hl 0 rfl) ?_
        obtain ⟨r13, F13, B13, hc13, hf⟩ := gbind hf
        refine va_calli (va_runS (As := [.ref (ad 4 l1 0), .int (iI l3), .int (iI l6)]) (rest := [.ref (ad 4 l1 (5 + 1))]) ⟨hx, hb, hml, hown, hts⟩ (c_Performance_lastTied (l := l) hc13) (va_cwS 3 hts (gdS k_6_146 k_6_147 k_1_20 k_6_148) rfl rfl rfl (by decide +kernel) ⟨Nat.le_of_ble_eq_true rfl, Nat.le_of_ble_eq_true rfl⟩) (zPS X hZ10 hS10 [.ref (ad 4 l1 0), .int (iI l3), .int (iI l6)]) rfl rfl hl.1 rfl (lv_room (Nat.le_of_ble_eq_true rfl)) d_7_7_49 ⟨Nat.le_of_ble_eq_true rfl, Nat.le_of_ble_eq_true rfl⟩) hS10 (fun q _ h => zAin X hS10 q h) (zAin X hS10) (fun p13 u13 t13 H13 locs13 ht13 hv13 hw13 hB13 hz13 hk13 hS13 => ?_)
        have hZ13 := zBack X ht13 hB13
        subst hw13
        obtain ⟨g14, hf⟩ := gif hf
        refine zaldR (t := 1) (x := 7) (ci := 4) (k := 5) hx hb hK rfl rfl hZ13 g9.1 g9.2 rfl (Nat.le_of_ble_eq_true rfl) g14.1 g14.2 d_7_7_52 ?_
        refine zastore (lv' := [(6, .int (iI l6)), (5, .int (iI l5)), (4, va_rf (zrf ad 1 l4)), (0, .ref (ad 5 l0 0)), (1, .ref (ad 4 l1 0)), (2, .int (iI l2)), (3, .int (iI l3))]) hx hb d_7_7_53 hl (by decide) (fun _ _ => rfl) (fun ls hl => ?_)
        refine zaload hx hb d_7_7_55 (lv_at hl 0 rfl) ?_
        obtain ⟨g15, hf⟩ := gif hf
        refine zunrf g15.1 ?_
        refine zget (ci := 1) (C := RX1) (T := TX1) (v := .long (lI (F13 1 (B13 4 l1 5 r13) 0))) (k := 0) hx hb hts inW_1 hown hK hZ13 g15.1 g15.2 rfl (by decide) k_2_22 rfl d_7_7_57 ?_
        refine zaload hx hb d_7_7_60 (lv_at hl 0 rfl) ?_
        refine zunrf g15.1 ?_
        refine zget (ci := 1) (C := RX1) (T := TX1) (v := .long (lI (F13 1 (B13 4 l1 5 r13) 1))) (k := 1) hx hb hts inW_1 hown hK hZ13 g15.1 g15.2 rfl (by decide) k_2_25 rfl d_7_7_62 ?_
        refine zladd hx hb d_7_7_65 ?_
        obtain ⟨r16, F16, B16, hc16, hf⟩ := gbind hf
        refine va_calli (va_runS (As := [.long (lI ((F13 1 (B13 4 l1 5 r13) 0) + (F13 1 (B13 4 l1 5 r13) 1)))]) (rest := []) ⟨hx, hb, hml, hown, hts⟩ (c_Performance_tick (l := l) hc16) (va_cwS 1 hts (gdS k_6_126 k_6_127 k_1_20 k_6_128) rfl rfl rfl (by decide +kernel) ⟨Nat.le_of_ble_eq_true rfl, Nat.le_of_ble_eq_true rfl⟩) (zPS X hZ13 hS13 [.long (lI ((F13 1 (B13 4 l1 5 r13) 0) + (F13 1 (B13 4 l1 5 r13) 1)))]) rfl rfl hl.1 rfl (lv_room (Nat.le_of_ble_eq_true rfl)) d_7_7_66 ⟨Nat.le_of_ble_eq_true rfl, Nat.le_of_ble_eq_true rfl⟩) hS13 (fun q _ h => zAin X hS13 q h) (zAin X hS13) (fun p16 u16 t16 H16 locs16 ht16 hv16 hw16 hB16 hz16 hk16 hS16 => ?_)
        have hZ16 := zBack X ht16 hB16
        subst hw16
        refine lv_iload hx hb d_7_7_69 (lv_at hl 2 rfl) ?_
        refine zsub hx hb d_7_7_71 ?_
        refine lv_istore (lv' := [(8, .int (iI (r16 - l5))), (7, va_rf (zrf ad 1 (B13 4 l1 5 r13))), (6, .int (iI l6)), (5, .int (iI l5)), (4, va_rf (zrf ad 1 l4)), (0, .ref (ad 5 l0 0)), (1, .ref (ad 4 l1 0)), (2, .int (iI l2)), (3, .int (iI l3))]) hx hb d_7_7_72 hl (by decide) (by cases zrf ad 1 (B13 4 l1 5 r13) <;> rfl) (fun ls hl => ?_)
        refine lv_iload hx hb d_7_7_74 (lv_at hl 0 rfl) ?_
        obtain ⟨g17, hf⟩ := gif hf
        refine z0le (tgt := 106) hx hb g17 d_7_7_76 (by decide) (fun h18 => ?_) (fun h18 => ?_)
        · replace hf := gpos hf h18
          exact b_Performance_soundAll_106 X ih hf hZ16 hS16 (lv_sub hl [2, 3, 4, 5, 6, 7, 8] rfl)
        · replace hf := gneg hf h18
          refine lv_aload_n hx hb d_7_7_79 rfl (lv_at hl 5 rfl) ?_
          refine lv_iload_n hx hb d_7_7_80 rfl (lv_at hl 7 rfl) ?_
          refine lv_iload_n hx hb d_7_7_81 rfl (lv_at hl 8 rfl) ?_
          refine zaload hx hb d_7_7_82 (lv_at hl 4 rfl) ?_
          refine lv_iload hx hb d_7_7_84 (lv_at hl 2 rfl) ?_
          refine W.eq (g2 := F0 m 86 ls [.int (iI l6), .ref (ad 1 l4 0), .int (iI l3), .int (iI l2), .ref (ad 5 l0 0)]) (by rw [zrf_pos (ad := ad) (t := 1) g5.1]; try rfl) ?_
          obtain ⟨r19, F19, B19, hc19, hf⟩ := gbind hf
          refine va_calli (va_runV (As := [.int (iI l6)]) (rest := [.int (iI l3), .int (iI l2), .ref (ad 5 l0 0)]) ⟨hx, hb, hml, hown, hts⟩ (c_Event_tone (l := l) hc19) (cwV 1 hts (gdV k_6_131 k_6_22 k_6_23 k_1_8 k_6_24) rfl rfl rfl (by decide +kernel) ⟨Nat.le_of_ble_eq_true rfl, Nat.le_of_ble_eq_true rfl⟩) (zPV X hZ16 hS16 (ci := 1) g5.1 g5.2 (r := (RX1, TX1, 14)) rfl [.int (iI l6)]) rfl rfl hl.1 rfl (lv_room (Nat.le_of_ble_eq_true rfl)) d_7_7_86 ⟨Nat.le_of_ble_eq_true rfl, Nat.le_of_ble_eq_true rfl⟩) hS16 (fun q _ h => zAin X hS16 q h) (zAin X hS16) (fun p19 u19 t19 H19 locs19 ht19 hv19 hw19 hB19 hz19 hk19 hS19 => ?_)
          have hZ19 := zBack X ht19 hB19
          subst hw19
          refine zaload hx hb d_7_7_89 (lv_at hl 4 rfl) ?_
          refine lv_iload hx hb d_7_7_91 (lv_at hl 3 rfl) ?_
          refine lv_iload hx hb d_7_7_93 (lv_at hl 3 rfl) ?_
          refine zaload hx hb d_7_7_95 (lv_at hl 1 rfl) ?_
          refine lv_iload hx hb d_7_7_97 (lv_at hl 0 rfl) ?_
          refine W.eq (g2 := F0 m 99 ls [.int (iI (r16 - l5)), va_rf (zrf ad 1 (B13 4 l1 5 r13)), .int (iI l5), .int (iI l5), .ref (ad 1 l4 0), .int (iI r19), .int (iI l3), .int (iI l2), .ref (ad 5 l0 0)]) (by rw [zrf_pos (ad := ad) (t := 1) g5.1]; try rfl) ?_
          refine W.eq (g2 := F0 m 99 ls [.int (iI (r16 - l5)), .ref (ad 1 (B13 4 l1 5 r13) 0), .int (iI l5), .int (iI l5), .ref (ad 1 l4 0), .int (iI r19), .int (iI l3), .int (iI l2), .ref (ad 5 l0 0)]) (by rw [zrf_pos (ad := ad) (t := 1) g15.1]; try rfl) ?_
          obtain ⟨r20, F20, B20, hc20, hf⟩ := gbind hf
          refine va_calli (va_runS (As := [.ref (ad 1 (B13 4 l1 5 r13) 0), .int (iI (r16 - l5))]) (rest := [.int (iI l5), .int (iI l5), .ref (ad 1 l4 0), .int (iI r19), .int (iI l3), .int (iI l2), .ref (ad 5 l0 0)]) ⟨hx, hb, hml, hown, hts⟩ (c_Performance_sounded (l := l) hc20) (va_cwS 2 hts (gdS k_6_150 k_6_151 k_1_20 k_6_152) rfl rfl rfl (by decide +kernel) ⟨Nat.le_of_ble_eq_true rfl, Nat.le_of_ble_eq_true rfl⟩) (zPS X hZ19 hS19 [.ref (ad 1 (B13 4 l1 5 r13) 0), .int (iI (r16 - l5))]) rfl rfl hl.1 rfl (lv_room (Nat.le_of_ble_eq_true rfl)) d_7_7_99 ⟨Nat.le_of_ble_eq_true rfl, Nat.le_of_ble_eq_true rfl⟩) hS19 (fun q _ h => zAin X hS19 q h) (zAin X hS19) (fun p20 u20 t20 H20 locs20 ht20 hv20 hw20 hB20 hz20 hk20 hS20 => ?_)
          have hZ20 := zBack X ht20 hB20
          subst hw20
          refine zadd hx hb d_7_7_102 ?_
          obtain ⟨g21, hf⟩ := gif hf
          obtain ⟨r22, F22, B22, hc22, hf⟩ := gbind hf
          refine va_callv (va_runV (As := [.int (iI l2), .int (iI l3), .int (iI r19), .ref (ad 1 l4 0), .int (iI l5), .int (iI (l5 + r20))]) (rest := []) ⟨hx, hb, hml, hown, hts⟩ (c_Performance_addSound (l := l) hc22) (cwV 6 hts (gdV k_6_135 k_6_137 ks_75 k_1_20 k_6_138) rfl rfl rfl (by decide +kernel) ⟨Nat.le_of_ble_eq_true rfl, Nat.le_of_ble_eq_true rfl⟩) (zPV X hZ20 hS20 (ci := 5) g21.1 g21.2 (r := (RX5, TX5, 14)) rfl [.int (iI l2), .int (iI l3), .int (iI r19), .ref (ad 1 l4 0), .int (iI l5), .int (iI (l5 + r20))]) rfl rfl hl.1 rfl (lv_room (Nat.le_of_ble_eq_true rfl)) d_7_7_103 ⟨Nat.le_of_ble_eq_true rfl, Nat.le_of_ble_eq_true rfl⟩) hS20 (fun q _ h => zAin X hS20 q h) (zAin X hS20) (fun u22 t22 H22 locs22 ht22 hv22 hw22 hB22 hz22 hk22 hS22 => ?_)
          have hZ22 := zBack X ht22 hB22
          exact b_Performance_soundAll_106 X ih hf hZ22 hS22 (lv_sub hl [2, 3, 4, 5, 6, 7, 8] rfl)

noncomputable def f_Performance_soundAll (K : zK) (l0 : Int) (l1 : Int) (l2 : Int) (l3 : Int) (F : zF) (B : zB) : zO := if 0 ≤ l1 ∧ l1 < K.2 4 then if 0 ≤ l3 ∧ l3 < 200 then if 0 ≤ (B 4 l1 5 l3) ∧ (B 4 l1 5 l3) < K.2 1 then zbind (f_Performance_tick K (F 1 (B 4 l1 5 l3) 0) F B) (fun r4 F4 B4 => f_Performance_soundAll_21 K K.1 0 r4 (B 4 l1 5 l3) l0 l1 l2 l3 F4 B4) else none else none else none
set_option maxHeartbeats 4000000 in
set_option maxRecDepth 100000 in
theorem c_Performance_soundAll {l : Launch} {D : va_G} {ca : Nat → ClassId} {ad : Nat → Int → Nat → Nat} {L : List Nat} {aS vS : Nat → Nat} {sz : Nat} {K : zK}  {l0 : Int} {l1 : Int} {l2 : Int} {l3 : Int} {F F9 : zF} {B B9 : zB} {r : Int} (hf : f_Performance_soundAll K l0 l1 l2 l3 F B = some (r, F9, B9)) : Met l ({ cls := "StaveHouse$Performance", name := "soundAll", desc := "(LStaveHouse$Part;II)V" } : Jvm.MethodName) (Cond.code ({ cls := "StaveHouse$Performance", name := "soundAll", desc := "(LStaveHouse$Part;II)V" } : Jvm.MethodName) prog_7_method_7_code 9 (Option.none : Option Jvm.ClassFile.FieldType) :: wAll) ({ frames := 3, cells := 0, slots := 0, locals := 67 } : Room) (va_Pc [.ref (ad 5 l0 0), .ref (ad 4 l1 0), .int (iI l2), .int (iI l3)] (zPre D ca ad lnC K.2 L aS vS F B sz)) (Q_Performance_soundAll K D ca ad L r F9 B9 (zA L sz)) 0 0 (zA L sz) := by
  refine zMet (Qc := Q_Performance_soundAll K D ca ad L r F9 B9) (lv := [(0, .ref (ad 5 l0 0)), (1, .ref (ad 4 l1 0)), (2, .int (iI l2)), (3, .int (iI l3))]) (by decide) (Nat.le_of_ble_eq_true rfl) rfl (fun A p e s m below meth c ls X hZ hS hl => ?_)
  obtain ⟨hx, hb, hr, hml, hown, hts, hlk, hK, hA, hL, hX⟩ := id X
  replace hf : (if 0 ≤ l1 ∧ l1 < K.2 4 then if 0 ≤ l3 ∧ l3 < 200 then if 0 ≤ (B 4 l1 5 l3) ∧ (B 4 l1 5 l3) < K.2 1 then zbind (f_Performance_tick K (F 1 (B 4 l1 5 l3) 0) F B) (fun r4 F4 B4 => f_Performance_soundAll_21 K K.1 0 r4 (B 4 l1 5 l3) l0 l1 l2 l3 F4 B4) else none else none else none) = some (r, F9, B9) := hf
  refine lv_aload_n hx hb d_7_7_0 rfl (lv_at hl 1 rfl) ?_
  obtain ⟨g1, hf⟩ := gif hf
  refine zget (ci := 4) (C := RX4) (T := TX4) (v := .ref (ad 4 l1 (5 + 1))) (k := 5) hx hb hts inW_4 hown hK hZ g1.1 g1.2 rfl (by decide) k_4_131 rfl d_7_7_1 ?_
  refine lv_iload_n hx hb d_7_7_4 rfl (lv_at hl 3 rfl) ?_
  obtain ⟨g2, hf⟩ := gif hf
  refine zaldR (t := 1) (x := 7) (ci := 4) (k := 5) hx hb hK rfl rfl hZ g1.1 g1.2 rfl (Nat.le_of_ble_eq_true rfl) g2.1 g2.2 d_7_7_5 ?_
  refine zastore (lv' := [(0, .ref (ad 5 l0 0)), (1, .ref (ad 4 l1 0)), (2, .int (iI l2)), (3, .int (iI l3))]) hx hb d_7_7_6 hl (by decide) (fun _ _ => rfl) (fun ls hl => ?_)
  refine zaload hx hb d_7_7_8 (lv_at hl 0 rfl) ?_
  obtain ⟨g3, hf⟩ := gif hf
  refine zunrf g3.1 ?_
  refine zget (ci := 1) (C := RX1) (T := TX1) (v := .long (lI (F 1 (B 4 l1 5 l3) 0))) (k := 0) hx hb hts inW_1 hown hK hZ g3.1 g3.2 rfl (by decide) k_2_22 rfl d_7_7_10 ?_
  obtain ⟨r4, F4, B4, hc4, hf⟩ := gbind hf
  refine va_calli (va_runS (As := [.long (lI (F 1 (B 4 l1 5 l3) 0))]) (rest := []) ⟨hx, hb, hml, hown, hts⟩ (c_Performance_tick (l := l) hc4) (va_cwS 1 hts (gdS k_6_126 k_6_127 k_1_20 k_6_128) rfl rfl rfl (by decide +kernel) ⟨Nat.le_of_ble_eq_true rfl, Nat.le_of_ble_eq_true rfl⟩) (zPS X hZ hS [.long (lI (F 1 (B 4 l1 5 l3) 0))]) rfl rfl hl.1 rfl (lv_room (Nat.le_of_ble_eq_true rfl)) d_7_7_13 ⟨Nat.le_of_ble_eq_true rfl, Nat.le_of_ble_eq_true rfl⟩) hS (fun q _ h => zAin X hS q h) (zAin X hS) (fun p4 u4 t4 H4 locs4 ht4 hv4 hw4 hB4 hz4 hk4 hS4 => ?_)
  have hZ4 := zBack X ht4 hB4
  subst hw4
  refine lv_istore (lv' := [(5, .int (iI r4)), (4, va_rf (zrf ad 1 (B 4 l1 5 l3))), (0, .ref (ad 5 l0 0)), (1, .ref (ad 4 l1 0)), (2, .int (iI l2)), (3, .int (iI l3))]) hx hb d_7_7_16 hl (by decide) (by cases zrf ad 1 (B 4 l1 5 l3) <;> rfl) (fun ls hl => ?_)
  refine lv_iconst (v := iI 0) hx hb d_7_7_18 rfl ?_
  refine lv_istore (lv' := [(6, .int (iI 0)), (5, .int (iI r4)), (4, va_rf (zrf ad 1 (B 4 l1 5 l3))), (0, .ref (ad 5 l0 0)), (1, .ref (ad 4 l1 0)), (2, .int (iI l2)), (3, .int (iI l3))]) hx hb d_7_7_19 hl (by decide) rfl (fun ls hl => ?_)
  exact b_Performance_soundAll_21 X hf hZ4 hS4 (lv_sub hl [0, 1, 2, 3, 4, 5, 6] rfl)

noncomputable abbrev Q_S_voice (K : zK) (D : va_G) (ca : Nat → ClassId) (ad : Nat → Int → Nat → Nat) (L : List Nat) (r : Int) (F : zF) (B : zB) (A : Nat → Prop) : Array Value → State → Outcome → State → Prop := va_Qi (S := Unit) (fun p _ => p = iI r) (fun _ => zPo D ca ad lnC K.2 L F B A) A
noncomputable def f_S_voice (K : zK) (l0 : Int) (l1 : Int) (l2 : Int) (l3 : Int) (F : zF) (B : zB) : zO := if 0 ≤ l0 ∧ l0 < K.2 12 then zbind (f_S_partAt K l0 l1 l2 F B) (fun r2 F2 B2 => (if r2 < 0 then some ((-1), F2, B2) else if r32 l3 then (if l3 = 0 then if 0 ≤ r2 ∧ r2 < K.2 4 then some (F2 4 r2 1, F2, B2) else none else (if l3 = 1 then if 0 ≤ r2 ∧ r2 < K.2 4 then some (F2 4 r2 2, F2, B2) else none else (if l3 = 2 then if 0 ≤ r2 ∧ r2 < K.2 4 then some (F2 4 r2 6, F2, B2) else none else (if l3 = 3 then if 0 ≤ r2 ∧ r2 < K.2 4 then some (F2 4 r2 10, F2, B2) else none else some ((-1), F2, B2))))) else none)) else none
set_option maxHeartbeats 4000000 in
set_option maxRecDepth 100000 in
theorem c_S_voice {l : Launch} {D : va_G} {ca : Nat → ClassId} {ad : Nat → Int → Nat → Nat} {L : List Nat} {aS vS : Nat → Nat} {sz : Nat} {K : zK}  {l0 : Int} {l1 : Int} {l2 : Int} {l3 : Int} {F F9 : zF} {B B9 : zB} {r : Int} (hf : f_S_voice K l0 l1 l2 l3 F B = some (r, F9, B9)) : Met l ({ cls := "StaveHouse", name := "voice", desc := "(III)I" } : Jvm.MethodName) (Cond.code ({ cls := "StaveHouse", name := "voice", desc := "(III)I" } : Jvm.MethodName) prog_1_method_11_code 5 (Option.some Jvm.ClassFile.FieldType.int) :: wAll) ({ frames := 2, cells := 0, slots := 0, locals := 44 } : Room) (va_Pc [.ref (ad 12 l0 0), .int (iI l1), .int (iI l2), .int (iI l3)] (zPre D ca ad lnC K.2 L aS vS F B sz)) (Q_S_voice K D ca ad L r F9 B9 (zA L sz)) 0 0 (zA L sz) := by
  refine zMet (Qc := Q_S_voice K D ca ad L r F9 B9) (lv := [(0, .ref (ad 12 l0 0)), (1, .int (iI l1)), (2, .int (iI l2)), (3, .int (iI l3))]) (by decide) (Nat.le_of_ble_eq_true rfl) rfl (fun A p e s m below meth c ls X hZ hS hl => ?_)
  obtain ⟨hx, hb, hr, hml, hown, hts, hlk, hK, hA, hL, hX⟩ := id X
  replace hf : (if 0 ≤ l0 ∧ l0 < K.2 12 then zbind (f_S_partAt K l0 l1 l2 F B) (fun r2 F2 B2 => (if r2 < 0 then some ((-1), F2, B2) else if r32 l3 then (if l3 = 0 then if 0 ≤ r2 ∧ r2 < K.2 4 then some (F2 4 r2 1, F2, B2) else none else (if l3 = 1 then if 0 ≤ r2 ∧ r2 < K.2 4 then some (F2 4 r2 2, F2, B2) else none else (if l3 = 2 then if 0 ≤ r2 ∧ r2 < K.2 4 then some (F2 4 r2 6, F2, B2) else none else (if l3 = 3 then if 0 ≤ r2 ∧ r2 < K.2 4 then some (F2 4 r2 10, F2, B2) else none else some ((-1), F2, B2))))) else none)) else none) = some (r, F9, B9) := hf
  refine lv_aload_n hx hb d_1_11_0 rfl (lv_at hl 0 rfl) ?_
  refine lv_iload_n hx hb d_1_11_1 rfl (lv_at hl 1 rfl) ?_
  refine lv_iload_n hx hb d_1_11_2 rfl (lv_at hl 2 rfl) ?_
  obtain ⟨g1, hf⟩ := gif hf
  obtain ⟨r2, F2, B2, hc2, hf⟩ := gbind hf
  refine va_callq (va_runV (As := [.int (iI l1), .int (iI l2)]) (rest := []) ⟨hx, hb, hml, hown, hts⟩ (c_S_partAt (l := l) hc2) (cwV 2 hts (gdV k_6_168 k_6_170 ks_77 k_1_1 k_6_171) rfl rfl rfl (by decide +kernel) ⟨Nat.le_of_ble_eq_true rfl, Nat.le_of_ble_eq_true rfl⟩) (zPV X hZ hS (ci := 12) g1.1 g1.2 (r := (RX12, TX12, 10)) rfl [.int (iI l1), .int (iI l2)]) rfl rfl hl.1 rfl (lv_room (Nat.le_of_ble_eq_true rfl)) d_1_11_3 ⟨Nat.le_of_ble_eq_true rfl, Nat.le_of_ble_eq_true rfl⟩) hS (fun q _ h => zAin X hS q h) (zAin X hS) (fun p2 u2 t2 H2 locs2 ht2 hv2 hw2 hB2 hz2 hk2 hS2 => ?_)
  have hZ2 := zBack X ht2 hB2
  subst hw2
  refine zastore (lv' := [(0, .ref (ad 12 l0 0)), (1, .int (iI l1)), (2, .int (iI l2)), (3, .int (iI l3))]) hx hb d_1_11_6 hl (by decide) (fun _ _ => rfl) (fun ls hl => ?_)
  refine zaload hx hb d_1_11_8 (lv_at hl 0 rfl) ?_
  refine zifnonnull (tgt := 15) hx hb d_1_11_10 (by decide) (fun h3 => ?_) (fun h3 => ?_)
  · replace hf := gneg hf h3
    refine lv_iload_n hx hb d_1_11_15 rfl (lv_at hl 4 rfl) ?_
    obtain ⟨g4, hf⟩ := gif hf
    by_cases h5 : l3 = 0
    · replace hf := gpos hf h5
      refine lv_tableIn (off := 32) (tgt := 48) hx hb d_1_11_16 (by rw [iI_to g4, h5]; decide) (by rw [iI_to g4, h5]; decide) (by rw [iI_to g4, h5]; rfl) (by decide) ?_
      refine zaload hx hb d_1_11_48 (lv_at hl 0 rfl) ?_
      obtain ⟨g6, hf⟩ := gif hf
      refine zunrf g6.1 ?_
      refine zget (ci := 4) (C := RX4) (T := TX4) (v := .int (iI (F2 4 r2 1))) (k := 1) hx hb hts inW_4 hown hK hZ2 g6.1 g6.2 rfl (by decide) k_4_119 rfl d_1_11_50 ?_
      cases hf
      exact W.iret hx hb hr (fun t ht hW => ⟨⟨_, (), rfl, rfl, by rw [ht]; exact hZ2, va_K.moved hW.alike hK⟩, hS2.F ht⟩) hS2.2.2 d_1_11_53 hlk
    replace hf := gneg hf h5
    by_cases h7 : l3 = 1
    · replace hf := gpos hf h7
      refine lv_tableIn (off := 38) (tgt := 54) hx hb d_1_11_16 (by rw [iI_to g4, h7]; decide) (by rw [iI_to g4, h7]; decide) (by rw [iI_to g4, h7]; rfl) (by decide) ?_
      refine zaload hx hb d_1_11_54 (lv_at hl 0 rfl) ?_
      obtain ⟨g8, hf⟩ := gif hf
      refine zunrf g8.1 ?_
      refine zget (ci := 4) (C := RX4) (T := TX4) (v := .int (iI (F2 4 r2 2))) (k := 2) hx hb hts inW_4 hown hK hZ2 g8.1 g8.2 rfl (by decide) k_4_122 rfl d_1_11_56 ?_
      cases hf
      exact W.iret hx hb hr (fun t ht hW => ⟨⟨_, (), rfl, rfl, by rw [ht]; exact hZ2, va_K.moved hW.alike hK⟩, hS2.F ht⟩) hS2.2.2 d_1_11_59 hlk
    replace hf := gneg hf h7
    by_cases h9 : l3 = 2
    · replace hf := gpos hf h9
      refine lv_tableIn (off := 44) (tgt := 60) hx hb d_1_11_16 (by rw [iI_to g4, h9]; decide) (by rw [iI_to g4, h9]; decide) (by rw [iI_to g4, h9]; rfl) (by decide) ?_
      refine zaload hx hb d_1_11_60 (lv_at hl 0 rfl) ?_
      obtain ⟨g10, hf⟩ := gif hf
      refine zunrf g10.1 ?_
      refine zget (ci := 4) (C := RX4) (T := TX4) (v := .int (iI (F2 4 r2 6))) (k := 6) hx hb hts inW_4 hown hK hZ2 g10.1 g10.2 rfl (by decide) k_4_138 rfl d_1_11_62 ?_
      cases hf
      exact W.iret hx hb hr (fun t ht hW => ⟨⟨_, (), rfl, rfl, by rw [ht]; exact hZ2, va_K.moved hW.alike hK⟩, hS2.F ht⟩) hS2.2.2 d_1_11_65 hlk
    replace hf := gneg hf h9
    by_cases h11 : l3 = 3
    · replace hf := gpos hf h11
      refine lv_tableIn (off := 50) (tgt := 66) hx hb d_1_11_16 (by rw [iI_to g4, h11]; decide) (by rw [iI_to g4, h11]; decide) (by rw [iI_to g4, h11]; rfl) (by decide) ?_
      refine zaload hx hb d_1_11_66 (lv_at hl 0 rfl) ?_
      obtain ⟨g12, hf⟩ := gif hf
      refine zunrf g12.1 ?_
      refine zget (ci := 4) (C := RX4) (T := TX4) (v := .int (iI (F2 4 r2 10))) (k := 10) hx hb hts inW_4 hown hK hZ2 g12.1 g12.2 rfl (by decide) k_4_150 rfl d_1_11_68 ?_
      cases hf
      exact W.iret hx hb hr (fun t ht hW => ⟨⟨_, (), rfl, rfl, by rw [ht]; exact hZ2, va_K.moved hW.alike hK⟩, hS2.F ht⟩) hS2.2.2 d_1_11_71 hlk
    replace hf := gneg hf h11
    refine lv_tableOut (tgt := 72) hx hb d_1_11_16 (by rw [iI_to g4]; omega) (by decide) ?_
    refine lv_iconst (v := iI (-1)) hx hb d_1_11_72 rfl ?_
    cases hf
    exact W.iret hx hb hr (fun t ht hW => ⟨⟨_, (), rfl, rfl, by rw [ht]; exact hZ2, va_K.moved hW.alike hK⟩, hS2.F ht⟩) hS2.2.2 d_1_11_73 hlk
  · replace hf := gpos hf h3
    refine lv_iconst (v := iI (-1)) hx hb d_1_11_13 rfl ?_
    cases hf
    exact W.iret hx hb hr (fun t ht hW => ⟨⟨_, (), rfl, rfl, by rw [ht]; exact hZ2, va_K.moved hW.alike hK⟩, hS2.F ht⟩) hS2.2.2 d_1_11_14 hlk

noncomputable abbrev Q_S_above (K : zK) (D : va_G) (ca : Nat → ClassId) (ad : Nat → Int → Nat → Nat) (L : List Nat) (r : Int) (F : zF) (B : zB) (A : Nat → Prop) : Array Value → State → Outcome → State → Prop := va_Ql (S := Unit) (fun p _ => p = lI r) (fun _ => zPo D ca ad lnC K.2 L F B A) A
noncomputable def f_S_above_21 (K : zK) (s0 : Int) (F : zF) (B : zB) : zO := some (s0, F, B)
set_option maxHeartbeats 4000000 in
set_option maxRecDepth 100000 in
theorem b_S_above_21 {D : va_G} {ca : Nat → ClassId} {ad : Nat → Int → Nat → Nat} {L : List Nat} {aS vS : Nat → Nat} {A : Nat → Prop} {p : Program} {l : Launch} {e : Env} {s : State} {m : MethodId} {args : Array Value} {below : List Frame} {meth : Method} {c : Code} {K : zK} {r : Int} {F9 : zF} {B9 : zB} (X : zX D ca L aS vS A p s m args meth c prog_1_method_35_code 4 (Option.some Jvm.ClassFile.FieldType.long) "StaveHouse") {s0 : Int} {F : zF} {B : zB} {H : Heap} {locs : List Loc} {ls : Array Slot} (hf : f_S_above_21 K s0 F B = some (r, F9, B9)) (hZ : zH D ca ad lnC K.2 L F B A H) (hS : va_S A s.heap H locs) (hl : lv_has ls 4 []) : W p l e ({ frames := 1, cells := 0, slots := 0, locals := 30 } : Room) s m args below meth c H locs 0 0 (MQ below (Q_S_above K D ca ad L r F9 B9 A) args s 0 0 A) (F0 m 21 ls [.long (lI s0)]) := by
  obtain ⟨hx, hb, hr, hml, hown, hts, hlk, hK, hA, hL, hX⟩ := id X
  replace hf : (some (s0, F, B)) = some (r, F9, B9) := hf
  cases hf
  exact W.lret hx hb hr (fun t ht hW => ⟨⟨_, (), rfl, rfl, by rw [ht]; exact hZ, va_K.moved hW.alike hK⟩, hS.F ht⟩) hS.2.2 d_1_35_21 hlk

noncomputable def f_S_above (K : zK) (l0 : Int) (F : zF) (B : zB) : zO := zbind (f_S_gcd K l0 812851200 F B) (fun r1 F1 B1 => if r64 r1 then (if (zcmp r1 0) = 0 then f_S_above_21 K l0 F1 B1 else if ¬ lI r1 = 0 then f_S_above_21 K (zldv l0 r1) F1 B1 else none) else none)
set_option maxHeartbeats 4000000 in
set_option maxRecDepth 100000 in
theorem c_S_above {l : Launch} {D : va_G} {ca : Nat → ClassId} {ad : Nat → Int → Nat → Nat} {L : List Nat} {aS vS : Nat → Nat} {sz : Nat} {K : zK}  {l0 : Int} {F F9 : zF} {B B9 : zB} {r : Int} (hf : f_S_above K l0 F B = some (r, F9, B9)) : Met l ({ cls := "StaveHouse", name := "above", desc := "(J)J" } : Jvm.MethodName) (Cond.code ({ cls := "StaveHouse", name := "above", desc := "(J)J" } : Jvm.MethodName) prog_1_method_35_code 4 (Option.some Jvm.ClassFile.FieldType.long) :: wAll) ({ frames := 1, cells := 0, slots := 0, locals := 30 } : Room) (va_Pc [.long (lI l0)] (zPre D ca ad lnC K.2 L aS vS F B sz)) (Q_S_above K D ca ad L r F9 B9 (zA L sz)) 0 0 (zA L sz) := by
  refine zMet (Qc := Q_S_above K D ca ad L r F9 B9) (lv := [(0, .long (lI l0))]) (by decide) (Nat.le_of_ble_eq_true rfl) rfl (fun A p e s m below meth c ls X hZ hS hl => ?_)
  obtain ⟨hx, hb, hr, hml, hown, hts, hlk, hK, hA, hL, hX⟩ := id X
  replace hf : (zbind (f_S_gcd K l0 812851200 F B) (fun r1 F1 B1 => if r64 r1 then (if (zcmp r1 0) = 0 then f_S_above_21 K l0 F1 B1 else if ¬ lI r1 = 0 then f_S_above_21 K (zldv l0 r1) F1 B1 else none) else none)) = some (r, F9, B9) := hf
  refine lv_lload_n hx hb d_1_35_0 rfl (lv_at hl 0 rfl) ?_
  refine lv_ldc2 hx hb hown (hts _ k_6_188) d_1_35_1 ?_
  refine W.eq (g2 := F0 m 4 ls [.long (lI 812851200), .long (lI l0)]) rfl ?_
  obtain ⟨r1, F1, B1, hc1, hf⟩ := gbind hf
  refine va_calll (va_runS (As := [.long (lI l0), .long (lI 812851200)]) (rest := []) ⟨hx, hb, hml, hown, hts⟩ (c_S_gcd (l := l) hc1) (va_cwS 2 hts (gdS k_6_189 k_6_190 k_1_1 k_6_191) rfl rfl rfl (by decide +kernel) ⟨Nat.le_of_ble_eq_true rfl, Nat.le_of_ble_eq_true rfl⟩) (zPS X hZ hS [.long (lI l0), .long (lI 812851200)]) rfl rfl hl.1 rfl (lv_room (Nat.le_of_ble_eq_true rfl)) d_1_35_4 ⟨Nat.le_of_ble_eq_true rfl, Nat.le_of_ble_eq_true rfl⟩) hS (fun q _ h => zAin X hS q h) (zAin X hS) (fun p1 u1 t1 H1 locs1 ht1 hv1 hw1 hB1 hz1 hk1 hS1 => ?_)
  have hZ1 := zBack X ht1 hB1
  subst hw1
  refine lv_lstore_n (lv' := [(2, .long (lI r1)), (0, .long (lI l0))]) hx hb d_1_35_7 rfl hl (by decide) rfl (fun ls hl => ?_)
  refine lv_lload_n hx hb d_1_35_8 rfl (lv_at hl 0 rfl) ?_
  refine lv_lconst (v := lI 0) hx hb d_1_35_9 (by decide) ?_
  obtain ⟨g2, hf⟩ := gif hf
  refine zcmp_r hx hb g2 (by decide) d_1_35_10 ?_
  refine z0ne (tgt := 18) hx hb zcmp_32 d_1_35_11 (by decide) (fun h3 => ?_) (fun h3 => ?_)
  · replace hf := gneg hf h3
    refine lv_lload_n hx hb d_1_35_18 rfl (lv_at hl 1 rfl) ?_
    refine lv_lload_n hx hb d_1_35_19 rfl (lv_at hl 0 rfl) ?_
    obtain ⟨g4, hf⟩ := gif hf
    refine zldv_r hx hb g4 d_1_35_20 ?_
    exact b_S_above_21 X hf hZ1 hS1 (lv_sub hl [] rfl)
  · replace hf := gpos hf h3
    refine lv_lload_n hx hb d_1_35_14 rfl (lv_at hl 1 rfl) ?_
    refine lv_goto (tgt := 21) hx hb d_1_35_15 (by decide) ?_
    exact b_S_above_21 X hf hZ1 hS1 (lv_sub hl [] rfl)

noncomputable abbrev Q_S_pitch (K : zK) (D : va_G) (ca : Nat → ClassId) (ad : Nat → Int → Nat → Nat) (L : List Nat) (r : Int) (F : zF) (B : zB) (A : Nat → Prop) : Array Value → State → Outcome → State → Prop := va_Qi (S := Unit) (fun p _ => p = iI r) (fun _ => zPo D ca ad lnC K.2 L F B A) A
noncomputable def f_S_pitch_29 (K : zK)  (F : zF) (B : zB) : zO := some ((-2147483648), F, B)
set_option maxHeartbeats 4000000 in
set_option maxRecDepth 100000 in
theorem b_S_pitch_29 {D : va_G} {ca : Nat → ClassId} {ad : Nat → Int → Nat → Nat} {L : List Nat} {aS vS : Nat → Nat} {A : Nat → Prop} {p : Program} {l : Launch} {e : Env} {s : State} {m : MethodId} {args : Array Value} {below : List Frame} {meth : Method} {c : Code} {K : zK} {r : Int} {F9 : zF} {B9 : zB} (X : zX D ca L aS vS A p s m args meth c prog_1_method_14_code 7 (Option.some Jvm.ClassFile.FieldType.int) "StaveHouse")  {F : zF} {B : zB} {H : Heap} {locs : List Loc} {ls : Array Slot} (hf : f_S_pitch_29 K  F B = some (r, F9, B9)) (hZ : zH D ca ad lnC K.2 L F B A H) (hS : va_S A s.heap H locs) (hl : lv_has ls 7 []) : W p l e ({ frames := 3, cells := 0, slots := 0, locals := 68 } : Room) s m args below meth c H locs 0 0 (MQ below (Q_S_pitch K D ca ad L r F9 B9 A) args s 0 0 A) (F0 m 29 ls []) := by
  obtain ⟨hx, hb, hr, hml, hown, hts, hlk, hK, hA, hL, hX⟩ := id X
  replace hf : (some ((-2147483648), F, B)) = some (r, F9, B9) := hf
  refine lv_ldc hx hb hown (hts _ k_6_199) d_1_14_29 ?_
  refine W.eq (g2 := F0 m 31 ls [.int (iI (-2147483648))]) rfl ?_
  cases hf
  exact W.iret hx hb hr (fun t ht hW => ⟨⟨_, (), rfl, rfl, by rw [ht]; exact hZ, va_K.moved hW.alike hK⟩, hS.F ht⟩) hS.2.2 d_1_14_31 hlk

noncomputable def f_S_pitch (K : zK) (l0 : Int) (l1 : Int) (l2 : Int) (l3 : Int) (l4 : Int) (l5 : Int) (F : zF) (B : zB) : zO := if 0 ≤ l0 ∧ l0 < K.2 12 then zbind (f_S_eventAt K l0 l1 l2 l3 F B) (fun r2 F2 B2 => (if r2 < 0 then f_S_pitch_29 K F2 B2 else if r32 l4 then (if l4 < 0 then f_S_pitch_29 K F2 B2 else if 0 ≤ r2 ∧ r2 < K.2 1 then if r32 (F2 1 r2 10) then (if l4 < (F2 1 r2 10) then if r32 l5 then (if l5 = 0 then if 0 ≤ l4 ∧ l4 < 6 then some (B2 1 r2 12 l4, F2, B2) else none else (if l5 = 1 then if 0 ≤ l4 ∧ l4 < 6 then some (B2 1 r2 13 l4, F2, B2) else none else (if l5 = 2 then zbind (f_Event_tone K r2 l4 F2 B2) (fun r15 F15 B15 => some (r15, F15, B15)) else some ((-2147483648), F2, B2)))) else none else f_S_pitch_29 K F2 B2) else none else none) else none)) else none
