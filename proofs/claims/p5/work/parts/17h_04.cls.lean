set_option maxHeartbeats 4000000 in
set_option maxRecDepth 100000 in
theorem c_Study_tonesAbove {l : Launch} {D : va_G} {ca : Nat → ClassId} {ad : Nat → Int → Nat → Nat} {L : List Nat} {aS vS : Nat → Nat} {sz : Nat} {K : zK}  {l0 : Int} {l1 : Int} {l2 : Int} {F F9 : zF} {B B9 : zB} {r : Int} (hf : f_Study_tonesAbove K l0 l1 l2 F B = some (r, F9, B9)) : Met l ({ cls := "StaveHouse$Study", name := "tonesAbove", desc := "(II)I" } : Jvm.MethodName) (Cond.code ({ cls := "StaveHouse$Study", name := "tonesAbove", desc := "(II)I" } : Jvm.MethodName) prog_11_method_16_code 5 (Option.some Jvm.ClassFile.FieldType.int) :: wAll) ({ frames := 2, cells := 0, slots := 0, locals := 41 } : Room) (va_Pc [.ref (ad 9 l0 0), .int (iI l1), .int (iI l2)] (zPre D ca ad lnC K.2 L aS vS F B sz)) (Q_Study_tonesAbove K D ca ad L r F9 B9 (zA L sz)) 0 0 (zA L sz) := by
  refine zMet (Qc := Q_Study_tonesAbove K D ca ad L r F9 B9) (lv := [(0, .ref (ad 9 l0 0)), (1, .int (iI l1)), (2, .int (iI l2))]) (by decide) (Nat.le_of_ble_eq_true rfl) rfl (fun A p e s m below meth c ls X hZ hS hl => ?_)
  obtain ⟨hx, hb, hr, hml, hown, hts, hlk, hK, hA, hL, hX⟩ := id X
  replace hf : (if 0 ≤ l0 ∧ l0 < K.2 9 then if 0 ≤ (zrm (l1 + l2) 7) ∧ (zrm (l1 + l2) 7) < 7 then if r32 (B 9 l0 10 (zrm (l1 + l2) 7)) then (if (B 9 l0 10 (zrm (l1 + l2) 7)) = 0 then some (99, F, B) else if 0 ≤ (zrm (l1 + l2) 7) ∧ (zrm (l1 + l2) 7) < ztl 5 then zbind (f_Study_alterationOf K l0 (zrm (l1 + l2) 7) F B) (fun r6 F6 B6 => if 0 ≤ l1 ∧ l1 < ztl 5 then zbind (f_Study_alterationOf K l0 l1 F6 B6) (fun r8 F8 B8 => zbind (f_Math_floorMod K ((((ztv 5 (zrm (l1 + l2) 7)) + r6) - (ztv 5 l1)) - r8) 12 F8 B8) (fun r9 F9 B9 => some (r9, F9, B9))) else none) else none) else none else none else none) = some (r, F9, B9) := hf
  refine lv_iload_n hx hb d_11_16_0 rfl (lv_at hl 1 rfl) ?_
  refine lv_iload_n hx hb d_11_16_1 rfl (lv_at hl 2 rfl) ?_
  refine zadd hx hb d_11_16_2 ?_
  refine lv_bipush (v := iI 7) hx hb d_11_16_3 (by decide) ?_
  refine zrm_r hx hb (by decide) d_11_16_5 ?_
  refine lv_istore_n (lv' := [(3, .int (iI (zrm (l1 + l2) 7))), (0, .ref (ad 9 l0 0)), (1, .int (iI l1)), (2, .int (iI l2))]) hx hb d_11_16_6 rfl hl (by decide) rfl (fun ls hl => ?_)
  refine lv_aload_n hx hb d_11_16_7 rfl (lv_at hl 1 rfl) ?_
  obtain ⟨g1, hf⟩ := gif hf
  refine zget (ci := 9) (C := RX9) (T := TX9) (v := .ref (ad 9 l0 (10 + 1))) (k := 10) hx hb hts inW_9 hown hK hZ g1.1 g1.2 rfl (by decide) k_5_211 rfl d_11_16_8 ?_
  refine lv_iload_n hx hb d_11_16_11 rfl (lv_at hl 0 rfl) ?_
  obtain ⟨g2, hf⟩ := gif hf
  refine zald (ci := 9) (k := 10) hx hb hK rfl hZ g1.1 g1.2 rfl (Nat.le_of_ble_eq_true rfl) g2.1 g2.2 d_11_16_12 ?_
  obtain ⟨g3, hf⟩ := gif hf
  refine z0ne (tgt := 19) hx hb g3 d_11_16_13 (by decide) (fun h4 => ?_) (fun h4 => ?_)
  · replace hf := gneg hf h4
    refine va_getsN hx hb (hX.2.2.2.2.2.2 5 _ rfl).1 hS hown (va_Nw.use rfl (hX.2.2.2.2.2.1.2 _ (List.mem_of_getElem? (i := 2) rfl))) (fun _ h => h) d_11_16_19 ?_
    refine W.eq (g2 := F0 m 22 ls [.ref (vS (1000 + 5))]) rfl ?_
    refine lv_iload_n hx hb d_11_16_22 rfl (lv_at hl 0 rfl) ?_
    obtain ⟨g5, hf⟩ := gif hf
    refine va_ti (v := .int (iI (ztv 5 (zrm (l1 + l2) 7)))) hx hb (ztI hX (by decide) (by decide)) hS (zt_in (by decide) g5) (ztI_v (by decide) g5) d_11_16_23 ?_
    refine lv_aload_n hx hb d_11_16_24 rfl (lv_at hl 1 rfl) ?_
    refine lv_iload_n hx hb d_11_16_25 rfl (lv_at hl 0 rfl) ?_
    obtain ⟨r6, F6, B6, hc6, hf⟩ := gbind hf
    refine va_calli (va_runV (As := [.int (iI (zrm (l1 + l2) 7))]) (rest := [.int (iI (ztv 5 (zrm (l1 + l2) 7)))]) ⟨hx, hb, hml, hown, hts⟩ (c_Study_alterationOf (l := l) hc6) (cwV 1 hts (gdV k_9_57 k_9_59 ks_128 k_1_19 k_9_60) rfl rfl rfl (by decide +kernel) ⟨Nat.le_of_ble_eq_true rfl, Nat.le_of_ble_eq_true rfl⟩) (zPV X hZ hS (ci := 9) g1.1 g1.2 (r := (RX9, TX9, 11)) rfl [.int (iI (zrm (l1 + l2) 7))]) rfl rfl hl.1 rfl (lv_room (Nat.le_of_ble_eq_true rfl)) d_11_16_26 ⟨Nat.le_of_ble_eq_true rfl, Nat.le_of_ble_eq_true rfl⟩) hS (fun q _ h => zAin X hS q h) (zAin X hS) (fun p6 u6 t6 H6 locs6 ht6 hv6 hw6 hB6 hz6 hk6 hS6 => ?_)
    have hZ6 := zBack X ht6 hB6
    subst hw6
    refine zadd hx hb d_11_16_29 ?_
    refine lv_istore (lv' := [(4, .int (iI ((ztv 5 (zrm (l1 + l2) 7)) + r6))), (3, .int (iI (zrm (l1 + l2) 7))), (0, .ref (ad 9 l0 0)), (1, .int (iI l1)), (2, .int (iI l2))]) hx hb d_11_16_30 hl (by decide) rfl (fun ls hl => ?_)
    refine lv_iload hx hb d_11_16_32 (lv_at hl 0 rfl) ?_
    refine va_getsN hx hb (hX.2.2.2.2.2.2 5 _ rfl).1 hS6 hown (va_Nw.use rfl (hX.2.2.2.2.2.1.2 _ (List.mem_of_getElem? (i := 2) rfl))) (fun _ h => h) d_11_16_34 ?_
    refine W.eq (g2 := F0 m 37 ls [.ref (vS (1000 + 5)), .int (iI ((ztv 5 (zrm (l1 + l2) 7)) + r6))]) rfl ?_
    refine lv_iload_n hx hb d_11_16_37 rfl (lv_at hl 3 rfl) ?_
    obtain ⟨g7, hf⟩ := gif hf
    refine va_ti (v := .int (iI (ztv 5 l1))) hx hb (ztI hX (by decide) (by decide)) hS6 (zt_in (by decide) g7) (ztI_v (by decide) g7) d_11_16_38 ?_
    refine zsub hx hb d_11_16_39 ?_
    refine lv_aload_n hx hb d_11_16_40 rfl (lv_at hl 2 rfl) ?_
    refine lv_iload_n hx hb d_11_16_41 rfl (lv_at hl 3 rfl) ?_
    obtain ⟨r8, F8, B8, hc8, hf⟩ := gbind hf
    refine va_calli (va_runV (As := [.int (iI l1)]) (rest := [.int (iI (((ztv 5 (zrm (l1 + l2) 7)) + r6) - (ztv 5 l1)))]) ⟨hx, hb, hml, hown, hts⟩ (c_Study_alterationOf (l := l) hc8) (cwV 1 hts (gdV k_9_57 k_9_59 ks_128 k_1_19 k_9_60) rfl rfl rfl (by decide +kernel) ⟨Nat.le_of_ble_eq_true rfl, Nat.le_of_ble_eq_true rfl⟩) (zPV X hZ6 hS6 (ci := 9) g1.1 g1.2 (r := (RX9, TX9, 11)) rfl [.int (iI l1)]) rfl rfl hl.1 rfl (lv_room (Nat.le_of_ble_eq_true rfl)) d_11_16_42 ⟨Nat.le_of_ble_eq_true rfl, Nat.le_of_ble_eq_true rfl⟩) hS6 (fun q _ h => zAin X hS6 q h) (zAin X hS6) (fun p8 u8 t8 H8 locs8 ht8 hv8 hw8 hB8 hz8 hk8 hS8 => ?_)
    have hZ8 := zBack X ht8 hB8
    subst hw8
    refine zsub hx hb d_11_16_45 ?_
    refine lv_bipush (v := iI 12) hx hb d_11_16_46 (by decide) ?_
    obtain ⟨r9, F9, B9, hc9, hf⟩ := gbind hf
    refine va_calli (va_runS (As := [.int (iI ((((ztv 5 (zrm (l1 + l2) 7)) + r6) - (ztv 5 l1)) - r8)), .int (iI 12)]) (rest := []) ⟨hx, hb, hml, hown, hts⟩ (c_Math_floorMod (l := l) hc9) (va_cwS 2 hts (gdS k_6_38 k_4_71 k_1_3 k_4_72) rfl rfl rfl (by decide +kernel) ⟨Nat.le_of_ble_eq_true rfl, Nat.le_of_ble_eq_true rfl⟩) (zPS X hZ8 hS8 [.int (iI ((((ztv 5 (zrm (l1 + l2) 7)) + r6) - (ztv 5 l1)) - r8)), .int (iI 12)]) rfl rfl hl.1 rfl (lv_room (Nat.le_of_ble_eq_true rfl)) d_11_16_48 ⟨Nat.le_of_ble_eq_true rfl, Nat.le_of_ble_eq_true rfl⟩) hS8 (fun q _ h => zAin X hS8 q h) (zAin X hS8) (fun p9 u9 t9 H9 locs9 ht9 hv9 hw9 hB9 hz9 hk9 hS9 => ?_)
    have hZ9 := zBack X ht9 hB9
    subst hw9
    cases hf
    exact W.iret hx hb hr (fun t ht hW => ⟨⟨_, (), rfl, rfl, by rw [ht]; exact hZ9, va_K.moved hW.alike hK⟩, hS9.F ht⟩) hS9.2.2 d_11_16_51 hlk
  · replace hf := gpos hf h4
    refine lv_bipush (v := iI 99) hx hb d_11_16_16 (by decide) ?_
    cases hf
    exact W.iret hx hb hr (fun t ht hW => ⟨⟨_, (), rfl, rfl, by rw [ht]; exact hZ, va_K.moved hW.alike hK⟩, hS.F ht⟩) hS.2.2 d_11_16_18 hlk

noncomputable abbrev Q_Study_bassLetter (K : zK) (D : va_G) (ca : Nat → ClassId) (ad : Nat → Int → Nat → Nat) (L : List Nat) (r : Int) (F : zF) (B : zB) (A : Nat → Prop) : Array Value → State → Outcome → State → Prop := va_Qi (S := Unit) (fun p _ => p = iI r) (fun _ => zPo D ca ad lnC K.2 L F B A) A
noncomputable def f_Study_bassLetter_100 (rec10 : Int → Int → Int → Int → Int → Int → zF → zB → zO) (K : zK) (l5 : Int) (l4 : Int) (l3 : Int) (l0 : Int) (l1 : Int) (l2 : Int) (F : zF) (B : zB) : zO := rec10 (l5 + 1) l4 l3 l0 l1 l2 F B
set_option maxHeartbeats 4000000 in
set_option maxRecDepth 100000 in
theorem b_Study_bassLetter_100 {D : va_G} {ca : Nat → ClassId} {ad : Nat → Int → Nat → Nat} {L : List Nat} {aS vS : Nat → Nat} {A : Nat → Prop} {p : Program} {l : Launch} {e : Env} {s : State} {m : MethodId} {args : Array Value} {below : List Frame} {meth : Method} {c : Code} {K : zK} {r : Int} {F9 : zF} {B9 : zB} (X : zX D ca L aS vS A p s m args meth c prog_11_method_17_code 9 (Option.some Jvm.ClassFile.FieldType.int) "StaveHouse$Study") {rec10 : Int → Int → Int → Int → Int → Int → zF → zB → zO} (hrec10 : ∀ {l5 : Int} {l4 : Int} {l3 : Int} {l0 : Int} {l1 : Int} {l2 : Int} {F : zF} {B : zB} {H : Heap} {locs : List Loc} {ls : Array Slot}, rec10 l5 l4 l3 l0 l1 l2 F B = some (r, F9, B9) → zH D ca ad lnC K.2 L F B A H → va_S A s.heap H locs → lv_has ls 9 [(5, .int (iI l5)), (4, .int (iI l4)), (3, .int (iI l3)), (0, .ref (ad 9 l0 0)), (1, .ref (ad 6 l1 0)), (2, .int (iI l2))] → W p l e ({ frames := 3, cells := 0, slots := 0, locals := 63 } : Room) s m args below meth c H locs 0 0 (MQ below (Q_Study_bassLetter K D ca ad L r F9 B9 A) args s 0 0 A) (F0 m 10 ls [])) {l5 : Int} {l4 : Int} {l3 : Int} {l0 : Int} {l1 : Int} {l2 : Int} {F : zF} {B : zB} {H : Heap} {locs : List Loc} {ls : Array Slot} (hf : f_Study_bassLetter_100 rec10 K l5 l4 l3 l0 l1 l2 F B = some (r, F9, B9)) (hZ : zH D ca ad lnC K.2 L F B A H) (hS : va_S A s.heap H locs) (hl : lv_has ls 9 [(5, .int (iI l5)), (4, .int (iI l4)), (3, .int (iI l3)), (0, .ref (ad 9 l0 0)), (1, .ref (ad 6 l1 0)), (2, .int (iI l2))]) : W p l e ({ frames := 3, cells := 0, slots := 0, locals := 63 } : Room) s m args below meth c H locs 0 0 (MQ below (Q_Study_bassLetter K D ca ad L r F9 B9 A) args s 0 0 A) (F0 m 100 ls []) := by
  obtain ⟨hx, hb, hr, hml, hown, hts, hlk, hK, hA, hL, hX⟩ := id X
  replace hf : (rec10 (l5 + 1) l4 l3 l0 l1 l2 F B) = some (r, F9, B9) := hf
  refine lv_iinc (v := iI (l5 + 1)) (lv' := [(5, .int (iI (l5 + 1))), (4, .int (iI l4)), (3, .int (iI l3)), (0, .ref (ad 9 l0 0)), (1, .ref (ad 6 l1 0)), (2, .int (iI l2))]) hx hb d_11_17_100 hl (k := 0) rfl (iI_add _ 1) (by decide) rfl (fun ls hl => ?_)
  refine lv_goto (tgt := 10) hx hb d_11_17_103 (by decide) ?_
  exact hrec10 hf hZ hS (lv_sub hl [0, 1, 2, 3, 4, 5] rfl)

noncomputable def f_Study_bassLetter_94 (rec10 : Int → Int → Int → Int → Int → Int → zF → zB → zO) (rec32 : Int → Int → Int → Int → Int → Int → Int → Int → zF → zB → zO) (K : zK) (l7 : Int) (l6 : Int) (l5 : Int) (l4 : Int) (l3 : Int) (l0 : Int) (l1 : Int) (l2 : Int) (F : zF) (B : zB) : zO := rec32 (l7 + 1) l6 l5 l4 l3 l0 l1 l2 F B
set_option maxHeartbeats 4000000 in
set_option maxRecDepth 100000 in
theorem b_Study_bassLetter_94 {D : va_G} {ca : Nat → ClassId} {ad : Nat → Int → Nat → Nat} {L : List Nat} {aS vS : Nat → Nat} {A : Nat → Prop} {p : Program} {l : Launch} {e : Env} {s : State} {m : MethodId} {args : Array Value} {below : List Frame} {meth : Method} {c : Code} {K : zK} {r : Int} {F9 : zF} {B9 : zB} (X : zX D ca L aS vS A p s m args meth c prog_11_method_17_code 9 (Option.some Jvm.ClassFile.FieldType.int) "StaveHouse$Study") {rec10 : Int → Int → Int → Int → Int → Int → zF → zB → zO} {rec32 : Int → Int → Int → Int → Int → Int → Int → Int → zF → zB → zO} (hrec10 : ∀ {l5 : Int} {l4 : Int} {l3 : Int} {l0 : Int} {l1 : Int} {l2 : Int} {F : zF} {B : zB} {H : Heap} {locs : List Loc} {ls : Array Slot}, rec10 l5 l4 l3 l0 l1 l2 F B = some (r, F9, B9) → zH D ca ad lnC K.2 L F B A H → va_S A s.heap H locs → lv_has ls 9 [(5, .int (iI l5)), (4, .int (iI l4)), (3, .int (iI l3)), (0, .ref (ad 9 l0 0)), (1, .ref (ad 6 l1 0)), (2, .int (iI l2))] → W p l e ({ frames := 3, cells := 0, slots := 0, locals := 63 } : Room) s m args below meth c H locs 0 0 (MQ below (Q_Study_bassLetter K D ca ad L r F9 B9 A) args s 0 0 A) (F0 m 10 ls [])) (hrec32 : ∀ {l7 : Int} {l6 : Int} {l5 : Int} {l4 : Int} {l3 : Int} {l0 : Int} {l1 : Int} {l2 : Int} {F : zF} {B : zB} {H : Heap} {locs : List Loc} {ls : Array Slot}, rec32 l7 l6 l5 l4 l3 l0 l1 l2 F B = some (r, F9, B9) → zH D ca ad lnC K.2 L F B A H → va_S A s.heap H locs → lv_has ls 9 [(7, .int (iI l7)), (6, va_rf (zrf ad 1 l6)), (5, .int (iI l5)), (4, .int (iI l4)), (3, .int (iI l3)), (0, .ref (ad 9 l0 0)), (1, .ref (ad 6 l1 0)), (2, .int (iI l2))] → W p l e ({ frames := 3, cells := 0, slots := 0, locals := 63 } : Room) s m args below meth c H locs 0 0 (MQ below (Q_Study_bassLetter K D ca ad L r F9 B9 A) args s 0 0 A) (F0 m 32 ls [])) {l7 : Int} {l6 : Int} {l5 : Int} {l4 : Int} {l3 : Int} {l0 : Int} {l1 : Int} {l2 : Int} {F : zF} {B : zB} {H : Heap} {locs : List Loc} {ls : Array Slot} (hf : f_Study_bassLetter_94 rec10 rec32 K l7 l6 l5 l4 l3 l0 l1 l2 F B = some (r, F9, B9)) (hZ : zH D ca ad lnC K.2 L F B A H) (hS : va_S A s.heap H locs) (hl : lv_has ls 9 [(7, .int (iI l7)), (6, va_rf (zrf ad 1 l6)), (5, .int (iI l5)), (4, .int (iI l4)), (3, .int (iI l3)), (0, .ref (ad 9 l0 0)), (1, .ref (ad 6 l1 0)), (2, .int (iI l2))]) : W p l e ({ frames := 3, cells := 0, slots := 0, locals := 63 } : Room) s m args below meth c H locs 0 0 (MQ below (Q_Study_bassLetter K D ca ad L r F9 B9 A) args s 0 0 A) (F0 m 94 ls []) := by
  obtain ⟨hx, hb, hr, hml, hown, hts, hlk, hK, hA, hL, hX⟩ := id X
  replace hf : (rec32 (l7 + 1) l6 l5 l4 l3 l0 l1 l2 F B) = some (r, F9, B9) := hf
  refine lv_iinc (v := iI (l7 + 1)) (lv' := [(7, .int (iI (l7 + 1))), (6, va_rf (zrf ad 1 l6)), (5, .int (iI l5)), (4, .int (iI l4)), (3, .int (iI l3)), (0, .ref (ad 9 l0 0)), (1, .ref (ad 6 l1 0)), (2, .int (iI l2))]) hx hb d_11_17_94 hl (k := 0) rfl (iI_add _ 1) (by decide) (by cases zrf ad 1 l6 <;> rfl) (fun ls hl => ?_)
  refine lv_goto (tgt := 32) hx hb d_11_17_97 (by decide) ?_
  exact hrec32 hf hZ hS (lv_sub hl [0, 1, 2, 3, 4, 5, 6, 7] rfl)

noncomputable def f_Study_bassLetter_81 (rec10 : Int → Int → Int → Int → Int → Int → zF → zB → zO) (rec32 : Int → Int → Int → Int → Int → Int → Int → Int → zF → zB → zO) (K : zK) (l8 : Int) (l7 : Int) (l6 : Int) (l5 : Int) (l0 : Int) (l1 : Int) (l2 : Int) (F : zF) (B : zB) : zO := if 0 ≤ l6 ∧ l6 < K.2 1 then if 0 ≤ l7 ∧ l7 < 6 then f_Study_bassLetter_94 rec10 rec32 K l7 l6 l5 (B 1 l6 12 l7) l8 l0 l1 l2 F B else none else none
set_option maxHeartbeats 4000000 in
set_option maxRecDepth 100000 in
theorem b_Study_bassLetter_81 {D : va_G} {ca : Nat → ClassId} {ad : Nat → Int → Nat → Nat} {L : List Nat} {aS vS : Nat → Nat} {A : Nat → Prop} {p : Program} {l : Launch} {e : Env} {s : State} {m : MethodId} {args : Array Value} {below : List Frame} {meth : Method} {c : Code} {K : zK} {r : Int} {F9 : zF} {B9 : zB} (X : zX D ca L aS vS A p s m args meth c prog_11_method_17_code 9 (Option.some Jvm.ClassFile.FieldType.int) "StaveHouse$Study") {rec10 : Int → Int → Int → Int → Int → Int → zF → zB → zO} {rec32 : Int → Int → Int → Int → Int → Int → Int → Int → zF → zB → zO} (hrec10 : ∀ {l5 : Int} {l4 : Int} {l3 : Int} {l0 : Int} {l1 : Int} {l2 : Int} {F : zF} {B : zB} {H : Heap} {locs : List Loc} {ls : Array Slot}, rec10 l5 l4 l3 l0 l1 l2 F B = some (r, F9, B9) → zH D ca ad lnC K.2 L F B A H → va_S A s.heap H locs → lv_has ls 9 [(5, .int (iI l5)), (4, .int (iI l4)), (3, .int (iI l3)), (0, .ref (ad 9 l0 0)), (1, .ref (ad 6 l1 0)), (2, .int (iI l2))] → W p l e ({ frames := 3, cells := 0, slots := 0, locals := 63 } : Room) s m args below meth c H locs 0 0 (MQ below (Q_Study_bassLetter K D ca ad L r F9 B9 A) args s 0 0 A) (F0 m 10 ls [])) (hrec32 : ∀ {l7 : Int} {l6 : Int} {l5 : Int} {l4 : Int} {l3 : Int} {l0 : Int} {l1 : Int} {l2 : Int} {F : zF} {B : zB} {H : Heap} {locs : List Loc} {ls : Array Slot}, rec32 l7 l6 l5 l4 l3 l0 l1 l2 F B = some (r, F9, B9) → zH D ca ad lnC K.2 L F B A H → va_S A s.heap H locs → lv_has ls 9 [(7, .int (iI l7)), (6, va_rf (zrf ad 1 l6)), (5, .int (iI l5)), (4, .int (iI l4)), (3, .int (iI l3)), (0, .ref (ad 9 l0 0)), (1, .ref (ad 6 l1 0)), (2, .int (iI l2))] → W p l e ({ frames := 3, cells := 0, slots := 0, locals := 63 } : Room) s m args below meth c H locs 0 0 (MQ below (Q_Study_bassLetter K D ca ad L r F9 B9 A) args s 0 0 A) (F0 m 32 ls [])) {l8 : Int} {l7 : Int} {l6 : Int} {l5 : Int} {l0 : Int} {l1 : Int} {l2 : Int} {F : zF} {B : zB} {H : Heap} {locs : List Loc} {ls : Array Slot} (hf : f_Study_bassLetter_81 rec10 rec32 K l8 l7 l6 l5 l0 l1 l2 F B = some (r, F9, B9)) (hZ : zH D ca ad lnC K.2 L F B A H) (hS : va_S A s.heap H locs) (hl : lv_has ls 9 [(8, .int (iI l8)), (7, .int (iI l7)), (6, va_rf (zrf ad 1 l6)), (5, .int (iI l5)), (0, .ref (ad 9 l0 0)), (1, .ref (ad 6 l1 0)), (2, .int (iI l2))]) : W p l e ({ frames := 3, cells := 0, slots := 0, locals := 63 } : Room) s m args below meth c H locs 0 0 (MQ below (Q_Study_bassLetter K D ca ad L r F9 B9 A) args s 0 0 A) (F0 m 81 ls []) := by
  obtain ⟨hx, hb, hr, hml, hown, hts, hlk, hK, hA, hL, hX⟩ := id X
  replace hf : (if 0 ≤ l6 ∧ l6 < K.2 1 then if 0 ≤ l7 ∧ l7 < 6 then f_Study_bassLetter_94 rec10 rec32 K l7 l6 l5 (B 1 l6 12 l7) l8 l0 l1 l2 F B else none else none) = some (r, F9, B9) := hf
  refine lv_iload hx hb d_11_17_81 (lv_at hl 0 rfl) ?_
  refine lv_istore_n (lv' := [(3, .int (iI l8)), (8, .int (iI l8)), (7, .int (iI l7)), (6, va_rf (zrf ad 1 l6)), (5, .int (iI l5)), (0, .ref (ad 9 l0 0)), (1, .ref (ad 6 l1 0)), (2, .int (iI l2))]) hx hb d_11_17_83 rfl hl (by decide) rfl (fun ls hl => ?_)
  refine zaload hx hb d_11_17_84 (lv_at hl 3 rfl) ?_
  obtain ⟨g21, hf⟩ := gif hf
  refine zunrf g21.1 ?_
  refine zget (ci := 1) (C := RX1) (T := TX1) (v := .ref (ad 1 l6 (12 + 1))) (k := 12) hx hb hts inW_1 hown hK hZ g21.1 g21.2 rfl (by decide) k_2_58 rfl d_11_17_86 ?_
  refine lv_iload hx hb d_11_17_89 (lv_at hl 2 rfl) ?_
  obtain ⟨g22, hf⟩ := gif hf
  refine zald (ci := 1) (k := 12) hx hb hK rfl hZ g21.1 g21.2 rfl (Nat.le_of_ble_eq_true rfl) g22.1 g22.2 d_11_17_91 ?_
  refine lv_istore (lv' := [(4, .int (iI (B 1 l6 12 l7))), (3, .int (iI l8)), (8, .int (iI l8)), (7, .int (iI l7)), (6, va_rf (zrf ad 1 l6)), (5, .int (iI l5)), (0, .ref (ad 9 l0 0)), (1, .ref (ad 6 l1 0)), (2, .int (iI l2))]) hx hb d_11_17_92 hl (by decide) rfl (fun ls hl => ?_)
  exact b_Study_bassLetter_94 X hrec10 hrec32 hf hZ hS (lv_sub hl [3, 4, 5, 0, 1, 6, 7, 8] rfl)

noncomputable def f_Study_bassLetter_32 (rec10 : Int → Int → Int → Int → Int → Int → zF → zB → zO) (K : zK) : Nat → Int → Int → Int → Int → Int → Int → Int → Int → zF → zB → zO
  | 0, _, _, _, _, _, _, _, _, _, _ => none
  | n + 1, l7, l6, l5, l4, l3, l0, l1, l2, F, B => (if l6 < 0 then f_Study_bassLetter_100 rec10 K l5 l4 l3 l0 l1 l2 F B else if 0 ≤ l6 ∧ l6 < K.2 1 then if r32 l7 then if r32 (F 1 l6 10) then (if (F 1 l6 10) ≤ l7 then f_Study_bassLetter_100 rec10 K l5 l4 l3 l0 l1 l2 F B else zbind (f_Event_tone K l6 l7 F B) (fun r12 F12 B12 => if r32 r12 then if r32 l3 then (if r12 < l3 then f_Study_bassLetter_81 rec10 (f_Study_bassLetter_32 rec10 K n) K r12 l7 l6 l5 l0 l1 l2 F12 B12 else (if r12 = l3 then if 0 ≤ l7 ∧ l7 < 6 then if r32 (B12 1 l6 12 l7) then if r32 l4 then (if l4 ≤ (B12 1 l6 12 l7) then f_Study_bassLetter_94 rec10 (f_Study_bassLetter_32 rec10 K n) K l7 l6 l5 l4 l3 l0 l1 l2 F12 B12 else f_Study_bassLetter_81 rec10 (f_Study_bassLetter_32 rec10 K n) K r12 l7 l6 l5 l0 l1 l2 F12 B12) else none else none else none else f_Study_bassLetter_94 rec10 (f_Study_bassLetter_32 rec10 K n) K l7 l6 l5 l4 l3 l0 l1 l2 F12 B12)) else none else none)) else none else none else none)
set_option maxHeartbeats 4000000 in
set_option maxRecDepth 100000 in
theorem b_Study_bassLetter_32 {D : va_G} {ca : Nat → ClassId} {ad : Nat → Int → Nat → Nat} {L : List Nat} {aS vS : Nat → Nat} {A : Nat → Prop} {p : Program} {l : Launch} {e : Env} {s : State} {m : MethodId} {args : Array Value} {below : List Frame} {meth : Method} {c : Code} {K : zK} {r : Int} {F9 : zF} {B9 : zB} (X : zX D ca L aS vS A p s m args meth c prog_11_method_17_code 9 (Option.some Jvm.ClassFile.FieldType.int) "StaveHouse$Study") {rec10 : Int → Int → Int → Int → Int → Int → zF → zB → zO} (hrec10 : ∀ {l5 : Int} {l4 : Int} {l3 : Int} {l0 : Int} {l1 : Int} {l2 : Int} {F : zF} {B : zB} {H : Heap} {locs : List Loc} {ls : Array Slot}, rec10 l5 l4 l3 l0 l1 l2 F B = some (r, F9, B9) → zH D ca ad lnC K.2 L F B A H → va_S A s.heap H locs → lv_has ls 9 [(5, .int (iI l5)), (4, .int (iI l4)), (3, .int (iI l3)), (0, .ref (ad 9 l0 0)), (1, .ref (ad 6 l1 0)), (2, .int (iI l2))] → W p l e ({ frames := 3, cells := 0, slots := 0, locals := 63 } : Room) s m args below meth c H locs 0 0 (MQ below (Q_Study_bassLetter K D ca ad L r F9 B9 A) args s 0 0 A) (F0 m 10 ls [])) : ∀ {n : Nat} {l7 : Int} {l6 : Int} {l5 : Int} {l4 : Int} {l3 : Int} {l0 : Int} {l1 : Int} {l2 : Int} {F : zF} {B : zB} {H : Heap} {locs : List Loc} {ls : Array Slot}, f_Study_bassLetter_32 rec10 K n l7 l6 l5 l4 l3 l0 l1 l2 F B = some (r, F9, B9) → zH D ca ad lnC K.2 L F B A H → va_S A s.heap H locs → lv_has ls 9 [(7, .int (iI l7)), (6, va_rf (zrf ad 1 l6)), (5, .int (iI l5)), (4, .int (iI l4)), (3, .int (iI l3)), (0, .ref (ad 9 l0 0)), (1, .ref (ad 6 l1 0)), (2, .int (iI l2))] → W p l e ({ frames := 3, cells := 0, slots := 0, locals := 63 } : Room) s m args below meth c H locs 0 0 (MQ below (Q_Study_bassLetter K D ca ad L r F9 B9 A) args s 0 0 A) (F0 m 32 ls []) := by
  obtain ⟨hx, hb, hr, hml, hown, hts, hlk, hK, hA, hL, hX⟩ := id X
  intro n
  induction n with
  | zero =>
    intros
    rename_i hf _ _ _
    cases hf
  | succ n ih =>
    intro l7 l6 l5 l4 l3 l0 l1 l2 F B H locs ls hf hZ hS hl
    replace hf : ((if l6 < 0 then f_Study_bassLetter_100 rec10 K l5 l4 l3 l0 l1 l2 F B else if 0 ≤ l6 ∧ l6 < K.2 1 then if r32 l7 then if r32 (F 1 l6 10) then (if (F 1 l6 10) ≤ l7 then f_Study_bassLetter_100 rec10 K l5 l4 l3 l0 l1 l2 F B else zbind (f_Event_tone K l6 l7 F B) (fun r12 F12 B12 => if r32 r12 then if r32 l3 then (if r12 < l3 then f_Study_bassLetter_81 rec10 (f_Study_bassLetter_32 rec10 K n) K r12 l7 l6 l5 l0 l1 l2 F12 B12 else (if r12 = l3 then if 0 ≤ l7 ∧ l7 < 6 then if r32 (B12 1 l6 12 l7) then if r32 l4 then (if l4 ≤ (B12 1 l6 12 l7) then f_Study_bassLetter_94 rec10 (f_Study_bassLetter_32 rec10 K n) K l7 l6 l5 l4 l3 l0 l1 l2 F12 B12 else f_Study_bassLetter_81 rec10 (f_Study_bassLetter_32 rec10 K n) K r12 l7 l6 l5 l0 l1 l2 F12 B12) else none else none else none else f_Study_bassLetter_94 rec10 (f_Study_bassLetter_32 rec10 K n) K l7 l6 l5 l4 l3 l0 l1 l2 F12 B12)) else none else none)) else none else none else none)) = some (r, F9, B9) := hf
    refine zaload hx hb d_11_17_32 (lv_at hl 1 rfl) ?_
    refine zifnull (tgt := 100) hx hb d_11_17_34 (by decide) (fun h7 => ?_) (fun h7 => ?_)
    · replace hf := gpos hf h7
      exact b_Study_bassLetter_100 X hrec10 hf hZ hS (lv_sub hl [2, 3, 4, 5, 6, 7] rfl)
    · replace hf := gneg hf h7
      refine lv_iload hx hb d_11_17_37 (lv_at hl 0 rfl) ?_
      refine zaload hx hb d_11_17_39 (lv_at hl 1 rfl) ?_
      obtain ⟨g8, hf⟩ := gif hf
      refine zunrf g8.1 ?_
      refine zget (ci := 1) (C := RX1) (T := TX1) (v := .int (iI (F 1 l6 10))) (k := 10) hx hb hts inW_1 hown hK hZ g8.1 g8.2 rfl (by decide) k_2_51 rfl d_11_17_41 ?_
      obtain ⟨g9, hf⟩ := gif hf
      obtain ⟨g10, hf⟩ := gif hf
      refine zge (tgt := 100) hx hb g9 g10 d_11_17_44 (by decide) (fun h11 => ?_) (fun h11 => ?_)
      · replace hf := gpos hf h11
        exact b_Study_bassLetter_100 X hrec10 hf hZ hS (lv_sub hl [2, 3, 4, 5, 6, 7] rfl)
      · replace hf := gneg hf h11
        refine zaload hx hb d_11_17_47 (lv_at hl 1 rfl) ?_
        refine lv_iload hx hb d_11_17_49 (lv_at hl 0 rfl) ?_
        refine W.eq (g2 := F0 m 51 ls [.int (iI l7), .ref (ad 1 l6 0)]) (by rw [zrf_pos (ad := ad) (t := 1) g8.1]; try rfl) ?_
        obtain ⟨r12, F12, B12, hc12, hf⟩ := gbind hf
        refine va_calli (va_runV (As := [.int (iI l7)]) (rest := []) ⟨hx, hb, hml, hown, hts⟩ (c_Event_tone (l := l) hc12) (cwV 1 hts (gdV k_6_26 k_6_22 k_6_23 k_1_8 k_6_24) rfl rfl rfl (by decide +kernel) ⟨Nat.le_of_ble_eq_true rfl, Nat.le_of_ble_eq_true rfl⟩) (zPV X hZ hS (ci := 1) g8.1 g8.2 (r := (RX1, TX1, 14)) rfl [.int (iI l7)]) rfl rfl hl.1 rfl (lv_room (Nat.le_of_ble_eq_true rfl)) d_11_17_51 ⟨Nat.le_of_ble_eq_true rfl, Nat.le_of_ble_eq_true rfl⟩) hS (fun q _ h => zAin X hS q h) (zAin X hS) (fun p12 u12 t12 H12 locs12 ht12 hv12 hw12 hB12 hz12 hk12 hS12 => ?_)
        have hZ12 := zBack X ht12 hB12
        subst hw12
        refine lv_istore (lv' := [(8, .int (iI r12)), (7, .int (iI l7)), (6, va_rf (zrf ad 1 l6)), (5, .int (iI l5)), (4, .int (iI l4)), (3, .int (iI l3)), (0, .ref (ad 9 l0 0)), (1, .ref (ad 6 l1 0)), (2, .int (iI l2))]) hx hb d_11_17_54 hl (by decide) rfl (fun ls hl => ?_)
        refine lv_iload hx hb d_11_17_56 (lv_at hl 0 rfl) ?_
        refine lv_iload_n hx hb d_11_17_58 rfl (lv_at hl 5 rfl) ?_
        obtain ⟨g13, hf⟩ := gif hf
        obtain ⟨g14, hf⟩ := gif hf
        refine zlt (tgt := 81) hx hb g13 g14 d_11_17_59 (by decide) (fun h15 => ?_) (fun h15 => ?_)
        · replace hf := gpos hf h15
          exact b_Study_bassLetter_81 X hrec10 ih hf hZ12 hS12 (lv_sub hl [0, 1, 2, 3, 6, 7, 8] rfl)
        · replace hf := gneg hf h15
          refine lv_iload hx hb d_11_17_62 (lv_at hl 0 rfl) ?_
          refine lv_iload_n hx hb d_11_17_64 rfl (lv_at hl 5 rfl) ?_
          refine zne (tgt := 94) hx hb g13 g14 d_11_17_65 (by decide) (fun h16 => ?_) (fun h16 => ?_)
          · replace hf := gneg hf h16
            exact b_Study_bassLetter_94 X hrec10 ih hf hZ12 hS12 (lv_sub hl [1, 2, 3, 4, 5, 6, 7, 8] rfl)
          · replace hf := gpos hf h16
            refine zaload hx hb d_11_17_68 (lv_at hl 2 rfl) ?_
            refine zunrf g8.1 ?_
            refine zget (ci := 1) (C := RX1) (T := TX1) (v := .ref (ad 1 l6 (12 + 1))) (k := 12) hx hb hts inW_1 hown hK hZ12 g8.1 g8.2 rfl (by decide) k_2_58 rfl d_11_17_70 ?_
            refine lv_iload hx hb d_11_17_73 (lv_at hl 1 rfl) ?_
            obtain ⟨g17, hf⟩ := gif hf
            refine zald (ci := 1) (k := 12) hx hb hK rfl hZ12 g8.1 g8.2 rfl (Nat.le_of_ble_eq_true rfl) g17.1 g17.2 d_11_17_75 ?_
            refine lv_iload hx hb d_11_17_76 (lv_at hl 4 rfl) ?_
            obtain ⟨g18, hf⟩ := gif hf
            obtain ⟨g19, hf⟩ := gif hf
            refine zge (tgt := 94) hx hb g18 g19 d_11_17_78 (by decide) (fun h20 => ?_) (fun h20 => ?_)
            · replace hf := gpos hf h20
              exact b_Study_bassLetter_94 X hrec10 ih hf hZ12 hS12 (lv_sub hl [1, 2, 3, 4, 5, 6, 7, 8] rfl)
            · replace hf := gneg hf h20
              exact b_Study_bassLetter_81 X hrec10 ih hf hZ12 hS12 (lv_sub hl [0, 1, 2, 3, 6, 7, 8] rfl)

noncomputable def f_Study_bassLetter_10 (K : zK) : Nat → Int → Int → Int → Int → Int → Int → zF → zB → zO
  | 0, _, _, _, _, _, _, _, _ => none
  | n + 1, l5, l4, l3, l0, l1, l2, F, B => if 0 ≤ l1 ∧ l1 < K.2 6 then if r32 l5 then if r32 (F 6 l1 1) then (if (F 6 l1 1) ≤ l5 then some (zrm l4 7, F, B) else if 0 ≤ l0 ∧ l0 < K.2 9 then zbind (f_Study_eventOf K l0 l1 l5 l2 F B) (fun r6 F6 B6 => f_Study_bassLetter_32 (f_Study_bassLetter_10 K n) K K.1 0 r6 l5 l4 l3 l0 l1 l2 F6 B6) else none) else none else none else none
set_option maxHeartbeats 4000000 in
set_option maxRecDepth 100000 in
theorem b_Study_bassLetter_10 {D : va_G} {ca : Nat → ClassId} {ad : Nat → Int → Nat → Nat} {L : List Nat} {aS vS : Nat → Nat} {A : Nat → Prop} {p : Program} {l : Launch} {e : Env} {s : State} {m : MethodId} {args : Array Value} {below : List Frame} {meth : Method} {c : Code} {K : zK} {r : Int} {F9 : zF} {B9 : zB} (X : zX D ca L aS vS A p s m args meth c prog_11_method_17_code 9 (Option.some Jvm.ClassFile.FieldType.int) "StaveHouse$Study") : ∀ {n : Nat} {l5 : Int} {l4 : Int} {l3 : Int} {l0 : Int} {l1 : Int} {l2 : Int} {F : zF} {B : zB} {H : Heap} {locs : List Loc} {ls : Array Slot}, f_Study_bassLetter_10 K n l5 l4 l3 l0 l1 l2 F B = some (r, F9, B9) → zH D ca ad lnC K.2 L F B A H → va_S A s.heap H locs → lv_has ls 9 [(5, .int (iI l5)), (4, .int (iI l4)), (3, .int (iI l3)), (0, .ref (ad 9 l0 0)), (1, .ref (ad 6 l1 0)), (2, .int (iI l2))] → W p l e ({ frames := 3, cells := 0, slots := 0, locals := 63 } : Room) s m args below meth c H locs 0 0 (MQ below (Q_Study_bassLetter K D ca ad L r F9 B9 A) args s 0 0 A) (F0 m 10 ls []) := by
  obtain ⟨hx, hb, hr, hml, hown, hts, hlk, hK, hA, hL, hX⟩ := id X
  intro n
  induction n with
  | zero =>
    intros
    rename_i hf _ _ _
    cases hf
  | succ n ih =>
    intro l5 l4 l3 l0 l1 l2 F B H locs ls hf hZ hS hl
    replace hf : (if 0 ≤ l1 ∧ l1 < K.2 6 then if r32 l5 then if r32 (F 6 l1 1) then (if (F 6 l1 1) ≤ l5 then some (zrm l4 7, F, B) else if 0 ≤ l0 ∧ l0 < K.2 9 then zbind (f_Study_eventOf K l0 l1 l5 l2 F B) (fun r6 F6 B6 => f_Study_bassLetter_32 (f_Study_bassLetter_10 K n) K K.1 0 r6 l5 l4 l3 l0 l1 l2 F6 B6) else none) else none else none else none) = some (r, F9, B9) := hf
    refine lv_iload hx hb d_11_17_10 (lv_at hl 0 rfl) ?_
    refine lv_aload_n hx hb d_11_17_12 rfl (lv_at hl 4 rfl) ?_
    obtain ⟨g1, hf⟩ := gif hf
    refine zget (ci := 6) (C := RX6) (T := TX6) (v := .int (iI (F 6 l1 1))) (k := 1) hx hb hts inW_6 hown hK hZ g1.1 g1.2 rfl (by decide) k_2_192 rfl d_11_17_13 ?_
    obtain ⟨g2, hf⟩ := gif hf
    obtain ⟨g3, hf⟩ := gif hf
    refine zge (tgt := 106) hx hb g2 g3 d_11_17_16 (by decide) (fun h4 => ?_) (fun h4 => ?_)
    · replace hf := gpos hf h4
      refine lv_iload hx hb d_11_17_106 (lv_at hl 1 rfl) ?_
      refine lv_bipush (v := iI 7) hx hb d_11_17_108 (by decide) ?_
      refine zrm_r hx hb (by decide) d_11_17_110 ?_
      cases hf
      exact W.iret hx hb hr (fun t ht hW => ⟨⟨_, (), rfl, rfl, by rw [ht]; exact hZ, va_K.moved hW.alike hK⟩, hS.F ht⟩) hS.2.2 d_11_17_111 hlk
    · replace hf := gneg hf h4
      refine lv_aload_n hx hb d_11_17_19 rfl (lv_at hl 3 rfl) ?_
      refine lv_aload_n hx hb d_11_17_20 rfl (lv_at hl 4 rfl) ?_
      refine lv_iload hx hb d_11_17_21 (lv_at hl 0 rfl) ?_
      refine lv_iload_n hx hb d_11_17_23 rfl (lv_at hl 5 rfl) ?_
      obtain ⟨g5, hf⟩ := gif hf
      obtain ⟨r6, F6, B6, hc6, hf⟩ := gbind hf
      refine va_callq (va_runV (As := [.ref (ad 6 l1 0), .int (iI l5), .int (iI l2)]) (rest := []) ⟨hx, hb, hml, hown, hts⟩ (c_Study_eventOf (l := l) hc6) (cwV 3 hts (gdV k_6_13 k_6_15 ks_69 k_1_19 k_6_16) rfl rfl rfl (by decide +kernel) ⟨Nat.le_of_ble_eq_true rfl, Nat.le_of_ble_eq_true rfl⟩) (zPV X hZ hS (ci := 9) g5.1 g5.2 (r := (RX9, TX9, 11)) rfl [.ref (ad 6 l1 0), .int (iI l5), .int (iI l2)]) rfl rfl hl.1 rfl (lv_room (Nat.le_of_ble_eq_true rfl)) d_11_17_24 ⟨Nat.le_of_ble_eq_true rfl, Nat.le_of_ble_eq_true rfl⟩) hS (fun q _ h => zAin X hS q h) (zAin X hS) (fun p6 u6 t6 H6 locs6 ht6 hv6 hw6 hB6 hz6 hk6 hS6 => ?_)
      have hZ6 := zBack X ht6 hB6
      subst hw6
      refine zastore (lv' := [(5, .int (iI l5)), (4, .int (iI l4)), (3, .int (iI l3)), (0, .ref (ad 9 l0 0)), (1, .ref (ad 6 l1 0)), (2, .int (iI l2))]) hx hb d_11_17_27 hl (by decide) (fun _ _ => rfl) (fun ls hl => ?_)
      refine lv_iconst (v := iI 0) hx hb d_11_17_29 rfl ?_
      refine lv_istore (lv' := [(7, .int (iI 0)), (6, va_rf (zrf ad 1 r6)), (5, .int (iI l5)), (4, .int (iI l4)), (3, .int (iI l3)), (0, .ref (ad 9 l0 0)), (1, .ref (ad 6 l1 0)), (2, .int (iI l2))]) hx hb d_11_17_30 hl (by decide) (by cases zrf ad 1 r6 <;> rfl) (fun ls hl => ?_)
      exact b_Study_bassLetter_32 X ih hf hZ6 hS6 (lv_sub hl [0, 1, 2, 3, 4, 5, 6, 7] rfl)

noncomputable def f_Study_bassLetter (K : zK) (l0 : Int) (l1 : Int) (l2 : Int) (F : zF) (B : zB) : zO := f_Study_bassLetter_10 K K.1 0 0 1000 l0 l1 l2 F B
set_option maxHeartbeats 4000000 in
set_option maxRecDepth 100000 in
theorem c_Study_bassLetter {l : Launch} {D : va_G} {ca : Nat → ClassId} {ad : Nat → Int → Nat → Nat} {L : List Nat} {aS vS : Nat → Nat} {sz : Nat} {K : zK}  {l0 : Int} {l1 : Int} {l2 : Int} {F F9 : zF} {B B9 : zB} {r : Int} (hf : f_Study_bassLetter K l0 l1 l2 F B = some (r, F9, B9)) : Met l ({ cls := "StaveHouse$Study", name := "bassLetter", desc := "(LStaveHouse$Piece;I)I" } : Jvm.MethodName) (Cond.code ({ cls := "StaveHouse$Study", name := "bassLetter", desc := "(LStaveHouse$Piece;I)I" } : Jvm.MethodName) prog_11_method_17_code 9 (Option.some Jvm.ClassFile.FieldType.int) :: wAll) ({ frames := 3, cells := 0, slots := 0, locals := 63 } : Room) (va_Pc [.ref (ad 9 l0 0), .ref (ad 6 l1 0), .int (iI l2)] (zPre D ca ad lnC K.2 L aS vS F B sz)) (Q_Study_bassLetter K D ca ad L r F9 B9 (zA L sz)) 0 0 (zA L sz) := by
  refine zMet (Qc := Q_Study_bassLetter K D ca ad L r F9 B9) (lv := [(0, .ref (ad 9 l0 0)), (1, .ref (ad 6 l1 0)), (2, .int (iI l2))]) (by decide) (Nat.le_of_ble_eq_true rfl) rfl (fun A p e s m below meth c ls X hZ hS hl => ?_)
  obtain ⟨hx, hb, hr, hml, hown, hts, hlk, hK, hA, hL, hX⟩ := id X
  replace hf : (f_Study_bassLetter_10 K K.1 0 0 1000 l0 l1 l2 F B) = some (r, F9, B9) := hf
  refine lv_sipush (v := iI 1000) hx hb d_11_17_0 (by decide) ?_
  refine lv_istore_n (lv' := [(3, .int (iI 1000)), (0, .ref (ad 9 l0 0)), (1, .ref (ad 6 l1 0)), (2, .int (iI l2))]) hx hb d_11_17_3 rfl hl (by decide) rfl (fun ls hl => ?_)
  refine lv_iconst (v := iI 0) hx hb d_11_17_4 rfl ?_
  refine lv_istore (lv' := [(4, .int (iI 0)), (3, .int (iI 1000)), (0, .ref (ad 9 l0 0)), (1, .ref (ad 6 l1 0)), (2, .int (iI l2))]) hx hb d_11_17_5 hl (by decide) rfl (fun ls hl => ?_)
  refine lv_iconst (v := iI 0) hx hb d_11_17_7 rfl ?_
  refine lv_istore (lv' := [(5, .int (iI 0)), (4, .int (iI 0)), (3, .int (iI 1000)), (0, .ref (ad 9 l0 0)), (1, .ref (ad 6 l1 0)), (2, .int (iI l2))]) hx hb d_11_17_8 hl (by decide) rfl (fun ls hl => ?_)
  exact b_Study_bassLetter_10 X hf hZ hS (lv_sub hl [0, 1, 2, 3, 4, 5] rfl)

noncomputable abbrev Q_CString_indexOf_1 (K : zK) (D : va_G) (ca : Nat → ClassId) (ad : Nat → Int → Nat → Nat) (L : List Nat) (r : Int) (F : zF) (B : zB) (A : Nat → Prop) : Array Value → State → Outcome → State → Prop := va_Qi (S := Unit) (fun p _ => p = iI r) (fun _ => zPo D ca ad lnC K.2 L F B A) A
noncomputable def f_CString_indexOf_1_36 (K : zK) (s0 : Int) (F : zF) (B : zB) : zO := some (s0, F, B)
set_option maxHeartbeats 4000000 in
set_option maxRecDepth 100000 in
theorem b_CString_indexOf_1_36 {D : va_G} {ca : Nat → ClassId} {ad : Nat → Int → Nat → Nat} {L : List Nat} {aS vS : Nat → Nat} {A : Nat → Prop} {p : Program} {l : Launch} {e : Env} {s : State} {m : MethodId} {args : Array Value} {below : List Frame} {meth : Method} {c : Code} {K : zK} {r : Int} {F9 : zF} {B9 : zB} (X : zX D ca L aS vS A p s m args meth c prog_21_method_80_code 3 (Option.some Jvm.ClassFile.FieldType.int) "java/lang/String") {s0 : Int} {F : zF} {B : zB} {H : Heap} {locs : List Loc} {ls : Array Slot} (hf : f_CString_indexOf_1_36 K s0 F B = some (r, F9, B9)) (hZ : zH D ca ad lnC K.2 L F B A H) (hS : va_S A s.heap H locs) (hl : lv_has ls 3 []) : W p l e ({ frames := 2, cells := 0, slots := 0, locals := 48 } : Room) s m args below meth c H locs 0 0 (MQ below (Q_CString_indexOf_1 K D ca ad L r F9 B9 A) args s 0 0 A) (F0 m 36 ls [.int (iI s0)]) := by
  obtain ⟨hx, hb, hr, hml, hown, hts, hlk, hK, hA, hL, hX⟩ := id X
  replace hf : (some (s0, F, B)) = some (r, F9, B9) := hf
  cases hf
  exact W.iret hx hb hr (fun t ht hW => ⟨⟨_, (), rfl, rfl, by rw [ht]; exact hZ, va_K.moved hW.alike hK⟩, hS.F ht⟩) hS.2.2 d_21_80_36 hlk

noncomputable def f_CString_indexOf_1 (K : zK) (l0 : Nat) (l1 : Int) (l2 : Int) (F : zF) (B : zB) : zO := if l0 < strL.length then zbind (f_CString_isLatin1 K l0 F B) (fun r2 F2 B2 => if r32 r2 then (if r2 = 0 then zbind (f_CString_length K l0 F2 B2) (fun r5 F5 B5 => none) else zbind (f_CString_length K l0 F2 B2) (fun r6 F6 B6 => zbind (f_CStringLatin1_indexOf K l0 l1 l2 r6 F6 B6) (fun r7 F7 B7 => f_CString_indexOf_1_36 K r7 F7 B7))) else none) else none
set_option maxHeartbeats 4000000 in
set_option maxRecDepth 100000 in
theorem c_CString_indexOf_1 {l : Launch} {D : va_G} {ca : Nat → ClassId} {ad : Nat → Int → Nat → Nat} {L : List Nat} {aS vS : Nat → Nat} {sz : Nat} {K : zK}  {l0 : Nat} {l1 : Int} {l2 : Int} {F F9 : zF} {B B9 : zB} {r : Int} (hf : f_CString_indexOf_1 K l0 l1 l2 F B = some (r, F9, B9)) : Met l ({ cls := "java/lang/String", name := "indexOf", desc := "(II)I" } : Jvm.MethodName) (Cond.code ({ cls := "java/lang/String", name := "indexOf", desc := "(II)I" } : Jvm.MethodName) prog_21_method_80_code 3 (Option.some Jvm.ClassFile.FieldType.int) :: wAll) ({ frames := 2, cells := 0, slots := 0, locals := 48 } : Room) (va_Pc [.ref (aS l0), .int (iI l1), .int (iI l2)] (zPre D ca ad lnC K.2 L aS vS F B sz)) (Q_CString_indexOf_1 K D ca ad L r F9 B9 (zA L sz)) 0 0 (zA L sz) := by
  refine zMet (Qc := Q_CString_indexOf_1 K D ca ad L r F9 B9) (lv := [(0, .ref (aS l0)), (1, .int (iI l1)), (2, .int (iI l2))]) (by decide) (Nat.le_of_ble_eq_true rfl) rfl (fun A p e s m below meth c ls X hZ hS hl => ?_)
  obtain ⟨hx, hb, hr, hml, hown, hts, hlk, hK, hA, hL, hX⟩ := id X
  replace hf : (if l0 < strL.length then zbind (f_CString_isLatin1 K l0 F B) (fun r2 F2 B2 => if r32 r2 then (if r2 = 0 then zbind (f_CString_length K l0 F2 B2) (fun r5 F5 B5 => none) else zbind (f_CString_length K l0 F2 B2) (fun r6 F6 B6 => zbind (f_CStringLatin1_indexOf K l0 l1 l2 r6 F6 B6) (fun r7 F7 B7 => f_CString_indexOf_1_36 K r7 F7 B7))) else none) else none) = some (r, F9, B9) := hf
  refine lv_aload_n hx hb d_21_80_0 rfl (lv_at hl 0 rfl) ?_
  obtain ⟨g1, hf⟩ := gif hf
  obtain ⟨r2, F2, B2, hc2, hf⟩ := gbind hf
  refine va_calli (va_runV (As := []) (rest := []) ⟨hx, hb, hml, hown, hts⟩ (c_CString_isLatin1 (l := l) hc2) (cwV 0 hts (gdV k_3_75 k_3_76 k_3_77 k_1_11 k_3_78) rfl rfl rfl (by decide +kernel) ⟨Nat.le_of_ble_eq_true rfl, Nat.le_of_ble_eq_true rfl⟩) ⟨zBlind, zsrecv hX g1 hS, zAt X hZ hS [.ref (aS l0)]⟩ rfl rfl hl.1 rfl (lv_room (Nat.le_of_ble_eq_true rfl)) d_21_80_1 ⟨Nat.le_of_ble_eq_true rfl, Nat.le_of_ble_eq_true rfl⟩) hS (fun q _ h => zAin X hS q h) (zAin X hS) (fun p2 u2 t2 H2 locs2 ht2 hv2 hw2 hB2 hz2 hk2 hS2 => ?_)
  have hZ2 := zBack X ht2 hB2
  subst hw2
  obtain ⟨g3, hf⟩ := gif hf
  refine z0eq (tgt := 23) hx hb g3 d_21_80_4 (by decide) (fun h4 => ?_) (fun h4 => ?_)
  · replace hf := gpos hf h4
    refine lv_aload_n hx hb d_21_80_23 rfl (lv_at hl 0 rfl) ?_
    refine vk_getf hx hb (zstr hX g1).2.1 hS2 hown (hts _ k_15_170) (fun _ h => h) d_21_80_24 ?_
    refine W.eq (g2 := F0 m 27 ls [.ref (vS l0)]) rfl ?_
    refine lv_iload_n hx hb d_21_80_27 rfl (lv_at hl 1 rfl) ?_
    refine lv_iload_n hx hb d_21_80_28 rfl (lv_at hl 2 rfl) ?_
    refine lv_aload_n hx hb d_21_80_29 rfl (lv_at hl 0 rfl) ?_
    obtain ⟨r5, F5, B5, hc5, hf⟩ := gbind hf
    refine va_calli (va_runV (As := []) (rest := [.int (iI l2), .int (iI l1), .ref (vS l0)]) ⟨hx, hb, hml, hown, hts⟩ (c_CString_length (l := l) hc5) (cwV 0 hts (gdV k_3_81 k_3_82 k_3_83 k_1_11 k_3_84) rfl rfl rfl (by decide +kernel) ⟨Nat.le_of_ble_eq_true rfl, Nat.le_of_ble_eq_true rfl⟩) ⟨zBlind, zsrecv hX g1 hS2, zAt X hZ2 hS2 [.ref (aS l0)]⟩ rfl rfl hl.1 rfl (lv_room (Nat.le_of_ble_eq_true rfl)) d_21_80_30 ⟨Nat.le_of_ble_eq_true rfl, Nat.le_of_ble_eq_true rfl⟩) hS2 (fun q _ h => zAin X hS2 q h) (zAin X hS2) (fun p5 u5 t5 H5 locs5 ht5 hv5 hw5 hB5 hz5 hk5 hS5 => ?_)
    have hZ5 := zBack X ht5 hB5
    subst hw5
    cases hf
  · replace hf := gneg hf h4
    refine lv_aload_n hx hb d_21_80_7 rfl (lv_at hl 0 rfl) ?_
    refine vk_getf hx hb (zstr hX g1).2.1 hS2 hown (hts _ k_15_170) (fun _ h => h) d_21_80_8 ?_
    refine W.eq (g2 := F0 m 11 ls [.ref (vS l0)]) rfl ?_
    refine lv_iload_n hx hb d_21_80_11 rfl (lv_at hl 1 rfl) ?_
    refine lv_iload_n hx hb d_21_80_12 rfl (lv_at hl 2 rfl) ?_
    refine lv_aload_n hx hb d_21_80_13 rfl (lv_at hl 0 rfl) ?_
    obtain ⟨r6, F6, B6, hc6, hf⟩ := gbind hf
    refine va_calli (va_runV (As := []) (rest := [.int (iI l2), .int (iI l1), .ref (vS l0)]) ⟨hx, hb, hml, hown, hts⟩ (c_CString_length (l := l) hc6) (cwV 0 hts (gdV k_3_81 k_3_82 k_3_83 k_1_11 k_3_84) rfl rfl rfl (by decide +kernel) ⟨Nat.le_of_ble_eq_true rfl, Nat.le_of_ble_eq_true rfl⟩) ⟨zBlind, zsrecv hX g1 hS2, zAt X hZ2 hS2 [.ref (aS l0)]⟩ rfl rfl hl.1 rfl (lv_room (Nat.le_of_ble_eq_true rfl)) d_21_80_14 ⟨Nat.le_of_ble_eq_true rfl, Nat.le_of_ble_eq_true rfl⟩) hS2 (fun q _ h => zAin X hS2 q h) (zAin X hS2) (fun p6 u6 t6 H6 locs6 ht6 hv6 hw6 hB6 hz6 hk6 hS6 => ?_)
    have hZ6 := zBack X ht6 hB6
    subst hw6
    obtain ⟨r7, F7, B7, hc7, hf⟩ := gbind hf
    refine va_calli (va_runS (As := [.ref (vS l0), .int (iI l1), .int (iI l2), .int (iI r6)]) (rest := []) ⟨hx, hb, hml, hown, hts⟩ (c_CStringLatin1_indexOf (l := l) hc7) (va_cwS 4 hts (gdS k_3_89 k_3_90 k_1_12 k_3_91) rfl rfl rfl (by decide +kernel) ⟨Nat.le_of_ble_eq_true rfl, Nat.le_of_ble_eq_true rfl⟩) (zPS X hZ6 hS6 [.ref (vS l0), .int (iI l1), .int (iI l2), .int (iI r6)]) rfl rfl hl.1 rfl (lv_room (Nat.le_of_ble_eq_true rfl)) d_21_80_17 ⟨Nat.le_of_ble_eq_true rfl, Nat.le_of_ble_eq_true rfl⟩) hS6 (fun q _ h => zAin X hS6 q h) (zAin X hS6) (fun p7 u7 t7 H7 locs7 ht7 hv7 hw7 hB7 hz7 hk7 hS7 => ?_)
    have hZ7 := zBack X ht7 hB7
    subst hw7
    refine lv_goto (tgt := 36) hx hb d_21_80_20 (by decide) ?_
    exact b_CString_indexOf_1_36 X hf hZ7 hS7 (lv_sub hl [] rfl)

noncomputable abbrev Q_Parser_takeLength (K : zK) (D : va_G) (ca : Nat → ClassId) (ad : Nat → Int → Nat → Nat) (L : List Nat) (r : Int) (F : zF) (B : zB) (A : Nat → Prop) : Array Value → State → Outcome → State → Prop := va_Qi (S := Unit) (fun p _ => p = iI r) (fun _ => zPo D ca ad lnC K.2 L F B A) A
noncomputable def f_Parser_takeLength_70 (K : zK) (l2 : Int) (l1 : Int) (l0 : Int) (F : zF) (B : zB) : zO := if 0 ≤ l2 ∧ l2 < ztl 4 then if 0 ≤ l0 ∧ l0 < K.2 3 then some (1, (zup3 F 3 l0 20 (zdv (l1 * (ztv 4 l2)) 4)), B) else none else none
set_option maxHeartbeats 4000000 in
set_option maxRecDepth 100000 in
theorem b_Parser_takeLength_70 {D : va_G} {ca : Nat → ClassId} {ad : Nat → Int → Nat → Nat} {L : List Nat} {aS vS : Nat → Nat} {A : Nat → Prop} {p : Program} {l : Launch} {e : Env} {s : State} {m : MethodId} {args : Array Value} {below : List Frame} {meth : Method} {c : Code} {K : zK} {r : Int} {F9 : zF} {B9 : zB} (X : zX D ca L aS vS A p s m args meth c prog_5_method_26_code 4 (Option.some Jvm.ClassFile.FieldType.boolean) "StaveHouse$Parser") {l2 : Int} {l1 : Int} {l0 : Int} {F : zF} {B : zB} {H : Heap} {locs : List Loc} {ls : Array Slot} (hf : f_Parser_takeLength_70 K l2 l1 l0 F B = some (r, F9, B9)) (hZ : zH D ca ad lnC K.2 L F B A H) (hS : va_S A s.heap H locs) (hl : lv_has ls 4 [(2, .int (iI l2)), (1, .int (iI l1)), (0, .ref (ad 3 l0 0))]) : W p l e ({ frames := 2, cells := 0, slots := 0, locals := 45 } : Room) s m args below meth c H locs 0 0 (MQ below (Q_Parser_takeLength K D ca ad L r F9 B9 A) args s 0 0 A) (F0 m 70 ls []) := by
  obtain ⟨hx, hb, hr, hml, hown, hts, hlk, hK, hA, hL, hX⟩ := id X
  replace hf : (if 0 ≤ l2 ∧ l2 < ztl 4 then if 0 ≤ l0 ∧ l0 < K.2 3 then some (1, (zup3 F 3 l0 20 (zdv (l1 * (ztv 4 l2)) 4)), B) else none else none) = some (r, F9, B9) := hf
  refine lv_aload_n hx hb d_5_26_70 rfl (lv_at hl 2 rfl) ?_
  refine lv_iload_n hx hb d_5_26_71 rfl (lv_at hl 1 rfl) ?_
  refine va_getsN hx hb (hX.2.2.2.2.2.2 4 _ rfl).1 hS hown (va_Nw.use rfl (hX.2.2.2.2.2.1.2 _ (List.mem_of_getElem? (i := 0) rfl))) (fun _ h => h) d_5_26_72 ?_
  refine W.eq (g2 := F0 m 75 ls [.ref (vS (1000 + 4)), .int (iI l1), .ref (ad 3 l0 0)]) rfl ?_
  refine lv_iload_n hx hb d_5_26_75 rfl (lv_at hl 0 rfl) ?_
  obtain ⟨g18, hf⟩ := gif hf
  refine va_ti (v := .int (iI (ztv 4 l2))) hx hb (ztI hX (by decide) (by decide)) hS (zt_in (by decide) g18) (ztI_v (by decide) g18) d_5_26_76 ?_
  refine zmul hx hb d_5_26_77 ?_
  refine lv_iconst (v := iI 4) hx hb d_5_26_78 rfl ?_
  refine zdv_r hx hb (by decide) d_5_26_79 ?_
  obtain ⟨g19, hf⟩ := gif hf
  refine zput (ci := 3) (C := RX3) (T := TX3) (k := 20) (v := (zdv (l1 * (ztv 4 l2)) 4)) (w := .int (iI (zdv (l1 * (ztv 4 l2)) 4))) hx hb hts inW_3 tyX3 tyX3_ok nmX3 hown hK hZ hS g19.1 g19.2 rfl (by decide) k_1_137 rfl (fun G h => congrArg (fun q => Value.int (iI q)) h) rfl rfl (zno (by decide)) d_5_26_80 (fun H20 locs20 hZ20 hS20 => ?_)
  refine lv_iconst (v := iI 1) hx hb d_5_26_83 rfl ?_
  cases hf
  exact W.zret hx hb hr rfl (fun t ht hW => ⟨⟨_, (), rfl, rfl, by rw [ht]; exact hZ20, va_K.moved hW.alike hK⟩, hS20.F ht⟩) hS20.2.2 d_5_26_84 hlk

noncomputable def f_Parser_takeLength_37 (K : zK) : Nat → Int → Int → Int → Int → zF → zB → zO
  | 0, _, _, _, _, _, _ => none
  | n + 1, l3, l2, l1, l0, F, B => if r32 l3 then (if 2 ≤ l3 then f_Parser_takeLength_70 K l2 l1 l0 F B else if 0 ≤ l0 ∧ l0 < K.2 3 then if 0 ≤ (F 3 l0 11) ∧ (F 3 l0 11) < K.2 10 then zbind (f_Tokens_isSign K (F 3 l0 11) 46 F B) (fun r13 F13 B13 => if r32 r13 then (if r13 = 0 then f_Parser_takeLength_70 K l2 l1 l0 F13 B13 else if 0 ≤ (F13 3 l0 11) ∧ (F13 3 l0 11) < K.2 10 then zbind (f_Tokens_advance K (F13 3 l0 11) F13 B13) (fun r17 F17 B17 => f_Parser_takeLength_37 K n (l3 + 1) (l2 + 1) l1 l0 F17 B17) else none) else none) else none else none) else none
set_option maxHeartbeats 4000000 in
set_option maxRecDepth 100000 in
theorem b_Parser_takeLength_37 {D : va_G} {ca : Nat → ClassId} {ad : Nat → Int → Nat → Nat} {L : List Nat} {aS vS : Nat → Nat} {A : Nat → Prop} {p : Program} {l : Launch} {e : Env} {s : State} {m : MethodId} {args : Array Value} {below : List Frame} {meth : Method} {c : Code} {K : zK} {r : Int} {F9 : zF} {B9 : zB} (X : zX D ca L aS vS A p s m args meth c prog_5_method_26_code 4 (Option.some Jvm.ClassFile.FieldType.boolean) "StaveHouse$Parser") : ∀ {n : Nat} {l3 : Int} {l2 : Int} {l1 : Int} {l0 : Int} {F : zF} {B : zB} {H : Heap} {locs : List Loc} {ls : Array Slot}, f_Parser_takeLength_37 K n l3 l2 l1 l0 F B = some (r, F9, B9) → zH D ca ad lnC K.2 L F B A H → va_S A s.heap H locs → lv_has ls 4 [(3, .int (iI l3)), (2, .int (iI l2)), (1, .int (iI l1)), (0, .ref (ad 3 l0 0))] → W p l e ({ frames := 2, cells := 0, slots := 0, locals := 45 } : Room) s m args below meth c H locs 0 0 (MQ below (Q_Parser_takeLength K D ca ad L r F9 B9 A) args s 0 0 A) (F0 m 37 ls []) := by
  obtain ⟨hx, hb, hr, hml, hown, hts, hlk, hK, hA, hL, hX⟩ := id X
  intro n
  induction n with
  | zero =>
    intros
    rename_i hf _ _ _
    cases hf
  | succ n ih =>
    intro l3 l2 l1 l0 F B H locs ls hf hZ hS hl
    replace hf : (if r32 l3 then (if 2 ≤ l3 then f_Parser_takeLength_70 K l2 l1 l0 F B else if 0 ≤ l0 ∧ l0 < K.2 3 then if 0 ≤ (F 3 l0 11) ∧ (F 3 l0 11) < K.2 10 then zbind (f_Tokens_isSign K (F 3 l0 11) 46 F B) (fun r13 F13 B13 => if r32 r13 then (if r13 = 0 then f_Parser_takeLength_70 K l2 l1 l0 F13 B13 else if 0 ≤ (F13 3 l0 11) ∧ (F13 3 l0 11) < K.2 10 then zbind (f_Tokens_advance K (F13 3 l0 11) F13 B13) (fun r17 F17 B17 => f_Parser_takeLength_37 K n (l3 + 1) (l2 + 1) l1 l0 F17 B17) else none) else none) else none else none) else none) = some (r, F9, B9) := hf
    refine lv_iload_n hx hb d_5_26_37 rfl (lv_at hl 0 rfl) ?_
    refine lv_iconst (v := iI 2) hx hb d_5_26_38 rfl ?_
    obtain ⟨g9, hf⟩ := gif hf
    refine zge (tgt := 70) hx hb g9 (by decide) d_5_26_39 (by decide) (fun h10 => ?_) (fun h10 => ?_)
    · replace hf := gpos hf h10
      exact b_Parser_takeLength_70 X hf hZ hS (lv_sub hl [1, 2, 3] rfl)
    · replace hf := gneg hf h10
      refine lv_aload_n hx hb d_5_26_42 rfl (lv_at hl 3 rfl) ?_
      obtain ⟨g11, hf⟩ := gif hf
      refine zget (ci := 3) (C := RX3) (T := TX3) (v := va_rf (zrf ad 10 (F 3 l0 11))) (k := 11) hx hb hts inW_3 hown hK hZ g11.1 g11.2 rfl (by decide) k_1_128 rfl d_5_26_43 ?_
      refine lv_bipush (v := iI 46) hx hb d_5_26_46 (by decide) ?_
      obtain ⟨g12, hf⟩ := gif hf
      refine W.eq (g2 := F0 m 48 ls [.int (iI 46), .ref (ad 10 (F 3 l0 11) 0)]) (by rw [zrf_pos (ad := ad) (t := 10) g12.1]; try rfl) ?_
      obtain ⟨r13, F13, B13, hc13, hf⟩ := gbind hf
      refine va_calli (va_runV (As := [.int (iI 46)]) (rest := []) ⟨hx, hb, hml, hown, hts⟩ (c_Tokens_isSign (l := l) hc13) (cwV 1 hts (gdV k_3_208 k_3_209 k_3_210 k_1_5 k_3_211) rfl rfl rfl (by decide +kernel) ⟨Nat.le_of_ble_eq_true rfl, Nat.le_of_ble_eq_true rfl⟩) (zPV X hZ hS (ci := 10) g12.1 g12.2 (r := (RX10, TX10, 9)) rfl [.int (iI 46)]) rfl rfl hl.1 rfl (lv_room (Nat.le_of_ble_eq_true rfl)) d_5_26_48 ⟨Nat.le_of_ble_eq_true rfl, Nat.le_of_ble_eq_true rfl⟩) hS (fun q _ h => zAin X hS q h) (zAin X hS) (fun p13 u13 t13 H13 locs13 ht13 hv13 hw13 hB13 hz13 hk13 hS13 => ?_)
      have hZ13 := zBack X ht13 hB13
      subst hw13
      obtain ⟨g14, hf⟩ := gif hf
      refine z0eq (tgt := 70) hx hb g14 d_5_26_51 (by decide) (fun h15 => ?_) (fun h15 => ?_)
      · replace hf := gpos hf h15
        exact b_Parser_takeLength_70 X hf hZ13 hS13 (lv_sub hl [1, 2, 3] rfl)
      · replace hf := gneg hf h15
        refine lv_iinc (v := iI (l2 + 1)) (lv' := [(2, .int (iI (l2 + 1))), (3, .int (iI l3)), (1, .int (iI l1)), (0, .ref (ad 3 l0 0))]) hx hb d_5_26_54 hl (k := 1) rfl (iI_add _ 1) (by decide) rfl (fun ls hl => ?_)
        refine lv_aload_n hx hb d_5_26_57 rfl (lv_at hl 3 rfl) ?_
        refine zget (ci := 3) (C := RX3) (T := TX3) (v := va_rf (zrf ad 10 (F13 3 l0 11))) (k := 11) hx hb hts inW_3 hown hK hZ13 g11.1 g11.2 rfl (by decide) k_1_128 rfl d_5_26_58 ?_
        obtain ⟨g16, hf⟩ := gif hf
        refine W.eq (g2 := F0 m 61 ls [.ref (ad 10 (F13 3 l0 11) 0)]) (by rw [zrf_pos (ad := ad) (t := 10) g16.1]; try rfl) ?_
        obtain ⟨r17, F17, B17, hc17, hf⟩ := gbind hf
        refine va_callv (va_runV (As := []) (rest := []) ⟨hx, hb, hml, hown, hts⟩ (c_Tokens_advance (l := l) hc17) (cwV 0 hts (gdV k_3_180 k_3_152 k_3_153 k_1_5 k_3_154) rfl rfl rfl (by decide +kernel) ⟨Nat.le_of_ble_eq_true rfl, Nat.le_of_ble_eq_true rfl⟩) (zPV X hZ13 hS13 (ci := 10) g16.1 g16.2 (r := (RX10, TX10, 9)) rfl []) rfl rfl hl.1 rfl (lv_room (Nat.le_of_ble_eq_true rfl)) d_5_26_61 ⟨Nat.le_of_ble_eq_true rfl, Nat.le_of_ble_eq_true rfl⟩) hS13 (fun q _ h => zAin X hS13 q h) (zAin X hS13) (fun u17 t17 H17 locs17 ht17 hv17 hw17 hB17 hz17 hk17 hS17 => ?_)
        have hZ17 := zBack X ht17 hB17
        refine lv_iinc (v := iI (l3 + 1)) (lv' := [(3, .int (iI (l3 + 1))), (2, .int (iI (l2 + 1))), (1, .int (iI l1)), (0, .ref (ad 3 l0 0))]) hx hb d_5_26_64 hl (k := 1) rfl (iI_add _ 1) (by decide) rfl (fun ls hl => ?_)
        refine lv_goto (tgt := 37) hx hb d_5_26_67 (by decide) ?_
        exact ih hf hZ17 hS17 (lv_sub hl [0, 1, 2, 3] rfl)

noncomputable def f_Parser_takeLength (K : zK) (l0 : Int) (F : zF) (B : zB) : zO := if 0 ≤ l0 ∧ l0 < K.2 3 then if 0 ≤ (F 3 l0 11) ∧ (F 3 l0 11) < K.2 10 then zbind (f_Tokens_advance K (F 3 l0 11) F B) (fun r3 F3 B3 => zbind (f_Parser_takeNumber K l0 1 32 1 F3 B3) (fun r4 F4 B4 => if r32 r4 then (if r4 = 0 then some (0, F4, B4) else if r32 (F4 3 l0 19) then if ¬ iI (zmax (F4 3 l0 19) 1) = 0 then f_Parser_takeLength_37 K K.1 0 0 (zdv 128 (zmax (F4 3 l0 19) 1)) l0 F4 B4 else none else none) else none)) else none else none
set_option maxHeartbeats 4000000 in
set_option maxRecDepth 100000 in
theorem c_Parser_takeLength {l : Launch} {D : va_G} {ca : Nat → ClassId} {ad : Nat → Int → Nat → Nat} {L : List Nat} {aS vS : Nat → Nat} {sz : Nat} {K : zK}  {l0 : Int} {F F9 : zF} {B B9 : zB} {r : Int} (hf : f_Parser_takeLength K l0 F B = some (r, F9, B9)) : Met l ({ cls := "StaveHouse$Parser", name := "takeLength", desc := "()Z" } : Jvm.MethodName) (Cond.code ({ cls := "StaveHouse$Parser", name := "takeLength", desc := "()Z" } : Jvm.MethodName) prog_5_method_26_code 4 (Option.some Jvm.ClassFile.FieldType.boolean) :: wAll) ({ frames := 2, cells := 0, slots := 0, locals := 45 } : Room) (va_Pc [.ref (ad 3 l0 0)] (zPre D ca ad lnC K.2 L aS vS F B sz)) (Q_Parser_takeLength K D ca ad L r F9 B9 (zA L sz)) 0 0 (zA L sz) := by
  refine zMet (Qc := Q_Parser_takeLength K D ca ad L r F9 B9) (lv := [(0, .ref (ad 3 l0 0))]) (by decide) (Nat.le_of_ble_eq_true rfl) rfl (fun A p e s m below meth c ls X hZ hS hl => ?_)
  obtain ⟨hx, hb, hr, hml, hown, hts, hlk, hK, hA, hL, hX⟩ := id X
  replace hf : (if 0 ≤ l0 ∧ l0 < K.2 3 then if 0 ≤ (F 3 l0 11) ∧ (F 3 l0 11) < K.2 10 then zbind (f_Tokens_advance K (F 3 l0 11) F B) (fun r3 F3 B3 => zbind (f_Parser_takeNumber K l0 1 32 1 F3 B3) (fun r4 F4 B4 => if r32 r4 then (if r4 = 0 then some (0, F4, B4) else if r32 (F4 3 l0 19) then if ¬ iI (zmax (F4 3 l0 19) 1) = 0 then f_Parser_takeLength_37 K K.1 0 0 (zdv 128 (zmax (F4 3 l0 19) 1)) l0 F4 B4 else none else none) else none)) else none else none) = some (r, F9, B9) := hf
  refine lv_aload_n hx hb d_5_26_0 rfl (lv_at hl 0 rfl) ?_
  obtain ⟨g1, hf⟩ := gif hf
  refine zget (ci := 3) (C := RX3) (T := TX3) (v := va_rf (zrf ad 10 (F 3 l0 11))) (k := 11) hx hb hts inW_3 hown hK hZ g1.1 g1.2 rfl (by decide) k_1_128 rfl d_5_26_1 ?_
  obtain ⟨g2, hf⟩ := gif hf
  refine W.eq (g2 := F0 m 4 ls [.ref (ad 10 (F 3 l0 11) 0)]) (by rw [zrf_pos (ad := ad) (t := 10) g2.1]; try rfl) ?_
  obtain ⟨r3, F3, B3, hc3, hf⟩ := gbind hf
  refine va_callv (va_runV (As := []) (rest := []) ⟨hx, hb, hml, hown, hts⟩ (c_Tokens_advance (l := l) hc3) (cwV 0 hts (gdV k_3_180 k_3_152 k_3_153 k_1_5 k_3_154) rfl rfl rfl (by decide +kernel) ⟨Nat.le_of_ble_eq_true rfl, Nat.le_of_ble_eq_true rfl⟩) (zPV X hZ hS (ci := 10) g2.1 g2.2 (r := (RX10, TX10, 9)) rfl []) rfl rfl hl.1 rfl (lv_room (Nat.le_of_ble_eq_true rfl)) d_5_26_4 ⟨Nat.le_of_ble_eq_true rfl, Nat.le_of_ble_eq_true rfl⟩) hS (fun q _ h => zAin X hS q h) (zAin X hS) (fun u3 t3 H3 locs3 ht3 hv3 hw3 hB3 hz3 hk3 hS3 => ?_)
  have hZ3 := zBack X ht3 hB3
  refine lv_aload_n hx hb d_5_26_7 rfl (lv_at hl 0 rfl) ?_
  refine lv_iconst (v := iI 1) hx hb d_5_26_8 rfl ?_
  refine lv_bipush (v := iI 32) hx hb d_5_26_9 (by decide) ?_
  refine lv_iconst (v := iI 1) hx hb d_5_26_11 rfl ?_
  obtain ⟨r4, F4, B4, hc4, hf⟩ := gbind hf
  refine va_calli (va_runV (As := [.int (iI 1), .int (iI 32), .int (iI 1)]) (rest := []) ⟨hx, hb, hml, hown, hts⟩ (c_Parser_takeNumber (l := l) hc4) (cwV 3 hts (gdV k_4_9 k_4_11 ks_19 k_1_4 k_4_12) rfl rfl rfl (by decide +kernel) ⟨Nat.le_of_ble_eq_true rfl, Nat.le_of_ble_eq_true rfl⟩) (zPV X hZ3 hS3 (ci := 3) g1.1 g1.2 (r := (RX3, TX3, 22)) rfl [.int (iI 1), .int (iI 32), .int (iI 1)]) rfl rfl hl.1 rfl (lv_room (Nat.le_of_ble_eq_true rfl)) d_5_26_12 ⟨Nat.le_of_ble_eq_true rfl, Nat.le_of_ble_eq_true rfl⟩) hS3 (fun q _ h => zAin X hS3 q h) (zAin X hS3) (fun p4 u4 t4 H4 locs4 ht4 hv4 hw4 hB4 hz4 hk4 hS4 => ?_)
  have hZ4 := zBack X ht4 hB4
  subst hw4
  obtain ⟨g5, hf⟩ := gif hf
  refine z0ne (tgt := 20) hx hb g5 d_5_26_15 (by decide) (fun h6 => ?_) (fun h6 => ?_)
  · replace hf := gneg hf h6
    refine lv_sipush (v := iI 128) hx hb d_5_26_20 (by decide) ?_
    refine lv_aload_n hx hb d_5_26_23 rfl (lv_at hl 0 rfl) ?_
    refine zget (ci := 3) (C := RX3) (T := TX3) (v := .int (iI (F4 3 l0 19))) (k := 19) hx hb hts inW_3 hown hK hZ4 g1.1 g1.2 rfl (by decide) k_1_136 rfl d_5_26_24 ?_
    refine lv_iconst (v := iI 1) hx hb d_5_26_27 rfl ?_
    obtain ⟨g7, hf⟩ := gif hf
    refine va_mmax hx hb (by rw [hml]; exact hl.1.symm) hown (hts _ k_4_19) (hts _ k_1_39) (hts _ k_1_3) (hts _ k_1_40) (Nat.le_of_ble_eq_true rfl) (Nat.le_of_ble_eq_true rfl) (Nat.le_of_ble_eq_true rfl) (Nat.le_of_ble_eq_true rfl) d_5_26_28 ?_
    rw [zmax_e g7 (by decide)]
    obtain ⟨g8, hf⟩ := gif hf
    refine zdv_r hx hb g8 d_5_26_31 ?_
    refine lv_istore_n (lv' := [(1, .int (iI (zdv 128 (zmax (F4 3 l0 19) 1)))), (0, .ref (ad 3 l0 0))]) hx hb d_5_26_32 rfl hl (by decide) rfl (fun ls hl => ?_)
    refine lv_iconst (v := iI 0) hx hb d_5_26_33 rfl ?_
    refine lv_istore_n (lv' := [(2, .int (iI 0)), (1, .int (iI (zdv 128 (zmax (F4 3 l0 19) 1)))), (0, .ref (ad 3 l0 0))]) hx hb d_5_26_34 rfl hl (by decide) rfl (fun ls hl => ?_)
    refine lv_iconst (v := iI 0) hx hb d_5_26_35 rfl ?_
    refine lv_istore_n (lv' := [(3, .int (iI 0)), (2, .int (iI 0)), (1, .int (iI (zdv 128 (zmax (F4 3 l0 19) 1)))), (0, .ref (ad 3 l0 0))]) hx hb d_5_26_36 rfl hl (by decide) rfl (fun ls hl => ?_)
    exact b_Parser_takeLength_37 X hf hZ4 hS4 (lv_sub hl [0, 1, 2, 3] rfl)
  · replace hf := gpos hf h6
    refine lv_iconst (v := iI 0) hx hb d_5_26_18 rfl ?_
    cases hf
    exact W.zret hx hb hr rfl (fun t ht hW => ⟨⟨_, (), rfl, rfl, by rw [ht]; exact hZ4, va_K.moved hW.alike hK⟩, hS4.F ht⟩) hS4.2.2 d_5_26_19 hlk

noncomputable abbrev Q_Parser_takeHead (K : zK) (D : va_G) (ca : Nat → ClassId) (ad : Nat → Int → Nat → Nat) (L : List Nat) (r : Int) (F : zF) (B : zB) (A : Nat → Prop) : Array Value → State → Outcome → State → Prop := va_Qi (S := Unit) (fun p _ => p = iI r) (fun _ => zPo D ca ad lnC K.2 L F B A) A
noncomputable def f_Parser_takeHead (K : zK) (l0 : Int) (l1 : Int) (F : zF) (B : zB) : zO := if 0 ≤ l0 ∧ l0 < K.2 3 then zbind (f_Parser_headSort K l0 F B) (fun r2 F2 B2 => if 0 ≤ (F2 3 l0 11) ∧ (F2 3 l0 11) < K.2 10 then zbind (f_Tokens_advance K (F2 3 l0 11) (zup3 F2 3 l0 17 (zor (F2 3 l0 17) r2)) B2) (fun r5 F5 B5 => if r32 r2 then (if r2 = 1 then zbind (f_Parser_takeKey K l0 l1 F5 B5) (fun r16 F16 B16 => if (r16 = 0 ∨ r16 = 1) then some (r16, F16, B16) else none) else (if r2 = 2 then zbind (f_Parser_takeTime K l0 l1 F5 B5) (fun r14 F14 B14 => if (r14 = 0 ∨ r14 = 1) then some (r14, F14, B14) else none) else zbind (f_Parser_takeNumber K l0 20 300 0 F5 B5) (fun r9 F9 B9 => if r32 r9 then (if r9 = 0 then some (0, F9, B9) else if 0 ≤ l1 ∧ l1 < K.2 6 then some (1, (zup3 F9 6 l1 6 (F9 3 l0 19)), B9) else none) else none))) else none) else none) else none
