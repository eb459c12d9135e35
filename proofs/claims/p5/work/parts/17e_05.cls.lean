noncomputable def f_CStringLatin1_indexOf (K : zK) (l0 : Nat) (l1 : Int) (l2 : Int) (l3 : Int) (F : zF) (B : zB) : zO := zbind (f_CStringLatin1_canEncode K l1 F B) (fun r1 F1 B1 => if r32 r1 then (if r1 = 0 then some ((-1), F1, B1) else if r32 l2 then if l0 < strL.length then if r32 l3 then if r32 (zsl l0) then if r32 (zmax l2 0) then if r32 (zmin l3 (zsl l0)) then (if (zmax l2 0) < (zmin l3 (zsl l0)) then zbind (f_CStringLatin1_indexOfChar K l0 l1 (zmax l2 0) (zmin l3 (zsl l0)) F1 B1) (fun r11 F11 B11 => some (r11, F11, B11)) else some ((-1), F1, B1)) else none else none else none else none else none else none) else none)
set_option maxHeartbeats 4000000 in
set_option maxRecDepth 100000 in
theorem c_CStringLatin1_indexOf {l : Launch} {D : va_G} {ca : Nat → ClassId} {ad : Nat → Int → Nat → Nat} {L : List Nat} {aS vS : Nat → Nat} {sz : Nat} {K : zK}  {l0 : Nat} {l1 : Int} {l2 : Int} {l3 : Int} {F F9 : zF} {B B9 : zB} {r : Int} (hf : f_CStringLatin1_indexOf K l0 l1 l2 l3 F B = some (r, F9, B9)) : Met l ({ cls := "java/lang/StringLatin1", name := "indexOf", desc := "([BIII)I" } : Jvm.MethodName) (Cond.code ({ cls := "java/lang/StringLatin1", name := "indexOf", desc := "([BIII)I" } : Jvm.MethodName) prog_22_method_22_code 4 (Option.some Jvm.ClassFile.FieldType.int) :: wAll) ({ frames := 1, cells := 0, slots := 0, locals := 25 } : Room) (va_Pc [.ref (vS l0), .int (iI l1), .int (iI l2), .int (iI l3)] (zPre D ca ad lnC K.2 L aS vS F B sz)) (Q_CStringLatin1_indexOf K D ca ad L r F9 B9 (zA L sz)) 0 0 (zA L sz) := by
  refine zMet (Qc := Q_CStringLatin1_indexOf K D ca ad L r F9 B9) (lv := [(0, .ref (vS l0)), (1, .int (iI l1)), (2, .int (iI l2)), (3, .int (iI l3))]) (by decide) (Nat.le_of_ble_eq_true rfl) rfl (fun A p e s m below meth c ls X hZ hS hl => ?_)
  obtain ⟨hx, hb, hr, hml, hown, hts, hlk, hK, hA, hL, hX⟩ := id X
  replace hf : (zbind (f_CStringLatin1_canEncode K l1 F B) (fun r1 F1 B1 => if r32 r1 then (if r1 = 0 then some ((-1), F1, B1) else if r32 l2 then if l0 < strL.length then if r32 l3 then if r32 (zsl l0) then if r32 (zmax l2 0) then if r32 (zmin l3 (zsl l0)) then (if (zmax l2 0) < (zmin l3 (zsl l0)) then zbind (f_CStringLatin1_indexOfChar K l0 l1 (zmax l2 0) (zmin l3 (zsl l0)) F1 B1) (fun r11 F11 B11 => some (r11, F11, B11)) else some ((-1), F1, B1)) else none else none else none else none else none else none) else none)) = some (r, F9, B9) := hf
  refine lv_iload_n hx hb d_22_22_0 rfl (lv_at hl 1 rfl) ?_
  obtain ⟨r1, F1, B1, hc1, hf⟩ := gbind hf
  refine va_calli (va_runS (As := [.int (iI l1)]) (rest := []) ⟨hx, hb, hml, hown, hts⟩ (c_CStringLatin1_canEncode (l := l) hc1) (va_cwS 1 hts (gdS k_3_92 k_3_93 k_1_12 k_3_94) rfl rfl rfl (by decide +kernel) ⟨Nat.le_of_ble_eq_true rfl, Nat.le_of_ble_eq_true rfl⟩) (zPS X hZ hS [.int (iI l1)]) rfl rfl hl.1 rfl (lv_room (Nat.le_of_ble_eq_true rfl)) d_22_22_1 ⟨Nat.le_of_ble_eq_true rfl, Nat.le_of_ble_eq_true rfl⟩) hS (fun q _ h => zAin X hS q h) (zAin X hS) (fun p1 u1 t1 H1 locs1 ht1 hv1 hw1 hB1 hz1 hk1 hS1 => ?_)
  have hZ1 := zBack X ht1 hB1
  subst hw1
  obtain ⟨g2, hf⟩ := gif hf
  refine z0ne (tgt := 9) hx hb g2 d_22_22_4 (by decide) (fun h3 => ?_) (fun h3 => ?_)
  · replace hf := gneg hf h3
    refine lv_iload_n hx hb d_22_22_9 rfl (lv_at hl 2 rfl) ?_
    refine lv_iconst (v := iI 0) hx hb d_22_22_10 rfl ?_
    obtain ⟨g4, hf⟩ := gif hf
    refine va_mmax hx hb (by rw [hml]; exact hl.1.symm) hown (hts _ k_3_95) (hts _ k_1_39) (hts _ k_1_3) (hts _ k_1_40) (Nat.le_of_ble_eq_true rfl) (Nat.le_of_ble_eq_true rfl) (Nat.le_of_ble_eq_true rfl) (Nat.le_of_ble_eq_true rfl) d_22_22_11 ?_
    rw [zmax_e g4 (by decide)]
    refine lv_istore_n (lv' := [(2, .int (iI (zmax l2 0))), (0, .ref (vS l0)), (1, .int (iI l1)), (3, .int (iI l3))]) hx hb d_22_22_14 rfl hl (by decide) rfl (fun ls hl => ?_)
    refine lv_iload_n hx hb d_22_22_15 rfl (lv_at hl 3 rfl) ?_
    refine lv_aload_n hx hb d_22_22_16 rfl (lv_at hl 1 rfl) ?_
    obtain ⟨g5, hf⟩ := gif hf
    refine va_tlen (v := iI (zsl l0)) hx hb (zstr hX g5).2.2.1 hS1 (zsl_n _) d_22_22_17 ?_
    obtain ⟨g6, hf⟩ := gif hf
    obtain ⟨g7, hf⟩ := gif hf
    refine va_mmin hx hb (by rw [hml]; exact hl.1.symm) hown (hts _ k_3_96) (hts _ k_3_97) (hts _ k_1_3) (hts _ k_3_98) (Nat.le_of_ble_eq_true rfl) (Nat.le_of_ble_eq_true rfl) (Nat.le_of_ble_eq_true rfl) (Nat.le_of_ble_eq_true rfl) d_22_22_18 ?_
    rw [zmin_e g6 g7]
    refine lv_istore_n (lv' := [(3, .int (iI (zmin l3 (zsl l0)))), (2, .int (iI (zmax l2 0))), (0, .ref (vS l0)), (1, .int (iI l1))]) hx hb d_22_22_21 rfl hl (by decide) rfl (fun ls hl => ?_)
    refine lv_iload_n hx hb d_22_22_22 rfl (lv_at hl 1 rfl) ?_
    refine lv_iload_n hx hb d_22_22_23 rfl (lv_at hl 0 rfl) ?_
    obtain ⟨g8, hf⟩ := gif hf
    obtain ⟨g9, hf⟩ := gif hf
    refine zlt (tgt := 29) hx hb g8 g9 d_22_22_24 (by decide) (fun h10 => ?_) (fun h10 => ?_)
    · replace hf := gpos hf h10
      refine lv_aload_n hx hb d_22_22_29 rfl (lv_at hl 2 rfl) ?_
      refine lv_iload_n hx hb d_22_22_30 rfl (lv_at hl 3 rfl) ?_
      refine lv_iload_n hx hb d_22_22_31 rfl (lv_at hl 1 rfl) ?_
      refine lv_iload_n hx hb d_22_22_32 rfl (lv_at hl 0 rfl) ?_
      obtain ⟨r11, F11, B11, hc11, hf⟩ := gbind hf
      refine va_calli (va_runS (As := [.ref (vS l0), .int (iI l1), .int (iI (zmax l2 0)), .int (iI (zmin l3 (zsl l0)))]) (rest := []) ⟨hx, hb, hml, hown, hts⟩ (c_CStringLatin1_indexOfChar (l := l) hc11) (va_cwS 4 hts (gdS k_3_99 k_3_100 k_1_12 k_3_101) rfl rfl rfl (by decide +kernel) ⟨Nat.le_of_ble_eq_true rfl, Nat.le_of_ble_eq_true rfl⟩) (zPS X hZ1 hS1 [.ref (vS l0), .int (iI l1), .int (iI (zmax l2 0)), .int (iI (zmin l3 (zsl l0)))]) rfl rfl hl.1 rfl (lv_room (Nat.le_of_ble_eq_true rfl)) d_22_22_33 ⟨Nat.le_of_ble_eq_true rfl, Nat.le_of_ble_eq_true rfl⟩) hS1 (fun q _ h => zAin X hS1 q h) (zAin X hS1) (fun p11 u11 t11 H11 locs11 ht11 hv11 hw11 hB11 hz11 hk11 hS11 => ?_)
      have hZ11 := zBack X ht11 hB11
      subst hw11
      cases hf
      exact W.iret hx hb hr (fun t ht hW => ⟨⟨_, (), rfl, rfl, by rw [ht]; exact hZ11, va_K.moved hW.alike hK⟩, hS11.F ht⟩) hS11.2.2 d_22_22_36 hlk
    · replace hf := gneg hf h10
      refine lv_iconst (v := iI (-1)) hx hb d_22_22_27 rfl ?_
      cases hf
      exact W.iret hx hb hr (fun t ht hW => ⟨⟨_, (), rfl, rfl, by rw [ht]; exact hZ1, va_K.moved hW.alike hK⟩, hS1.F ht⟩) hS1.2.2 d_22_22_28 hlk
  · replace hf := gpos hf h3
    refine lv_iconst (v := iI (-1)) hx hb d_22_22_7 rfl ?_
    cases hf
    exact W.iret hx hb hr (fun t ht hW => ⟨⟨_, (), rfl, rfl, by rw [ht]; exact hZ1, va_K.moved hW.alike hK⟩, hS1.F ht⟩) hS1.2.2 d_22_22_8 hlk

noncomputable abbrev Q_Parser_beginsHead (K : zK) (D : va_G) (ca : Nat → ClassId) (ad : Nat → Int → Nat → Nat) (L : List Nat) (r : Int) (F : zF) (B : zB) (A : Nat → Prop) : Array Value → State → Outcome → State → Prop := va_Qi (S := Unit) (fun p _ => p = iI r) (fun _ => zPo D ca ad lnC K.2 L F B A) A
noncomputable def f_Parser_beginsHead_52 (K : zK) (s0 : Int) (F : zF) (B : zB) : zO := if (s0 = 0 ∨ s0 = 1) then some (s0, F, B) else none
set_option maxHeartbeats 4000000 in
set_option maxRecDepth 100000 in
theorem b_Parser_beginsHead_52 {D : va_G} {ca : Nat → ClassId} {ad : Nat → Int → Nat → Nat} {L : List Nat} {aS vS : Nat → Nat} {A : Nat → Prop} {p : Program} {l : Launch} {e : Env} {s : State} {m : MethodId} {args : Array Value} {below : List Frame} {meth : Method} {c : Code} {K : zK} {r : Int} {F9 : zF} {B9 : zB} (X : zX D ca L aS vS A p s m args meth c prog_5_method_4_code 1 (Option.some Jvm.ClassFile.FieldType.boolean) "StaveHouse$Parser") {s0 : Int} {F : zF} {B : zB} {H : Heap} {locs : List Loc} {ls : Array Slot} (hf : f_Parser_beginsHead_52 K s0 F B = some (r, F9, B9)) (hZ : zH D ca ad lnC K.2 L F B A H) (hS : va_S A s.heap H locs) (hl : lv_has ls 1 []) : W p l e ({ frames := 2, cells := 0, slots := 0, locals := 42 } : Room) s m args below meth c H locs 0 0 (MQ below (Q_Parser_beginsHead K D ca ad L r F9 B9 A) args s 0 0 A) (F0 m 52 ls [.int (iI s0)]) := by
  obtain ⟨hx, hb, hr, hml, hown, hts, hlk, hK, hA, hL, hX⟩ := id X
  replace hf : (if (s0 = 0 ∨ s0 = 1) then some (s0, F, B) else none) = some (r, F9, B9) := hf
  obtain ⟨g15, hf⟩ := gif hf
  cases hf
  exact W.zret hx hb hr (zbool g15) (fun t ht hW => ⟨⟨_, (), rfl, rfl, by rw [ht]; exact hZ, va_K.moved hW.alike hK⟩, hS.F ht⟩) hS.2.2 d_5_4_52 hlk

noncomputable def f_Parser_beginsHead_51 (K : zK)  (F : zF) (B : zB) : zO := f_Parser_beginsHead_52 K 0 F B
set_option maxHeartbeats 4000000 in
set_option maxRecDepth 100000 in
theorem b_Parser_beginsHead_51 {D : va_G} {ca : Nat → ClassId} {ad : Nat → Int → Nat → Nat} {L : List Nat} {aS vS : Nat → Nat} {A : Nat → Prop} {p : Program} {l : Launch} {e : Env} {s : State} {m : MethodId} {args : Array Value} {below : List Frame} {meth : Method} {c : Code} {K : zK} {r : Int} {F9 : zF} {B9 : zB} (X : zX D ca L aS vS A p s m args meth c prog_5_method_4_code 1 (Option.some Jvm.ClassFile.FieldType.boolean) "StaveHouse$Parser")  {F : zF} {B : zB} {H : Heap} {locs : List Loc} {ls : Array Slot} (hf : f_Parser_beginsHead_51 K  F B = some (r, F9, B9)) (hZ : zH D ca ad lnC K.2 L F B A H) (hS : va_S A s.heap H locs) (hl : lv_has ls 1 []) : W p l e ({ frames := 2, cells := 0, slots := 0, locals := 42 } : Room) s m args below meth c H locs 0 0 (MQ below (Q_Parser_beginsHead K D ca ad L r F9 B9 A) args s 0 0 A) (F0 m 51 ls []) := by
  obtain ⟨hx, hb, hr, hml, hown, hts, hlk, hK, hA, hL, hX⟩ := id X
  replace hf : (f_Parser_beginsHead_52 K 0 F B) = some (r, F9, B9) := hf
  refine lv_iconst (v := iI 0) hx hb d_5_4_51 rfl ?_
  exact b_Parser_beginsHead_52 X hf hZ hS (lv_sub hl [] rfl)

noncomputable def f_Parser_beginsHead_27 (K : zK) (s0 : Int) (F : zF) (B : zB) : zO := if (s0 = 0 ∨ s0 = 1) then some (s0, F, B) else none
set_option maxHeartbeats 4000000 in
set_option maxRecDepth 100000 in
theorem b_Parser_beginsHead_27 {D : va_G} {ca : Nat → ClassId} {ad : Nat → Int → Nat → Nat} {L : List Nat} {aS vS : Nat → Nat} {A : Nat → Prop} {p : Program} {l : Launch} {e : Env} {s : State} {m : MethodId} {args : Array Value} {below : List Frame} {meth : Method} {c : Code} {K : zK} {r : Int} {F9 : zF} {B9 : zB} (X : zX D ca L aS vS A p s m args meth c prog_5_method_4_code 1 (Option.some Jvm.ClassFile.FieldType.boolean) "StaveHouse$Parser") {s0 : Int} {F : zF} {B : zB} {H : Heap} {locs : List Loc} {ls : Array Slot} (hf : f_Parser_beginsHead_27 K s0 F B = some (r, F9, B9)) (hZ : zH D ca ad lnC K.2 L F B A H) (hS : va_S A s.heap H locs) (hl : lv_has ls 1 []) : W p l e ({ frames := 2, cells := 0, slots := 0, locals := 42 } : Room) s m args below meth c H locs 0 0 (MQ below (Q_Parser_beginsHead K D ca ad L r F9 B9 A) args s 0 0 A) (F0 m 27 ls [.int (iI s0)]) := by
  obtain ⟨hx, hb, hr, hml, hown, hts, hlk, hK, hA, hL, hX⟩ := id X
  replace hf : (if (s0 = 0 ∨ s0 = 1) then some (s0, F, B) else none) = some (r, F9, B9) := hf
  obtain ⟨g14, hf⟩ := gif hf
  cases hf
  exact W.zret hx hb hr (zbool g14) (fun t ht hW => ⟨⟨_, (), rfl, rfl, by rw [ht]; exact hZ, va_K.moved hW.alike hK⟩, hS.F ht⟩) hS.2.2 d_5_4_27 hlk

noncomputable def f_Parser_beginsHead (K : zK) (l0 : Int) (F : zF) (B : zB) : zO := if 0 ≤ l0 ∧ l0 < K.2 3 then if 0 ≤ (F 3 l0 11) ∧ (F 3 l0 11) < K.2 10 then zbind (f_Tokens_isWord K (F 3 l0 11) 7103860 F B) (fun r3 F3 B3 => if r32 r3 then (if r3 = 0 then zbind (f_Parser_headSort K l0 F3 B3) (fun r6 F6 B6 => if r32 r6 then (if r6 = 0 then f_Parser_beginsHead_51 K F6 B6 else zbind (f_Parser_headSort K l0 F6 B6) (fun r9 F9 B9 => if r32 (zand (F6 3 l0 17) r9) then (if (zand (F6 3 l0 17) r9) = 0 then f_Parser_beginsHead_52 K 1 F9 B9 else f_Parser_beginsHead_51 K F9 B9) else none)) else none) else if r32 (F3 3 l0 16) then (if 6 ≤ (F3 3 l0 16) then f_Parser_beginsHead_27 K 0 F3 B3 else f_Parser_beginsHead_27 K 1 F3 B3) else none) else none) else none else none
set_option maxHeartbeats 4000000 in
set_option maxRecDepth 100000 in
theorem c_Parser_beginsHead {l : Launch} {D : va_G} {ca : Nat → ClassId} {ad : Nat → Int → Nat → Nat} {L : List Nat} {aS vS : Nat → Nat} {sz : Nat} {K : zK}  {l0 : Int} {F F9 : zF} {B B9 : zB} {r : Int} (hf : f_Parser_beginsHead K l0 F B = some (r, F9, B9)) : Met l ({ cls := "StaveHouse$Parser", name := "beginsHead", desc := "()Z" } : Jvm.MethodName) (Cond.code ({ cls := "StaveHouse$Parser", name := "beginsHead", desc := "()Z" } : Jvm.MethodName) prog_5_method_4_code 1 (Option.some Jvm.ClassFile.FieldType.boolean) :: wAll) ({ frames := 2, cells := 0, slots := 0, locals := 42 } : Room) (va_Pc [.ref (ad 3 l0 0)] (zPre D ca ad lnC K.2 L aS vS F B sz)) (Q_Parser_beginsHead K D ca ad L r F9 B9 (zA L sz)) 0 0 (zA L sz) := by
  refine zMet (Qc := Q_Parser_beginsHead K D ca ad L r F9 B9) (lv := [(0, .ref (ad 3 l0 0))]) (by decide) (Nat.le_of_ble_eq_true rfl) rfl (fun A p e s m below meth c ls X hZ hS hl => ?_)
  obtain ⟨hx, hb, hr, hml, hown, hts, hlk, hK, hA, hL, hX⟩ := id X
  replace hf : (if 0 ≤ l0 ∧ l0 < K.2 3 then if 0 ≤ (F 3 l0 11) ∧ (F 3 l0 11) < K.2 10 then zbind (f_Tokens_isWord K (F 3 l0 11) 7103860 F B) (fun r3 F3 B3 => if r32 r3 then (if r3 = 0 then zbind (f_Parser_headSort K l0 F3 B3) (fun r6 F6 B6 => if r32 r6 then (if r6 = 0 then f_Parser_beginsHead_51 K F6 B6 else zbind (f_Parser_headSort K l0 F6 B6) (fun r9 F9 B9 => if r32 (zand (F6 3 l0 17) r9) then (if (zand (F6 3 l0 17) r9) = 0 then f_Parser_beginsHead_52 K 1 F9 B9 else f_Parser_beginsHead_51 K F9 B9) else none)) else none) else if r32 (F3 3 l0 16) then (if 6 ≤ (F3 3 l0 16) then f_Parser_beginsHead_27 K 0 F3 B3 else f_Parser_beginsHead_27 K 1 F3 B3) else none) else none) else none else none) = some (r, F9, B9) := hf
  refine lv_aload_n hx hb d_5_4_0 rfl (lv_at hl 0 rfl) ?_
  obtain ⟨g1, hf⟩ := gif hf
  refine zget (ci := 3) (C := RX3) (T := TX3) (v := va_rf (zrf ad 10 (F 3 l0 11))) (k := 11) hx hb hts inW_3 hown hK hZ g1.1 g1.2 rfl (by decide) k_1_128 rfl d_5_4_1 ?_
  refine lv_ldc2 hx hb hown (hts _ k_3_159) d_5_4_4 ?_
  refine W.eq (g2 := F0 m 7 ls [.long (lI 7103860), va_rf (zrf ad 10 (F 3 l0 11))]) rfl ?_
  obtain ⟨g2, hf⟩ := gif hf
  refine W.eq (g2 := F0 m 7 ls [.long (lI 7103860), .ref (ad 10 (F 3 l0 11) 0)]) (by rw [zrf_pos (ad := ad) (t := 10) g2.1]; try rfl) ?_
  obtain ⟨r3, F3, B3, hc3, hf⟩ := gbind hf
  refine va_calli (va_runV (As := [.long (lI 7103860)]) (rest := []) ⟨hx, hb, hml, hown, hts⟩ (c_Tokens_isWord (l := l) hc3) (cwV 1 hts (gdV k_3_160 k_3_161 k_3_162 k_1_5 k_3_163) rfl rfl rfl (by decide +kernel) ⟨Nat.le_of_ble_eq_true rfl, Nat.le_of_ble_eq_true rfl⟩) (zPV X hZ hS (ci := 10) g2.1 g2.2 (r := (RX10, TX10, 9)) rfl [.long (lI 7103860)]) rfl rfl hl.1 rfl (lv_room (Nat.le_of_ble_eq_true rfl)) d_5_4_7 ⟨Nat.le_of_ble_eq_true rfl, Nat.le_of_ble_eq_true rfl⟩) hS (fun q _ h => zAin X hS q h) (zAin X hS) (fun p3 u3 t3 H3 locs3 ht3 hv3 hw3 hB3 hz3 hk3 hS3 => ?_)
  have hZ3 := zBack X ht3 hB3
  subst hw3
  obtain ⟨g4, hf⟩ := gif hf
  refine z0eq (tgt := 28) hx hb g4 d_5_4_10 (by decide) (fun h5 => ?_) (fun h5 => ?_)
  · replace hf := gpos hf h5
    refine lv_aload_n hx hb d_5_4_28 rfl (lv_at hl 0 rfl) ?_
    obtain ⟨r6, F6, B6, hc6, hf⟩ := gbind hf
    refine va_calli (va_runV (As := []) (rest := []) ⟨hx, hb, hml, hown, hts⟩ (c_Parser_headSort (l := l) hc6) (cwV 0 hts (gdV k_3_164 k_3_166 ks_3 k_1_4 k_3_167) rfl rfl rfl (by decide +kernel) ⟨Nat.le_of_ble_eq_true rfl, Nat.le_of_ble_eq_true rfl⟩) (zPV X hZ3 hS3 (ci := 3) g1.1 g1.2 (r := (RX3, TX3, 22)) rfl []) rfl rfl hl.1 rfl (lv_room (Nat.le_of_ble_eq_true rfl)) d_5_4_29 ⟨Nat.le_of_ble_eq_true rfl, Nat.le_of_ble_eq_true rfl⟩) hS3 (fun q _ h => zAin X hS3 q h) (zAin X hS3) (fun p6 u6 t6 H6 locs6 ht6 hv6 hw6 hB6 hz6 hk6 hS6 => ?_)
    have hZ6 := zBack X ht6 hB6
    subst hw6
    obtain ⟨g7, hf⟩ := gif hf
    refine z0eq (tgt := 51) hx hb g7 d_5_4_32 (by decide) (fun h8 => ?_) (fun h8 => ?_)
    · replace hf := gpos hf h8
      exact b_Parser_beginsHead_51 X hf hZ6 hS6 (lv_sub hl [] rfl)
    · replace hf := gneg hf h8
      refine lv_aload_n hx hb d_5_4_35 rfl (lv_at hl 0 rfl) ?_
      refine zget (ci := 3) (C := RX3) (T := TX3) (v := .int (iI (F6 3 l0 17))) (k := 17) hx hb hts inW_3 hown hK hZ6 g1.1 g1.2 rfl (by decide) k_1_134 rfl d_5_4_36 ?_
      refine lv_aload_n hx hb d_5_4_39 rfl (lv_at hl 0 rfl) ?_
      obtain ⟨r9, F9, B9, hc9, hf⟩ := gbind hf
      refine va_calli (va_runV (As := []) (rest := [.int (iI (F6 3 l0 17))]) ⟨hx, hb, hml, hown, hts⟩ (c_Parser_headSort (l := l) hc9) (cwV 0 hts (gdV k_3_164 k_3_166 ks_3 k_1_4 k_3_167) rfl rfl rfl (by decide +kernel) ⟨Nat.le_of_ble_eq_true rfl, Nat.le_of_ble_eq_true rfl⟩) (zPV X hZ6 hS6 (ci := 3) g1.1 g1.2 (r := (RX3, TX3, 22)) rfl []) rfl rfl hl.1 rfl (lv_room (Nat.le_of_ble_eq_true rfl)) d_5_4_40 ⟨Nat.le_of_ble_eq_true rfl, Nat.le_of_ble_eq_true rfl⟩) hS6 (fun q _ h => zAin X hS6 q h) (zAin X hS6) (fun p9 u9 t9 H9 locs9 ht9 hv9 hw9 hB9 hz9 hk9 hS9 => ?_)
      have hZ9 := zBack X ht9 hB9
      subst hw9
      refine zand_r hx hb d_5_4_43 ?_
      obtain ⟨g10, hf⟩ := gif hf
      refine z0ne (tgt := 51) hx hb g10 d_5_4_44 (by decide) (fun h11 => ?_) (fun h11 => ?_)
      · replace hf := gneg hf h11
        exact b_Parser_beginsHead_51 X hf hZ9 hS9 (lv_sub hl [] rfl)
      · replace hf := gpos hf h11
        refine lv_iconst (v := iI 1) hx hb d_5_4_47 rfl ?_
        refine lv_goto (tgt := 52) hx hb d_5_4_48 (by decide) ?_
        exact b_Parser_beginsHead_52 X hf hZ9 hS9 (lv_sub hl [] rfl)
  · replace hf := gneg hf h5
    refine lv_aload_n hx hb d_5_4_13 rfl (lv_at hl 0 rfl) ?_
    refine zget (ci := 3) (C := RX3) (T := TX3) (v := .int (iI (F3 3 l0 16))) (k := 16) hx hb hts inW_3 hown hK hZ3 g1.1 g1.2 rfl (by decide) k_1_133 rfl d_5_4_14 ?_
    refine lv_bipush (v := iI 6) hx hb d_5_4_17 (by decide) ?_
    obtain ⟨g12, hf⟩ := gif hf
    refine zge (tgt := 26) hx hb g12 (by decide) d_5_4_19 (by decide) (fun h13 => ?_) (fun h13 => ?_)
    · replace hf := gpos hf h13
      refine lv_iconst (v := iI 0) hx hb d_5_4_26 rfl ?_
      exact b_Parser_beginsHead_27 X hf hZ3 hS3 (lv_sub hl [] rfl)
    · replace hf := gneg hf h13
      refine lv_iconst (v := iI 1) hx hb d_5_4_22 rfl ?_
      refine lv_goto (tgt := 27) hx hb d_5_4_23 (by decide) ?_
      exact b_Parser_beginsHead_27 X hf hZ3 hS3 (lv_sub hl [] rfl)

noncomputable abbrev Q_Parser_isName (K : zK) (D : va_G) (ca : Nat → ClassId) (ad : Nat → Int → Nat → Nat) (L : List Nat) (r : Int) (F : zF) (B : zB) (A : Nat → Prop) : Array Value → State → Outcome → State → Prop := va_Qi (S := Unit) (fun p _ => p = iI r) (fun _ => zPo D ca ad lnC K.2 L F B A) A
noncomputable def f_Parser_isName_68 (K : zK) (s0 : Int) (F : zF) (B : zB) : zO := if (s0 = 0 ∨ s0 = 1) then some (s0, F, B) else none
set_option maxHeartbeats 4000000 in
set_option maxRecDepth 100000 in
theorem b_Parser_isName_68 {D : va_G} {ca : Nat → ClassId} {ad : Nat → Int → Nat → Nat} {L : List Nat} {aS vS : Nat → Nat} {A : Nat → Prop} {p : Program} {l : Launch} {e : Env} {s : State} {m : MethodId} {args : Array Value} {below : List Frame} {meth : Method} {c : Code} {K : zK} {r : Int} {F9 : zF} {B9 : zB} (X : zX D ca L aS vS A p s m args meth c prog_5_method_12_code 3 (Option.some Jvm.ClassFile.FieldType.boolean) "StaveHouse$Parser") {s0 : Int} {F : zF} {B : zB} {H : Heap} {locs : List Loc} {ls : Array Slot} (hf : f_Parser_isName_68 K s0 F B = some (r, F9, B9)) (hZ : zH D ca ad lnC K.2 L F B A H) (hS : va_S A s.heap H locs) (hl : lv_has ls 3 []) : W p l e ({ frames := 1, cells := 0, slots := 0, locals := 23 } : Room) s m args below meth c H locs 0 0 (MQ below (Q_Parser_isName K D ca ad L r F9 B9 A) args s 0 0 A) (F0 m 68 ls [.int (iI s0)]) := by
  obtain ⟨hx, hb, hr, hml, hown, hts, hlk, hK, hA, hL, hX⟩ := id X
  replace hf : (if (s0 = 0 ∨ s0 = 1) then some (s0, F, B) else none) = some (r, F9, B9) := hf
  obtain ⟨g17, hf⟩ := gif hf
  cases hf
  exact W.zret hx hb hr (zbool g17) (fun t ht hW => ⟨⟨_, (), rfl, rfl, by rw [ht]; exact hZ, va_K.moved hW.alike hK⟩, hS.F ht⟩) hS.2.2 d_5_12_68 hlk

noncomputable def f_Parser_isName_67 (K : zK)  (F : zF) (B : zB) : zO := f_Parser_isName_68 K 0 F B
set_option maxHeartbeats 4000000 in
set_option maxRecDepth 100000 in
theorem b_Parser_isName_67 {D : va_G} {ca : Nat → ClassId} {ad : Nat → Int → Nat → Nat} {L : List Nat} {aS vS : Nat → Nat} {A : Nat → Prop} {p : Program} {l : Launch} {e : Env} {s : State} {m : MethodId} {args : Array Value} {below : List Frame} {meth : Method} {c : Code} {K : zK} {r : Int} {F9 : zF} {B9 : zB} (X : zX D ca L aS vS A p s m args meth c prog_5_method_12_code 3 (Option.some Jvm.ClassFile.FieldType.boolean) "StaveHouse$Parser")  {F : zF} {B : zB} {H : Heap} {locs : List Loc} {ls : Array Slot} (hf : f_Parser_isName_67 K  F B = some (r, F9, B9)) (hZ : zH D ca ad lnC K.2 L F B A H) (hS : va_S A s.heap H locs) (hl : lv_has ls 3 []) : W p l e ({ frames := 1, cells := 0, slots := 0, locals := 23 } : Room) s m args below meth c H locs 0 0 (MQ below (Q_Parser_isName K D ca ad L r F9 B9 A) args s 0 0 A) (F0 m 67 ls []) := by
  obtain ⟨hx, hb, hr, hml, hown, hts, hlk, hK, hA, hL, hX⟩ := id X
  replace hf : (f_Parser_isName_68 K 0 F B) = some (r, F9, B9) := hf
  refine lv_iconst (v := iI 0) hx hb d_5_12_67 rfl ?_
  exact b_Parser_isName_68 X hf hZ hS (lv_sub hl [] rfl)

noncomputable def f_Parser_isName (K : zK) (l0 : Int) (F : zF) (B : zB) : zO := if 0 ≤ l0 ∧ l0 < K.2 3 then if 0 ≤ (F 3 l0 11) ∧ (F 3 l0 11) < K.2 10 then if r32 (F 10 (F 3 l0 11) 0) then (if (F 10 (F 3 l0 11) 0) = 4 then zbind (f_Parser_indexOf K 0 (F 10 (F 3 l0 11) 2) F B) (fun r5 F5 B5 => if r32 r5 then (if r5 = (-1) then zbind (f_Parser_indexOf K 1 (F 10 (F 3 l0 11) 2) F5 B5) (fun r8 F8 B8 => if r32 r8 then (if r8 = (-1) then zbind (f_Parser_indexOf K 2 (F 10 (F 3 l0 11) 2) F8 B8) (fun r11 F11 B11 => if r32 r11 then (if r11 = (-1) then zbind (f_Parser_indexOf K 3 (F 10 (F 3 l0 11) 2) F11 B11) (fun r14 F14 B14 => if r32 r14 then (if r14 = (-1) then f_Parser_isName_68 K 1 F14 B14 else f_Parser_isName_67 K F14 B14) else none) else f_Parser_isName_67 K F11 B11) else none) else f_Parser_isName_67 K F8 B8) else none) else f_Parser_isName_67 K F5 B5) else none) else f_Parser_isName_67 K F B) else none else none else none
set_option maxHeartbeats 4000000 in
set_option maxRecDepth 100000 in
theorem c_Parser_isName {l : Launch} {D : va_G} {ca : Nat → ClassId} {ad : Nat → Int → Nat → Nat} {L : List Nat} {aS vS : Nat → Nat} {sz : Nat} {K : zK}  {l0 : Int} {F F9 : zF} {B B9 : zB} {r : Int} (hf : f_Parser_isName K l0 F B = some (r, F9, B9)) : Met l ({ cls := "StaveHouse$Parser", name := "isName", desc := "()Z" } : Jvm.MethodName) (Cond.code ({ cls := "StaveHouse$Parser", name := "isName", desc := "()Z" } : Jvm.MethodName) prog_5_method_12_code 3 (Option.some Jvm.ClassFile.FieldType.boolean) :: wAll) ({ frames := 1, cells := 0, slots := 0, locals := 23 } : Room) (va_Pc [.ref (ad 3 l0 0)] (zPre D ca ad lnC K.2 L aS vS F B sz)) (Q_Parser_isName K D ca ad L r F9 B9 (zA L sz)) 0 0 (zA L sz) := by
  refine zMet (Qc := Q_Parser_isName K D ca ad L r F9 B9) (lv := [(0, .ref (ad 3 l0 0))]) (by decide) (Nat.le_of_ble_eq_true rfl) rfl (fun A p e s m below meth c ls X hZ hS hl => ?_)
  obtain ⟨hx, hb, hr, hml, hown, hts, hlk, hK, hA, hL, hX⟩ := id X
  replace hf : (if 0 ≤ l0 ∧ l0 < K.2 3 then if 0 ≤ (F 3 l0 11) ∧ (F 3 l0 11) < K.2 10 then if r32 (F 10 (F 3 l0 11) 0) then (if (F 10 (F 3 l0 11) 0) = 4 then zbind (f_Parser_indexOf K 0 (F 10 (F 3 l0 11) 2) F B) (fun r5 F5 B5 => if r32 r5 then (if r5 = (-1) then zbind (f_Parser_indexOf K 1 (F 10 (F 3 l0 11) 2) F5 B5) (fun r8 F8 B8 => if r32 r8 then (if r8 = (-1) then zbind (f_Parser_indexOf K 2 (F 10 (F 3 l0 11) 2) F8 B8) (fun r11 F11 B11 => if r32 r11 then (if r11 = (-1) then zbind (f_Parser_indexOf K 3 (F 10 (F 3 l0 11) 2) F11 B11) (fun r14 F14 B14 => if r32 r14 then (if r14 = (-1) then f_Parser_isName_68 K 1 F14 B14 else f_Parser_isName_67 K F14 B14) else none) else f_Parser_isName_67 K F11 B11) else none) else f_Parser_isName_67 K F8 B8) else none) else f_Parser_isName_67 K F5 B5) else none) else f_Parser_isName_67 K F B) else none else none else none) = some (r, F9, B9) := hf
  refine lv_aload_n hx hb d_5_12_0 rfl (lv_at hl 0 rfl) ?_
  obtain ⟨g1, hf⟩ := gif hf
  refine zget (ci := 3) (C := RX3) (T := TX3) (v := va_rf (zrf ad 10 (F 3 l0 11))) (k := 11) hx hb hts inW_3 hown hK hZ g1.1 g1.2 rfl (by decide) k_1_128 rfl d_5_12_1 ?_
  obtain ⟨g2, hf⟩ := gif hf
  refine zunrf g2.1 ?_
  refine zget (ci := 10) (C := RX10) (T := TX10) (v := .long (lI (F 10 (F 3 l0 11) 2))) (k := 2) hx hb hts inW_10 hown hK hZ g2.1 g2.2 rfl (by decide) k_1_77 rfl d_5_12_4 ?_
  refine lv_lstore_n (lv' := [(1, .long (lI (F 10 (F 3 l0 11) 2))), (0, .ref (ad 3 l0 0))]) hx hb d_5_12_7 rfl hl (by decide) rfl (fun ls hl => ?_)
  refine lv_aload_n hx hb d_5_12_8 rfl (lv_at hl 1 rfl) ?_
  refine zget (ci := 3) (C := RX3) (T := TX3) (v := va_rf (zrf ad 10 (F 3 l0 11))) (k := 11) hx hb hts inW_3 hown hK hZ g1.1 g1.2 rfl (by decide) k_1_128 rfl d_5_12_9 ?_
  refine zunrf g2.1 ?_
  refine zget (ci := 10) (C := RX10) (T := TX10) (v := .int (iI (F 10 (F 3 l0 11) 0))) (k := 0) hx hb hts inW_10 hown hK hZ g2.1 g2.2 rfl (by decide) k_1_72 rfl d_5_12_12 ?_
  refine lv_iconst (v := iI 4) hx hb d_5_12_15 rfl ?_
  obtain ⟨g3, hf⟩ := gif hf
  refine zne (tgt := 67) hx hb g3 (by decide) d_5_12_16 (by decide) (fun h4 => ?_) (fun h4 => ?_)
  · replace hf := gneg hf h4
    exact b_Parser_isName_67 X hf hZ hS (lv_sub hl [] rfl)
  · replace hf := gpos hf h4
    refine va_gets hx hb (hX.2.2.2.2.2.2 0 _ rfl).1 hS hown (hts _ k_3_185) (fun _ h => h) d_5_12_19 ?_
    refine W.eq (g2 := F0 m 22 ls [.ref (vS (1000 + 0))]) rfl ?_
    refine lv_lload_n hx hb d_5_12_22 rfl (lv_at hl 0 rfl) ?_
    obtain ⟨r5, F5, B5, hc5, hf⟩ := gbind hf
    refine va_calli (va_runS (As := [.ref (vS (1000 + 0)), .long (lI (F 10 (F 3 l0 11) 2))]) (rest := []) ⟨hx, hb, hml, hown, hts⟩ (c_Parser_indexOf (l := l) hc5) (va_cwS 2 hts (gdS k_3_187 k_3_188 k_1_4 k_3_189) rfl rfl rfl (by decide +kernel) ⟨Nat.le_of_ble_eq_true rfl, Nat.le_of_ble_eq_true rfl⟩) (zPS X hZ hS [.ref (vS (1000 + 0)), .long (lI (F 10 (F 3 l0 11) 2))]) rfl rfl hl.1 rfl (lv_room (Nat.le_of_ble_eq_true rfl)) d_5_12_23 ⟨Nat.le_of_ble_eq_true rfl, Nat.le_of_ble_eq_true rfl⟩) hS (fun q _ h => zAin X hS q h) (zAin X hS) (fun p5 u5 t5 H5 locs5 ht5 hv5 hw5 hB5 hz5 hk5 hS5 => ?_)
    have hZ5 := zBack X ht5 hB5
    subst hw5
    refine lv_iconst (v := iI (-1)) hx hb d_5_12_26 rfl ?_
    obtain ⟨g6, hf⟩ := gif hf
    refine zne (tgt := 67) hx hb g6 (by decide) d_5_12_27 (by decide) (fun h7 => ?_) (fun h7 => ?_)
    · replace hf := gneg hf h7
      exact b_Parser_isName_67 X hf hZ5 hS5 (lv_sub hl [] rfl)
    · replace hf := gpos hf h7
      refine va_gets hx hb (hX.2.2.2.2.2.2 1 _ rfl).1 hS5 hown (hts _ k_3_190) (fun _ h => h) d_5_12_30 ?_
      refine W.eq (g2 := F0 m 33 ls [.ref (vS (1000 + 1))]) rfl ?_
      refine lv_lload_n hx hb d_5_12_33 rfl (lv_at hl 0 rfl) ?_
      obtain ⟨r8, F8, B8, hc8, hf⟩ := gbind hf
      refine va_calli (va_runS (As := [.ref (vS (1000 + 1)), .long (lI (F 10 (F 3 l0 11) 2))]) (rest := []) ⟨hx, hb, hml, hown, hts⟩ (c_Parser_indexOf (l := l) hc8) (va_cwS 2 hts (gdS k_3_187 k_3_188 k_1_4 k_3_189) rfl rfl rfl (by decide +kernel) ⟨Nat.le_of_ble_eq_true rfl, Nat.le_of_ble_eq_true rfl⟩) (zPS X hZ5 hS5 [.ref (vS (1000 + 1)), .long (lI (F 10 (F 3 l0 11) 2))]) rfl rfl hl.1 rfl (lv_room (Nat.le_of_ble_eq_true rfl)) d_5_12_34 ⟨Nat.le_of_ble_eq_true rfl, Nat.le_of_ble_eq_true rfl⟩) hS5 (fun q _ h => zAin X hS5 q h) (zAin X hS5) (fun p8 u8 t8 H8 locs8 ht8 hv8 hw8 hB8 hz8 hk8 hS8 => ?_)
      have hZ8 := zBack X ht8 hB8
      subst hw8
      refine lv_iconst (v := iI (-1)) hx hb d_5_12_37 rfl ?_
      obtain ⟨g9, hf⟩ := gif hf
      refine zne (tgt := 67) hx hb g9 (by decide) d_5_12_38 (by decide) (fun h10 => ?_) (fun h10 => ?_)
      · replace hf := gneg hf h10
        exact b_Parser_isName_67 X hf hZ8 hS8 (lv_sub hl [] rfl)
      · replace hf := gpos hf h10
        refine va_gets hx hb (hX.2.2.2.2.2.2 2 _ rfl).1 hS8 hown (hts _ k_3_192) (fun _ h => h) d_5_12_41 ?_
        refine W.eq (g2 := F0 m 44 ls [.ref (vS (1000 + 2))]) rfl ?_
        refine lv_lload_n hx hb d_5_12_44 rfl (lv_at hl 0 rfl) ?_
        obtain ⟨r11, F11, B11, hc11, hf⟩ := gbind hf
        refine va_calli (va_runS (As := [.ref (vS (1000 + 2)), .long (lI (F 10 (F 3 l0 11) 2))]) (rest := []) ⟨hx, hb, hml, hown, hts⟩ (c_Parser_indexOf (l := l) hc11) (va_cwS 2 hts (gdS k_3_187 k_3_188 k_1_4 k_3_189) rfl rfl rfl (by decide +kernel) ⟨Nat.le_of_ble_eq_true rfl, Nat.le_of_ble_eq_true rfl⟩) (zPS X hZ8 hS8 [.ref (vS (1000 + 2)), .long (lI (F 10 (F 3 l0 11) 2))]) rfl rfl hl.1 rfl (lv_room (Nat.le_of_ble_eq_true rfl)) d_5_12_45 ⟨Nat.le_of_ble_eq_true rfl, Nat.le_of_ble_eq_true rfl⟩) hS8 (fun q _ h => zAin X hS8 q h) (zAin X hS8) (fun p11 u11 t11 H11 locs11 ht11 hv11 hw11 hB11 hz11 hk11 hS11 => ?_)
        have hZ11 := zBack X ht11 hB11
        subst hw11
        refine lv_iconst (v := iI (-1)) hx hb d_5_12_48 rfl ?_
        obtain ⟨g12, hf⟩ := gif hf
        refine zne (tgt := 67) hx hb g12 (by decide) d_5_12_49 (by decide) (fun h13 => ?_) (fun h13 => ?_)
        · replace hf := gneg hf h13
          exact b_Parser_isName_67 X hf hZ11 hS11 (lv_sub hl [] rfl)
        · replace hf := gpos hf h13
          refine va_gets hx hb (hX.2.2.2.2.2.2 3 _ rfl).1 hS11 hown (hts _ k_3_194) (fun _ h => h) d_5_12_52 ?_
          refine W.eq (g2 := F0 m 55 ls [.ref (vS (1000 + 3))]) rfl ?_
          refine lv_lload_n hx hb d_5_12_55 rfl (lv_at hl 0 rfl) ?_
          obtain ⟨r14, F14, B14, hc14, hf⟩ := gbind hf
          refine va_calli (va_runS (As := [.ref (vS (1000 + 3)), .long (lI (F 10 (F 3 l0 11) 2))]) (rest := []) ⟨hx, hb, hml, hown, hts⟩ (c_Parser_indexOf (l := l) hc14) (va_cwS 2 hts (gdS k_3_187 k_3_188 k_1_4 k_3_189) rfl rfl rfl (by decide +kernel) ⟨Nat.le_of_ble_eq_true rfl, Nat.le_of_ble_eq_true rfl⟩) (zPS X hZ11 hS11 [.ref (vS (1000 + 3)), .long (lI (F 10 (F 3 l0 11) 2))]) rfl rfl hl.1 rfl (lv_room (Nat.le_of_ble_eq_true rfl)) d_5_12_56 ⟨Nat.le_of_ble_eq_true rfl, Nat.le_of_ble_eq_true rfl⟩) hS11 (fun q _ h => zAin X hS11 q h) (zAin X hS11) (fun p14 u14 t14 H14 locs14 ht14 hv14 hw14 hB14 hz14 hk14 hS14 => ?_)
          have hZ14 := zBack X ht14 hB14
          subst hw14
          refine lv_iconst (v := iI (-1)) hx hb d_5_12_59 rfl ?_
          obtain ⟨g15, hf⟩ := gif hf
          refine zne (tgt := 67) hx hb g15 (by decide) d_5_12_60 (by decide) (fun h16 => ?_) (fun h16 => ?_)
          · replace hf := gneg hf h16
            exact b_Parser_isName_67 X hf hZ14 hS14 (lv_sub hl [] rfl)
          · replace hf := gpos hf h16
            refine lv_iconst (v := iI 1) hx hb d_5_12_63 rfl ?_
            refine lv_goto (tgt := 68) hx hb d_5_12_64 (by decide) ?_
            exact b_Parser_isName_68 X hf hZ14 hS14 (lv_sub hl [] rfl)

noncomputable abbrev Q_Parser_takeSign (K : zK) (D : va_G) (ca : Nat → ClassId) (ad : Nat → Int → Nat → Nat) (L : List Nat) (r : Int) (F : zF) (B : zB) (A : Nat → Prop) : Array Value → State → Outcome → State → Prop := va_Qi (S := Unit) (fun p _ => p = iI r) (fun _ => zPo D ca ad lnC K.2 L F B A) A
noncomputable def f_Parser_takeSign (K : zK) (l0 : Int) (l1 : Int) (F : zF) (B : zB) : zO := if 0 ≤ l0 ∧ l0 < K.2 3 then if 0 ≤ (F 3 l0 11) ∧ (F 3 l0 11) < K.2 10 then zbind (f_Tokens_isSign K (F 3 l0 11) l1 F B) (fun r3 F3 B3 => if r32 r3 then (if r3 = 0 then zbind (f_Parser_refuse K l0 2 F3 B3) (fun r8 F8 B8 => if (r8 = 0 ∨ r8 = 1) then some (r8, F8, B8) else none) else if 0 ≤ (F3 3 l0 11) ∧ (F3 3 l0 11) < K.2 10 then zbind (f_Tokens_advance K (F3 3 l0 11) F3 B3) (fun r7 F7 B7 => some (1, F7, B7)) else none) else none) else none else none
set_option maxHeartbeats 4000000 in
set_option maxRecDepth 100000 in
theorem c_Parser_takeSign {l : Launch} {D : va_G} {ca : Nat → ClassId} {ad : Nat → Int → Nat → Nat} {L : List Nat} {aS vS : Nat → Nat} {sz : Nat} {K : zK}  {l0 : Int} {l1 : Int} {F F9 : zF} {B B9 : zB} {r : Int} (hf : f_Parser_takeSign K l0 l1 F B = some (r, F9, B9)) : Met l ({ cls := "StaveHouse$Parser", name := "takeSign", desc := "(C)Z" } : Jvm.MethodName) (Cond.code ({ cls := "StaveHouse$Parser", name := "takeSign", desc := "(C)Z" } : Jvm.MethodName) prog_5_method_14_code 2 (Option.some Jvm.ClassFile.FieldType.boolean) :: wAll) ({ frames := 1, cells := 0, slots := 0, locals := 21 } : Room) (va_Pc [.ref (ad 3 l0 0), .int (iI l1)] (zPre D ca ad lnC K.2 L aS vS F B sz)) (Q_Parser_takeSign K D ca ad L r F9 B9 (zA L sz)) 0 0 (zA L sz) := by
  refine zMet (Qc := Q_Parser_takeSign K D ca ad L r F9 B9) (lv := [(0, .ref (ad 3 l0 0)), (1, .int (iI l1))]) (by decide) (Nat.le_of_ble_eq_true rfl) rfl (fun A p e s m below meth c ls X hZ hS hl => ?_)
  obtain ⟨hx, hb, hr, hml, hown, hts, hlk, hK, hA, hL, hX⟩ := id X
  replace hf : (if 0 ≤ l0 ∧ l0 < K.2 3 then if 0 ≤ (F 3 l0 11) ∧ (F 3 l0 11) < K.2 10 then zbind (f_Tokens_isSign K (F 3 l0 11) l1 F B) (fun r3 F3 B3 => if r32 r3 then (if r3 = 0 then zbind (f_Parser_refuse K l0 2 F3 B3) (fun r8 F8 B8 => if (r8 = 0 ∨ r8 = 1) then some (r8, F8, B8) else none) else if 0 ≤ (F3 3 l0 11) ∧ (F3 3 l0 11) < K.2 10 then zbind (f_Tokens_advance K (F3 3 l0 11) F3 B3) (fun r7 F7 B7 => some (1, F7, B7)) else none) else none) else none else none) = some (r, F9, B9) := hf
  refine lv_aload_n hx hb d_5_14_0 rfl (lv_at hl 0 rfl) ?_
  obtain ⟨g1, hf⟩ := gif hf
  refine zget (ci := 3) (C := RX3) (T := TX3) (v := va_rf (zrf ad 10 (F 3 l0 11))) (k := 11) hx hb hts inW_3 hown hK hZ g1.1 g1.2 rfl (by decide) k_1_128 rfl d_5_14_1 ?_
  refine lv_iload_n hx hb d_5_14_4 rfl (lv_at hl 1 rfl) ?_
  obtain ⟨g2, hf⟩ := gif hf
  refine W.eq (g2 := F0 m 5 ls [.int (iI l1), .ref (ad 10 (F 3 l0 11) 0)]) (by rw [zrf_pos (ad := ad) (t := 10) g2.1]; try rfl) ?_
  obtain ⟨r3, F3, B3, hc3, hf⟩ := gbind hf
  refine va_calli (va_runV (As := [.int (iI l1)]) (rest := []) ⟨hx, hb, hml, hown, hts⟩ (c_Tokens_isSign (l := l) hc3) (cwV 1 hts (gdV k_3_208 k_3_209 k_3_210 k_1_5 k_3_211) rfl rfl rfl (by decide +kernel) ⟨Nat.le_of_ble_eq_true rfl, Nat.le_of_ble_eq_true rfl⟩) (zPV X hZ hS (ci := 10) g2.1 g2.2 (r := (RX10, TX10, 9)) rfl [.int (iI l1)]) rfl rfl hl.1 rfl (lv_room (Nat.le_of_ble_eq_true rfl)) d_5_14_5 ⟨Nat.le_of_ble_eq_true rfl, Nat.le_of_ble_eq_true rfl⟩) hS (fun q _ h => zAin X hS q h) (zAin X hS) (fun p3 u3 t3 H3 locs3 ht3 hv3 hw3 hB3 hz3 hk3 hS3 => ?_)
  have hZ3 := zBack X ht3 hB3
  subst hw3
  obtain ⟨g4, hf⟩ := gif hf
  refine z0ne (tgt := 17) hx hb g4 d_5_14_8 (by decide) (fun h5 => ?_) (fun h5 => ?_)
  · replace hf := gneg hf h5
    refine lv_aload_n hx hb d_5_14_17 rfl (lv_at hl 0 rfl) ?_
    refine zget (ci := 3) (C := RX3) (T := TX3) (v := va_rf (zrf ad 10 (F3 3 l0 11))) (k := 11) hx hb hts inW_3 hown hK hZ3 g1.1 g1.2 rfl (by decide) k_1_128 rfl d_5_14_18 ?_
    obtain ⟨g6, hf⟩ := gif hf
    refine W.eq (g2 := F0 m 21 ls [.ref (ad 10 (F3 3 l0 11) 0)]) (by rw [zrf_pos (ad := ad) (t := 10) g6.1]; try rfl) ?_
    obtain ⟨r7, F7, B7, hc7, hf⟩ := gbind hf
    refine va_callv (va_runV (As := []) (rest := []) ⟨hx, hb, hml, hown, hts⟩ (c_Tokens_advance (l := l) hc7) (cwV 0 hts (gdV k_3_180 k_3_152 k_3_153 k_1_5 k_3_154) rfl rfl rfl (by decide +kernel) ⟨Nat.le_of_ble_eq_true rfl, Nat.le_of_ble_eq_true rfl⟩) (zPV X hZ3 hS3 (ci := 10) g6.1 g6.2 (r := (RX10, TX10, 9)) rfl []) rfl rfl hl.1 rfl (lv_room (Nat.le_of_ble_eq_true rfl)) d_5_14_21 ⟨Nat.le_of_ble_eq_true rfl, Nat.le_of_ble_eq_true rfl⟩) hS3 (fun q _ h => zAin X hS3 q h) (zAin X hS3) (fun u7 t7 H7 locs7 ht7 hv7 hw7 hB7 hz7 hk7 hS7 => ?_)
    have hZ7 := zBack X ht7 hB7
    refine lv_iconst (v := iI 1) hx hb d_5_14_24 rfl ?_
    cases hf
    exact W.zret hx hb hr rfl (fun t ht hW => ⟨⟨_, (), rfl, rfl, by rw [ht]; exact hZ7, va_K.moved hW.alike hK⟩, hS7.F ht⟩) hS7.2.2 d_5_14_25 hlk
  · replace hf := gpos hf h5
    refine lv_aload_n hx hb d_5_14_11 rfl (lv_at hl 0 rfl) ?_
    refine lv_iconst (v := iI 2) hx hb d_5_14_12 rfl ?_
    obtain ⟨r8, F8, B8, hc8, hf⟩ := gbind hf
    refine va_calli (va_runV (As := [.int (iI 2)]) (rest := []) ⟨hx, hb, hml, hown, hts⟩ (c_Parser_refuse (l := l) hc8) (cwV 1 hts (gdV k_3_196 k_3_198 ks_7 k_1_4 k_3_199) rfl rfl rfl (by decide +kernel) ⟨Nat.le_of_ble_eq_true rfl, Nat.le_of_ble_eq_true rfl⟩) (zPV X hZ3 hS3 (ci := 3) g1.1 g1.2 (r := (RX3, TX3, 22)) rfl [.int (iI 2)]) rfl rfl hl.1 rfl (lv_room (Nat.le_of_ble_eq_true rfl)) d_5_14_13 ⟨Nat.le_of_ble_eq_true rfl, Nat.le_of_ble_eq_true rfl⟩) hS3 (fun q _ h => zAin X hS3 q h) (zAin X hS3) (fun p8 u8 t8 H8 locs8 ht8 hv8 hw8 hB8 hz8 hk8 hS8 => ?_)
    have hZ8 := zBack X ht8 hB8
    subst hw8
    obtain ⟨g9, hf⟩ := gif hf
    cases hf
    exact W.zret hx hb hr (zbool g9) (fun t ht hW => ⟨⟨_, (), rfl, rfl, by rw [ht]; exact hZ8, va_K.moved hW.alike hK⟩, hS8.F ht⟩) hS8.2.2 d_5_14_16 hlk

noncomputable abbrev Q_Parser_takeChord (K : zK) (D : va_G) (ca : Nat → ClassId) (ad : Nat → Int → Nat → Nat) (L : List Nat) (r : Int) (F : zF) (B : zB) (A : Nat → Prop) : Array Value → State → Outcome → State → Prop := va_Qi (S := Unit) (fun p _ => p = iI r) (fun _ => zPo D ca ad lnC K.2 L F B A) A
noncomputable def f_Parser_takeChord_61 (K : zK) (s0 : Int) (F : zF) (B : zB) : zO := if (s0 = 0 ∨ s0 = 1) then some (s0, F, B) else none
set_option maxHeartbeats 4000000 in
set_option maxRecDepth 100000 in
theorem b_Parser_takeChord_61 {D : va_G} {ca : Nat → ClassId} {ad : Nat → Int → Nat → Nat} {L : List Nat} {aS vS : Nat → Nat} {A : Nat → Prop} {p : Program} {l : Launch} {e : Env} {s : State} {m : MethodId} {args : Array Value} {below : List Frame} {meth : Method} {c : Code} {K : zK} {r : Int} {F9 : zF} {B9 : zB} (X : zX D ca L aS vS A p s m args meth c prog_5_method_25_code 3 (Option.some Jvm.ClassFile.FieldType.boolean) "StaveHouse$Parser") {s0 : Int} {F : zF} {B : zB} {H : Heap} {locs : List Loc} {ls : Array Slot} (hf : f_Parser_takeChord_61 K s0 F B = some (r, F9, B9)) (hZ : zH D ca ad lnC K.2 L F B A H) (hS : va_S A s.heap H locs) (hl : lv_has ls 3 []) : W p l e ({ frames := 2, cells := 0, slots := 0, locals := 42 } : Room) s m args below meth c H locs 0 0 (MQ below (Q_Parser_takeChord K D ca ad L r F9 B9 A) args s 0 0 A) (F0 m 61 ls [.int (iI s0)]) := by
  obtain ⟨hx, hb, hr, hml, hown, hts, hlk, hK, hA, hL, hX⟩ := id X
  replace hf : (if (s0 = 0 ∨ s0 = 1) then some (s0, F, B) else none) = some (r, F9, B9) := hf
  obtain ⟨g17, hf⟩ := gif hf
  cases hf
  exact W.zret hx hb hr (zbool g17) (fun t ht hW => ⟨⟨_, (), rfl, rfl, by rw [ht]; exact hZ, va_K.moved hW.alike hK⟩, hS.F ht⟩) hS.2.2 d_5_25_61 hlk

noncomputable def f_Parser_takeChord_37 (K : zK) (l0 : Int) (l1 : Int) (F : zF) (B : zB) : zO := if 0 ≤ l0 ∧ l0 < K.2 3 then if 0 ≤ l1 ∧ l1 < 3000 then if r32 (B 3 l0 6 l1) then (if 2 ≤ (B 3 l0 6 l1) then zbind (f_Parser_takeSign K l0 62 F B) (fun r15 F15 B15 => f_Parser_takeChord_61 K r15 F15 B15) else zbind (f_Parser_refuse K l0 2 F B) (fun r16 F16 B16 => f_Parser_takeChord_61 K r16 F16 B16)) else none else none else none
set_option maxHeartbeats 4000000 in
set_option maxRecDepth 100000 in
theorem b_Parser_takeChord_37 {D : va_G} {ca : Nat → ClassId} {ad : Nat → Int → Nat → Nat} {L : List Nat} {aS vS : Nat → Nat} {A : Nat → Prop} {p : Program} {l : Launch} {e : Env} {s : State} {m : MethodId} {args : Array Value} {below : List Frame} {meth : Method} {c : Code} {K : zK} {r : Int} {F9 : zF} {B9 : zB} (X : zX D ca L aS vS A p s m args meth c prog_5_method_25_code 3 (Option.some Jvm.ClassFile.FieldType.boolean) "StaveHouse$Parser") {l0 : Int} {l1 : Int} {F : zF} {B : zB} {H : Heap} {locs : List Loc} {ls : Array Slot} (hf : f_Parser_takeChord_37 K l0 l1 F B = some (r, F9, B9)) (hZ : zH D ca ad lnC K.2 L F B A H) (hS : va_S A s.heap H locs) (hl : lv_has ls 3 [(0, .ref (ad 3 l0 0)), (1, .int (iI l1))]) : W p l e ({ frames := 2, cells := 0, slots := 0, locals := 42 } : Room) s m args below meth c H locs 0 0 (MQ below (Q_Parser_takeChord K D ca ad L r F9 B9 A) args s 0 0 A) (F0 m 37 ls []) := by
  obtain ⟨hx, hb, hr, hml, hown, hts, hlk, hK, hA, hL, hX⟩ := id X
  replace hf : (if 0 ≤ l0 ∧ l0 < K.2 3 then if 0 ≤ l1 ∧ l1 < 3000 then if r32 (B 3 l0 6 l1) then (if 2 ≤ (B 3 l0 6 l1) then zbind (f_Parser_takeSign K l0 62 F B) (fun r15 F15 B15 => f_Parser_takeChord_61 K r15 F15 B15) else zbind (f_Parser_refuse K l0 2 F B) (fun r16 F16 B16 => f_Parser_takeChord_61 K r16 F16 B16)) else none else none else none) = some (r, F9, B9) := hf
  refine lv_aload_n hx hb d_5_25_37 rfl (lv_at hl 0 rfl) ?_
  obtain ⟨g11, hf⟩ := gif hf
  refine zget (ci := 3) (C := RX3) (T := TX3) (v := .ref (ad 3 l0 (6 + 1))) (k := 6) hx hb hts inW_3 hown hK hZ g11.1 g11.2 rfl (by decide) k_1_118 rfl d_5_25_38 ?_
  refine lv_iload_n hx hb d_5_25_41 rfl (lv_at hl 1 rfl) ?_
  obtain ⟨g12, hf⟩ := gif hf
  refine zald (ci := 3) (k := 6) hx hb hK rfl hZ g11.1 g11.2 rfl (Nat.le_of_ble_eq_true rfl) g12.1 g12.2 d_5_25_42 ?_
  refine lv_iconst (v := iI 2) hx hb d_5_25_43 rfl ?_
  obtain ⟨g13, hf⟩ := gif hf
  refine zge (tgt := 55) hx hb g13 (by decide) d_5_25_44 (by decide) (fun h14 => ?_) (fun h14 => ?_)
  · replace hf := gpos hf h14
    refine lv_aload_n hx hb d_5_25_55 rfl (lv_at hl 0 rfl) ?_
    refine lv_bipush (v := iI 62) hx hb d_5_25_56 (by decide) ?_
    obtain ⟨r15, F15, B15, hc15, hf⟩ := gbind hf
    refine va_calli (va_runV (As := [.int (iI 62)]) (rest := []) ⟨hx, hb, hml, hown, hts⟩ (c_Parser_takeSign (l := l) hc15) (cwV 1 hts (gdV k_3_204 k_3_206 ks_9 k_1_4 k_3_207) rfl rfl rfl (by decide +kernel) ⟨Nat.le_of_ble_eq_true rfl, Nat.le_of_ble_eq_true rfl⟩) (zPV X hZ hS (ci := 3) g11.1 g11.2 (r := (RX3, TX3, 22)) rfl [.int (iI 62)]) rfl rfl hl.1 rfl (lv_room (Nat.le_of_ble_eq_true rfl)) d_5_25_58 ⟨Nat.le_of_ble_eq_true rfl, Nat.le_of_ble_eq_true rfl⟩) hS (fun q _ h => zAin X hS q h) (zAin X hS) (fun p15 u15 t15 H15 locs15 ht15 hv15 hw15 hB15 hz15 hk15 hS15 => ?_)
    have hZ15 := zBack X ht15 hB15
    subst hw15
    exact b_Parser_takeChord_61 X hf hZ15 hS15 (lv_sub hl [] rfl)
  · replace hf := gneg hf h14
    refine lv_aload_n hx hb d_5_25_47 rfl (lv_at hl 0 rfl) ?_
    refine lv_iconst (v := iI 2) hx hb d_5_25_48 rfl ?_
    obtain ⟨r16, F16, B16, hc16, hf⟩ := gbind hf
    refine va_calli (va_runV (As := [.int (iI 2)]) (rest := []) ⟨hx, hb, hml, hown, hts⟩ (c_Parser_refuse (l := l) hc16) (cwV 1 hts (gdV k_3_196 k_3_198 ks_7 k_1_4 k_3_199) rfl rfl rfl (by decide +kernel) ⟨Nat.le_of_ble_eq_true rfl, Nat.le_of_ble_eq_true rfl⟩) (zPV X hZ hS (ci := 3) g11.1 g11.2 (r := (RX3, TX3, 22)) rfl [.int (iI 2)]) rfl rfl hl.1 rfl (lv_room (Nat.le_of_ble_eq_true rfl)) d_5_25_49 ⟨Nat.le_of_ble_eq_true rfl, Nat.le_of_ble_eq_true rfl⟩) hS (fun q _ h => zAin X hS q h) (zAin X hS) (fun p16 u16 t16 H16 locs16 ht16 hv16 hw16 hB16 hz16 hk16 hS16 => ?_)
    have hZ16 := zBack X ht16 hB16
    subst hw16
    refine lv_goto (tgt := 61) hx hb d_5_25_52 (by decide) ?_
    exact b_Parser_takeChord_61 X hf hZ16 hS16 (lv_sub hl [] rfl)

noncomputable def f_Parser_takeChord_9 (K : zK) : Nat → Int → Int → Int → zF → zB → zO
  | 0, _, _, _, _, _ => none
  | n + 1, l2, l0, l1, F, B => if r32 l2 then (if 6 ≤ l2 then f_Parser_takeChord_37 K l0 l1 F B else if 0 ≤ l0 ∧ l0 < K.2 3 then if 0 ≤ (F 3 l0 11) ∧ (F 3 l0 11) < K.2 10 then if r32 (F 10 (F 3 l0 11) 0) then (if (F 10 (F 3 l0 11) 0) = 2 then zbind (f_Parser_takePitch K l0 l1 F B) (fun r10 F10 B10 => f_Parser_takeChord_9 K n (l2 + 1) l0 l1 F10 B10) else f_Parser_takeChord_37 K l0 l1 F B) else none else none else none) else none
set_option maxHeartbeats 4000000 in
set_option maxRecDepth 100000 in
theorem b_Parser_takeChord_9 {D : va_G} {ca : Nat → ClassId} {ad : Nat → Int → Nat → Nat} {L : List Nat} {aS vS : Nat → Nat} {A : Nat → Prop} {p : Program} {l : Launch} {e : Env} {s : State} {m : MethodId} {args : Array Value} {below : List Frame} {meth : Method} {c : Code} {K : zK} {r : Int} {F9 : zF} {B9 : zB} (X : zX D ca L aS vS A p s m args meth c prog_5_method_25_code 3 (Option.some Jvm.ClassFile.FieldType.boolean) "StaveHouse$Parser") : ∀ {n : Nat} {l2 : Int} {l0 : Int} {l1 : Int} {F : zF} {B : zB} {H : Heap} {locs : List Loc} {ls : Array Slot}, f_Parser_takeChord_9 K n l2 l0 l1 F B = some (r, F9, B9) → zH D ca ad lnC K.2 L F B A H → va_S A s.heap H locs → lv_has ls 3 [(2, .int (iI l2)), (0, .ref (ad 3 l0 0)), (1, .int (iI l1))] → W p l e ({ frames := 2, cells := 0, slots := 0, locals := 42 } : Room) s m args below meth c H locs 0 0 (MQ below (Q_Parser_takeChord K D ca ad L r F9 B9 A) args s 0 0 A) (F0 m 9 ls []) := by
  obtain ⟨hx, hb, hr, hml, hown, hts, hlk, hK, hA, hL, hX⟩ := id X
  intro n
  induction n with
  | zero =>
    intros
    rename_i hf _ _ _
    cases hf
  | succ n ih =>
    intro l2 l0 l1 F B H locs ls hf hZ hS hl
    replace hf : (if r32 l2 then (if 6 ≤ l2 then f_Parser_takeChord_37 K l0 l1 F B else if 0 ≤ l0 ∧ l0 < K.2 3 then if 0 ≤ (F 3 l0 11) ∧ (F 3 l0 11) < K.2 10 then if r32 (F 10 (F 3 l0 11) 0) then (if (F 10 (F 3 l0 11) 0) = 2 then zbind (f_Parser_takePitch K l0 l1 F B) (fun r10 F10 B10 => f_Parser_takeChord_9 K n (l2 + 1) l0 l1 F10 B10) else f_Parser_takeChord_37 K l0 l1 F B) else none else none else none) else none) = some (r, F9, B9) := hf
    refine lv_iload_n hx hb d_5_25_9 rfl (lv_at hl 0 rfl) ?_
    refine lv_bipush (v := iI 6) hx hb d_5_25_10 (by decide) ?_
    obtain ⟨g4, hf⟩ := gif hf
    refine zge (tgt := 37) hx hb g4 (by decide) d_5_25_12 (by decide) (fun h5 => ?_) (fun h5 => ?_)
    · replace hf := gpos hf h5
      exact b_Parser_takeChord_37 X hf hZ hS (lv_sub hl [1, 2] rfl)
    · replace hf := gneg hf h5
      refine lv_aload_n hx hb d_5_25_15 rfl (lv_at hl 1 rfl) ?_
      obtain ⟨g6, hf⟩ := gif hf
      refine zget (ci := 3) (C := RX3) (T := TX3) (v := va_rf (zrf ad 10 (F 3 l0 11))) (k := 11) hx hb hts inW_3 hown hK hZ g6.1 g6.2 rfl (by decide) k_1_128 rfl d_5_25_16 ?_
      obtain ⟨g7, hf⟩ := gif hf
      refine zunrf g7.1 ?_
      refine zget (ci := 10) (C := RX10) (T := TX10) (v := .int (iI (F 10 (F 3 l0 11) 0))) (k := 0) hx hb hts inW_10 hown hK hZ g7.1 g7.2 rfl (by decide) k_1_72 rfl d_5_25_19 ?_
      refine lv_iconst (v := iI 2) hx hb d_5_25_22 rfl ?_
      obtain ⟨g8, hf⟩ := gif hf
      refine zne (tgt := 37) hx hb g8 (by decide) d_5_25_23 (by decide) (fun h9 => ?_) (fun h9 => ?_)
      · replace hf := gneg hf h9
        exact b_Parser_takeChord_37 X hf hZ hS (lv_sub hl [1, 2] rfl)
      · replace hf := gpos hf h9
        refine lv_aload_n hx hb d_5_25_26 rfl (lv_at hl 1 rfl) ?_
        refine lv_iload_n hx hb d_5_25_27 rfl (lv_at hl 2 rfl) ?_
        obtain ⟨r10, F10, B10, hc10, hf⟩ := gbind hf
        refine va_callv (va_runV (As := [.int (iI l1)]) (rest := []) ⟨hx, hb, hml, hown, hts⟩ (c_Parser_takePitch (l := l) hc10) (cwV 1 hts (gdV k_3_237 k_3_239 ks_16 k_1_4 k_4_0) rfl rfl rfl (by decide +kernel) ⟨Nat.le_of_ble_eq_true rfl, Nat.le_of_ble_eq_true rfl⟩) (zPV X hZ hS (ci := 3) g6.1 g6.2 (r := (RX3, TX3, 22)) rfl [.int (iI l1)]) rfl rfl hl.1 rfl (lv_room (Nat.le_of_ble_eq_true rfl)) d_5_25_28 ⟨Nat.le_of_ble_eq_true rfl, Nat.le_of_ble_eq_true rfl⟩) hS (fun q _ h => zAin X hS q h) (zAin X hS) (fun u10 t10 H10 locs10 ht10 hv10 hw10 hB10 hz10 hk10 hS10 => ?_)
        have hZ10 := zBack X ht10 hB10
        refine lv_iinc (v := iI (l2 + 1)) (lv' := [(2, .int (iI (l2 + 1))), (0, .ref (ad 3 l0 0)), (1, .int (iI l1))]) hx hb d_5_25_31 hl (k := 0) rfl (iI_add _ 1) (by decide) rfl (fun ls hl => ?_)
        refine lv_goto (tgt := 9) hx hb d_5_25_34 (by decide) ?_
        exact ih hf hZ10 hS10 (lv_sub hl [0, 1, 2] rfl)

noncomputable def f_Parser_takeChord (K : zK) (l0 : Int) (l1 : Int) (F : zF) (B : zB) : zO := if 0 ≤ l0 ∧ l0 < K.2 3 then if 0 ≤ (F 3 l0 11) ∧ (F 3 l0 11) < K.2 10 then zbind (f_Tokens_advance K (F 3 l0 11) F B) (fun r3 F3 B3 => f_Parser_takeChord_9 K K.1 0 l0 l1 F3 B3) else none else none
set_option maxHeartbeats 4000000 in
set_option maxRecDepth 100000 in
theorem c_Parser_takeChord {l : Launch} {D : va_G} {ca : Nat → ClassId} {ad : Nat → Int → Nat → Nat} {L : List Nat} {aS vS : Nat → Nat} {sz : Nat} {K : zK}  {l0 : Int} {l1 : Int} {F F9 : zF} {B B9 : zB} {r : Int} (hf : f_Parser_takeChord K l0 l1 F B = some (r, F9, B9)) : Met l ({ cls := "StaveHouse$Parser", name := "takeChord", desc := "(I)Z" } : Jvm.MethodName) (Cond.code ({ cls := "StaveHouse$Parser", name := "takeChord", desc := "(I)Z" } : Jvm.MethodName) prog_5_method_25_code 3 (Option.some Jvm.ClassFile.FieldType.boolean) :: wAll) ({ frames := 2, cells := 0, slots := 0, locals := 42 } : Room) (va_Pc [.ref (ad 3 l0 0), .int (iI l1)] (zPre D ca ad lnC K.2 L aS vS F B sz)) (Q_Parser_takeChord K D ca ad L r F9 B9 (zA L sz)) 0 0 (zA L sz) := by
  refine zMet (Qc := Q_Parser_takeChord K D ca ad L r F9 B9) (lv := [(0, .ref (ad 3 l0 0)), (1, .int (iI l1))]) (by decide) (Nat.le_of_ble_eq_true rfl) rfl (fun A p e s m below meth c ls X hZ hS hl => ?_)
  obtain ⟨hx, hb, hr, hml, hown, hts, hlk, hK, hA, hL, hX⟩ := id X
  replace hf : (if 0 ≤ l0 ∧ l0 < K.2 3 then if 0 ≤ (F 3 l0 11) ∧ (F 3 l0 11) < K.2 10 then zbind (f_Tokens_advance K (F 3 l0 11) F B) (fun r3 F3 B3 => f_Parser_takeChord_9 K K.1 0 l0 l1 F3 B3) else none else none) = some (r, F9, B9) := hf
  refine lv_aload_n hx hb d_5_25_0 rfl (lv_at hl 0 rfl) ?_
  obtain ⟨g1, hf⟩ := gif hf
  refine zget (ci := 3) (C := RX3) (T := TX3) (v := va_rf (zrf ad 10 (F 3 l0 11))) (k := 11) hx hb hts inW_3 hown hK hZ g1.1 g1.2 rfl (by decide) k_1_128 rfl d_5_25_1 ?_
  obtain ⟨g2, hf⟩ := gif hf
  refine W.eq (g2 := F0 m 4 ls [.ref (ad 10 (F 3 l0 11) 0)]) (by rw [zrf_pos (ad := ad) (t := 10) g2.1]; try rfl) ?_
  obtain ⟨r3, F3, B3, hc3, hf⟩ := gbind hf
  refine va_callv (va_runV (As := []) (rest := []) ⟨hx, hb, hml, hown, hts⟩ (c_Tokens_advance (l := l) hc3) (cwV 0 hts (gdV k_3_180 k_3_152 k_3_153 k_1_5 k_3_154) rfl rfl rfl (by decide +kernel) ⟨Nat.le_of_ble_eq_true rfl, Nat.le_of_ble_eq_true rfl⟩) (zPV X hZ hS (ci := 10) g2.1 g2.2 (r := (RX10, TX10, 9)) rfl []) rfl rfl hl.1 rfl (lv_room (Nat.le_of_ble_eq_true rfl)) d_5_25_4 ⟨Nat.le_of_ble_eq_true rfl, Nat.le_of_ble_eq_true rfl⟩) hS (fun q _ h => zAin X hS q h) (zAin X hS) (fun u3 t3 H3 locs3 ht3 hv3 hw3 hB3 hz3 hk3 hS3 => ?_)
  have hZ3 := zBack X ht3 hB3
  refine lv_iconst (v := iI 0) hx hb d_5_25_7 rfl ?_
  refine lv_istore_n (lv' := [(2, .int (iI 0)), (0, .ref (ad 3 l0 0)), (1, .int (iI l1))]) hx hb d_5_25_8 rfl hl (by decide) rfl (fun ls hl => ?_)
  exact b_Parser_takeChord_9 X hf hZ3 hS3 (lv_sub hl [0, 1, 2] rfl)

noncomputable abbrev Q_Parser_takeNumber (K : zK) (D : va_G) (ca : Nat → ClassId) (ad : Nat → Int → Nat → Nat) (L : List Nat) (r : Int) (F : zF) (B : zB) (A : Nat → Prop) : Array Value → State → Outcome → State → Prop := va_Qi (S := Unit) (fun p _ => p = iI r) (fun _ => zPo D ca ad lnC K.2 L F B A) A
noncomputable def f_Parser_takeNumber_79 (K : zK) (l0 : Int) (F : zF) (B : zB) : zO := if 0 ≤ l0 ∧ l0 < K.2 3 then if 0 ≤ (F 3 l0 11) ∧ (F 3 l0 11) < K.2 10 then zbind (f_Tokens_advance K (F 3 l0 11) (zup3 F 3 l0 19 (F 10 (F 3 l0 11) 2)) B) (fun r29 F29 B29 => some (1, F29, B29)) else none else none
set_option maxHeartbeats 4000000 in
set_option maxRecDepth 100000 in
theorem b_Parser_takeNumber_79 {D : va_G} {ca : Nat → ClassId} {ad : Nat → Int → Nat → Nat} {L : List Nat} {aS vS : Nat → Nat} {A : Nat → Prop} {p : Program} {l : Launch} {e : Env} {s : State} {m : MethodId} {args : Array Value} {below : List Frame} {meth : Method} {c : Code} {K : zK} {r : Int} {F9 : zF} {B9 : zB} (X : zX D ca L aS vS A p s m args meth c prog_5_method_15_code 5 (Option.some Jvm.ClassFile.FieldType.boolean) "StaveHouse$Parser") {l0 : Int} {F : zF} {B : zB} {H : Heap} {locs : List Loc} {ls : Array Slot} (hf : f_Parser_takeNumber_79 K l0 F B = some (r, F9, B9)) (hZ : zH D ca ad lnC K.2 L F B A H) (hS : va_S A s.heap H locs) (hl : lv_has ls 5 [(0, .ref (ad 3 l0 0))]) : W p l e ({ frames := 1, cells := 0, slots := 0, locals := 21 } : Room) s m args below meth c H locs 0 0 (MQ below (Q_Parser_takeNumber K D ca ad L r F9 B9 A) args s 0 0 A) (F0 m 79 ls []) := by
  obtain ⟨hx, hb, hr, hml, hown, hts, hlk, hK, hA, hL, hX⟩ := id X
  replace hf : (if 0 ≤ l0 ∧ l0 < K.2 3 then if 0 ≤ (F 3 l0 11) ∧ (F 3 l0 11) < K.2 10 then zbind (f_Tokens_advance K (F 3 l0 11) (zup3 F 3 l0 19 (F 10 (F 3 l0 11) 2)) B) (fun r29 F29 B29 => some (1, F29, B29)) else none else none) = some (r, F9, B9) := hf
  refine lv_aload_n hx hb d_5_15_79 rfl (lv_at hl 0 rfl) ?_
  refine lv_aload_n hx hb d_5_15_80 rfl (lv_at hl 0 rfl) ?_
  obtain ⟨g26, hf⟩ := gif hf
  refine zget (ci := 3) (C := RX3) (T := TX3) (v := va_rf (zrf ad 10 (F 3 l0 11))) (k := 11) hx hb hts inW_3 hown hK hZ g26.1 g26.2 rfl (by decide) k_1_128 rfl d_5_15_81 ?_
  obtain ⟨g27, hf⟩ := gif hf
  refine zunrf g27.1 ?_
  refine zget (ci := 10) (C := RX10) (T := TX10) (v := .long (lI (F 10 (F 3 l0 11) 2))) (k := 2) hx hb hts inW_10 hown hK hZ g27.1 g27.2 rfl (by decide) k_1_77 rfl d_5_15_84 ?_
  refine zl2iw hx hb d_5_15_87 ?_
  refine zput (ci := 3) (C := RX3) (T := TX3) (k := 19) (v := (F 10 (F 3 l0 11) 2)) (w := .int (iI (F 10 (F 3 l0 11) 2))) hx hb hts inW_3 tyX3 tyX3_ok nmX3 hown hK hZ hS g26.1 g26.2 rfl (by decide) k_1_136 rfl (fun G h => congrArg (fun q => Value.int (iI q)) h) rfl rfl (zno (by decide)) d_5_15_88 (fun H28 locs28 hZ28 hS28 => ?_)
  refine lv_aload_n hx hb d_5_15_91 rfl (lv_at hl 0 rfl) ?_
  refine zget (ci := 3) (C := RX3) (T := TX3) (v := va_rf (zrf ad 10 (F 3 l0 11))) (k := 11) hx hb hts inW_3 hown hK hZ28 g26.1 g26.2 rfl (by decide) k_1_128 (congrArg (fun q : Int => va_rf (zrf ad 10 q)) (show (zup3 F 3 l0 19 (F 10 (F 3 l0 11) 2)) 3 l0 11 = F 3 l0 11 by simp [zup3])) d_5_15_92 ?_
  refine W.eq (g2 := F0 m 95 ls [.ref (ad 10 (F 3 l0 11) 0)]) (by rw [zrf_pos (ad := ad) (t := 10) g27.1]; try rfl) ?_
  obtain ⟨r29, F29, B29, hc29, hf⟩ := gbind hf
  refine va_callv (va_runV (As := []) (rest := []) ⟨hx, hb, hml, hown, hts⟩ (c_Tokens_advance (l := l) hc29) (cwV 0 hts (gdV k_3_180 k_3_152 k_3_153 k_1_5 k_3_154) rfl rfl rfl (by decide +kernel) ⟨Nat.le_of_ble_eq_true rfl, Nat.le_of_ble_eq_true rfl⟩) (zPV X hZ28 hS28 (ci := 10) g27.1 g27.2 (r := (RX10, TX10, 9)) rfl []) rfl rfl hl.1 rfl (lv_room (Nat.le_of_ble_eq_true rfl)) d_5_15_95 ⟨Nat.le_of_ble_eq_true rfl, Nat.le_of_ble_eq_true rfl⟩) hS28 (fun q _ h => zAin X hS28 q h) (zAin X hS28) (fun u29 t29 H29 locs29 ht29 hv29 hw29 hB29 hz29 hk29 hS29 => ?_)
  have hZ29 := zBack X ht29 hB29
  refine lv_iconst (v := iI 1) hx hb d_5_15_98 rfl ?_
  cases hf
  exact W.zret hx hb hr rfl (fun t ht hW => ⟨⟨_, (), rfl, rfl, by rw [ht]; exact hZ29, va_K.moved hW.alike hK⟩, hS29.F ht⟩) hS29.2.2 d_5_15_99 hlk

noncomputable def f_Parser_takeNumber_73 (K : zK) (l0 : Int) (F : zF) (B : zB) : zO := if 0 ≤ l0 ∧ l0 < K.2 3 then zbind (f_Parser_refuse K l0 5 F B) (fun r24 F24 B24 => if (r24 = 0 ∨ r24 = 1) then some (r24, F24, B24) else none) else none
set_option maxHeartbeats 4000000 in
set_option maxRecDepth 100000 in
theorem b_Parser_takeNumber_73 {D : va_G} {ca : Nat → ClassId} {ad : Nat → Int → Nat → Nat} {L : List Nat} {aS vS : Nat → Nat} {A : Nat → Prop} {p : Program} {l : Launch} {e : Env} {s : State} {m : MethodId} {args : Array Value} {below : List Frame} {meth : Method} {c : Code} {K : zK} {r : Int} {F9 : zF} {B9 : zB} (X : zX D ca L aS vS A p s m args meth c prog_5_method_15_code 5 (Option.some Jvm.ClassFile.FieldType.boolean) "StaveHouse$Parser") {l0 : Int} {F : zF} {B : zB} {H : Heap} {locs : List Loc} {ls : Array Slot} (hf : f_Parser_takeNumber_73 K l0 F B = some (r, F9, B9)) (hZ : zH D ca ad lnC K.2 L F B A H) (hS : va_S A s.heap H locs) (hl : lv_has ls 5 [(0, .ref (ad 3 l0 0))]) : W p l e ({ frames := 1, cells := 0, slots := 0, locals := 21 } : Room) s m args below meth c H locs 0 0 (MQ below (Q_Parser_takeNumber K D ca ad L r F9 B9 A) args s 0 0 A) (F0 m 73 ls []) := by
  obtain ⟨hx, hb, hr, hml, hown, hts, hlk, hK, hA, hL, hX⟩ := id X
  replace hf : (if 0 ≤ l0 ∧ l0 < K.2 3 then zbind (f_Parser_refuse K l0 5 F B) (fun r24 F24 B24 => if (r24 = 0 ∨ r24 = 1) then some (r24, F24, B24) else none) else none) = some (r, F9, B9) := hf
  refine lv_aload_n hx hb d_5_15_73 rfl (lv_at hl 0 rfl) ?_
  refine lv_iconst (v := iI 5) hx hb d_5_15_74 rfl ?_
  obtain ⟨g23, hf⟩ := gif hf
  obtain ⟨r24, F24, B24, hc24, hf⟩ := gbind hf
  refine va_calli (va_runV (As := [.int (iI 5)]) (rest := []) ⟨hx, hb, hml, hown, hts⟩ (c_Parser_refuse (l := l) hc24) (cwV 1 hts (gdV k_3_196 k_3_198 ks_7 k_1_4 k_3_199) rfl rfl rfl (by decide +kernel) ⟨Nat.le_of_ble_eq_true rfl, Nat.le_of_ble_eq_true rfl⟩) (zPV X hZ hS (ci := 3) g23.1 g23.2 (r := (RX3, TX3, 22)) rfl [.int (iI 5)]) rfl rfl hl.1 rfl (lv_room (Nat.le_of_ble_eq_true rfl)) d_5_15_75 ⟨Nat.le_of_ble_eq_true rfl, Nat.le_of_ble_eq_true rfl⟩) hS (fun q _ h => zAin X hS q h) (zAin X hS) (fun p24 u24 t24 H24 locs24 ht24 hv24 hw24 hB24 hz24 hk24 hS24 => ?_)
  have hZ24 := zBack X ht24 hB24
  subst hw24
  obtain ⟨g25, hf⟩ := gif hf
  cases hf
  exact W.zret hx hb hr (zbool g25) (fun t ht hW => ⟨⟨_, (), rfl, rfl, by rw [ht]; exact hZ24, va_K.moved hW.alike hK⟩, hS24.F ht⟩) hS24.2.2 d_5_15_78 hlk

noncomputable def f_Parser_takeNumber_48 (K : zK) (l0 : Int) (l3 : Int) (s0 : Int) (F : zF) (B : zB) : zO := if r32 s0 then (if s0 = 0 then f_Parser_takeNumber_73 K l0 F B else if r32 l3 then (if l3 = 0 then f_Parser_takeNumber_79 K l0 F B else if 0 ≤ l0 ∧ l0 < K.2 3 then if 0 ≤ (F 3 l0 11) ∧ (F 3 l0 11) < K.2 10 then zbind (f_Long_bitCount K (F 10 (F 3 l0 11) 2) F B) (fun r20 F20 B20 => if r32 r20 then (if r20 = 1 then f_Parser_takeNumber_79 K l0 F20 B20 else f_Parser_takeNumber_73 K l0 F20 B20) else none) else none else none) else none) else none
