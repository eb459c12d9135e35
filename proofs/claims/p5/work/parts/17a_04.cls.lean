set_option maxHeartbeats 4000000 in
set_option maxRecDepth 100000 in
theorem b_CStringLatin1_canEncode_16 {D : va_G} {ca : Nat → ClassId} {ad : Nat → Int → Nat → Nat} {L : List Nat} {aS vS : Nat → Nat} {A : Nat → Prop} {p : Program} {l : Launch} {e : Env} {s : State} {m : MethodId} {args : Array Value} {below : List Frame} {meth : Method} {c : Code} {K : zK} {r : Int} {F9 : zF} {B9 : zB} (X : zX D ca L aS vS A p s m args meth c prog_22_method_4_code 1 (Option.some Jvm.ClassFile.FieldType.boolean) "java/lang/StringLatin1") {s0 : Int} {F : zF} {B : zB} {H : Heap} {locs : List Loc} {ls : Array Slot} (hf : f_CStringLatin1_canEncode_16 K s0 F B = some (r, F9, B9)) (hZ : zH D ca ad lnC K.2 L F B A H) (hS : va_S A s.heap H locs) (hl : lv_has ls 1 []) : W p l e ({ frames := 0, cells := 0, slots := 0, locals := 0 } : Room) s m args below meth c H locs 0 0 (MQ below (Q_CStringLatin1_canEncode K D ca ad L r F9 B9 A) args s 0 0 A) (F0 m 16 ls [.int (iI s0)]) := by
  obtain ⟨hx, hb, hr, hml, hown, hts, hlk, hK, hA, hL, hX⟩ := id X
  replace hf : (if (s0 = 0 ∨ s0 = 1) then some (s0, F, B) else none) = some (r, F9, B9) := hf
  obtain ⟨g4, hf⟩ := gif hf
  cases hf
  exact W.zret hx hb hr (zbool g4) (fun t ht hW => ⟨⟨_, (), rfl, rfl, by rw [ht]; exact hZ, va_K.moved hW.alike hK⟩, hS.F ht⟩) hS.2.2 d_22_4_16 hlk

noncomputable def f_CStringLatin1_canEncode_15 (K : zK)  (F : zF) (B : zB) : zO := f_CStringLatin1_canEncode_16 K 0 F B
set_option maxHeartbeats 4000000 in
set_option maxRecDepth 100000 in
theorem b_CStringLatin1_canEncode_15 {D : va_G} {ca : Nat → ClassId} {ad : Nat → Int → Nat → Nat} {L : List Nat} {aS vS : Nat → Nat} {A : Nat → Prop} {p : Program} {l : Launch} {e : Env} {s : State} {m : MethodId} {args : Array Value} {below : List Frame} {meth : Method} {c : Code} {K : zK} {r : Int} {F9 : zF} {B9 : zB} (X : zX D ca L aS vS A p s m args meth c prog_22_method_4_code 1 (Option.some Jvm.ClassFile.FieldType.boolean) "java/lang/StringLatin1")  {F : zF} {B : zB} {H : Heap} {locs : List Loc} {ls : Array Slot} (hf : f_CStringLatin1_canEncode_15 K  F B = some (r, F9, B9)) (hZ : zH D ca ad lnC K.2 L F B A H) (hS : va_S A s.heap H locs) (hl : lv_has ls 1 []) : W p l e ({ frames := 0, cells := 0, slots := 0, locals := 0 } : Room) s m args below meth c H locs 0 0 (MQ below (Q_CStringLatin1_canEncode K D ca ad L r F9 B9 A) args s 0 0 A) (F0 m 15 ls []) := by
  obtain ⟨hx, hb, hr, hml, hown, hts, hlk, hK, hA, hL, hX⟩ := id X
  replace hf : (f_CStringLatin1_canEncode_16 K 0 F B) = some (r, F9, B9) := hf
  refine lv_iconst (v := iI 0) hx hb d_22_4_15 rfl ?_
  exact b_CStringLatin1_canEncode_16 X hf hZ hS (lv_sub hl [] rfl)

noncomputable def f_CStringLatin1_canEncode (K : zK) (l0 : Int) (F : zF) (B : zB) : zO := if r32 l0 then (if l0 < 0 then f_CStringLatin1_canEncode_15 K F B else (if 255 < l0 then f_CStringLatin1_canEncode_15 K F B else f_CStringLatin1_canEncode_16 K 1 F B)) else none
set_option maxHeartbeats 4000000 in
set_option maxRecDepth 100000 in
theorem c_CStringLatin1_canEncode {l : Launch} {D : va_G} {ca : Nat → ClassId} {ad : Nat → Int → Nat → Nat} {L : List Nat} {aS vS : Nat → Nat} {sz : Nat} {K : zK}  {l0 : Int} {F F9 : zF} {B B9 : zB} {r : Int} (hf : f_CStringLatin1_canEncode K l0 F B = some (r, F9, B9)) : Met l ({ cls := "java/lang/StringLatin1", name := "canEncode", desc := "(I)Z" } : Jvm.MethodName) (Cond.code ({ cls := "java/lang/StringLatin1", name := "canEncode", desc := "(I)Z" } : Jvm.MethodName) prog_22_method_4_code 1 (Option.some Jvm.ClassFile.FieldType.boolean) :: wAll) ({ frames := 0, cells := 0, slots := 0, locals := 0 } : Room) (va_Pc [.int (iI l0)] (zPre D ca ad lnC K.2 L aS vS F B sz)) (Q_CStringLatin1_canEncode K D ca ad L r F9 B9 (zA L sz)) 0 0 (zA L sz) := by
  refine zMet (Qc := Q_CStringLatin1_canEncode K D ca ad L r F9 B9) (lv := [(0, .int (iI l0))]) (by decide) (Nat.le_of_ble_eq_true rfl) rfl (fun A p e s m below meth c ls X hZ hS hl => ?_)
  obtain ⟨hx, hb, hr, hml, hown, hts, hlk, hK, hA, hL, hX⟩ := id X
  replace hf : (if r32 l0 then (if l0 < 0 then f_CStringLatin1_canEncode_15 K F B else (if 255 < l0 then f_CStringLatin1_canEncode_15 K F B else f_CStringLatin1_canEncode_16 K 1 F B)) else none) = some (r, F9, B9) := hf
  refine lv_iload_n hx hb d_22_4_0 rfl (lv_at hl 0 rfl) ?_
  obtain ⟨g1, hf⟩ := gif hf
  refine z0lt (tgt := 15) hx hb g1 d_22_4_1 (by decide) (fun h2 => ?_) (fun h2 => ?_)
  · replace hf := gpos hf h2
    exact b_CStringLatin1_canEncode_15 X hf hZ hS (lv_sub hl [] rfl)
  · replace hf := gneg hf h2
    refine lv_iload_n hx hb d_22_4_4 rfl (lv_at hl 0 rfl) ?_
    refine lv_sipush (v := iI 255) hx hb d_22_4_5 (by decide) ?_
    refine zgt (tgt := 15) hx hb g1 (by decide) d_22_4_8 (by decide) (fun h3 => ?_) (fun h3 => ?_)
    · replace hf := gpos hf h3
      exact b_CStringLatin1_canEncode_15 X hf hZ hS (lv_sub hl [] rfl)
    · replace hf := gneg hf h3
      refine lv_iconst (v := iI 1) hx hb d_22_4_11 rfl ?_
      refine lv_goto (tgt := 16) hx hb d_22_4_12 (by decide) ?_
      exact b_CStringLatin1_canEncode_16 X hf hZ hS (lv_sub hl [] rfl)

noncomputable abbrev Q_CStringLatin1_indexOfChar (K : zK) (D : va_G) (ca : Nat → ClassId) (ad : Nat → Int → Nat → Nat) (L : List Nat) (r : Int) (F : zF) (B : zB) (A : Nat → Prop) : Array Value → State → Outcome → State → Prop := va_Qi (S := Unit) (fun p _ => p = iI r) (fun _ => zPo D ca ad lnC K.2 L F B A) A
noncomputable def f_CStringLatin1_indexOfChar_7 (K : zK) : Nat → Int → Int → Nat → Int → zF → zB → zO
  | 0, _, _, _, _, _, _ => none
  | n + 1, l5, l4, l0, l3, F, B => if r32 l5 then if r32 l3 then (if l3 ≤ l5 then some ((-1), F, B) else if l0 < strL.length then if 0 ≤ l5 ∧ l5 < zsl l0 then if r32 (zsb l0 l5) then if r32 l4 then (if (zsb l0 l5) = l4 then some (l5, F, B) else f_CStringLatin1_indexOfChar_7 K n (l5 + 1) l4 l0 l3 F B) else none else none else none else none) else none else none
set_option maxHeartbeats 4000000 in
set_option maxRecDepth 100000 in
theorem b_CStringLatin1_indexOfChar_7 {D : va_G} {ca : Nat → ClassId} {ad : Nat → Int → Nat → Nat} {L : List Nat} {aS vS : Nat → Nat} {A : Nat → Prop} {p : Program} {l : Launch} {e : Env} {s : State} {m : MethodId} {args : Array Value} {below : List Frame} {meth : Method} {c : Code} {K : zK} {r : Int} {F9 : zF} {B9 : zB} (X : zX D ca L aS vS A p s m args meth c prog_22_method_23_code 6 (Option.some Jvm.ClassFile.FieldType.int) "java/lang/StringLatin1") : ∀ {n : Nat} {l5 : Int} {l4 : Int} {l0 : Nat} {l3 : Int} {F : zF} {B : zB} {H : Heap} {locs : List Loc} {ls : Array Slot}, f_CStringLatin1_indexOfChar_7 K n l5 l4 l0 l3 F B = some (r, F9, B9) → zH D ca ad lnC K.2 L F B A H → va_S A s.heap H locs → lv_has ls 6 [(5, .int (iI l5)), (4, .int (iI l4)), (0, .ref (vS l0)), (3, .int (iI l3))] → W p l e ({ frames := 0, cells := 0, slots := 0, locals := 0 } : Room) s m args below meth c H locs 0 0 (MQ below (Q_CStringLatin1_indexOfChar K D ca ad L r F9 B9 A) args s 0 0 A) (F0 m 7 ls []) := by
  obtain ⟨hx, hb, hr, hml, hown, hts, hlk, hK, hA, hL, hX⟩ := id X
  intro n
  induction n with
  | zero =>
    intros
    rename_i hf _ _ _
    cases hf
  | succ n ih =>
    intro l5 l4 l0 l3 F B H locs ls hf hZ hS hl
    replace hf : (if r32 l5 then if r32 l3 then (if l3 ≤ l5 then some ((-1), F, B) else if l0 < strL.length then if 0 ≤ l5 ∧ l5 < zsl l0 then if r32 (zsb l0 l5) then if r32 l4 then (if (zsb l0 l5) = l4 then some (l5, F, B) else f_CStringLatin1_indexOfChar_7 K n (l5 + 1) l4 l0 l3 F B) else none else none else none else none) else none else none) = some (r, F9, B9) := hf
    refine lv_iload hx hb d_22_23_7 (lv_at hl 0 rfl) ?_
    refine lv_iload_n hx hb d_22_23_9 rfl (lv_at hl 3 rfl) ?_
    obtain ⟨g1, hf⟩ := gif hf
    obtain ⟨g2, hf⟩ := gif hf
    refine zge (tgt := 31) hx hb g1 g2 d_22_23_10 (by decide) (fun h3 => ?_) (fun h3 => ?_)
    · replace hf := gpos hf h3
      refine lv_iconst (v := iI (-1)) hx hb d_22_23_31 rfl ?_
      cases hf
      exact W.iret hx hb hr (fun t ht hW => ⟨⟨_, (), rfl, rfl, by rw [ht]; exact hZ, va_K.moved hW.alike hK⟩, hS.F ht⟩) hS.2.2 d_22_23_32 hlk
    · replace hf := gneg hf h3
      refine lv_aload_n hx hb d_22_23_13 rfl (lv_at hl 2 rfl) ?_
      refine lv_iload hx hb d_22_23_14 (lv_at hl 0 rfl) ?_
      obtain ⟨g4, hf⟩ := gif hf
      obtain ⟨g5, hf⟩ := gif hf
      refine va_tb (v := .int (iI (zsb l0 l5))) hx hb (zstr hX g4).2.2.1 hS (zs_in g4 g5) (zsb_v g4 g5) d_22_23_16 ?_
      refine lv_iload hx hb d_22_23_17 (lv_at hl 1 rfl) ?_
      obtain ⟨g6, hf⟩ := gif hf
      obtain ⟨g7, hf⟩ := gif hf
      refine zne (tgt := 25) hx hb g6 g7 d_22_23_19 (by decide) (fun h8 => ?_) (fun h8 => ?_)
      · replace hf := gneg hf h8
        refine lv_iinc (v := iI (l5 + 1)) (lv' := [(5, .int (iI (l5 + 1))), (4, .int (iI l4)), (0, .ref (vS l0)), (3, .int (iI l3))]) hx hb d_22_23_25 hl (k := 0) rfl (iI_add _ 1) (by decide) rfl (fun ls hl => ?_)
        refine lv_goto (tgt := 7) hx hb d_22_23_28 (by decide) ?_
        exact ih hf hZ hS (lv_sub hl [0, 1, 2, 3] rfl)
      · replace hf := gpos hf h8
        refine lv_iload hx hb d_22_23_22 (lv_at hl 0 rfl) ?_
        cases hf
        exact W.iret hx hb hr (fun t ht hW => ⟨⟨_, (), rfl, rfl, by rw [ht]; exact hZ, va_K.moved hW.alike hK⟩, hS.F ht⟩) hS.2.2 d_22_23_24 hlk

noncomputable def f_CStringLatin1_indexOfChar (K : zK) (l0 : Nat) (l1 : Int) (l2 : Int) (l3 : Int) (F : zF) (B : zB) : zO := f_CStringLatin1_indexOfChar_7 K K.1 l2 (zi2b l1) l0 l3 F B
set_option maxHeartbeats 4000000 in
set_option maxRecDepth 100000 in
theorem c_CStringLatin1_indexOfChar {l : Launch} {D : va_G} {ca : Nat → ClassId} {ad : Nat → Int → Nat → Nat} {L : List Nat} {aS vS : Nat → Nat} {sz : Nat} {K : zK}  {l0 : Nat} {l1 : Int} {l2 : Int} {l3 : Int} {F F9 : zF} {B B9 : zB} {r : Int} (hf : f_CStringLatin1_indexOfChar K l0 l1 l2 l3 F B = some (r, F9, B9)) : Met l ({ cls := "java/lang/StringLatin1", name := "indexOfChar", desc := "([BIII)I" } : Jvm.MethodName) (Cond.code ({ cls := "java/lang/StringLatin1", name := "indexOfChar", desc := "([BIII)I" } : Jvm.MethodName) prog_22_method_23_code 6 (Option.some Jvm.ClassFile.FieldType.int) :: wAll) ({ frames := 0, cells := 0, slots := 0, locals := 0 } : Room) (va_Pc [.ref (vS l0), .int (iI l1), .int (iI l2), .int (iI l3)] (zPre D ca ad lnC K.2 L aS vS F B sz)) (Q_CStringLatin1_indexOfChar K D ca ad L r F9 B9 (zA L sz)) 0 0 (zA L sz) := by
  refine zMet (Qc := Q_CStringLatin1_indexOfChar K D ca ad L r F9 B9) (lv := [(0, .ref (vS l0)), (1, .int (iI l1)), (2, .int (iI l2)), (3, .int (iI l3))]) (by decide) (Nat.le_of_ble_eq_true rfl) rfl (fun A p e s m below meth c ls X hZ hS hl => ?_)
  obtain ⟨hx, hb, hr, hml, hown, hts, hlk, hK, hA, hL, hX⟩ := id X
  replace hf : (f_CStringLatin1_indexOfChar_7 K K.1 l2 (zi2b l1) l0 l3 F B) = some (r, F9, B9) := hf
  refine lv_iload_n hx hb d_22_23_0 rfl (lv_at hl 1 rfl) ?_
  refine zi2b_r hx hb d_22_23_1 ?_
  refine lv_istore (lv' := [(4, .int (iI (zi2b l1))), (0, .ref (vS l0)), (1, .int (iI l1)), (2, .int (iI l2)), (3, .int (iI l3))]) hx hb d_22_23_2 hl (by decide) rfl (fun ls hl => ?_)
  refine lv_iload_n hx hb d_22_23_4 rfl (lv_at hl 3 rfl) ?_
  refine lv_istore (lv' := [(5, .int (iI l2)), (4, .int (iI (zi2b l1))), (0, .ref (vS l0)), (1, .int (iI l1)), (2, .int (iI l2)), (3, .int (iI l3))]) hx hb d_22_23_5 hl (by decide) rfl (fun ls hl => ?_)
  exact b_CStringLatin1_indexOfChar_7 X hf hZ hS (lv_sub hl [0, 1, 2, 5] rfl)

noncomputable abbrev Q_CString_checkBoundsBeginEnd (K : zK) (D : va_G) (ca : Nat → ClassId) (ad : Nat → Int → Nat → Nat) (L : List Nat) (r : Int) (F : zF) (B : zB) (A : Nat → Prop) : Array Value → State → Outcome → State → Prop := va_Qv (S := Unit) (fun _ => True) (fun _ => zPo D ca ad lnC K.2 L F B A) A
noncomputable def f_CString_checkBoundsBeginEnd (K : zK) (l0 : Int) (l1 : Int) (l2 : Int) (F : zF) (B : zB) : zO := zbind (f_CPreconditions_checkFromToIndex K l0 l1 l2 F B) (fun r2 F2 B2 => some (0, F2, B2))
set_option maxHeartbeats 4000000 in
set_option maxRecDepth 100000 in
theorem c_CString_checkBoundsBeginEnd {l : Launch} {D : va_G} {ca : Nat → ClassId} {ad : Nat → Int → Nat → Nat} {L : List Nat} {aS vS : Nat → Nat} {sz : Nat} {K : zK}  {l0 : Int} {l1 : Int} {l2 : Int} {F F9 : zF} {B B9 : zB} {r : Int} (hf : f_CString_checkBoundsBeginEnd K l0 l1 l2 F B = some (r, F9, B9)) : Met l ({ cls := "java/lang/String", name := "checkBoundsBeginEnd", desc := "(III)V" } : Jvm.MethodName) (Cond.code ({ cls := "java/lang/String", name := "checkBoundsBeginEnd", desc := "(III)V" } : Jvm.MethodName) prog_21_method_158_code 3 (Option.none : Option Jvm.ClassFile.FieldType) :: wAll) ({ frames := 1, cells := 0, slots := 0, locals := 23 } : Room) (va_Pc [.int (iI l0), .int (iI l1), .int (iI l2)] (zPre D ca ad lnC K.2 L aS vS F B sz)) (Q_CString_checkBoundsBeginEnd K D ca ad L r F9 B9 (zA L sz)) 0 0 (zA L sz) := by
  refine zMet (Qc := Q_CString_checkBoundsBeginEnd K D ca ad L r F9 B9) (lv := [(0, .int (iI l0)), (1, .int (iI l1)), (2, .int (iI l2))]) (by decide) (Nat.le_of_ble_eq_true rfl) rfl (fun A p e s m below meth c ls X hZ hS hl => ?_)
  obtain ⟨hx, hb, hr, hml, hown, hts, hlk, hK, hA, hL, hX⟩ := id X
  replace hf : (zbind (f_CPreconditions_checkFromToIndex K l0 l1 l2 F B) (fun r2 F2 B2 => some (0, F2, B2))) = some (r, F9, B9) := hf
  refine lv_iload_n hx hb d_21_158_0 rfl (lv_at hl 0 rfl) ?_
  refine lv_iload_n hx hb d_21_158_1 rfl (lv_at hl 1 rfl) ?_
  refine lv_iload_n hx hb d_21_158_2 rfl (lv_at hl 2 rfl) ?_
  obtain ⟨o1, ho1⟩ := zfmt hX
  refine va_gets hx hb ho1 hS hown (hts _ k_3_120) (fun _ h => h) d_21_158_3 ?_
  obtain ⟨r2, F2, B2, hc2, hf⟩ := gbind hf
  refine va_calli (va_runS (As := [.int (iI l0), .int (iI l1), .int (iI l2), va_rf o1]) (rest := []) ⟨hx, hb, hml, hown, hts⟩ (c_CPreconditions_checkFromToIndex (l := l) hc2) (va_cwS 4 hts (gdS k_3_122 k_3_123 k_1_13 k_3_124) rfl rfl rfl (by decide +kernel) ⟨Nat.le_of_ble_eq_true rfl, Nat.le_of_ble_eq_true rfl⟩) (zPS X hZ hS [.int (iI l0), .int (iI l1), .int (iI l2), va_rf o1]) rfl rfl hl.1 rfl (lv_room (Nat.le_of_ble_eq_true rfl)) d_21_158_6 ⟨Nat.le_of_ble_eq_true rfl, Nat.le_of_ble_eq_true rfl⟩) hS (fun q _ h => zAin X hS q h) (zAin X hS) (fun p2 u2 t2 H2 locs2 ht2 hv2 hw2 hB2 hz2 hk2 hS2 => ?_)
  have hZ2 := zBack X ht2 hB2
  subst hw2
  refine lv_pop hx hb d_21_158_9 rfl ?_
  cases hf
  exact W.vret hx hb hr (fun t ht hW => ⟨⟨(), rfl, trivial, by rw [ht]; exact hZ2, va_K.moved hW.alike hK⟩, hS2.F ht⟩) hS2.2.2 d_21_158_10 hlk

noncomputable abbrev Q_Tokens_advance (K : zK) (D : va_G) (ca : Nat → ClassId) (ad : Nat → Int → Nat → Nat) (L : List Nat) (r : Int) (F : zF) (B : zB) (A : Nat → Prop) : Array Value → State → Outcome → State → Prop := va_Qv (S := Unit) (fun _ => True) (fun _ => zPo D ca ad lnC K.2 L F B A) A
noncomputable def f_Tokens_advance_100 (K : zK)  (F : zF) (B : zB) : zO := some (0, F, B)
set_option maxHeartbeats 4000000 in
set_option maxRecDepth 100000 in
theorem b_Tokens_advance_100 {D : va_G} {ca : Nat → ClassId} {ad : Nat → Int → Nat → Nat} {L : List Nat} {aS vS : Nat → Nat} {A : Nat → Prop} {p : Program} {l : Launch} {e : Env} {s : State} {m : MethodId} {args : Array Value} {below : List Frame} {meth : Method} {c : Code} {K : zK} {r : Int} {F9 : zF} {B9 : zB} (X : zX D ca L aS vS A p s m args meth c prog_12_method_3_code 1 (Option.none : Option Jvm.ClassFile.FieldType) "StaveHouse$Tokens")  {F : zF} {B : zB} {H : Heap} {locs : List Loc} {ls : Array Slot} (hf : f_Tokens_advance_100 K  F B = some (r, F9, B9)) (hZ : zH D ca ad lnC K.2 L F B A H) (hS : va_S A s.heap H locs) (hl : lv_has ls 1 []) : W p l e ({ frames := 0, cells := 0, slots := 0, locals := 0 } : Room) s m args below meth c H locs 0 0 (MQ below (Q_Tokens_advance K D ca ad L r F9 B9 A) args s 0 0 A) (F0 m 100 ls []) := by
  obtain ⟨hx, hb, hr, hml, hown, hts, hlk, hK, hA, hL, hX⟩ := id X
  replace hf : (some (0, F, B)) = some (r, F9, B9) := hf
  cases hf
  exact W.vret hx hb hr (fun t ht hW => ⟨⟨(), rfl, trivial, by rw [ht]; exact hZ, va_K.moved hW.alike hK⟩, hS.F ht⟩) hS.2.2 d_12_3_100 hlk

noncomputable def f_Tokens_advance_73 (K : zK) (l0 : Int) (F : zF) (B : zB) : zO := if 0 ≤ l0 ∧ l0 < K.2 10 then if r32 (F 10 l0 0) then (if (F 10 l0 0) = 0 then f_Tokens_advance_100 K F B else if r32 (F 10 l0 8) then (if 3000 ≤ (F 10 l0 8) then f_Tokens_advance_100 K F B else f_Tokens_advance_100 K (zup3 F 10 l0 8 ((F 10 l0 8) + 1)) B) else none) else none else none
set_option maxHeartbeats 4000000 in
set_option maxRecDepth 100000 in
theorem b_Tokens_advance_73 {D : va_G} {ca : Nat → ClassId} {ad : Nat → Int → Nat → Nat} {L : List Nat} {aS vS : Nat → Nat} {A : Nat → Prop} {p : Program} {l : Launch} {e : Env} {s : State} {m : MethodId} {args : Array Value} {below : List Frame} {meth : Method} {c : Code} {K : zK} {r : Int} {F9 : zF} {B9 : zB} (X : zX D ca L aS vS A p s m args meth c prog_12_method_3_code 1 (Option.none : Option Jvm.ClassFile.FieldType) "StaveHouse$Tokens") {l0 : Int} {F : zF} {B : zB} {H : Heap} {locs : List Loc} {ls : Array Slot} (hf : f_Tokens_advance_73 K l0 F B = some (r, F9, B9)) (hZ : zH D ca ad lnC K.2 L F B A H) (hS : va_S A s.heap H locs) (hl : lv_has ls 1 [(0, .ref (ad 10 l0 0))]) : W p l e ({ frames := 0, cells := 0, slots := 0, locals := 0 } : Room) s m args below meth c H locs 0 0 (MQ below (Q_Tokens_advance K D ca ad L r F9 B9 A) args s 0 0 A) (F0 m 73 ls []) := by
  obtain ⟨hx, hb, hr, hml, hown, hts, hlk, hK, hA, hL, hX⟩ := id X
  replace hf : (if 0 ≤ l0 ∧ l0 < K.2 10 then if r32 (F 10 l0 0) then (if (F 10 l0 0) = 0 then f_Tokens_advance_100 K F B else if r32 (F 10 l0 8) then (if 3000 ≤ (F 10 l0 8) then f_Tokens_advance_100 K F B else f_Tokens_advance_100 K (zup3 F 10 l0 8 ((F 10 l0 8) + 1)) B) else none) else none else none) = some (r, F9, B9) := hf
  refine lv_aload_n hx hb d_12_3_73 rfl (lv_at hl 0 rfl) ?_
  obtain ⟨g10, hf⟩ := gif hf
  refine zget (ci := 10) (C := RX10) (T := TX10) (v := .int (iI (F 10 l0 0))) (k := 0) hx hb hts inW_10 hown hK hZ g10.1 g10.2 rfl (by decide) k_1_73 rfl d_12_3_74 ?_
  obtain ⟨g11, hf⟩ := gif hf
  refine z0eq (tgt := 100) hx hb g11 d_12_3_77 (by decide) (fun h12 => ?_) (fun h12 => ?_)
  · replace hf := gpos hf h12
    exact b_Tokens_advance_100 X hf hZ hS (lv_sub hl [] rfl)
  · replace hf := gneg hf h12
    refine lv_aload_n hx hb d_12_3_80 rfl (lv_at hl 0 rfl) ?_
    refine zget (ci := 10) (C := RX10) (T := TX10) (v := .int (iI (F 10 l0 8))) (k := 8) hx hb hts inW_10 hown hK hZ g10.1 g10.2 rfl (by decide) k_1_85 rfl d_12_3_81 ?_
    refine lv_sipush (v := iI 3000) hx hb d_12_3_84 (by decide) ?_
    obtain ⟨g13, hf⟩ := gif hf
    refine zge (tgt := 100) hx hb g13 (by decide) d_12_3_87 (by decide) (fun h14 => ?_) (fun h14 => ?_)
    · replace hf := gpos hf h14
      exact b_Tokens_advance_100 X hf hZ hS (lv_sub hl [] rfl)
    · replace hf := gneg hf h14
      refine lv_aload_n hx hb d_12_3_90 rfl (lv_at hl 0 rfl) ?_
      refine lv_dup hx hb d_12_3_91 rfl ?_
      refine zget (ci := 10) (C := RX10) (T := TX10) (v := .int (iI (F 10 l0 8))) (k := 8) hx hb hts inW_10 hown hK hZ g10.1 g10.2 rfl (by decide) k_1_85 rfl d_12_3_92 ?_
      refine lv_iconst (v := iI 1) hx hb d_12_3_95 rfl ?_
      refine zadd hx hb d_12_3_96 ?_
      refine zput (ci := 10) (C := RX10) (T := TX10) (k := 8) (v := ((F 10 l0 8) + 1)) (w := .int (iI ((F 10 l0 8) + 1))) hx hb hts inW_10 tyX10 tyX10_ok nmX10 hown hK hZ hS g10.1 g10.2 rfl (by decide) k_1_85 rfl (fun G h => congrArg (fun q => Value.int (iI q)) h) rfl rfl (zno (by decide)) d_12_3_97 (fun H15 locs15 hZ15 hS15 => ?_)
      exact b_Tokens_advance_100 X hf hZ15 hS15 (lv_sub hl [] rfl)

noncomputable def f_Tokens_advance (K : zK) (l0 : Int) (F : zF) (B : zB) : zO := if 0 ≤ l0 ∧ l0 < K.2 10 then if 0 ≤ (F 10 l0 8) ∧ (F 10 l0 8) < 3001 then if r32 (B 10 l0 5 (F 10 l0 8)) then (if (B 10 l0 5 (F 10 l0 8)) = 2 then f_Tokens_advance_73 K l0 (zup3 (zup3 (zup3 (zup3 (zup3 F 10 l0 0 (B 10 l0 5 (F 10 l0 8))) 10 l0 1 (B 10 l0 6 (F 10 l0 8))) 10 l0 2 (B 10 l0 7 (F 10 l0 8))) 10 l0 3 (zdv (B 10 l0 7 (F 10 l0 8)) 8)) 10 l0 4 ((zrm (B 10 l0 7 (F 10 l0 8)) 8) - 2)) B else f_Tokens_advance_73 K l0 (zup3 (zup3 (zup3 F 10 l0 0 (B 10 l0 5 (F 10 l0 8))) 10 l0 1 (B 10 l0 6 (F 10 l0 8))) 10 l0 2 (B 10 l0 7 (F 10 l0 8))) B) else none else none else none
set_option maxHeartbeats 4000000 in
set_option maxRecDepth 100000 in
theorem c_Tokens_advance {l : Launch} {D : va_G} {ca : Nat → ClassId} {ad : Nat → Int → Nat → Nat} {L : List Nat} {aS vS : Nat → Nat} {sz : Nat} {K : zK}  {l0 : Int} {F F9 : zF} {B B9 : zB} {r : Int} (hf : f_Tokens_advance K l0 F B = some (r, F9, B9)) : Met l ({ cls := "StaveHouse$Tokens", name := "advance", desc := "()V" } : Jvm.MethodName) (Cond.code ({ cls := "StaveHouse$Tokens", name := "advance", desc := "()V" } : Jvm.MethodName) prog_12_method_3_code 1 (Option.none : Option Jvm.ClassFile.FieldType) :: wAll) ({ frames := 0, cells := 0, slots := 0, locals := 0 } : Room) (va_Pc [.ref (ad 10 l0 0)] (zPre D ca ad lnC K.2 L aS vS F B sz)) (Q_Tokens_advance K D ca ad L r F9 B9 (zA L sz)) 0 0 (zA L sz) := by
  refine zMet (Qc := Q_Tokens_advance K D ca ad L r F9 B9) (lv := [(0, .ref (ad 10 l0 0))]) (by decide) (Nat.le_of_ble_eq_true rfl) rfl (fun A p e s m below meth c ls X hZ hS hl => ?_)
  obtain ⟨hx, hb, hr, hml, hown, hts, hlk, hK, hA, hL, hX⟩ := id X
  replace hf : (if 0 ≤ l0 ∧ l0 < K.2 10 then if 0 ≤ (F 10 l0 8) ∧ (F 10 l0 8) < 3001 then if r32 (B 10 l0 5 (F 10 l0 8)) then (if (B 10 l0 5 (F 10 l0 8)) = 2 then f_Tokens_advance_73 K l0 (zup3 (zup3 (zup3 (zup3 (zup3 F 10 l0 0 (B 10 l0 5 (F 10 l0 8))) 10 l0 1 (B 10 l0 6 (F 10 l0 8))) 10 l0 2 (B 10 l0 7 (F 10 l0 8))) 10 l0 3 (zdv (B 10 l0 7 (F 10 l0 8)) 8)) 10 l0 4 ((zrm (B 10 l0 7 (F 10 l0 8)) 8) - 2)) B else f_Tokens_advance_73 K l0 (zup3 (zup3 (zup3 F 10 l0 0 (B 10 l0 5 (F 10 l0 8))) 10 l0 1 (B 10 l0 6 (F 10 l0 8))) 10 l0 2 (B 10 l0 7 (F 10 l0 8))) B) else none else none else none) = some (r, F9, B9) := hf
  refine lv_aload_n hx hb d_12_3_0 rfl (lv_at hl 0 rfl) ?_
  refine lv_aload_n hx hb d_12_3_1 rfl (lv_at hl 0 rfl) ?_
  obtain ⟨g1, hf⟩ := gif hf
  refine zget (ci := 10) (C := RX10) (T := TX10) (v := .ref (ad 10 l0 (5 + 1))) (k := 5) hx hb hts inW_10 hown hK hZ g1.1 g1.2 rfl (by decide) k_1_82 rfl d_12_3_2 ?_
  refine lv_aload_n hx hb d_12_3_5 rfl (lv_at hl 0 rfl) ?_
  refine zget (ci := 10) (C := RX10) (T := TX10) (v := .int (iI (F 10 l0 8))) (k := 8) hx hb hts inW_10 hown hK hZ g1.1 g1.2 rfl (by decide) k_1_85 rfl d_12_3_6 ?_
  obtain ⟨g2, hf⟩ := gif hf
  refine zald (ci := 10) (k := 5) hx hb hK rfl hZ g1.1 g1.2 rfl (Nat.le_of_ble_eq_true rfl) g2.1 g2.2 d_12_3_9 ?_
  refine zput (ci := 10) (C := RX10) (T := TX10) (k := 0) (v := (B 10 l0 5 (F 10 l0 8))) (w := .int (iI (B 10 l0 5 (F 10 l0 8)))) hx hb hts inW_10 tyX10 tyX10_ok nmX10 hown hK hZ hS g1.1 g1.2 rfl (by decide) k_1_73 rfl (fun G h => congrArg (fun q => Value.int (iI q)) h) rfl rfl (zno (by decide)) d_12_3_10 (fun H3 locs3 hZ3 hS3 => ?_)
  refine lv_aload_n hx hb d_12_3_13 rfl (lv_at hl 0 rfl) ?_
  refine lv_aload_n hx hb d_12_3_14 rfl (lv_at hl 0 rfl) ?_
  refine zget (ci := 10) (C := RX10) (T := TX10) (v := .ref (ad 10 l0 (6 + 1))) (k := 6) hx hb hts inW_10 hown hK hZ3 g1.1 g1.2 rfl (by decide) k_1_83 rfl d_12_3_15 ?_
  refine lv_aload_n hx hb d_12_3_18 rfl (lv_at hl 0 rfl) ?_
  refine zget (ci := 10) (C := RX10) (T := TX10) (v := .int (iI (F 10 l0 8))) (k := 8) hx hb hts inW_10 hown hK hZ3 g1.1 g1.2 rfl (by decide) k_1_85 (congrArg (fun q : Int => Value.int (iI q)) (show (zup3 F 10 l0 0 (B 10 l0 5 (F 10 l0 8))) 10 l0 8 = F 10 l0 8 by simp [zup3])) d_12_3_19 ?_
  refine zald (ci := 10) (k := 6) hx hb hK rfl hZ3 g1.1 g1.2 rfl (Nat.le_of_ble_eq_true rfl) g2.1 g2.2 d_12_3_22 ?_
  refine zput (ci := 10) (C := RX10) (T := TX10) (k := 1) (v := (B 10 l0 6 (F 10 l0 8))) (w := .int (iI (B 10 l0 6 (F 10 l0 8)))) hx hb hts inW_10 tyX10 tyX10_ok nmX10 hown hK hZ3 hS3 g1.1 g1.2 rfl (by decide) k_1_74 rfl (fun G h => congrArg (fun q => Value.int (iI q)) h) rfl rfl (zno (by decide)) d_12_3_23 (fun H4 locs4 hZ4 hS4 => ?_)
  refine lv_aload_n hx hb d_12_3_26 rfl (lv_at hl 0 rfl) ?_
  refine lv_aload_n hx hb d_12_3_27 rfl (lv_at hl 0 rfl) ?_
  refine zget (ci := 10) (C := RX10) (T := TX10) (v := .ref (ad 10 l0 (7 + 1))) (k := 7) hx hb hts inW_10 hown hK hZ4 g1.1 g1.2 rfl (by decide) k_1_84 rfl d_12_3_28 ?_
  refine lv_aload_n hx hb d_12_3_31 rfl (lv_at hl 0 rfl) ?_
  refine zget (ci := 10) (C := RX10) (T := TX10) (v := .int (iI (F 10 l0 8))) (k := 8) hx hb hts inW_10 hown hK hZ4 g1.1 g1.2 rfl (by decide) k_1_85 (congrArg (fun q : Int => Value.int (iI q)) (show (zup3 (zup3 F 10 l0 0 (B 10 l0 5 (F 10 l0 8))) 10 l0 1 (B 10 l0 6 (F 10 l0 8))) 10 l0 8 = F 10 l0 8 by simp [zup3])) d_12_3_32 ?_
  refine zlald (ci := 10) (k := 7) hx hb hK rfl hZ4 g1.1 g1.2 rfl (Nat.le_of_ble_eq_true rfl) g2.1 g2.2 d_12_3_35 ?_
  refine zput (ci := 10) (C := RX10) (T := TX10) (k := 2) (v := (B 10 l0 7 (F 10 l0 8))) (w := .long (lI (B 10 l0 7 (F 10 l0 8)))) hx hb hts inW_10 tyX10 tyX10_ok nmX10 hown hK hZ4 hS4 g1.1 g1.2 rfl (by decide) k_1_76 rfl (fun G h => congrArg (fun q => Value.long (lI q)) h) rfl rfl (zno (by decide)) d_12_3_36 (fun H5 locs5 hZ5 hS5 => ?_)
  refine lv_aload_n hx hb d_12_3_39 rfl (lv_at hl 0 rfl) ?_
  refine zget (ci := 10) (C := RX10) (T := TX10) (v := .int (iI (B 10 l0 5 (F 10 l0 8)))) (k := 0) hx hb hts inW_10 hown hK hZ5 g1.1 g1.2 rfl (by decide) k_1_73 (congrArg (fun q : Int => Value.int (iI q)) (show (zup3 (zup3 (zup3 F 10 l0 0 (B 10 l0 5 (F 10 l0 8))) 10 l0 1 (B 10 l0 6 (F 10 l0 8))) 10 l0 2 (B 10 l0 7 (F 10 l0 8))) 10 l0 0 = B 10 l0 5 (F 10 l0 8) by simp [zup3])) d_12_3_40 ?_
  refine lv_iconst (v := iI 2) hx hb d_12_3_43 rfl ?_
  obtain ⟨g6, hf⟩ := gif hf
  refine zne (tgt := 73) hx hb g6 (by decide) d_12_3_44 (by decide) (fun h7 => ?_) (fun h7 => ?_)
  · replace hf := gneg hf h7
    exact b_Tokens_advance_73 X hf hZ5 hS5 (lv_sub hl [0] rfl)
  · replace hf := gpos hf h7
    refine lv_aload_n hx hb d_12_3_47 rfl (lv_at hl 0 rfl) ?_
    refine lv_aload_n hx hb d_12_3_48 rfl (lv_at hl 0 rfl) ?_
    refine zget (ci := 10) (C := RX10) (T := TX10) (v := .long (lI (B 10 l0 7 (F 10 l0 8)))) (k := 2) hx hb hts inW_10 hown hK hZ5 g1.1 g1.2 rfl (by decide) k_1_76 (congrArg (fun q : Int => Value.long (lI q)) (show (zup3 (zup3 (zup3 F 10 l0 0 (B 10 l0 5 (F 10 l0 8))) 10 l0 1 (B 10 l0 6 (F 10 l0 8))) 10 l0 2 (B 10 l0 7 (F 10 l0 8))) 10 l0 2 = B 10 l0 7 (F 10 l0 8) by simp [zup3])) d_12_3_49 ?_
    refine zl2iw hx hb d_12_3_52 ?_
    refine lv_bipush (v := iI 8) hx hb d_12_3_53 (by decide) ?_
    refine zdv_r hx hb (by decide) d_12_3_55 ?_
    refine zput (ci := 10) (C := RX10) (T := TX10) (k := 3) (v := (zdv (B 10 l0 7 (F 10 l0 8)) 8)) (w := .int (iI (zdv (B 10 l0 7 (F 10 l0 8)) 8))) hx hb hts inW_10 tyX10 tyX10_ok nmX10 hown hK hZ5 hS5 g1.1 g1.2 rfl (by decide) k_1_78 rfl (fun G h => congrArg (fun q => Value.int (iI q)) h) rfl rfl (zno (by decide)) d_12_3_56 (fun H8 locs8 hZ8 hS8 => ?_)
    refine lv_aload_n hx hb d_12_3_59 rfl (lv_at hl 0 rfl) ?_
    refine lv_aload_n hx hb d_12_3_60 rfl (lv_at hl 0 rfl) ?_
    refine zget (ci := 10) (C := RX10) (T := TX10) (v := .long (lI (B 10 l0 7 (F 10 l0 8)))) (k := 2) hx hb hts inW_10 hown hK hZ8 g1.1 g1.2 rfl (by decide) k_1_76 (congrArg (fun q : Int => Value.long (lI q)) (show (zup3 (zup3 (zup3 (zup3 F 10 l0 0 (B 10 l0 5 (F 10 l0 8))) 10 l0 1 (B 10 l0 6 (F 10 l0 8))) 10 l0 2 (B 10 l0 7 (F 10 l0 8))) 10 l0 3 (zdv (B 10 l0 7 (F 10 l0 8)) 8)) 10 l0 2 = B 10 l0 7 (F 10 l0 8) by simp [zup3])) d_12_3_61 ?_
    refine zl2iw hx hb d_12_3_64 ?_
    refine lv_bipush (v := iI 8) hx hb d_12_3_65 (by decide) ?_
    refine zrm_r hx hb (by decide) d_12_3_67 ?_
    refine lv_iconst (v := iI 2) hx hb d_12_3_68 rfl ?_
    refine zsub hx hb d_12_3_69 ?_
    refine zput (ci := 10) (C := RX10) (T := TX10) (k := 4) (v := ((zrm (B 10 l0 7 (F 10 l0 8)) 8) - 2)) (w := .int (iI ((zrm (B 10 l0 7 (F 10 l0 8)) 8) - 2))) hx hb hts inW_10 tyX10 tyX10_ok nmX10 hown hK hZ8 hS8 g1.1 g1.2 rfl (by decide) k_1_80 rfl (fun G h => congrArg (fun q => Value.int (iI q)) h) rfl rfl (zno (by decide)) d_12_3_70 (fun H9 locs9 hZ9 hS9 => ?_)
    exact b_Tokens_advance_73 X hf hZ9 hS9 (lv_sub hl [0] rfl)

noncomputable abbrev Q_Tokens_isWord (K : zK) (D : va_G) (ca : Nat → ClassId) (ad : Nat → Int → Nat → Nat) (L : List Nat) (r : Int) (F : zF) (B : zB) (A : Nat → Prop) : Array Value → State → Outcome → State → Prop := va_Qi (S := Unit) (fun p _ => p = iI r) (fun _ => zPo D ca ad lnC K.2 L F B A) A
noncomputable def f_Tokens_isWord_22 (K : zK) (s0 : Int) (F : zF) (B : zB) : zO := if (s0 = 0 ∨ s0 = 1) then some (s0, F, B) else none
set_option maxHeartbeats 4000000 in
set_option maxRecDepth 100000 in
theorem b_Tokens_isWord_22 {D : va_G} {ca : Nat → ClassId} {ad : Nat → Int → Nat → Nat} {L : List Nat} {aS vS : Nat → Nat} {A : Nat → Prop} {p : Program} {l : Launch} {e : Env} {s : State} {m : MethodId} {args : Array Value} {below : List Frame} {meth : Method} {c : Code} {K : zK} {r : Int} {F9 : zF} {B9 : zB} (X : zX D ca L aS vS A p s m args meth c prog_12_method_5_code 3 (Option.some Jvm.ClassFile.FieldType.boolean) "StaveHouse$Tokens") {s0 : Int} {F : zF} {B : zB} {H : Heap} {locs : List Loc} {ls : Array Slot} (hf : f_Tokens_isWord_22 K s0 F B = some (r, F9, B9)) (hZ : zH D ca ad lnC K.2 L F B A H) (hS : va_S A s.heap H locs) (hl : lv_has ls 3 []) : W p l e ({ frames := 0, cells := 0, slots := 0, locals := 0 } : Room) s m args below meth c H locs 0 0 (MQ below (Q_Tokens_isWord K D ca ad L r F9 B9 A) args s 0 0 A) (F0 m 22 ls [.int (iI s0)]) := by
  obtain ⟨hx, hb, hr, hml, hown, hts, hlk, hK, hA, hL, hX⟩ := id X
  replace hf : (if (s0 = 0 ∨ s0 = 1) then some (s0, F, B) else none) = some (r, F9, B9) := hf
  obtain ⟨g7, hf⟩ := gif hf
  cases hf
  exact W.zret hx hb hr (zbool g7) (fun t ht hW => ⟨⟨_, (), rfl, rfl, by rw [ht]; exact hZ, va_K.moved hW.alike hK⟩, hS.F ht⟩) hS.2.2 d_12_5_22 hlk

noncomputable def f_Tokens_isWord_21 (K : zK)  (F : zF) (B : zB) : zO := f_Tokens_isWord_22 K 0 F B
set_option maxHeartbeats 4000000 in
set_option maxRecDepth 100000 in
theorem b_Tokens_isWord_21 {D : va_G} {ca : Nat → ClassId} {ad : Nat → Int → Nat → Nat} {L : List Nat} {aS vS : Nat → Nat} {A : Nat → Prop} {p : Program} {l : Launch} {e : Env} {s : State} {m : MethodId} {args : Array Value} {below : List Frame} {meth : Method} {c : Code} {K : zK} {r : Int} {F9 : zF} {B9 : zB} (X : zX D ca L aS vS A p s m args meth c prog_12_method_5_code 3 (Option.some Jvm.ClassFile.FieldType.boolean) "StaveHouse$Tokens")  {F : zF} {B : zB} {H : Heap} {locs : List Loc} {ls : Array Slot} (hf : f_Tokens_isWord_21 K  F B = some (r, F9, B9)) (hZ : zH D ca ad lnC K.2 L F B A H) (hS : va_S A s.heap H locs) (hl : lv_has ls 3 []) : W p l e ({ frames := 0, cells := 0, slots := 0, locals := 0 } : Room) s m args below meth c H locs 0 0 (MQ below (Q_Tokens_isWord K D ca ad L r F9 B9 A) args s 0 0 A) (F0 m 21 ls []) := by
  obtain ⟨hx, hb, hr, hml, hown, hts, hlk, hK, hA, hL, hX⟩ := id X
  replace hf : (f_Tokens_isWord_22 K 0 F B) = some (r, F9, B9) := hf
  refine lv_iconst (v := iI 0) hx hb d_12_5_21 rfl ?_
  exact b_Tokens_isWord_22 X hf hZ hS (lv_sub hl [] rfl)

noncomputable def f_Tokens_isWord (K : zK) (l0 : Int) (l1 : Int) (F : zF) (B : zB) : zO := if 0 ≤ l0 ∧ l0 < K.2 10 then if r32 (F 10 l0 0) then (if (F 10 l0 0) = 4 then if r64 (F 10 l0 2) then if r64 l1 then (if (zcmp (F 10 l0 2) l1) = 0 then f_Tokens_isWord_22 K 1 F B else f_Tokens_isWord_21 K F B) else none else none else f_Tokens_isWord_21 K F B) else none else none
set_option maxHeartbeats 4000000 in
set_option maxRecDepth 100000 in
theorem c_Tokens_isWord {l : Launch} {D : va_G} {ca : Nat → ClassId} {ad : Nat → Int → Nat → Nat} {L : List Nat} {aS vS : Nat → Nat} {sz : Nat} {K : zK}  {l0 : Int} {l1 : Int} {F F9 : zF} {B B9 : zB} {r : Int} (hf : f_Tokens_isWord K l0 l1 F B = some (r, F9, B9)) : Met l ({ cls := "StaveHouse$Tokens", name := "isWord", desc := "(J)Z" } : Jvm.MethodName) (Cond.code ({ cls := "StaveHouse$Tokens", name := "isWord", desc := "(J)Z" } : Jvm.MethodName) prog_12_method_5_code 3 (Option.some Jvm.ClassFile.FieldType.boolean) :: wAll) ({ frames := 0, cells := 0, slots := 0, locals := 0 } : Room) (va_Pc [.ref (ad 10 l0 0), .long (lI l1)] (zPre D ca ad lnC K.2 L aS vS F B sz)) (Q_Tokens_isWord K D ca ad L r F9 B9 (zA L sz)) 0 0 (zA L sz) := by
  refine zMet (Qc := Q_Tokens_isWord K D ca ad L r F9 B9) (lv := [(0, .ref (ad 10 l0 0)), (1, .long (lI l1))]) (by decide) (Nat.le_of_ble_eq_true rfl) rfl (fun A p e s m below meth c ls X hZ hS hl => ?_)
  obtain ⟨hx, hb, hr, hml, hown, hts, hlk, hK, hA, hL, hX⟩ := id X
  replace hf : (if 0 ≤ l0 ∧ l0 < K.2 10 then if r32 (F 10 l0 0) then (if (F 10 l0 0) = 4 then if r64 (F 10 l0 2) then if r64 l1 then (if (zcmp (F 10 l0 2) l1) = 0 then f_Tokens_isWord_22 K 1 F B else f_Tokens_isWord_21 K F B) else none else none else f_Tokens_isWord_21 K F B) else none else none) = some (r, F9, B9) := hf
  refine lv_aload_n hx hb d_12_5_0 rfl (lv_at hl 0 rfl) ?_
  obtain ⟨g1, hf⟩ := gif hf
  refine zget (ci := 10) (C := RX10) (T := TX10) (v := .int (iI (F 10 l0 0))) (k := 0) hx hb hts inW_10 hown hK hZ g1.1 g1.2 rfl (by decide) k_1_73 rfl d_12_5_1 ?_
  refine lv_iconst (v := iI 4) hx hb d_12_5_4 rfl ?_
  obtain ⟨g2, hf⟩ := gif hf
  refine zne (tgt := 21) hx hb g2 (by decide) d_12_5_5 (by decide) (fun h3 => ?_) (fun h3 => ?_)
  · replace hf := gneg hf h3
    exact b_Tokens_isWord_21 X hf hZ hS (lv_sub hl [] rfl)
  · replace hf := gpos hf h3
    refine lv_aload_n hx hb d_12_5_8 rfl (lv_at hl 0 rfl) ?_
    refine zget (ci := 10) (C := RX10) (T := TX10) (v := .long (lI (F 10 l0 2))) (k := 2) hx hb hts inW_10 hown hK hZ g1.1 g1.2 rfl (by decide) k_1_76 rfl d_12_5_9 ?_
    refine lv_lload_n hx hb d_12_5_12 rfl (lv_at hl 1 rfl) ?_
    obtain ⟨g4, hf⟩ := gif hf
    obtain ⟨g5, hf⟩ := gif hf
    refine zcmp_r hx hb g4 g5 d_12_5_13 ?_
    refine z0ne (tgt := 21) hx hb zcmp_32 d_12_5_14 (by decide) (fun h6 => ?_) (fun h6 => ?_)
    · replace hf := gneg hf h6
      exact b_Tokens_isWord_21 X hf hZ hS (lv_sub hl [] rfl)
    · replace hf := gpos hf h6
      refine lv_iconst (v := iI 1) hx hb d_12_5_17 rfl ?_
      refine lv_goto (tgt := 22) hx hb d_12_5_18 (by decide) ?_
      exact b_Tokens_isWord_22 X hf hZ hS (lv_sub hl [] rfl)

noncomputable abbrev Q_Parser_headSort (K : zK) (D : va_G) (ca : Nat → ClassId) (ad : Nat → Int → Nat → Nat) (L : List Nat) (r : Int) (F : zF) (B : zB) (A : Nat → Prop) : Array Value → State → Outcome → State → Prop := va_Qi (S := Unit) (fun p _ => p = iI r) (fun _ => zPo D ca ad lnC K.2 L F B A) A
noncomputable def f_Parser_headSort_48 (K : zK) (s0 : Int) (F : zF) (B : zB) : zO := some (s0, F, B)
set_option maxHeartbeats 4000000 in
set_option maxRecDepth 100000 in
theorem b_Parser_headSort_48 {D : va_G} {ca : Nat → ClassId} {ad : Nat → Int → Nat → Nat} {L : List Nat} {aS vS : Nat → Nat} {A : Nat → Prop} {p : Program} {l : Launch} {e : Env} {s : State} {m : MethodId} {args : Array Value} {below : List Frame} {meth : Method} {c : Code} {K : zK} {r : Int} {F9 : zF} {B9 : zB} (X : zX D ca L aS vS A p s m args meth c prog_5_method_5_code 1 (Option.some Jvm.ClassFile.FieldType.int) "StaveHouse$Parser") {s0 : Int} {F : zF} {B : zB} {H : Heap} {locs : List Loc} {ls : Array Slot} (hf : f_Parser_headSort_48 K s0 F B = some (r, F9, B9)) (hZ : zH D ca ad lnC K.2 L F B A H) (hS : va_S A s.heap H locs) (hl : lv_has ls 1 []) : W p l e ({ frames := 1, cells := 0, slots := 0, locals := 22 } : Room) s m args below meth c H locs 0 0 (MQ below (Q_Parser_headSort K D ca ad L r F9 B9 A) args s 0 0 A) (F0 m 48 ls [.int (iI s0)]) := by
  obtain ⟨hx, hb, hr, hml, hown, hts, hlk, hK, hA, hL, hX⟩ := id X
  replace hf : (some (s0, F, B)) = some (r, F9, B9) := hf
  cases hf
  exact W.iret hx hb hr (fun t ht hW => ⟨⟨_, (), rfl, rfl, by rw [ht]; exact hZ, va_K.moved hW.alike hK⟩, hS.F ht⟩) hS.2.2 d_5_5_48 hlk

noncomputable def f_Parser_headSort (K : zK) (l0 : Int) (F : zF) (B : zB) : zO := if 0 ≤ l0 ∧ l0 < K.2 3 then if 0 ≤ (F 3 l0 11) ∧ (F 3 l0 11) < K.2 10 then zbind (f_Tokens_isWord K (F 3 l0 11) 7038329 F B) (fun r3 F3 B3 => if r32 r3 then (if r3 = 0 then if 0 ≤ (F3 3 l0 11) ∧ (F3 3 l0 11) < K.2 10 then zbind (f_Tokens_isWord K (F3 3 l0 11) 1953066341 F3 B3) (fun r7 F7 B7 => if r32 r7 then (if r7 = 0 then if 0 ≤ (F7 3 l0 11) ∧ (F7 3 l0 11) < K.2 10 then zbind (f_Tokens_isWord K (F7 3 l0 11) 499917877359 F7 B7) (fun r11 F11 B11 => if r32 r11 then (if r11 = 0 then f_Parser_headSort_48 K 0 F11 B11 else f_Parser_headSort_48 K 4 F11 B11) else none) else none else some (2, F7, B7)) else none) else none else some (1, F3, B3)) else none) else none else none
set_option maxHeartbeats 4000000 in
set_option maxRecDepth 100000 in
theorem c_Parser_headSort {l : Launch} {D : va_G} {ca : Nat → ClassId} {ad : Nat → Int → Nat → Nat} {L : List Nat} {aS vS : Nat → Nat} {sz : Nat} {K : zK}  {l0 : Int} {F F9 : zF} {B B9 : zB} {r : Int} (hf : f_Parser_headSort K l0 F B = some (r, F9, B9)) : Met l ({ cls := "StaveHouse$Parser", name := "headSort", desc := "()I" } : Jvm.MethodName) (Cond.code ({ cls := "StaveHouse$Parser", name := "headSort", desc := "()I" } : Jvm.MethodName) prog_5_method_5_code 1 (Option.some Jvm.ClassFile.FieldType.int) :: wAll) ({ frames := 1, cells := 0, slots := 0, locals := 22 } : Room) (va_Pc [.ref (ad 3 l0 0)] (zPre D ca ad lnC K.2 L aS vS F B sz)) (Q_Parser_headSort K D ca ad L r F9 B9 (zA L sz)) 0 0 (zA L sz) := by
  refine zMet (Qc := Q_Parser_headSort K D ca ad L r F9 B9) (lv := [(0, .ref (ad 3 l0 0))]) (by decide) (Nat.le_of_ble_eq_true rfl) rfl (fun A p e s m below meth c ls X hZ hS hl => ?_)
  obtain ⟨hx, hb, hr, hml, hown, hts, hlk, hK, hA, hL, hX⟩ := id X
  replace hf : (if 0 ≤ l0 ∧ l0 < K.2 3 then if 0 ≤ (F 3 l0 11) ∧ (F 3 l0 11) < K.2 10 then zbind (f_Tokens_isWord K (F 3 l0 11) 7038329 F B) (fun r3 F3 B3 => if r32 r3 then (if r3 = 0 then if 0 ≤ (F3 3 l0 11) ∧ (F3 3 l0 11) < K.2 10 then zbind (f_Tokens_isWord K (F3 3 l0 11) 1953066341 F3 B3) (fun r7 F7 B7 => if r32 r7 then (if r7 = 0 then if 0 ≤ (F7 3 l0 11) ∧ (F7 3 l0 11) < K.2 10 then zbind (f_Tokens_isWord K (F7 3 l0 11) 499917877359 F7 B7) (fun r11 F11 B11 => if r32 r11 then (if r11 = 0 then f_Parser_headSort_48 K 0 F11 B11 else f_Parser_headSort_48 K 4 F11 B11) else none) else none else some (2, F7, B7)) else none) else none else some (1, F3, B3)) else none) else none else none) = some (r, F9, B9) := hf
  refine lv_aload_n hx hb d_5_5_0 rfl (lv_at hl 0 rfl) ?_
  obtain ⟨g1, hf⟩ := gif hf
  refine zget (ci := 3) (C := RX3) (T := TX3) (v := va_rf (zrf ad 10 (F 3 l0 11))) (k := 11) hx hb hts inW_3 hown hK hZ g1.1 g1.2 rfl (by decide) k_1_128 rfl d_5_5_1 ?_
  refine lv_ldc2 hx hb hown (hts _ k_3_168) d_5_5_4 ?_
  refine W.eq (g2 := F0 m 7 ls [.long (lI 7038329), va_rf (zrf ad 10 (F 3 l0 11))]) rfl ?_
  obtain ⟨g2, hf⟩ := gif hf
  refine W.eq (g2 := F0 m 7 ls [.long (lI 7038329), .ref (ad 10 (F 3 l0 11) 0)]) (by rw [zrf_pos (ad := ad) (t := 10) g2.1]; try rfl) ?_
  obtain ⟨r3, F3, B3, hc3, hf⟩ := gbind hf
  refine va_calli (va_runV (As := [.long (lI 7038329)]) (rest := []) ⟨hx, hb, hml, hown, hts⟩ (c_Tokens_isWord (l := l) hc3) (cwV 1 hts (gdV k_3_160 k_3_161 k_3_162 k_1_5 k_3_163) rfl rfl rfl (by decide +kernel) ⟨Nat.le_of_ble_eq_true rfl, Nat.le_of_ble_eq_true rfl⟩) (zPV X hZ hS (ci := 10) g2.1 g2.2 (r := (RX10, TX10, 9)) rfl [.long (lI 7038329)]) rfl rfl hl.1 rfl (lv_room (Nat.le_of_ble_eq_true rfl)) d_5_5_7 ⟨Nat.le_of_ble_eq_true rfl, Nat.le_of_ble_eq_true rfl⟩) hS (fun q _ h => zAin X hS q h) (zAin X hS) (fun p3 u3 t3 H3 locs3 ht3 hv3 hw3 hB3 hz3 hk3 hS3 => ?_)
  have hZ3 := zBack X ht3 hB3
  subst hw3
  obtain ⟨g4, hf⟩ := gif hf
  refine z0eq (tgt := 15) hx hb g4 d_5_5_10 (by decide) (fun h5 => ?_) (fun h5 => ?_)
  · replace hf := gpos hf h5
    refine lv_aload_n hx hb d_5_5_15 rfl (lv_at hl 0 rfl) ?_
    refine zget (ci := 3) (C := RX3) (T := TX3) (v := va_rf (zrf ad 10 (F3 3 l0 11))) (k := 11) hx hb hts inW_3 hown hK hZ3 g1.1 g1.2 rfl (by decide) k_1_128 rfl d_5_5_16 ?_
    refine lv_ldc2 hx hb hown (hts _ k_3_169) d_5_5_19 ?_
    refine W.eq (g2 := F0 m 22 ls [.long (lI 1953066341), va_rf (zrf ad 10 (F3 3 l0 11))]) rfl ?_
    obtain ⟨g6, hf⟩ := gif hf
    refine W.eq (g2 := F0 m 22 ls [.long (lI 1953066341), .ref (ad 10 (F3 3 l0 11) 0)]) (by rw [zrf_pos (ad := ad) (t := 10) g6.1]; try rfl) ?_
    obtain ⟨r7, F7, B7, hc7, hf⟩ := gbind hf
    refine va_calli (va_runV (As := [.long (lI 1953066341)]) (rest := []) ⟨hx, hb, hml, hown, hts⟩ (c_Tokens_isWord (l := l) hc7) (cwV 1 hts (gdV k_3_160 k_3_161 k_3_162 k_1_5 k_3_163) rfl rfl rfl (by decide +kernel) ⟨Nat.le_of_ble_eq_true rfl, Nat.le_of_ble_eq_true rfl⟩) (zPV X hZ3 hS3 (ci := 10) g6.1 g6.2 (r := (RX10, TX10, 9)) rfl [.long (lI 1953066341)]) rfl rfl hl.1 rfl (lv_room (Nat.le_of_ble_eq_true rfl)) d_5_5_22 ⟨Nat.le_of_ble_eq_true rfl, Nat.le_of_ble_eq_true rfl⟩) hS3 (fun q _ h => zAin X hS3 q h) (zAin X hS3) (fun p7 u7 t7 H7 locs7 ht7 hv7 hw7 hB7 hz7 hk7 hS7 => ?_)
    have hZ7 := zBack X ht7 hB7
    subst hw7
    obtain ⟨g8, hf⟩ := gif hf
    refine z0eq (tgt := 30) hx hb g8 d_5_5_25 (by decide) (fun h9 => ?_) (fun h9 => ?_)
    · replace hf := gpos hf h9
      refine lv_aload_n hx hb d_5_5_30 rfl (lv_at hl 0 rfl) ?_
      refine zget (ci := 3) (C := RX3) (T := TX3) (v := va_rf (zrf ad 10 (F7 3 l0 11))) (k := 11) hx hb hts inW_3 hown hK hZ7 g1.1 g1.2 rfl (by decide) k_1_128 rfl d_5_5_31 ?_
      refine lv_ldc2 hx hb hown (hts _ k_3_170) d_5_5_34 ?_
      refine W.eq (g2 := F0 m 37 ls [.long (lI 499917877359), va_rf (zrf ad 10 (F7 3 l0 11))]) rfl ?_
      obtain ⟨g10, hf⟩ := gif hf
      refine W.eq (g2 := F0 m 37 ls [.long (lI 499917877359), .ref (ad 10 (F7 3 l0 11) 0)]) (by rw [zrf_pos (ad := ad) (t := 10) g10.1]; try rfl) ?_
      obtain ⟨r11, F11, B11, hc11, hf⟩ := gbind hf
      refine va_calli (va_runV (As := [.long (lI 499917877359)]) (rest := []) ⟨hx, hb, hml, hown, hts⟩ (c_Tokens_isWord (l := l) hc11) (cwV 1 hts (gdV k_3_160 k_3_161 k_3_162 k_1_5 k_3_163) rfl rfl rfl (by decide +kernel) ⟨Nat.le_of_ble_eq_true rfl, Nat.le_of_ble_eq_true rfl⟩) (zPV X hZ7 hS7 (ci := 10) g10.1 g10.2 (r := (RX10, TX10, 9)) rfl [.long (lI 499917877359)]) rfl rfl hl.1 rfl (lv_room (Nat.le_of_ble_eq_true rfl)) d_5_5_37 ⟨Nat.le_of_ble_eq_true rfl, Nat.le_of_ble_eq_true rfl⟩) hS7 (fun q _ h => zAin X hS7 q h) (zAin X hS7) (fun p11 u11 t11 H11 locs11 ht11 hv11 hw11 hB11 hz11 hk11 hS11 => ?_)
      have hZ11 := zBack X ht11 hB11
      subst hw11
      obtain ⟨g12, hf⟩ := gif hf
      refine z0eq (tgt := 47) hx hb g12 d_5_5_40 (by decide) (fun h13 => ?_) (fun h13 => ?_)
      · replace hf := gpos hf h13
        refine lv_iconst (v := iI 0) hx hb d_5_5_47 rfl ?_
        exact b_Parser_headSort_48 X hf hZ11 hS11 (lv_sub hl [] rfl)
      · replace hf := gneg hf h13
        refine lv_iconst (v := iI 4) hx hb d_5_5_43 rfl ?_
        refine lv_goto (tgt := 48) hx hb d_5_5_44 (by decide) ?_
        exact b_Parser_headSort_48 X hf hZ11 hS11 (lv_sub hl [] rfl)
    · replace hf := gneg hf h9
      refine lv_iconst (v := iI 2) hx hb d_5_5_28 rfl ?_
      cases hf
      exact W.iret hx hb hr (fun t ht hW => ⟨⟨_, (), rfl, rfl, by rw [ht]; exact hZ7, va_K.moved hW.alike hK⟩, hS7.F ht⟩) hS7.2.2 d_5_5_29 hlk
  · replace hf := gneg hf h5
    refine lv_iconst (v := iI 1) hx hb d_5_5_13 rfl ?_
    cases hf
    exact W.iret hx hb hr (fun t ht hW => ⟨⟨_, (), rfl, rfl, by rw [ht]; exact hZ3, va_K.moved hW.alike hK⟩, hS3.F ht⟩) hS3.2.2 d_5_5_14 hlk

noncomputable abbrev Q_Parser_newItem (K : zK) (D : va_G) (ca : Nat → ClassId) (ad : Nat → Int → Nat → Nat) (L : List Nat) (r : Int) (F : zF) (B : zB) (A : Nat → Prop) : Array Value → State → Outcome → State → Prop := va_Qi (S := Unit) (fun p _ => p = iI r) (fun _ => zPo D ca ad lnC K.2 L F B A) A
noncomputable def f_Parser_newItem (K : zK) (l0 : Int) (l1 : Int) (F : zF) (B : zB) : zO := if 0 ≤ l0 ∧ l0 < K.2 3 then if r32 (F 3 l0 14) then if 0 ≤ (zmin (F 3 l0 14) 2999) ∧ (zmin (F 3 l0 14) 2999) < 3000 then if 0 ≤ (F 3 l0 11) ∧ (F 3 l0 11) < K.2 10 then some (zmin (F 3 l0 14) 2999, (zup3 F 3 l0 14 ((zmin (F 3 l0 14) 2999) + 1)), (zup4 (zup4 (zup4 (zup4 (zup4 (zup4 (zup4 (zup4 B 3 l0 0 (zmin (F 3 l0 14) 2999) l1) 3 l0 1 (zmin (F 3 l0 14) 2999) (F 10 (F 3 l0 11) 1)) 3 l0 2 (zmin (F 3 l0 14) 2999) 0) 3 l0 3 (zmin (F 3 l0 14) 2999) (-1)) 3 l0 4 (zmin (F 3 l0 14) 2999) (-1)) 3 l0 5 (zmin (F 3 l0 14) 2999) (-1)) 3 l0 6 (zmin (F 3 l0 14) 2999) 0) 3 l0 7 (zmin (F 3 l0 14) 2999) 0)) else none else none else none else none
set_option maxHeartbeats 4000000 in
set_option maxRecDepth 100000 in
theorem c_Parser_newItem {l : Launch} {D : va_G} {ca : Nat → ClassId} {ad : Nat → Int → Nat → Nat} {L : List Nat} {aS vS : Nat → Nat} {sz : Nat} {K : zK}  {l0 : Int} {l1 : Int} {F F9 : zF} {B B9 : zB} {r : Int} (hf : f_Parser_newItem K l0 l1 F B = some (r, F9, B9)) : Met l ({ cls := "StaveHouse$Parser", name := "newItem", desc := "(I)I" } : Jvm.MethodName) (Cond.code ({ cls := "StaveHouse$Parser", name := "newItem", desc := "(I)I" } : Jvm.MethodName) prog_5_method_16_code 3 (Option.some Jvm.ClassFile.FieldType.int) :: wAll) ({ frames := 1, cells := 0, slots := 0, locals := 13 } : Room) (va_Pc [.ref (ad 3 l0 0), .int (iI l1)] (zPre D ca ad lnC K.2 L aS vS F B sz)) (Q_Parser_newItem K D ca ad L r F9 B9 (zA L sz)) 0 0 (zA L sz) := by
  refine zMet (Qc := Q_Parser_newItem K D ca ad L r F9 B9) (lv := [(0, .ref (ad 3 l0 0)), (1, .int (iI l1))]) (by decide) (Nat.le_of_ble_eq_true rfl) rfl (fun A p e s m below meth c ls X hZ hS hl => ?_)
  obtain ⟨hx, hb, hr, hml, hown, hts, hlk, hK, hA, hL, hX⟩ := id X
  replace hf : (if 0 ≤ l0 ∧ l0 < K.2 3 then if r32 (F 3 l0 14) then if 0 ≤ (zmin (F 3 l0 14) 2999) ∧ (zmin (F 3 l0 14) 2999) < 3000 then if 0 ≤ (F 3 l0 11) ∧ (F 3 l0 11) < K.2 10 then some (zmin (F 3 l0 14) 2999, (zup3 F 3 l0 14 ((zmin (F 3 l0 14) 2999) + 1)), (zup4 (zup4 (zup4 (zup4 (zup4 (zup4 (zup4 (zup4 B 3 l0 0 (zmin (F 3 l0 14) 2999) l1) 3 l0 1 (zmin (F 3 l0 14) 2999) (F 10 (F 3 l0 11) 1)) 3 l0 2 (zmin (F 3 l0 14) 2999) 0) 3 l0 3 (zmin (F 3 l0 14) 2999) (-1)) 3 l0 4 (zmin (F 3 l0 14) 2999) (-1)) 3 l0 5 (zmin (F 3 l0 14) 2999) (-1)) 3 l0 6 (zmin (F 3 l0 14) 2999) 0) 3 l0 7 (zmin (F 3 l0 14) 2999) 0)) else none else none else none else none) = some (r, F9, B9) := hf
  refine lv_aload_n hx hb d_5_16_0 rfl (lv_at hl 0 rfl) ?_
  obtain ⟨g1, hf⟩ := gif hf
  refine zget (ci := 3) (C := RX3) (T := TX3) (v := .int (iI (F 3 l0 14))) (k := 14) hx hb hts inW_3 hown hK hZ g1.1 g1.2 rfl (by decide) k_1_131 rfl d_5_16_1 ?_
  refine lv_sipush (v := iI 2999) hx hb d_5_16_4 (by decide) ?_
  obtain ⟨g2, hf⟩ := gif hf
  refine va_mmin hx hb (by rw [hml]; exact hl.1.symm) hown (hts _ k_3_179) (hts _ k_3_97) (hts _ k_1_3) (hts _ k_3_98) (Nat.le_of_ble_eq_true rfl) (Nat.le_of_ble_eq_true rfl) (Nat.le_of_ble_eq_true rfl) (Nat.le_of_ble_eq_true rfl) d_5_16_7 ?_
  rw [zmin_e g2 (by decide)]
  refine lv_istore_n (lv' := [(2, .int (iI (zmin (F 3 l0 14) 2999))), (0, .ref (ad 3 l0 0)), (1, .int (iI l1))]) hx hb d_5_16_10 rfl hl (by decide) rfl (fun ls hl => ?_)
  refine lv_aload_n hx hb d_5_16_11 rfl (lv_at hl 1 rfl) ?_
  refine lv_iload_n hx hb d_5_16_12 rfl (lv_at hl 0 rfl) ?_
  refine lv_iconst (v := iI 1) hx hb d_5_16_13 rfl ?_
  refine zadd hx hb d_5_16_14 ?_
  refine zput (ci := 3) (C := RX3) (T := TX3) (k := 14) (v := ((zmin (F 3 l0 14) 2999) + 1)) (w := .int (iI ((zmin (F 3 l0 14) 2999) + 1))) hx hb hts inW_3 tyX3 tyX3_ok nmX3 hown hK hZ hS g1.1 g1.2 rfl (by decide) k_1_131 rfl (fun G h => congrArg (fun q => Value.int (iI q)) h) rfl rfl (zno (by decide)) d_5_16_15 (fun H3 locs3 hZ3 hS3 => ?_)
  refine lv_aload_n hx hb d_5_16_18 rfl (lv_at hl 1 rfl) ?_
  refine zget (ci := 3) (C := RX3) (T := TX3) (v := .ref (ad 3 l0 (0 + 1))) (k := 0) hx hb hts inW_3 hown hK hZ3 g1.1 g1.2 rfl (by decide) k_1_106 rfl d_5_16_19 ?_
  refine lv_iload_n hx hb d_5_16_22 rfl (lv_at hl 0 rfl) ?_
  refine lv_iload_n hx hb d_5_16_23 rfl (lv_at hl 2 rfl) ?_
  obtain ⟨g4, hf⟩ := gif hf
  refine zast (ci := 3) (k := 0) hx hb hK rfl hZ3 hS3 g1.1 g1.2 rfl (Nat.le_of_ble_eq_true rfl) g4.1 g4.2 d_5_16_24 (fun H5 locs5 hZ5 hS5 => ?_)
  refine lv_aload_n hx hb d_5_16_25 rfl (lv_at hl 1 rfl) ?_
  refine zget (ci := 3) (C := RX3) (T := TX3) (v := .ref (ad 3 l0 (1 + 1))) (k := 1) hx hb hts inW_3 hown hK hZ5 g1.1 g1.2 rfl (by decide) k_1_108 rfl d_5_16_26 ?_
  refine lv_iload_n hx hb d_5_16_29 rfl (lv_at hl 0 rfl) ?_
  refine lv_aload_n hx hb d_5_16_30 rfl (lv_at hl 1 rfl) ?_
  refine zget (ci := 3) (C := RX3) (T := TX3) (v := va_rf (zrf ad 10 (F 3 l0 11))) (k := 11) hx hb hts inW_3 hown hK hZ5 g1.1 g1.2 rfl (by decide) k_1_128 (congrArg (fun q : Int => va_rf (zrf ad 10 q)) (show (zup3 F 3 l0 14 ((zmin (F 3 l0 14) 2999) + 1)) 3 l0 11 = F 3 l0 11 by simp [zup3])) d_5_16_31 ?_
  obtain ⟨g6, hf⟩ := gif hf
  refine zunrf g6.1 ?_
  refine zget (ci := 10) (C := RX10) (T := TX10) (v := .int (iI (F 10 (F 3 l0 11) 1))) (k := 1) hx hb hts inW_10 hown hK hZ5 g6.1 g6.2 rfl (by decide) k_1_75 (congrArg (fun q : Int => Value.int (iI q)) (show (zup3 F 3 l0 14 ((zmin (F 3 l0 14) 2999) + 1)) 10 (F 3 l0 11) 1 = F 10 (F 3 l0 11) 1 by simp [zup3])) d_5_16_34 ?_
  refine zast (ci := 3) (k := 1) hx hb hK rfl hZ5 hS5 g1.1 g1.2 rfl (Nat.le_of_ble_eq_true rfl) g4.1 g4.2 d_5_16_37 (fun H7 locs7 hZ7 hS7 => ?_)
  refine lv_aload_n hx hb d_5_16_38 rfl (lv_at hl 1 rfl) ?_
  refine zget (ci := 3) (C := RX3) (T := TX3) (v := .ref (ad 3 l0 (2 + 1))) (k := 2) hx hb hts inW_3 hown hK hZ7 g1.1 g1.2 rfl (by decide) k_1_110 rfl d_5_16_39 ?_
  refine lv_iload_n hx hb d_5_16_42 rfl (lv_at hl 0 rfl) ?_
  refine lv_iconst (v := iI 0) hx hb d_5_16_43 rfl ?_
  refine zast (ci := 3) (k := 2) hx hb hK rfl hZ7 hS7 g1.1 g1.2 rfl (Nat.le_of_ble_eq_true rfl) g4.1 g4.2 d_5_16_44 (fun H8 locs8 hZ8 hS8 => ?_)
  refine lv_aload_n hx hb d_5_16_45 rfl (lv_at hl 1 rfl) ?_
  refine zget (ci := 3) (C := RX3) (T := TX3) (v := .ref (ad 3 l0 (3 + 1))) (k := 3) hx hb hts inW_3 hown hK hZ8 g1.1 g1.2 rfl (by decide) k_1_112 rfl d_5_16_46 ?_
  refine lv_iload_n hx hb d_5_16_49 rfl (lv_at hl 0 rfl) ?_
  refine lv_iconst (v := iI (-1)) hx hb d_5_16_50 rfl ?_
  refine zast (ci := 3) (k := 3) hx hb hK rfl hZ8 hS8 g1.1 g1.2 rfl (Nat.le_of_ble_eq_true rfl) g4.1 g4.2 d_5_16_51 (fun H9 locs9 hZ9 hS9 => ?_)
  refine lv_aload_n hx hb d_5_16_52 rfl (lv_at hl 1 rfl) ?_
  refine zget (ci := 3) (C := RX3) (T := TX3) (v := .ref (ad 3 l0 (4 + 1))) (k := 4) hx hb hts inW_3 hown hK hZ9 g1.1 g1.2 rfl (by decide) k_1_114 rfl d_5_16_53 ?_
  refine lv_iload_n hx hb d_5_16_56 rfl (lv_at hl 0 rfl) ?_
  refine lv_iconst (v := iI (-1)) hx hb d_5_16_57 rfl ?_
  refine zast (ci := 3) (k := 4) hx hb hK rfl hZ9 hS9 g1.1 g1.2 rfl (Nat.le_of_ble_eq_true rfl) g4.1 g4.2 d_5_16_58 (fun H10 locs10 hZ10 hS10 => ?_)
  refine lv_aload_n hx hb d_5_16_59 rfl (lv_at hl 1 rfl) ?_
  refine zget (ci := 3) (C := RX3) (T := TX3) (v := .ref (ad 3 l0 (5 + 1))) (k := 5) hx hb hts inW_3 hown hK hZ10 g1.1 g1.2 rfl (by decide) k_1_116 rfl d_5_16_60 ?_
  refine lv_iload_n hx hb d_5_16_63 rfl (lv_at hl 0 rfl) ?_
  refine lv_iconst (v := iI (-1)) hx hb d_5_16_64 rfl ?_
  refine zast (ci := 3) (k := 5) hx hb hK rfl hZ10 hS10 g1.1 g1.2 rfl (Nat.le_of_ble_eq_true rfl) g4.1 g4.2 d_5_16_65 (fun H11 locs11 hZ11 hS11 => ?_)
  refine lv_aload_n hx hb d_5_16_66 rfl (lv_at hl 1 rfl) ?_
  refine zget (ci := 3) (C := RX3) (T := TX3) (v := .ref (ad 3 l0 (6 + 1))) (k := 6) hx hb hts inW_3 hown hK hZ11 g1.1 g1.2 rfl (by decide) k_1_118 rfl d_5_16_67 ?_
  refine lv_iload_n hx hb d_5_16_70 rfl (lv_at hl 0 rfl) ?_
  refine lv_iconst (v := iI 0) hx hb d_5_16_71 rfl ?_
  refine zast (ci := 3) (k := 6) hx hb hK rfl hZ11 hS11 g1.1 g1.2 rfl (Nat.le_of_ble_eq_true rfl) g4.1 g4.2 d_5_16_72 (fun H12 locs12 hZ12 hS12 => ?_)
  refine lv_aload_n hx hb d_5_16_73 rfl (lv_at hl 1 rfl) ?_
  refine zget (ci := 3) (C := RX3) (T := TX3) (v := .ref (ad 3 l0 (7 + 1))) (k := 7) hx hb hts inW_3 hown hK hZ12 g1.1 g1.2 rfl (by decide) k_1_120 rfl d_5_16_74 ?_
  refine lv_iload_n hx hb d_5_16_77 rfl (lv_at hl 0 rfl) ?_
  refine lv_iconst (v := iI 0) hx hb d_5_16_78 rfl ?_
  refine zast (ci := 3) (k := 7) hx hb hK rfl hZ12 hS12 g1.1 g1.2 rfl (Nat.le_of_ble_eq_true rfl) g4.1 g4.2 d_5_16_79 (fun H13 locs13 hZ13 hS13 => ?_)
  refine lv_iload_n hx hb d_5_16_80 rfl (lv_at hl 0 rfl) ?_
  cases hf
  exact W.iret hx hb hr (fun t ht hW => ⟨⟨_, (), rfl, rfl, by rw [ht]; exact hZ13, va_K.moved hW.alike hK⟩, hS13.F ht⟩) hS13.2.2 d_5_16_81 hlk

noncomputable abbrev Q_Parser_indexOf (K : zK) (D : va_G) (ca : Nat → ClassId) (ad : Nat → Int → Nat → Nat) (L : List Nat) (r : Int) (F : zF) (B : zB) (A : Nat → Prop) : Array Value → State → Outcome → State → Prop := va_Qi (S := Unit) (fun p _ => p = iI r) (fun _ => zPo D ca ad lnC K.2 L F B A) A
noncomputable def f_Parser_indexOf_2 (K : zK) : Nat → Int → Nat → Int → zF → zB → zO
  | 0, _, _, _, _, _ => none
  | n + 1, l3, l0, l1, F, B => if l0 < staL.length then if r32 l3 then if r32 (ztl l0) then (if (ztl l0) ≤ l3 then some ((-1), F, B) else if (zta l0).2.2.2.1 = true then if 0 ≤ l3 ∧ l3 < ztl l0 then if r64 (ztv l0 l3) then if r64 l1 then (if (zcmp (ztv l0 l3) l1) = 0 then some (l3, F, B) else f_Parser_indexOf_2 K n (l3 + 1) l0 l1 F B) else none else none else none else none) else none else none else none
set_option maxHeartbeats 4000000 in
set_option maxRecDepth 100000 in
theorem b_Parser_indexOf_2 {D : va_G} {ca : Nat → ClassId} {ad : Nat → Int → Nat → Nat} {L : List Nat} {aS vS : Nat → Nat} {A : Nat → Prop} {p : Program} {l : Launch} {e : Env} {s : State} {m : MethodId} {args : Array Value} {below : List Frame} {meth : Method} {c : Code} {K : zK} {r : Int} {F9 : zF} {B9 : zB} (X : zX D ca L aS vS A p s m args meth c prog_5_method_13_code 4 (Option.some Jvm.ClassFile.FieldType.int) "StaveHouse$Parser") : ∀ {n : Nat} {l3 : Int} {l0 : Nat} {l1 : Int} {F : zF} {B : zB} {H : Heap} {locs : List Loc} {ls : Array Slot}, f_Parser_indexOf_2 K n l3 l0 l1 F B = some (r, F9, B9) → zH D ca ad lnC K.2 L F B A H → va_S A s.heap H locs → lv_has ls 4 [(3, .int (iI l3)), (0, .ref (vS (1000 + l0))), (1, .long (lI l1))] → W p l e ({ frames := 0, cells := 0, slots := 0, locals := 0 } : Room) s m args below meth c H locs 0 0 (MQ below (Q_Parser_indexOf K D ca ad L r F9 B9 A) args s 0 0 A) (F0 m 2 ls []) := by
  obtain ⟨hx, hb, hr, hml, hown, hts, hlk, hK, hA, hL, hX⟩ := id X
  intro n
  induction n with
  | zero =>
    intros
    rename_i hf _ _ _
    cases hf
  | succ n ih =>
    intro l3 l0 l1 F B H locs ls hf hZ hS hl
    replace hf : (if l0 < staL.length then if r32 l3 then if r32 (ztl l0) then (if (ztl l0) ≤ l3 then some ((-1), F, B) else if (zta l0).2.2.2.1 = true then if 0 ≤ l3 ∧ l3 < ztl l0 then if r64 (ztv l0 l3) then if r64 l1 then (if (zcmp (ztv l0 l3) l1) = 0 then some (l3, F, B) else f_Parser_indexOf_2 K n (l3 + 1) l0 l1 F B) else none else none else none else none) else none else none else none) = some (r, F9, B9) := hf
    refine lv_iload_n hx hb d_5_13_2 rfl (lv_at hl 0 rfl) ?_
    refine lv_aload_n hx hb d_5_13_3 rfl (lv_at hl 1 rfl) ?_
    obtain ⟨g1, hf⟩ := gif hf
    refine va_tlen (v := iI (ztl l0)) hx hb (ztT hX g1) hS (ztl_n _) d_5_13_4 ?_
    obtain ⟨g2, hf⟩ := gif hf
    obtain ⟨g3, hf⟩ := gif hf
    refine zge (tgt := 24) hx hb g2 g3 d_5_13_5 (by decide) (fun h4 => ?_) (fun h4 => ?_)
    · replace hf := gpos hf h4
      refine lv_iconst (v := iI (-1)) hx hb d_5_13_24 rfl ?_
      cases hf
      exact W.iret hx hb hr (fun t ht hW => ⟨⟨_, (), rfl, rfl, by rw [ht]; exact hZ, va_K.moved hW.alike hK⟩, hS.F ht⟩) hS.2.2 d_5_13_25 hlk
    · replace hf := gneg hf h4
      refine lv_aload_n hx hb d_5_13_8 rfl (lv_at hl 1 rfl) ?_
      refine lv_iload_n hx hb d_5_13_9 rfl (lv_at hl 0 rfl) ?_
      obtain ⟨g5, hf⟩ := gif hf
      obtain ⟨g6, hf⟩ := gif hf
      refine va_tl (v := .long (lI (ztv l0 l3))) hx hb (ztL hX g1 g5) hS (zt_in g1 g6) (ztL_v g1 g6) d_5_13_10 ?_
      refine lv_lload_n hx hb d_5_13_11 rfl (lv_at hl 2 rfl) ?_
      obtain ⟨g7, hf⟩ := gif hf
      obtain ⟨g8, hf⟩ := gif hf
      refine zcmp_r hx hb g7 g8 d_5_13_12 ?_
      refine z0ne (tgt := 18) hx hb zcmp_32 d_5_13_13 (by decide) (fun h9 => ?_) (fun h9 => ?_)
      · replace hf := gneg hf h9
        refine lv_iinc (v := iI (l3 + 1)) (lv' := [(3, .int (iI (l3 + 1))), (0, .ref (vS (1000 + l0))), (1, .long (lI l1))]) hx hb d_5_13_18 hl (k := 0) rfl (iI_add _ 1) (by decide) rfl (fun ls hl => ?_)
        refine lv_goto (tgt := 2) hx hb d_5_13_21 (by decide) ?_
        exact ih hf hZ hS (lv_sub hl [0, 1, 2] rfl)
      · replace hf := gpos hf h9
        refine lv_iload_n hx hb d_5_13_16 rfl (lv_at hl 0 rfl) ?_
        cases hf
        exact W.iret hx hb hr (fun t ht hW => ⟨⟨_, (), rfl, rfl, by rw [ht]; exact hZ, va_K.moved hW.alike hK⟩, hS.F ht⟩) hS.2.2 d_5_13_17 hlk

noncomputable def f_Parser_indexOf (K : zK) (l0 : Nat) (l1 : Int) (F : zF) (B : zB) : zO := f_Parser_indexOf_2 K K.1 0 l0 l1 F B
set_option maxHeartbeats 4000000 in
set_option maxRecDepth 100000 in
theorem c_Parser_indexOf {l : Launch} {D : va_G} {ca : Nat → ClassId} {ad : Nat → Int → Nat → Nat} {L : List Nat} {aS vS : Nat → Nat} {sz : Nat} {K : zK}  {l0 : Nat} {l1 : Int} {F F9 : zF} {B B9 : zB} {r : Int} (hf : f_Parser_indexOf K l0 l1 F B = some (r, F9, B9)) : Met l ({ cls := "StaveHouse$Parser", name := "indexOf", desc := "([JJ)I" } : Jvm.MethodName) (Cond.code ({ cls := "StaveHouse$Parser", name := "indexOf", desc := "([JJ)I" } : Jvm.MethodName) prog_5_method_13_code 4 (Option.some Jvm.ClassFile.FieldType.int) :: wAll) ({ frames := 0, cells := 0, slots := 0, locals := 0 } : Room) (va_Pc [.ref (vS (1000 + l0)), .long (lI l1)] (zPre D ca ad lnC K.2 L aS vS F B sz)) (Q_Parser_indexOf K D ca ad L r F9 B9 (zA L sz)) 0 0 (zA L sz) := by
  refine zMet (Qc := Q_Parser_indexOf K D ca ad L r F9 B9) (lv := [(0, .ref (vS (1000 + l0))), (1, .long (lI l1))]) (by decide) (Nat.le_of_ble_eq_true rfl) rfl (fun A p e s m below meth c ls X hZ hS hl => ?_)
  obtain ⟨hx, hb, hr, hml, hown, hts, hlk, hK, hA, hL, hX⟩ := id X
  replace hf : (f_Parser_indexOf_2 K K.1 0 l0 l1 F B) = some (r, F9, B9) := hf
  refine lv_iconst (v := iI 0) hx hb d_5_13_0 rfl ?_
  refine lv_istore_n (lv' := [(3, .int (iI 0)), (0, .ref (vS (1000 + l0))), (1, .long (lI l1))]) hx hb d_5_13_1 rfl hl (by decide) rfl (fun ls hl => ?_)
  exact b_Parser_indexOf_2 X hf hZ hS (lv_sub hl [0, 1, 2] rfl)

noncomputable abbrev Q_Parser_refuse (K : zK) (D : va_G) (ca : Nat → ClassId) (ad : Nat → Int → Nat → Nat) (L : List Nat) (r : Int) (F : zF) (B : zB) (A : Nat → Prop) : Array Value → State → Outcome → State → Prop := va_Qi (S := Unit) (fun p _ => p = iI r) (fun _ => zPo D ca ad lnC K.2 L F B A) A
noncomputable def f_Parser_refuse_17 (K : zK) (l0 : Int) (s0 : Int) (s1 : Int) (F : zF) (B : zB) : zO := if 0 ≤ l0 ∧ l0 < K.2 3 then if 0 ≤ (F 3 l0 11) ∧ (F 3 l0 11) < K.2 10 then if 0 ≤ s0 ∧ s0 < K.2 3 then some (0, (zup3 F 3 s0 21 (s1 + (16 * (F 10 (F 3 l0 11) 1)))), B) else none else none else none
