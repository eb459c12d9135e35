set_option maxHeartbeats 4000000 in
set_option maxRecDepth 100000 in
theorem b_S_strengthBetween_44 {D : va_G} {ca : Nat → ClassId} {ad : Nat → Int → Nat → Nat} {L : List Nat} {aS vS : Nat → Nat} {A : Nat → Prop} {p : Program} {l : Launch} {e : Env} {s : State} {m : MethodId} {args : Array Value} {below : List Frame} {meth : Method} {c : Code} {K : zK} {r : Int} {F9 : zF} {B9 : zB} (X : zX D ca L aS vS A p s m args meth c prog_1_method_44_code 7 (Option.some Jvm.ClassFile.FieldType.int) "StaveHouse") : ∀ {n : Nat} {l5 : Int} {l2 : Int} {l3 : Int} {l4 : Int} {F : zF} {B : zB} {H : Heap} {locs : List Loc} {ls : Array Slot}, f_S_strengthBetween_44 K n l5 l2 l3 l4 F B = some (r, F9, B9) → zH D ca ad lnC K.2 L F B A H → va_S A s.heap H locs → lv_has ls 7 [(5, .int (iI l5)), (2, .int (iI l2)), (3, .int (iI l3)), (4, .int (iI l4))] → W p l e ({ frames := 0, cells := 0, slots := 0, locals := 0 } : Room) s m args below meth c H locs 0 0 (MQ below (Q_S_strengthBetween K D ca ad L r F9 B9 A) args s 0 0 A) (F0 m 44 ls []) := by
  obtain ⟨hx, hb, hr, hml, hown, hts, hlk, hK, hA, hL, hX⟩ := id X
  intro n
  induction n with
  | zero =>
    intros
    rename_i hf _ _ _
    cases hf
  | succ n ih =>
    intro l5 l2 l3 l4 F B H locs ls hf hZ hS hl
    replace hf : (if r32 l5 then (if 5 ≤ l5 then some (1, F, B) else if ¬ iI (zshr l2 l5) = 0 then if r32 ((zdv (l4 - 1) (zshr l2 l5)) * (zshr l2 l5)) then if r32 l3 then (if ((zdv (l4 - 1) (zshr l2 l5)) * (zshr l2 l5)) ≤ l3 then f_S_strengthBetween_44 K n (l5 + 1) l2 l3 l4 F B else some (6 - l5, F, B)) else none else none else none) else none) = some (r, F9, B9) := hf
    refine lv_iload hx hb d_1_44_44 (lv_at hl 0 rfl) ?_
    refine lv_iconst (v := iI 5) hx hb d_1_44_46 rfl ?_
    obtain ⟨g13, hf⟩ := gif hf
    refine zge (tgt := 82) hx hb g13 (by decide) d_1_44_47 (by decide) (fun h14 => ?_) (fun h14 => ?_)
    · replace hf := gpos hf h14
      refine lv_iconst (v := iI 1) hx hb d_1_44_82 rfl ?_
      cases hf
      exact W.iret hx hb hr (fun t ht hW => ⟨⟨_, (), rfl, rfl, by rw [ht]; exact hZ, va_K.moved hW.alike hK⟩, hS.F ht⟩) hS.2.2 d_1_44_83 hlk
    · replace hf := gneg hf h14
      refine lv_iload_n hx hb d_1_44_50 rfl (lv_at hl 1 rfl) ?_
      refine lv_iload hx hb d_1_44_51 (lv_at hl 0 rfl) ?_
      refine zshr_r hx hb d_1_44_53 ?_
      refine lv_istore (lv' := [(6, .int (iI (zshr l2 l5))), (5, .int (iI l5)), (2, .int (iI l2)), (3, .int (iI l3)), (4, .int (iI l4))]) hx hb d_1_44_54 hl (by decide) rfl (fun ls hl => ?_)
      refine lv_iload hx hb d_1_44_56 (lv_at hl 4 rfl) ?_
      refine lv_iconst (v := iI 1) hx hb d_1_44_58 rfl ?_
      refine zsub hx hb d_1_44_59 ?_
      refine lv_iload hx hb d_1_44_60 (lv_at hl 0 rfl) ?_
      obtain ⟨g15, hf⟩ := gif hf
      refine zdv_r hx hb g15 d_1_44_62 ?_
      refine lv_iload hx hb d_1_44_63 (lv_at hl 0 rfl) ?_
      refine zmul hx hb d_1_44_65 ?_
      refine lv_iload_n hx hb d_1_44_66 rfl (lv_at hl 3 rfl) ?_
      obtain ⟨g16, hf⟩ := gif hf
      obtain ⟨g17, hf⟩ := gif hf
      refine zle (tgt := 76) hx hb g16 g17 d_1_44_67 (by decide) (fun h18 => ?_) (fun h18 => ?_)
      · replace hf := gpos hf h18
        refine lv_iinc (v := iI (l5 + 1)) (lv' := [(5, .int (iI (l5 + 1))), (6, .int (iI (zshr l2 l5))), (2, .int (iI l2)), (3, .int (iI l3)), (4, .int (iI l4))]) hx hb d_1_44_76 hl (k := 1) rfl (iI_add _ 1) (by decide) rfl (fun ls hl => ?_)
        refine lv_goto (tgt := 44) hx hb d_1_44_79 (by decide) ?_
        exact ih hf hZ hS (lv_sub hl [0, 2, 3, 4] rfl)
      · replace hf := gneg hf h18
        refine lv_bipush (v := iI 6) hx hb d_1_44_70 (by decide) ?_
        refine lv_iload hx hb d_1_44_72 (lv_at hl 1 rfl) ?_
        refine zsub hx hb d_1_44_74 ?_
        cases hf
        exact W.iret hx hb hr (fun t ht hW => ⟨⟨_, (), rfl, rfl, by rw [ht]; exact hZ, va_K.moved hW.alike hK⟩, hS.F ht⟩) hS.2.2 d_1_44_75 hlk

noncomputable def f_S_strengthBetween_26 (K : zK) (l1 : Int) (l2 : Int) (l3 : Int) (l4 : Int) (F : zF) (B : zB) : zO := if ¬ iI l1 = 0 then if r32 ((zdv (l4 - 1) l1) * l1) then if r32 l3 then (if ((zdv (l4 - 1) l1) * l1) ≤ l3 then f_S_strengthBetween_44 K K.1 0 l2 l3 l4 F B else some (7, F, B)) else none else none else none
set_option maxHeartbeats 4000000 in
set_option maxRecDepth 100000 in
theorem b_S_strengthBetween_26 {D : va_G} {ca : Nat → ClassId} {ad : Nat → Int → Nat → Nat} {L : List Nat} {aS vS : Nat → Nat} {A : Nat → Prop} {p : Program} {l : Launch} {e : Env} {s : State} {m : MethodId} {args : Array Value} {below : List Frame} {meth : Method} {c : Code} {K : zK} {r : Int} {F9 : zF} {B9 : zB} (X : zX D ca L aS vS A p s m args meth c prog_1_method_44_code 7 (Option.some Jvm.ClassFile.FieldType.int) "StaveHouse") {l1 : Int} {l2 : Int} {l3 : Int} {l4 : Int} {F : zF} {B : zB} {H : Heap} {locs : List Loc} {ls : Array Slot} (hf : f_S_strengthBetween_26 K l1 l2 l3 l4 F B = some (r, F9, B9)) (hZ : zH D ca ad lnC K.2 L F B A H) (hS : va_S A s.heap H locs) (hl : lv_has ls 7 [(1, .int (iI l1)), (2, .int (iI l2)), (3, .int (iI l3)), (4, .int (iI l4))]) : W p l e ({ frames := 0, cells := 0, slots := 0, locals := 0 } : Room) s m args below meth c H locs 0 0 (MQ below (Q_S_strengthBetween K D ca ad L r F9 B9 A) args s 0 0 A) (F0 m 26 ls []) := by
  obtain ⟨hx, hb, hr, hml, hown, hts, hlk, hK, hA, hL, hX⟩ := id X
  replace hf : (if ¬ iI l1 = 0 then if r32 ((zdv (l4 - 1) l1) * l1) then if r32 l3 then (if ((zdv (l4 - 1) l1) * l1) ≤ l3 then f_S_strengthBetween_44 K K.1 0 l2 l3 l4 F B else some (7, F, B)) else none else none else none) = some (r, F9, B9) := hf
  refine lv_iload hx hb d_1_44_26 (lv_at hl 3 rfl) ?_
  refine lv_iconst (v := iI 1) hx hb d_1_44_28 rfl ?_
  refine zsub hx hb d_1_44_29 ?_
  refine lv_iload_n hx hb d_1_44_30 rfl (lv_at hl 0 rfl) ?_
  obtain ⟨g9, hf⟩ := gif hf
  refine zdv_r hx hb g9 d_1_44_31 ?_
  refine lv_iload_n hx hb d_1_44_32 rfl (lv_at hl 0 rfl) ?_
  refine zmul hx hb d_1_44_33 ?_
  refine lv_iload_n hx hb d_1_44_34 rfl (lv_at hl 2 rfl) ?_
  obtain ⟨g10, hf⟩ := gif hf
  obtain ⟨g11, hf⟩ := gif hf
  refine zle (tgt := 41) hx hb g10 g11 d_1_44_35 (by decide) (fun h12 => ?_) (fun h12 => ?_)
  · replace hf := gpos hf h12
    refine lv_iconst (v := iI 0) hx hb d_1_44_41 rfl ?_
    refine lv_istore (lv' := [(5, .int (iI 0)), (1, .int (iI l1)), (2, .int (iI l2)), (3, .int (iI l3)), (4, .int (iI l4))]) hx hb d_1_44_42 hl (by decide) rfl (fun ls hl => ?_)
    exact b_S_strengthBetween_44 X hf hZ hS (lv_sub hl [0, 2, 3, 4] rfl)
  · replace hf := gneg hf h12
    refine lv_bipush (v := iI 7) hx hb d_1_44_38 (by decide) ?_
    cases hf
    exact W.iret hx hb hr (fun t ht hW => ⟨⟨_, (), rfl, rfl, by rw [ht]; exact hZ, va_K.moved hW.alike hK⟩, hS.F ht⟩) hS.2.2 d_1_44_40 hlk

noncomputable def f_S_strengthBetween (K : zK) (l0 : Int) (l1 : Int) (l2 : Int) (l3 : Int) (l4 : Int) (F : zF) (B : zB) : zO := if ¬ iI (2 * l2) = 0 then if r32 (zrm l0 (2 * l2)) then (if (zrm l0 (2 * l2)) = 0 then if r32 (2 * l3) then if r32 l0 then (if l0 ≤ (2 * l3) then f_S_strengthBetween_26 K l1 l2 l3 l4 F B else if r32 (2 * l4) then (if (2 * l4) ≤ l0 then f_S_strengthBetween_26 K l1 l2 l3 l4 F B else some (8, F, B)) else none) else none else none else f_S_strengthBetween_26 K l1 l2 l3 l4 F B) else none else none
set_option maxHeartbeats 4000000 in
set_option maxRecDepth 100000 in
theorem c_S_strengthBetween {l : Launch} {D : va_G} {ca : Nat → ClassId} {ad : Nat → Int → Nat → Nat} {L : List Nat} {aS vS : Nat → Nat} {sz : Nat} {K : zK}  {l0 : Int} {l1 : Int} {l2 : Int} {l3 : Int} {l4 : Int} {F F9 : zF} {B B9 : zB} {r : Int} (hf : f_S_strengthBetween K l0 l1 l2 l3 l4 F B = some (r, F9, B9)) : Met l ({ cls := "StaveHouse", name := "strengthBetween", desc := "(IIIII)I" } : Jvm.MethodName) (Cond.code ({ cls := "StaveHouse", name := "strengthBetween", desc := "(IIIII)I" } : Jvm.MethodName) prog_1_method_44_code 7 (Option.some Jvm.ClassFile.FieldType.int) :: wAll) ({ frames := 0, cells := 0, slots := 0, locals := 0 } : Room) (va_Pc [.int (iI l0), .int (iI l1), .int (iI l2), .int (iI l3), .int (iI l4)] (zPre D ca ad lnC K.2 L aS vS F B sz)) (Q_S_strengthBetween K D ca ad L r F9 B9 (zA L sz)) 0 0 (zA L sz) := by
  refine zMet (Qc := Q_S_strengthBetween K D ca ad L r F9 B9) (lv := [(0, .int (iI l0)), (1, .int (iI l1)), (2, .int (iI l2)), (3, .int (iI l3)), (4, .int (iI l4))]) (by decide) (Nat.le_of_ble_eq_true rfl) rfl (fun A p e s m below meth c ls X hZ hS hl => ?_)
  obtain ⟨hx, hb, hr, hml, hown, hts, hlk, hK, hA, hL, hX⟩ := id X
  replace hf : (if ¬ iI (2 * l2) = 0 then if r32 (zrm l0 (2 * l2)) then (if (zrm l0 (2 * l2)) = 0 then if r32 (2 * l3) then if r32 l0 then (if l0 ≤ (2 * l3) then f_S_strengthBetween_26 K l1 l2 l3 l4 F B else if r32 (2 * l4) then (if (2 * l4) ≤ l0 then f_S_strengthBetween_26 K l1 l2 l3 l4 F B else some (8, F, B)) else none) else none else none else f_S_strengthBetween_26 K l1 l2 l3 l4 F B) else none else none) = some (r, F9, B9) := hf
  refine lv_iload_n hx hb d_1_44_0 rfl (lv_at hl 0 rfl) ?_
  refine lv_iconst (v := iI 2) hx hb d_1_44_1 rfl ?_
  refine lv_iload_n hx hb d_1_44_2 rfl (lv_at hl 2 rfl) ?_
  refine zmul hx hb d_1_44_3 ?_
  obtain ⟨g1, hf⟩ := gif hf
  refine zrm_r hx hb g1 d_1_44_4 ?_
  obtain ⟨g2, hf⟩ := gif hf
  refine z0ne (tgt := 26) hx hb g2 d_1_44_5 (by decide) (fun h3 => ?_) (fun h3 => ?_)
  · replace hf := gneg hf h3
    exact b_S_strengthBetween_26 X hf hZ hS (lv_sub hl [1, 2, 3, 4] rfl)
  · replace hf := gpos hf h3
    refine lv_iconst (v := iI 2) hx hb d_1_44_8 rfl ?_
    refine lv_iload_n hx hb d_1_44_9 rfl (lv_at hl 3 rfl) ?_
    refine zmul hx hb d_1_44_10 ?_
    refine lv_iload_n hx hb d_1_44_11 rfl (lv_at hl 0 rfl) ?_
    obtain ⟨g4, hf⟩ := gif hf
    obtain ⟨g5, hf⟩ := gif hf
    refine zge (tgt := 26) hx hb g4 g5 d_1_44_12 (by decide) (fun h6 => ?_) (fun h6 => ?_)
    · replace hf := gpos hf h6
      exact b_S_strengthBetween_26 X hf hZ hS (lv_sub hl [1, 2, 3, 4] rfl)
    · replace hf := gneg hf h6
      refine lv_iload_n hx hb d_1_44_15 rfl (lv_at hl 0 rfl) ?_
      refine lv_iconst (v := iI 2) hx hb d_1_44_16 rfl ?_
      refine lv_iload hx hb d_1_44_17 (lv_at hl 4 rfl) ?_
      refine zmul hx hb d_1_44_19 ?_
      obtain ⟨g7, hf⟩ := gif hf
      refine zge (tgt := 26) hx hb g5 g7 d_1_44_20 (by decide) (fun h8 => ?_) (fun h8 => ?_)
      · replace hf := gpos hf h8
        exact b_S_strengthBetween_26 X hf hZ hS (lv_sub hl [1, 2, 3, 4] rfl)
      · replace hf := gneg hf h8
        refine lv_bipush (v := iI 8) hx hb d_1_44_23 (by decide) ?_
        cases hf
        exact W.iret hx hb hr (fun t ht hW => ⟨⟨_, (), rfl, rfl, by rw [ht]; exact hZ, va_K.moved hW.alike hK⟩, hS.F ht⟩) hS.2.2 d_1_44_25 hlk

noncomputable abbrev Q_Part_isRestNote (K : zK) (D : va_G) (ca : Nat → ClassId) (ad : Nat → Int → Nat → Nat) (L : List Nat) (r : Int) (F : zF) (B : zB) (A : Nat → Prop) : Array Value → State → Outcome → State → Prop := va_Qi (S := Unit) (fun p _ => p = iI r) (fun _ => zPo D ca ad lnC K.2 L F B A) A
noncomputable def f_Part_isRestNote_38 (K : zK) (s0 : Int) (F : zF) (B : zB) : zO := if (s0 = 0 ∨ s0 = 1) then some (s0, F, B) else none
set_option maxHeartbeats 4000000 in
set_option maxRecDepth 100000 in
theorem b_Part_isRestNote_38 {D : va_G} {ca : Nat → ClassId} {ad : Nat → Int → Nat → Nat} {L : List Nat} {aS vS : Nat → Nat} {A : Nat → Prop} {p : Program} {l : Launch} {e : Env} {s : State} {m : MethodId} {args : Array Value} {below : List Frame} {meth : Method} {c : Code} {K : zK} {r : Int} {F9 : zF} {B9 : zB} (X : zX D ca L aS vS A p s m args meth c prog_6_method_14_code 3 (Option.some Jvm.ClassFile.FieldType.boolean) "StaveHouse$Part") {s0 : Int} {F : zF} {B : zB} {H : Heap} {locs : List Loc} {ls : Array Slot} (hf : f_Part_isRestNote_38 K s0 F B = some (r, F9, B9)) (hZ : zH D ca ad lnC K.2 L F B A H) (hS : va_S A s.heap H locs) (hl : lv_has ls 3 []) : W p l e ({ frames := 0, cells := 0, slots := 0, locals := 0 } : Room) s m args below meth c H locs 0 0 (MQ below (Q_Part_isRestNote K D ca ad L r F9 B9 A) args s 0 0 A) (F0 m 38 ls [.int (iI s0)]) := by
  obtain ⟨hx, hb, hr, hml, hown, hts, hlk, hK, hA, hL, hX⟩ := id X
  replace hf : (if (s0 = 0 ∨ s0 = 1) then some (s0, F, B) else none) = some (r, F9, B9) := hf
  obtain ⟨g11, hf⟩ := gif hf
  cases hf
  exact W.zret hx hb hr (zbool g11) (fun t ht hW => ⟨⟨_, (), rfl, rfl, by rw [ht]; exact hZ, va_K.moved hW.alike hK⟩, hS.F ht⟩) hS.2.2 d_6_14_38 hlk

noncomputable def f_Part_isRestNote_33 (K : zK)  (F : zF) (B : zB) : zO := f_Part_isRestNote_38 K 1 F B
set_option maxHeartbeats 4000000 in
set_option maxRecDepth 100000 in
theorem b_Part_isRestNote_33 {D : va_G} {ca : Nat → ClassId} {ad : Nat → Int → Nat → Nat} {L : List Nat} {aS vS : Nat → Nat} {A : Nat → Prop} {p : Program} {l : Launch} {e : Env} {s : State} {m : MethodId} {args : Array Value} {below : List Frame} {meth : Method} {c : Code} {K : zK} {r : Int} {F9 : zF} {B9 : zB} (X : zX D ca L aS vS A p s m args meth c prog_6_method_14_code 3 (Option.some Jvm.ClassFile.FieldType.boolean) "StaveHouse$Part")  {F : zF} {B : zB} {H : Heap} {locs : List Loc} {ls : Array Slot} (hf : f_Part_isRestNote_33 K  F B = some (r, F9, B9)) (hZ : zH D ca ad lnC K.2 L F B A H) (hS : va_S A s.heap H locs) (hl : lv_has ls 3 []) : W p l e ({ frames := 0, cells := 0, slots := 0, locals := 0 } : Room) s m args below meth c H locs 0 0 (MQ below (Q_Part_isRestNote K D ca ad L r F9 B9 A) args s 0 0 A) (F0 m 33 ls []) := by
  obtain ⟨hx, hb, hr, hml, hown, hts, hlk, hK, hA, hL, hX⟩ := id X
  replace hf : (f_Part_isRestNote_38 K 1 F B) = some (r, F9, B9) := hf
  refine lv_iconst (v := iI 1) hx hb d_6_14_33 rfl ?_
  refine lv_goto (tgt := 38) hx hb d_6_14_34 (by decide) ?_
  exact b_Part_isRestNote_38 X hf hZ hS (lv_sub hl [] rfl)

noncomputable def f_Part_isRestNote (K : zK) (l0 : Int) (l1 : Int) (F : zF) (B : zB) : zO := if 0 ≤ l0 ∧ l0 < K.2 4 then if 0 ≤ l1 ∧ l1 < 800 then if r32 (B 4 l0 360 l1) then (if (B 4 l0 360 l1) < 0 then f_Part_isRestNote_33 K F B else if r32 (F 4 l0 6) then (if (F 4 l0 6) ≤ (B 4 l0 360 l1) then f_Part_isRestNote_33 K F B else if 0 ≤ (B 4 l0 360 l1) ∧ (B 4 l0 360 l1) < 200 then if 0 ≤ (B 4 l0 5 (B 4 l0 360 l1)) ∧ (B 4 l0 5 (B 4 l0 360 l1)) < K.2 1 then if r32 (F 1 (B 4 l0 5 (B 4 l0 360 l1)) 10) then (if (F 1 (B 4 l0 5 (B 4 l0 360 l1)) 10) = 0 then f_Part_isRestNote_33 K F B else f_Part_isRestNote_38 K 0 F B) else none else none else none) else none) else none else none else none
set_option maxHeartbeats 4000000 in
set_option maxRecDepth 100000 in
theorem c_Part_isRestNote {l : Launch} {D : va_G} {ca : Nat → ClassId} {ad : Nat → Int → Nat → Nat} {L : List Nat} {aS vS : Nat → Nat} {sz : Nat} {K : zK}  {l0 : Int} {l1 : Int} {F F9 : zF} {B B9 : zB} {r : Int} (hf : f_Part_isRestNote K l0 l1 F B = some (r, F9, B9)) : Met l ({ cls := "StaveHouse$Part", name := "isRestNote", desc := "(I)Z" } : Jvm.MethodName) (Cond.code ({ cls := "StaveHouse$Part", name := "isRestNote", desc := "(I)Z" } : Jvm.MethodName) prog_6_method_14_code 3 (Option.some Jvm.ClassFile.FieldType.boolean) :: wAll) ({ frames := 0, cells := 0, slots := 0, locals := 0 } : Room) (va_Pc [.ref (ad 4 l0 0), .int (iI l1)] (zPre D ca ad lnC K.2 L aS vS F B sz)) (Q_Part_isRestNote K D ca ad L r F9 B9 (zA L sz)) 0 0 (zA L sz) := by
  refine zMet (Qc := Q_Part_isRestNote K D ca ad L r F9 B9) (lv := [(0, .ref (ad 4 l0 0)), (1, .int (iI l1))]) (by decide) (Nat.le_of_ble_eq_true rfl) rfl (fun A p e s m below meth c ls X hZ hS hl => ?_)
  obtain ⟨hx, hb, hr, hml, hown, hts, hlk, hK, hA, hL, hX⟩ := id X
  replace hf : (if 0 ≤ l0 ∧ l0 < K.2 4 then if 0 ≤ l1 ∧ l1 < 800 then if r32 (B 4 l0 360 l1) then (if (B 4 l0 360 l1) < 0 then f_Part_isRestNote_33 K F B else if r32 (F 4 l0 6) then (if (F 4 l0 6) ≤ (B 4 l0 360 l1) then f_Part_isRestNote_33 K F B else if 0 ≤ (B 4 l0 360 l1) ∧ (B 4 l0 360 l1) < 200 then if 0 ≤ (B 4 l0 5 (B 4 l0 360 l1)) ∧ (B 4 l0 5 (B 4 l0 360 l1)) < K.2 1 then if r32 (F 1 (B 4 l0 5 (B 4 l0 360 l1)) 10) then (if (F 1 (B 4 l0 5 (B 4 l0 360 l1)) 10) = 0 then f_Part_isRestNote_33 K F B else f_Part_isRestNote_38 K 0 F B) else none else none else none) else none) else none else none else none) = some (r, F9, B9) := hf
  refine lv_aload_n hx hb d_6_14_0 rfl (lv_at hl 0 rfl) ?_
  obtain ⟨g1, hf⟩ := gif hf
  refine zget (ci := 4) (C := RX4) (T := TX4) (v := .ref (ad 4 l0 (8 + 1))) (k := 8) hx hb hts inW_4 hown hK hZ g1.1 g1.2 rfl (by decide) k_4_142 rfl d_6_14_1 ?_
  refine lv_iconst (v := iI 0) hx hb d_6_14_4 rfl ?_
  refine zaldQ (t := 0) (ci := 4) (k := 8) hx hb hK rfl hZ g1.1 g1.2 rfl (Nat.le_of_ble_eq_true rfl) (by decide) (by decide) d_6_14_5 ?_
  refine W.eq (g2 := F0 m 6 ls [.ref (ad 4 l0 (360 + 1))]) rfl ?_
  refine lv_iload_n hx hb d_6_14_6 rfl (lv_at hl 1 rfl) ?_
  obtain ⟨g2, hf⟩ := gif hf
  refine zald (ci := 4) (k := 360) hx hb hK rfl hZ g1.1 g1.2 rfl (Nat.le_of_ble_eq_true rfl) g2.1 g2.2 d_6_14_7 ?_
  refine lv_istore_n (lv' := [(2, .int (iI (B 4 l0 360 l1))), (0, .ref (ad 4 l0 0)), (1, .int (iI l1))]) hx hb d_6_14_8 rfl hl (by decide) rfl (fun ls hl => ?_)
  refine lv_iload_n hx hb d_6_14_9 rfl (lv_at hl 0 rfl) ?_
  obtain ⟨g3, hf⟩ := gif hf
  refine z0lt (tgt := 33) hx hb g3 d_6_14_10 (by decide) (fun h4 => ?_) (fun h4 => ?_)
  · replace hf := gpos hf h4
    exact b_Part_isRestNote_33 X hf hZ hS (lv_sub hl [] rfl)
  · replace hf := gneg hf h4
    refine lv_iload_n hx hb d_6_14_13 rfl (lv_at hl 0 rfl) ?_
    refine lv_aload_n hx hb d_6_14_14 rfl (lv_at hl 1 rfl) ?_
    refine zget (ci := 4) (C := RX4) (T := TX4) (v := .int (iI (F 4 l0 6))) (k := 6) hx hb hts inW_4 hown hK hZ g1.1 g1.2 rfl (by decide) k_4_135 rfl d_6_14_15 ?_
    obtain ⟨g5, hf⟩ := gif hf
    refine zge (tgt := 33) hx hb g3 g5 d_6_14_18 (by decide) (fun h6 => ?_) (fun h6 => ?_)
    · replace hf := gpos hf h6
      exact b_Part_isRestNote_33 X hf hZ hS (lv_sub hl [] rfl)
    · replace hf := gneg hf h6
      refine lv_aload_n hx hb d_6_14_21 rfl (lv_at hl 1 rfl) ?_
      refine zget (ci := 4) (C := RX4) (T := TX4) (v := .ref (ad 4 l0 (5 + 1))) (k := 5) hx hb hts inW_4 hown hK hZ g1.1 g1.2 rfl (by decide) k_4_130 rfl d_6_14_22 ?_
      refine lv_iload_n hx hb d_6_14_25 rfl (lv_at hl 0 rfl) ?_
      obtain ⟨g7, hf⟩ := gif hf
      refine zaldR (t := 1) (x := 7) (ci := 4) (k := 5) hx hb hK rfl rfl hZ g1.1 g1.2 rfl (Nat.le_of_ble_eq_true rfl) g7.1 g7.2 d_6_14_26 ?_
      obtain ⟨g8, hf⟩ := gif hf
      refine zunrf g8.1 ?_
      refine zget (ci := 1) (C := RX1) (T := TX1) (v := .int (iI (F 1 (B 4 l0 5 (B 4 l0 360 l1)) 10))) (k := 10) hx hb hts inW_1 hown hK hZ g8.1 g8.2 rfl (by decide) k_2_54 rfl d_6_14_27 ?_
      obtain ⟨g9, hf⟩ := gif hf
      refine z0ne (tgt := 37) hx hb g9 d_6_14_30 (by decide) (fun h10 => ?_) (fun h10 => ?_)
      · replace hf := gneg hf h10
        refine lv_iconst (v := iI 0) hx hb d_6_14_37 rfl ?_
        exact b_Part_isRestNote_38 X hf hZ hS (lv_sub hl [] rfl)
      · replace hf := gpos hf h10
        exact b_Part_isRestNote_33 X hf hZ hS (lv_sub hl [] rfl)

noncomputable abbrev Q_Part_continues (K : zK) (D : va_G) (ca : Nat → ClassId) (ad : Nat → Int → Nat → Nat) (L : List Nat) (r : Int) (F : zF) (B : zB) (A : Nat → Prop) : Array Value → State → Outcome → State → Prop := va_Qi (S := Unit) (fun p _ => p = iI r) (fun _ => zPo D ca ad lnC K.2 L F B A) A
noncomputable def f_Part_continues_38 (K : zK) (s0 : Int) (F : zF) (B : zB) : zO := if (s0 = 0 ∨ s0 = 1) then some (s0, F, B) else none
set_option maxHeartbeats 4000000 in
set_option maxRecDepth 100000 in
theorem b_Part_continues_38 {D : va_G} {ca : Nat → ClassId} {ad : Nat → Int → Nat → Nat} {L : List Nat} {aS vS : Nat → Nat} {A : Nat → Prop} {p : Program} {l : Launch} {e : Env} {s : State} {m : MethodId} {args : Array Value} {below : List Frame} {meth : Method} {c : Code} {K : zK} {r : Int} {F9 : zF} {B9 : zB} (X : zX D ca L aS vS A p s m args meth c prog_6_method_15_code 2 (Option.some Jvm.ClassFile.FieldType.boolean) "StaveHouse$Part") {s0 : Int} {F : zF} {B : zB} {H : Heap} {locs : List Loc} {ls : Array Slot} (hf : f_Part_continues_38 K s0 F B = some (r, F9, B9)) (hZ : zH D ca ad lnC K.2 L F B A H) (hS : va_S A s.heap H locs) (hl : lv_has ls 2 []) : W p l e ({ frames := 0, cells := 0, slots := 0, locals := 0 } : Room) s m args below meth c H locs 0 0 (MQ below (Q_Part_continues K D ca ad L r F9 B9 A) args s 0 0 A) (F0 m 38 ls [.int (iI s0)]) := by
  obtain ⟨hx, hb, hr, hml, hown, hts, hlk, hK, hA, hL, hX⟩ := id X
  replace hf : (if (s0 = 0 ∨ s0 = 1) then some (s0, F, B) else none) = some (r, F9, B9) := hf
  obtain ⟨g11, hf⟩ := gif hf
  cases hf
  exact W.zret hx hb hr (zbool g11) (fun t ht hW => ⟨⟨_, (), rfl, rfl, by rw [ht]; exact hZ, va_K.moved hW.alike hK⟩, hS.F ht⟩) hS.2.2 d_6_15_38 hlk

noncomputable def f_Part_continues_37 (K : zK)  (F : zF) (B : zB) : zO := f_Part_continues_38 K 0 F B
set_option maxHeartbeats 4000000 in
set_option maxRecDepth 100000 in
theorem b_Part_continues_37 {D : va_G} {ca : Nat → ClassId} {ad : Nat → Int → Nat → Nat} {L : List Nat} {aS vS : Nat → Nat} {A : Nat → Prop} {p : Program} {l : Launch} {e : Env} {s : State} {m : MethodId} {args : Array Value} {below : List Frame} {meth : Method} {c : Code} {K : zK} {r : Int} {F9 : zF} {B9 : zB} (X : zX D ca L aS vS A p s m args meth c prog_6_method_15_code 2 (Option.some Jvm.ClassFile.FieldType.boolean) "StaveHouse$Part")  {F : zF} {B : zB} {H : Heap} {locs : List Loc} {ls : Array Slot} (hf : f_Part_continues_37 K  F B = some (r, F9, B9)) (hZ : zH D ca ad lnC K.2 L F B A H) (hS : va_S A s.heap H locs) (hl : lv_has ls 2 []) : W p l e ({ frames := 0, cells := 0, slots := 0, locals := 0 } : Room) s m args below meth c H locs 0 0 (MQ below (Q_Part_continues K D ca ad L r F9 B9 A) args s 0 0 A) (F0 m 37 ls []) := by
  obtain ⟨hx, hb, hr, hml, hown, hts, hlk, hK, hA, hL, hX⟩ := id X
  replace hf : (f_Part_continues_38 K 0 F B) = some (r, F9, B9) := hf
  refine lv_iconst (v := iI 0) hx hb d_6_15_37 rfl ?_
  exact b_Part_continues_38 X hf hZ hS (lv_sub hl [] rfl)

noncomputable def f_Part_continues (K : zK) (l0 : Int) (l1 : Int) (F : zF) (B : zB) : zO := if r32 l1 then (if l1 ≤ 0 then f_Part_continues_37 K F B else if 0 ≤ l0 ∧ l0 < K.2 4 then if r32 (F 4 l0 10) then (if (F 4 l0 10) ≤ l1 then f_Part_continues_37 K F B else if 0 ≤ l1 ∧ l1 < 800 then if 0 ≤ (l1 - 1) ∧ (l1 - 1) < 800 then if r32 (B 4 l0 360 l1) then if r32 (B 4 l0 360 (l1 - 1)) then (if (B 4 l0 360 l1) = (B 4 l0 360 (l1 - 1)) then f_Part_continues_38 K 1 F B else f_Part_continues_37 K F B) else none else none else none else none) else none else none) else none
set_option maxHeartbeats 4000000 in
set_option maxRecDepth 100000 in
theorem c_Part_continues {l : Launch} {D : va_G} {ca : Nat → ClassId} {ad : Nat → Int → Nat → Nat} {L : List Nat} {aS vS : Nat → Nat} {sz : Nat} {K : zK}  {l0 : Int} {l1 : Int} {F F9 : zF} {B B9 : zB} {r : Int} (hf : f_Part_continues K l0 l1 F B = some (r, F9, B9)) : Met l ({ cls := "StaveHouse$Part", name := "continues", desc := "(I)Z" } : Jvm.MethodName) (Cond.code ({ cls := "StaveHouse$Part", name := "continues", desc := "(I)Z" } : Jvm.MethodName) prog_6_method_15_code 2 (Option.some Jvm.ClassFile.FieldType.boolean) :: wAll) ({ frames := 0, cells := 0, slots := 0, locals := 0 } : Room) (va_Pc [.ref (ad 4 l0 0), .int (iI l1)] (zPre D ca ad lnC K.2 L aS vS F B sz)) (Q_Part_continues K D ca ad L r F9 B9 (zA L sz)) 0 0 (zA L sz) := by
  refine zMet (Qc := Q_Part_continues K D ca ad L r F9 B9) (lv := [(0, .ref (ad 4 l0 0)), (1, .int (iI l1))]) (by decide) (Nat.le_of_ble_eq_true rfl) rfl (fun A p e s m below meth c ls X hZ hS hl => ?_)
  obtain ⟨hx, hb, hr, hml, hown, hts, hlk, hK, hA, hL, hX⟩ := id X
  replace hf : (if r32 l1 then (if l1 ≤ 0 then f_Part_continues_37 K F B else if 0 ≤ l0 ∧ l0 < K.2 4 then if r32 (F 4 l0 10) then (if (F 4 l0 10) ≤ l1 then f_Part_continues_37 K F B else if 0 ≤ l1 ∧ l1 < 800 then if 0 ≤ (l1 - 1) ∧ (l1 - 1) < 800 then if r32 (B 4 l0 360 l1) then if r32 (B 4 l0 360 (l1 - 1)) then (if (B 4 l0 360 l1) = (B 4 l0 360 (l1 - 1)) then f_Part_continues_38 K 1 F B else f_Part_continues_37 K F B) else none else none else none else none) else none else none) else none) = some (r, F9, B9) := hf
  refine lv_iload_n hx hb d_6_15_0 rfl (lv_at hl 1 rfl) ?_
  obtain ⟨g1, hf⟩ := gif hf
  refine z0le (tgt := 37) hx hb g1 d_6_15_1 (by decide) (fun h2 => ?_) (fun h2 => ?_)
  · replace hf := gpos hf h2
    exact b_Part_continues_37 X hf hZ hS (lv_sub hl [] rfl)
  · replace hf := gneg hf h2
    refine lv_iload_n hx hb d_6_15_4 rfl (lv_at hl 1 rfl) ?_
    refine lv_aload_n hx hb d_6_15_5 rfl (lv_at hl 0 rfl) ?_
    obtain ⟨g3, hf⟩ := gif hf
    refine zget (ci := 4) (C := RX4) (T := TX4) (v := .int (iI (F 4 l0 10))) (k := 10) hx hb hts inW_4 hown hK hZ g3.1 g3.2 rfl (by decide) k_4_148 rfl d_6_15_6 ?_
    obtain ⟨g4, hf⟩ := gif hf
    refine zge (tgt := 37) hx hb g1 g4 d_6_15_9 (by decide) (fun h5 => ?_) (fun h5 => ?_)
    · replace hf := gpos hf h5
      exact b_Part_continues_37 X hf hZ hS (lv_sub hl [] rfl)
    · replace hf := gneg hf h5
      refine lv_aload_n hx hb d_6_15_12 rfl (lv_at hl 0 rfl) ?_
      refine zget (ci := 4) (C := RX4) (T := TX4) (v := .ref (ad 4 l0 (8 + 1))) (k := 8) hx hb hts inW_4 hown hK hZ g3.1 g3.2 rfl (by decide) k_4_142 rfl d_6_15_13 ?_
      refine lv_iconst (v := iI 0) hx hb d_6_15_16 rfl ?_
      refine zaldQ (t := 0) (ci := 4) (k := 8) hx hb hK rfl hZ g3.1 g3.2 rfl (Nat.le_of_ble_eq_true rfl) (by decide) (by decide) d_6_15_17 ?_
      refine W.eq (g2 := F0 m 18 ls [.ref (ad 4 l0 (360 + 1))]) rfl ?_
      refine lv_iload_n hx hb d_6_15_18 rfl (lv_at hl 1 rfl) ?_
      obtain ⟨g6, hf⟩ := gif hf
      refine zald (ci := 4) (k := 360) hx hb hK rfl hZ g3.1 g3.2 rfl (Nat.le_of_ble_eq_true rfl) g6.1 g6.2 d_6_15_19 ?_
      refine lv_aload_n hx hb d_6_15_20 rfl (lv_at hl 0 rfl) ?_
      refine zget (ci := 4) (C := RX4) (T := TX4) (v := .ref (ad 4 l0 (8 + 1))) (k := 8) hx hb hts inW_4 hown hK hZ g3.1 g3.2 rfl (by decide) k_4_142 rfl d_6_15_21 ?_
      refine lv_iconst (v := iI 0) hx hb d_6_15_24 rfl ?_
      refine zaldQ (t := 0) (ci := 4) (k := 8) hx hb hK rfl hZ g3.1 g3.2 rfl (Nat.le_of_ble_eq_true rfl) (by decide) (by decide) d_6_15_25 ?_
      refine W.eq (g2 := F0 m 26 ls [.ref (ad 4 l0 (360 + 1)), .int (iI (B 4 l0 360 l1))]) rfl ?_
      refine lv_iload_n hx hb d_6_15_26 rfl (lv_at hl 1 rfl) ?_
      refine lv_iconst (v := iI 1) hx hb d_6_15_27 rfl ?_
      refine zsub hx hb d_6_15_28 ?_
      obtain ⟨g7, hf⟩ := gif hf
      refine zald (ci := 4) (k := 360) hx hb hK rfl hZ g3.1 g3.2 rfl (Nat.le_of_ble_eq_true rfl) g7.1 g7.2 d_6_15_29 ?_
      obtain ⟨g8, hf⟩ := gif hf
      obtain ⟨g9, hf⟩ := gif hf
      refine zne (tgt := 37) hx hb g8 g9 d_6_15_30 (by decide) (fun h10 => ?_) (fun h10 => ?_)
      · replace hf := gneg hf h10
        exact b_Part_continues_37 X hf hZ hS (lv_sub hl [] rfl)
      · replace hf := gpos hf h10
        refine lv_iconst (v := iI 1) hx hb d_6_15_33 rfl ?_
        refine lv_goto (tgt := 38) hx hb d_6_15_34 (by decide) ?_
        exact b_Part_continues_38 X hf hZ hS (lv_sub hl [] rfl)

noncomputable abbrev Q_S_keyAlteration (K : zK) (D : va_G) (ca : Nat → ClassId) (ad : Nat → Int → Nat → Nat) (L : List Nat) (r : Int) (F : zF) (B : zB) (A : Nat → Prop) : Array Value → State → Outcome → State → Prop := va_Qi (S := Unit) (fun p _ => p = iI r) (fun _ => zPo D ca ad lnC K.2 L F B A) A
noncomputable def f_S_keyAlteration_40 (K : zK) (s0 : Int) (F : zF) (B : zB) : zO := some (s0, F, B)
set_option maxHeartbeats 4000000 in
set_option maxRecDepth 100000 in
theorem b_S_keyAlteration_40 {D : va_G} {ca : Nat → ClassId} {ad : Nat → Int → Nat → Nat} {L : List Nat} {aS vS : Nat → Nat} {A : Nat → Prop} {p : Program} {l : Launch} {e : Env} {s : State} {m : MethodId} {args : Array Value} {below : List Frame} {meth : Method} {c : Code} {K : zK} {r : Int} {F9 : zF} {B9 : zB} (X : zX D ca L aS vS A p s m args meth c prog_1_method_38_code 3 (Option.some Jvm.ClassFile.FieldType.int) "StaveHouse") {s0 : Int} {F : zF} {B : zB} {H : Heap} {locs : List Loc} {ls : Array Slot} (hf : f_S_keyAlteration_40 K s0 F B = some (r, F9, B9)) (hZ : zH D ca ad lnC K.2 L F B A H) (hS : va_S A s.heap H locs) (hl : lv_has ls 3 []) : W p l e ({ frames := 1, cells := 0, slots := 0, locals := 22 } : Room) s m args below meth c H locs 0 0 (MQ below (Q_S_keyAlteration K D ca ad L r F9 B9 A) args s 0 0 A) (F0 m 40 ls [.int (iI s0)]) := by
  obtain ⟨hx, hb, hr, hml, hown, hts, hlk, hK, hA, hL, hX⟩ := id X
  replace hf : (some (s0, F, B)) = some (r, F9, B9) := hf
  cases hf
  exact W.iret hx hb hr (fun t ht hW => ⟨⟨_, (), rfl, rfl, by rw [ht]; exact hZ, va_K.moved hW.alike hK⟩, hS.F ht⟩) hS.2.2 d_1_38_40 hlk

noncomputable def f_S_keyAlteration_25 (K : zK) (s0 : Int) (F : zF) (B : zB) : zO := some (s0, F, B)
set_option maxHeartbeats 4000000 in
set_option maxRecDepth 100000 in
theorem b_S_keyAlteration_25 {D : va_G} {ca : Nat → ClassId} {ad : Nat → Int → Nat → Nat} {L : List Nat} {aS vS : Nat → Nat} {A : Nat → Prop} {p : Program} {l : Launch} {e : Env} {s : State} {m : MethodId} {args : Array Value} {below : List Frame} {meth : Method} {c : Code} {K : zK} {r : Int} {F9 : zF} {B9 : zB} (X : zX D ca L aS vS A p s m args meth c prog_1_method_38_code 3 (Option.some Jvm.ClassFile.FieldType.int) "StaveHouse") {s0 : Int} {F : zF} {B : zB} {H : Heap} {locs : List Loc} {ls : Array Slot} (hf : f_S_keyAlteration_25 K s0 F B = some (r, F9, B9)) (hZ : zH D ca ad lnC K.2 L F B A H) (hS : va_S A s.heap H locs) (hl : lv_has ls 3 []) : W p l e ({ frames := 1, cells := 0, slots := 0, locals := 22 } : Room) s m args below meth c H locs 0 0 (MQ below (Q_S_keyAlteration K D ca ad L r F9 B9 A) args s 0 0 A) (F0 m 25 ls [.int (iI s0)]) := by
  obtain ⟨hx, hb, hr, hml, hown, hts, hlk, hK, hA, hL, hX⟩ := id X
  replace hf : (some (s0, F, B)) = some (r, F9, B9) := hf
  cases hf
  exact W.iret hx hb hr (fun t ht hW => ⟨⟨_, (), rfl, rfl, by rw [ht]; exact hZ, va_K.moved hW.alike hK⟩, hS.F ht⟩) hS.2.2 d_1_38_25 hlk

noncomputable def f_S_keyAlteration (K : zK) (l0 : Int) (l1 : Int) (F : zF) (B : zB) : zO := zbind (f_Math_floorMod K l1 7 F B) (fun r1 F1 B1 => if 0 ≤ r1 ∧ r1 < ztl 7 then if r32 l0 then (if l0 ≤ 0 then if r32 (6 - (ztv 7 r1)) then if r32 (-l0) then (if (-l0) ≤ (6 - (ztv 7 r1)) then f_S_keyAlteration_40 K 0 F1 B1 else f_S_keyAlteration_40 K (-1) F1 B1) else none else none else if r32 (ztv 7 r1) then (if l0 ≤ (ztv 7 r1) then f_S_keyAlteration_25 K 0 F1 B1 else f_S_keyAlteration_25 K 1 F1 B1) else none) else none else none)
set_option maxHeartbeats 4000000 in
set_option maxRecDepth 100000 in
theorem c_S_keyAlteration {l : Launch} {D : va_G} {ca : Nat → ClassId} {ad : Nat → Int → Nat → Nat} {L : List Nat} {aS vS : Nat → Nat} {sz : Nat} {K : zK}  {l0 : Int} {l1 : Int} {F F9 : zF} {B B9 : zB} {r : Int} (hf : f_S_keyAlteration K l0 l1 F B = some (r, F9, B9)) : Met l ({ cls := "StaveHouse", name := "keyAlteration", desc := "(II)I" } : Jvm.MethodName) (Cond.code ({ cls := "StaveHouse", name := "keyAlteration", desc := "(II)I" } : Jvm.MethodName) prog_1_method_38_code 3 (Option.some Jvm.ClassFile.FieldType.int) :: wAll) ({ frames := 1, cells := 0, slots := 0, locals := 22 } : Room) (va_Pc [.int (iI l0), .int (iI l1)] (zPre D ca ad lnC K.2 L aS vS F B sz)) (Q_S_keyAlteration K D ca ad L r F9 B9 (zA L sz)) 0 0 (zA L sz) := by
  refine zMet (Qc := Q_S_keyAlteration K D ca ad L r F9 B9) (lv := [(0, .int (iI l0)), (1, .int (iI l1))]) (by decide) (Nat.le_of_ble_eq_true rfl) rfl (fun A p e s m below meth c ls X hZ hS hl => ?_)
  obtain ⟨hx, hb, hr, hml, hown, hts, hlk, hK, hA, hL, hX⟩ := id X
  replace hf : (zbind (f_Math_floorMod K l1 7 F B) (fun r1 F1 B1 => if 0 ≤ r1 ∧ r1 < ztl 7 then if r32 l0 then (if l0 ≤ 0 then if r32 (6 - (ztv 7 r1)) then if r32 (-l0) then (if (-l0) ≤ (6 - (ztv 7 r1)) then f_S_keyAlteration_40 K 0 F1 B1 else f_S_keyAlteration_40 K (-1) F1 B1) else none else none else if r32 (ztv 7 r1) then (if l0 ≤ (ztv 7 r1) then f_S_keyAlteration_25 K 0 F1 B1 else f_S_keyAlteration_25 K 1 F1 B1) else none) else none else none)) = some (r, F9, B9) := hf
  refine va_gets hx hb (hX.2.2.2.2.2.2 7 _ rfl).1 hS hown (hts _ k_5_119) (fun _ h => h) d_1_38_0 ?_
  refine W.eq (g2 := F0 m 3 ls [.ref (vS (1000 + 7))]) rfl ?_
  refine lv_iload_n hx hb d_1_38_3 rfl (lv_at hl 1 rfl) ?_
  refine lv_bipush (v := iI 7) hx hb d_1_38_4 (by decide) ?_
  obtain ⟨r1, F1, B1, hc1, hf⟩ := gbind hf
  refine va_calli (va_runS (As := [.int (iI l1), .int (iI 7)]) (rest := [.ref (vS (1000 + 7))]) ⟨hx, hb, hml, hown, hts⟩ (c_Math_floorMod (l := l) hc1) (va_cwS 2 hts (gdS k_4_70 k_4_71 k_1_3 k_4_72) rfl rfl rfl (by decide +kernel) ⟨Nat.le_of_ble_eq_true rfl, Nat.le_of_ble_eq_true rfl⟩) (zPS X hZ hS [.int (iI l1), .int (iI 7)]) rfl rfl hl.1 rfl (lv_room (Nat.le_of_ble_eq_true rfl)) d_1_38_6 ⟨Nat.le_of_ble_eq_true rfl, Nat.le_of_ble_eq_true rfl⟩) hS (fun q _ h => zAin X hS q h) (zAin X hS) (fun p1 u1 t1 H1 locs1 ht1 hv1 hw1 hB1 hz1 hk1 hS1 => ?_)
  have hZ1 := zBack X ht1 hB1
  subst hw1
  obtain ⟨g2, hf⟩ := gif hf
  refine va_ti (v := .int (iI (ztv 7 r1))) hx hb (ztI hX (by decide) (by decide)) hS1 (zt_in (by decide) g2) (ztI_v (by decide) g2) d_1_38_9 ?_
  refine lv_istore_n (lv' := [(2, .int (iI (ztv 7 r1))), (0, .int (iI l0)), (1, .int (iI l1))]) hx hb d_1_38_10 rfl hl (by decide) rfl (fun ls hl => ?_)
  refine lv_iload_n hx hb d_1_38_11 rfl (lv_at hl 1 rfl) ?_
  obtain ⟨g3, hf⟩ := gif hf
  refine z0le (tgt := 26) hx hb g3 d_1_38_12 (by decide) (fun h4 => ?_) (fun h4 => ?_)
  · replace hf := gpos hf h4
    refine lv_bipush (v := iI 6) hx hb d_1_38_26 (by decide) ?_
    refine lv_iload_n hx hb d_1_38_28 rfl (lv_at hl 0 rfl) ?_
    refine zsub hx hb d_1_38_29 ?_
    refine lv_iload_n hx hb d_1_38_30 rfl (lv_at hl 1 rfl) ?_
    refine zneg hx hb d_1_38_31 ?_
    obtain ⟨g5, hf⟩ := gif hf
    obtain ⟨g6, hf⟩ := gif hf
    refine zge (tgt := 39) hx hb g5 g6 d_1_38_32 (by decide) (fun h7 => ?_) (fun h7 => ?_)
    · replace hf := gpos hf h7
      refine lv_iconst (v := iI 0) hx hb d_1_38_39 rfl ?_
      exact b_S_keyAlteration_40 X hf hZ1 hS1 (lv_sub hl [] rfl)
    · replace hf := gneg hf h7
      refine lv_iconst (v := iI (-1)) hx hb d_1_38_35 rfl ?_
      refine lv_goto (tgt := 40) hx hb d_1_38_36 (by decide) ?_
      exact b_S_keyAlteration_40 X hf hZ1 hS1 (lv_sub hl [] rfl)
  · replace hf := gneg hf h4
    refine lv_iload_n hx hb d_1_38_15 rfl (lv_at hl 0 rfl) ?_
    refine lv_iload_n hx hb d_1_38_16 rfl (lv_at hl 1 rfl) ?_
    obtain ⟨g8, hf⟩ := gif hf
    refine zge (tgt := 24) hx hb g8 g3 d_1_38_17 (by decide) (fun h9 => ?_) (fun h9 => ?_)
    · replace hf := gpos hf h9
      refine lv_iconst (v := iI 0) hx hb d_1_38_24 rfl ?_
      exact b_S_keyAlteration_25 X hf hZ1 hS1 (lv_sub hl [] rfl)
    · replace hf := gneg hf h9
      refine lv_iconst (v := iI 1) hx hb d_1_38_20 rfl ?_
      refine lv_goto (tgt := 25) hx hb d_1_38_21 (by decide) ?_
      exact b_S_keyAlteration_25 X hf hZ1 hS1 (lv_sub hl [] rfl)

noncomputable abbrev Q_Part_isTiedFrom (K : zK) (D : va_G) (ca : Nat → ClassId) (ad : Nat → Int → Nat → Nat) (L : List Nat) (r : Int) (F : zF) (B : zB) (A : Nat → Prop) : Array Value → State → Outcome → State → Prop := va_Qi (S := Unit) (fun p _ => p = iI r) (fun _ => zPo D ca ad lnC K.2 L F B A) A
noncomputable def f_Part_isTiedFrom_57 (K : zK) (s0 : Int) (F : zF) (B : zB) : zO := if (s0 = 0 ∨ s0 = 1) then some (s0, F, B) else none
set_option maxHeartbeats 4000000 in
set_option maxRecDepth 100000 in
theorem b_Part_isTiedFrom_57 {D : va_G} {ca : Nat → ClassId} {ad : Nat → Int → Nat → Nat} {L : List Nat} {aS vS : Nat → Nat} {A : Nat → Prop} {p : Program} {l : Launch} {e : Env} {s : State} {m : MethodId} {args : Array Value} {below : List Frame} {meth : Method} {c : Code} {K : zK} {r : Int} {F9 : zF} {B9 : zB} (X : zX D ca L aS vS A p s m args meth c prog_6_method_8_code 4 (Option.some Jvm.ClassFile.FieldType.boolean) "StaveHouse$Part") {s0 : Int} {F : zF} {B : zB} {H : Heap} {locs : List Loc} {ls : Array Slot} (hf : f_Part_isTiedFrom_57 K s0 F B = some (r, F9, B9)) (hZ : zH D ca ad lnC K.2 L F B A H) (hS : va_S A s.heap H locs) (hl : lv_has ls 4 []) : W p l e ({ frames := 1, cells := 0, slots := 0, locals := 23 } : Room) s m args below meth c H locs 0 0 (MQ below (Q_Part_isTiedFrom K D ca ad L r F9 B9 A) args s 0 0 A) (F0 m 57 ls [.int (iI s0)]) := by
  obtain ⟨hx, hb, hr, hml, hown, hts, hlk, hK, hA, hL, hX⟩ := id X
  replace hf : (if (s0 = 0 ∨ s0 = 1) then some (s0, F, B) else none) = some (r, F9, B9) := hf
  obtain ⟨g16, hf⟩ := gif hf
  cases hf
  exact W.zret hx hb hr (zbool g16) (fun t ht hW => ⟨⟨_, (), rfl, rfl, by rw [ht]; exact hZ, va_K.moved hW.alike hK⟩, hS.F ht⟩) hS.2.2 d_6_8_57 hlk

noncomputable def f_Part_isTiedFrom_56 (K : zK)  (F : zF) (B : zB) : zO := f_Part_isTiedFrom_57 K 0 F B
set_option maxHeartbeats 4000000 in
set_option maxRecDepth 100000 in
theorem b_Part_isTiedFrom_56 {D : va_G} {ca : Nat → ClassId} {ad : Nat → Int → Nat → Nat} {L : List Nat} {aS vS : Nat → Nat} {A : Nat → Prop} {p : Program} {l : Launch} {e : Env} {s : State} {m : MethodId} {args : Array Value} {below : List Frame} {meth : Method} {c : Code} {K : zK} {r : Int} {F9 : zF} {B9 : zB} (X : zX D ca L aS vS A p s m args meth c prog_6_method_8_code 4 (Option.some Jvm.ClassFile.FieldType.boolean) "StaveHouse$Part")  {F : zF} {B : zB} {H : Heap} {locs : List Loc} {ls : Array Slot} (hf : f_Part_isTiedFrom_56 K  F B = some (r, F9, B9)) (hZ : zH D ca ad lnC K.2 L F B A H) (hS : va_S A s.heap H locs) (hl : lv_has ls 4 []) : W p l e ({ frames := 1, cells := 0, slots := 0, locals := 23 } : Room) s m args below meth c H locs 0 0 (MQ below (Q_Part_isTiedFrom K D ca ad L r F9 B9 A) args s 0 0 A) (F0 m 56 ls []) := by
  obtain ⟨hx, hb, hr, hml, hown, hts, hlk, hK, hA, hL, hX⟩ := id X
  replace hf : (f_Part_isTiedFrom_57 K 0 F B) = some (r, F9, B9) := hf
  refine lv_iconst (v := iI 0) hx hb d_6_8_56 rfl ?_
  exact b_Part_isTiedFrom_57 X hf hZ hS (lv_sub hl [] rfl)

noncomputable def f_Part_isTiedFrom (K : zK) (l0 : Int) (l1 : Int) (l2 : Int) (F : zF) (B : zB) : zO := if 0 ≤ l0 ∧ l0 < K.2 4 then if 0 ≤ l1 ∧ l1 < 200 then if r32 l1 then (if l1 ≤ 0 then f_Part_isTiedFrom_56 K F B else if 0 ≤ (l1 - 1) ∧ (l1 - 1) < 200 then if 0 ≤ (B 4 l0 5 (l1 - 1)) ∧ (B 4 l0 5 (l1 - 1)) < K.2 1 then zbind (f_Event_has K (B 4 l0 5 (l1 - 1)) 1 F B) (fun r7 F7 B7 => if r32 r7 then (if r7 = 0 then f_Part_isTiedFrom_56 K F7 B7 else if 0 ≤ (B 4 l0 5 l1) ∧ (B 4 l0 5 l1) < K.2 1 then if 0 ≤ l2 ∧ l2 < 6 then if 0 ≤ (B7 4 l0 5 (l1 - 1)) ∧ (B7 4 l0 5 (l1 - 1)) < K.2 1 then zbind (f_Event_hasPitch K (B7 4 l0 5 (l1 - 1)) (B7 1 (B 4 l0 5 l1) 12 l2) (B7 1 (B 4 l0 5 l1) 13 l2) F7 B7) (fun r13 F13 B13 => if r32 r13 then (if r13 = 0 then f_Part_isTiedFrom_56 K F13 B13 else f_Part_isTiedFrom_57 K 1 F13 B13) else none) else none else none else none) else none) else none else none) else none else none else none
set_option maxHeartbeats 4000000 in
set_option maxRecDepth 100000 in
theorem c_Part_isTiedFrom {l : Launch} {D : va_G} {ca : Nat → ClassId} {ad : Nat → Int → Nat → Nat} {L : List Nat} {aS vS : Nat → Nat} {sz : Nat} {K : zK}  {l0 : Int} {l1 : Int} {l2 : Int} {F F9 : zF} {B B9 : zB} {r : Int} (hf : f_Part_isTiedFrom K l0 l1 l2 F B = some (r, F9, B9)) : Met l ({ cls := "StaveHouse$Part", name := "isTiedFrom", desc := "(II)Z" } : Jvm.MethodName) (Cond.code ({ cls := "StaveHouse$Part", name := "isTiedFrom", desc := "(II)Z" } : Jvm.MethodName) prog_6_method_8_code 4 (Option.some Jvm.ClassFile.FieldType.boolean) :: wAll) ({ frames := 1, cells := 0, slots := 0, locals := 23 } : Room) (va_Pc [.ref (ad 4 l0 0), .int (iI l1), .int (iI l2)] (zPre D ca ad lnC K.2 L aS vS F B sz)) (Q_Part_isTiedFrom K D ca ad L r F9 B9 (zA L sz)) 0 0 (zA L sz) := by
  refine zMet (Qc := Q_Part_isTiedFrom K D ca ad L r F9 B9) (lv := [(0, .ref (ad 4 l0 0)), (1, .int (iI l1)), (2, .int (iI l2))]) (by decide) (Nat.le_of_ble_eq_true rfl) rfl (fun A p e s m below meth c ls X hZ hS hl => ?_)
  obtain ⟨hx, hb, hr, hml, hown, hts, hlk, hK, hA, hL, hX⟩ := id X
  replace hf : (if 0 ≤ l0 ∧ l0 < K.2 4 then if 0 ≤ l1 ∧ l1 < 200 then if r32 l1 then (if l1 ≤ 0 then f_Part_isTiedFrom_56 K F B else if 0 ≤ (l1 - 1) ∧ (l1 - 1) < 200 then if 0 ≤ (B 4 l0 5 (l1 - 1)) ∧ (B 4 l0 5 (l1 - 1)) < K.2 1 then zbind (f_Event_has K (B 4 l0 5 (l1 - 1)) 1 F B) (fun r7 F7 B7 => if r32 r7 then (if r7 = 0 then f_Part_isTiedFrom_56 K F7 B7 else if 0 ≤ (B 4 l0 5 l1) ∧ (B 4 l0 5 l1) < K.2 1 then if 0 ≤ l2 ∧ l2 < 6 then if 0 ≤ (B7 4 l0 5 (l1 - 1)) ∧ (B7 4 l0 5 (l1 - 1)) < K.2 1 then zbind (f_Event_hasPitch K (B7 4 l0 5 (l1 - 1)) (B7 1 (B 4 l0 5 l1) 12 l2) (B7 1 (B 4 l0 5 l1) 13 l2) F7 B7) (fun r13 F13 B13 => if r32 r13 then (if r13 = 0 then f_Part_isTiedFrom_56 K F13 B13 else f_Part_isTiedFrom_57 K 1 F13 B13) else none) else none else none else none) else none) else none else none) else none else none else none) = some (r, F9, B9) := hf
  refine lv_aload_n hx hb d_6_8_0 rfl (lv_at hl 0 rfl) ?_
  obtain ⟨g1, hf⟩ := gif hf
  refine zget (ci := 4) (C := RX4) (T := TX4) (v := .ref (ad 4 l0 (5 + 1))) (k := 5) hx hb hts inW_4 hown hK hZ g1.1 g1.2 rfl (by decide) k_4_130 rfl d_6_8_1 ?_
  refine lv_iload_n hx hb d_6_8_4 rfl (lv_at hl 1 rfl) ?_
  obtain ⟨g2, hf⟩ := gif hf
  refine zaldR (t := 1) (x := 7) (ci := 4) (k := 5) hx hb hK rfl rfl hZ g1.1 g1.2 rfl (Nat.le_of_ble_eq_true rfl) g2.1 g2.2 d_6_8_5 ?_
  refine zastore_n (lv' := [(0, .ref (ad 4 l0 0)), (1, .int (iI l1)), (2, .int (iI l2))]) hx hb d_6_8_6 rfl hl (by decide) (fun _ _ => rfl) (fun ls hl => ?_)
  refine lv_iload_n hx hb d_6_8_7 rfl (lv_at hl 2 rfl) ?_
  obtain ⟨g3, hf⟩ := gif hf
  refine z0le (tgt := 56) hx hb g3 d_6_8_8 (by decide) (fun h4 => ?_) (fun h4 => ?_)
  · replace hf := gpos hf h4
    exact b_Part_isTiedFrom_56 X hf hZ hS (lv_sub hl [] rfl)
  · replace hf := gneg hf h4
    refine lv_aload_n hx hb d_6_8_11 rfl (lv_at hl 1 rfl) ?_
    refine zget (ci := 4) (C := RX4) (T := TX4) (v := .ref (ad 4 l0 (5 + 1))) (k := 5) hx hb hts inW_4 hown hK hZ g1.1 g1.2 rfl (by decide) k_4_130 rfl d_6_8_12 ?_
    refine lv_iload_n hx hb d_6_8_15 rfl (lv_at hl 2 rfl) ?_
    refine lv_iconst (v := iI 1) hx hb d_6_8_16 rfl ?_
    refine zsub hx hb d_6_8_17 ?_
    obtain ⟨g5, hf⟩ := gif hf
    refine zaldR (t := 1) (x := 7) (ci := 4) (k := 5) hx hb hK rfl rfl hZ g1.1 g1.2 rfl (Nat.le_of_ble_eq_true rfl) g5.1 g5.2 d_6_8_18 ?_
    refine lv_iconst (v := iI 1) hx hb d_6_8_19 rfl ?_
    obtain ⟨g6, hf⟩ := gif hf
    refine W.eq (g2 := F0 m 20 ls [.int (iI 1), .ref (ad 1 (B 4 l0 5 (l1 - 1)) 0)]) (by rw [zrf_pos (ad := ad) (t := 1) g6.1]; try rfl) ?_
    obtain ⟨r7, F7, B7, hc7, hf⟩ := gbind hf
    refine va_calli (va_runV (As := [.int (iI 1)]) (rest := []) ⟨hx, hb, hml, hown, hts⟩ (c_Event_has (l := l) hc7) (cwV 1 hts (gdV k_5_15 k_5_16 k_5_17 k_1_8 k_5_18) rfl rfl rfl (by decide +kernel) ⟨Nat.le_of_ble_eq_true rfl, Nat.le_of_ble_eq_true rfl⟩) (zPV X hZ hS (ci := 1) g6.1 g6.2 (r := (RX1, TX1, 14)) rfl [.int (iI 1)]) rfl rfl hl.1 rfl (lv_room (Nat.le_of_ble_eq_true rfl)) d_6_8_20 ⟨Nat.le_of_ble_eq_true rfl, Nat.le_of_ble_eq_true rfl⟩) hS (fun q _ h => zAin X hS q h) (zAin X hS) (fun p7 u7 t7 H7 locs7 ht7 hv7 hw7 hB7 hz7 hk7 hS7 => ?_)
    have hZ7 := zBack X ht7 hB7
    subst hw7
    obtain ⟨g8, hf⟩ := gif hf
    refine z0eq (tgt := 56) hx hb g8 d_6_8_23 (by decide) (fun h9 => ?_) (fun h9 => ?_)
    · replace hf := gpos hf h9
      exact b_Part_isTiedFrom_56 X hf hZ7 hS7 (lv_sub hl [] rfl)
    · replace hf := gneg hf h9
      refine lv_aload_n hx hb d_6_8_26 rfl (lv_at hl 1 rfl) ?_
      refine zget (ci := 4) (C := RX4) (T := TX4) (v := .ref (ad 4 l0 (5 + 1))) (k := 5) hx hb hts inW_4 hown hK hZ7 g1.1 g1.2 rfl (by decide) k_4_130 rfl d_6_8_27 ?_
      refine lv_iload_n hx hb d_6_8_30 rfl (lv_at hl 2 rfl) ?_
      refine lv_iconst (v := iI 1) hx hb d_6_8_31 rfl ?_
      refine zsub hx hb d_6_8_32 ?_
      refine zaldR (t := 1) (x := 7) (ci := 4) (k := 5) hx hb hK rfl rfl hZ7 g1.1 g1.2 rfl (Nat.le_of_ble_eq_true rfl) g5.1 g5.2 d_6_8_33 ?_
      refine zaload_n hx hb d_6_8_34 rfl (lv_at hl 0 rfl) ?_
      obtain ⟨g10, hf⟩ := gif hf
      refine zunrf g10.1 ?_
      refine zget (ci := 1) (C := RX1) (T := TX1) (v := .ref (ad 1 (B 4 l0 5 l1) (12 + 1))) (k := 12) hx hb hts inW_1 hown hK hZ7 g10.1 g10.2 rfl (by decide) k_2_60 rfl d_6_8_35 ?_
      refine lv_iload_n hx hb d_6_8_38 rfl (lv_at hl 3 rfl) ?_
      obtain ⟨g11, hf⟩ := gif hf
      refine zald (ci := 1) (k := 12) hx hb hK rfl hZ7 g10.1 g10.2 rfl (Nat.le_of_ble_eq_true rfl) g11.1 g11.2 d_6_8_39 ?_
      refine zaload_n hx hb d_6_8_40 rfl (lv_at hl 0 rfl) ?_
      refine zunrf g10.1 ?_
      refine zget (ci := 1) (C := RX1) (T := TX1) (v := .ref (ad 1 (B 4 l0 5 l1) (13 + 1))) (k := 13) hx hb hts inW_1 hown hK hZ7 g10.1 g10.2 rfl (by decide) k_2_65 rfl d_6_8_41 ?_
      refine lv_iload_n hx hb d_6_8_44 rfl (lv_at hl 3 rfl) ?_
      refine zald (ci := 1) (k := 13) hx hb hK rfl hZ7 g10.1 g10.2 rfl (Nat.le_of_ble_eq_true rfl) g11.1 g11.2 d_6_8_45 ?_
      obtain ⟨g12, hf⟩ := gif hf
      refine W.eq (g2 := F0 m 46 ls [.int (iI (B7 1 (B 4 l0 5 l1) 13 l2)), .int (iI (B7 1 (B 4 l0 5 l1) 12 l2)), .ref (ad 1 (B7 4 l0 5 (l1 - 1)) 0)]) (by rw [zrf_pos (ad := ad) (t := 1) g12.1]; try rfl) ?_
      obtain ⟨r13, F13, B13, hc13, hf⟩ := gbind hf
      refine va_calli (va_runV (As := [.int (iI (B7 1 (B 4 l0 5 l1) 12 l2)), .int (iI (B7 1 (B 4 l0 5 l1) 13 l2))]) (rest := []) ⟨hx, hb, hml, hown, hts⟩ (c_Event_hasPitch (l := l) hc13) (cwV 2 hts (gdV k_5_129 k_5_46 k_5_47 k_1_8 k_5_48) rfl rfl rfl (by decide +kernel) ⟨Nat.le_of_ble_eq_true rfl, Nat.le_of_ble_eq_true rfl⟩) (zPV X hZ7 hS7 (ci := 1) g12.1 g12.2 (r := (RX1, TX1, 14)) rfl [.int (iI (B7 1 (B 4 l0 5 l1) 12 l2)), .int (iI (B7 1 (B 4 l0 5 l1) 13 l2))]) rfl rfl hl.1 rfl (lv_room (Nat.le_of_ble_eq_true rfl)) d_6_8_46 ⟨Nat.le_of_ble_eq_true rfl, Nat.le_of_ble_eq_true rfl⟩) hS7 (fun q _ h => zAin X hS7 q h) (zAin X hS7) (fun p13 u13 t13 H13 locs13 ht13 hv13 hw13 hB13 hz13 hk13 hS13 => ?_)
      have hZ13 := zBack X ht13 hB13
      subst hw13
      obtain ⟨g14, hf⟩ := gif hf
      refine z0eq (tgt := 56) hx hb g14 d_6_8_49 (by decide) (fun h15 => ?_) (fun h15 => ?_)
      · replace hf := gpos hf h15
        exact b_Part_isTiedFrom_56 X hf hZ13 hS13 (lv_sub hl [] rfl)
      · replace hf := gneg hf h15
        refine lv_iconst (v := iI 1) hx hb d_6_8_52 rfl ?_
        refine lv_goto (tgt := 57) hx hb d_6_8_53 (by decide) ?_
        exact b_Part_isTiedFrom_57 X hf hZ13 hS13 (lv_sub hl [] rfl)

noncomputable abbrev Q_Part_greatestHeight (K : zK) (D : va_G) (ca : Nat → ClassId) (ad : Nat → Int → Nat → Nat) (L : List Nat) (r : Int) (F : zF) (B : zB) (A : Nat → Prop) : Array Value → State → Outcome → State → Prop := va_Qi (S := Unit) (fun p _ => p = iI r) (fun _ => zPo D ca ad lnC K.2 L F B A) A
noncomputable def f_Part_greatestHeight (K : zK) (l0 : Int) (l1 : Int) (F : zF) (B : zB) : zO := if 0 ≤ l0 ∧ l0 < K.2 4 then if 0 ≤ l1 ∧ l1 < 800 then if 0 ≤ (B 4 l0 360 l1) ∧ (B 4 l0 360 l1) < 200 then if 0 ≤ (B 4 l0 5 (B 4 l0 360 l1)) ∧ (B 4 l0 5 (B 4 l0 360 l1)) < K.2 1 then if r32 ((F 1 (B 4 l0 5 (B 4 l0 360 l1)) 10) - 1) then if 0 ≤ (zmax ((F 1 (B 4 l0 5 (B 4 l0 360 l1)) 10) - 1) 0) ∧ (zmax ((F 1 (B 4 l0 5 (B 4 l0 360 l1)) 10) - 1) 0) < 6 then if 0 ≤ (F 4 l0 1) ∧ (F 4 l0 1) < ztl 8 then some ((B 1 (B 4 l0 5 (B 4 l0 360 l1)) 12 (zmax ((F 1 (B 4 l0 5 (B 4 l0 360 l1)) 10) - 1) 0)) - (ztv 8 (F 4 l0 1)), F, B) else none else none else none else none else none else none else none
set_option maxHeartbeats 4000000 in
set_option maxRecDepth 100000 in
theorem c_Part_greatestHeight {l : Launch} {D : va_G} {ca : Nat → ClassId} {ad : Nat → Int → Nat → Nat} {L : List Nat} {aS vS : Nat → Nat} {sz : Nat} {K : zK}  {l0 : Int} {l1 : Int} {F F9 : zF} {B B9 : zB} {r : Int} (hf : f_Part_greatestHeight K l0 l1 F B = some (r, F9, B9)) : Met l ({ cls := "StaveHouse$Part", name := "greatestHeight", desc := "(I)I" } : Jvm.MethodName) (Cond.code ({ cls := "StaveHouse$Part", name := "greatestHeight", desc := "(I)I" } : Jvm.MethodName) prog_6_method_20_code 3 (Option.some Jvm.ClassFile.FieldType.int) :: wAll) ({ frames := 1, cells := 0, slots := 0, locals := 14 } : Room) (va_Pc [.ref (ad 4 l0 0), .int (iI l1)] (zPre D ca ad lnC K.2 L aS vS F B sz)) (Q_Part_greatestHeight K D ca ad L r F9 B9 (zA L sz)) 0 0 (zA L sz) := by
  refine zMet (Qc := Q_Part_greatestHeight K D ca ad L r F9 B9) (lv := [(0, .ref (ad 4 l0 0)), (1, .int (iI l1))]) (by decide) (Nat.le_of_ble_eq_true rfl) rfl (fun A p e s m below meth c ls X hZ hS hl => ?_)
  obtain ⟨hx, hb, hr, hml, hown, hts, hlk, hK, hA, hL, hX⟩ := id X
  replace hf : (if 0 ≤ l0 ∧ l0 < K.2 4 then if 0 ≤ l1 ∧ l1 < 800 then if 0 ≤ (B 4 l0 360 l1) ∧ (B 4 l0 360 l1) < 200 then if 0 ≤ (B 4 l0 5 (B 4 l0 360 l1)) ∧ (B 4 l0 5 (B 4 l0 360 l1)) < K.2 1 then if r32 ((F 1 (B 4 l0 5 (B 4 l0 360 l1)) 10) - 1) then if 0 ≤ (zmax ((F 1 (B 4 l0 5 (B 4 l0 360 l1)) 10) - 1) 0) ∧ (zmax ((F 1 (B 4 l0 5 (B 4 l0 360 l1)) 10) - 1) 0) < 6 then if 0 ≤ (F 4 l0 1) ∧ (F 4 l0 1) < ztl 8 then some ((B 1 (B 4 l0 5 (B 4 l0 360 l1)) 12 (zmax ((F 1 (B 4 l0 5 (B 4 l0 360 l1)) 10) - 1) 0)) - (ztv 8 (F 4 l0 1)), F, B) else none else none else none else none else none else none else none) = some (r, F9, B9) := hf
  refine lv_aload_n hx hb d_6_20_0 rfl (lv_at hl 0 rfl) ?_
  obtain ⟨g1, hf⟩ := gif hf
  refine zget (ci := 4) (C := RX4) (T := TX4) (v := .ref (ad 4 l0 (5 + 1))) (k := 5) hx hb hts inW_4 hown hK hZ g1.1 g1.2 rfl (by decide) k_4_130 rfl d_6_20_1 ?_
  refine lv_aload_n hx hb d_6_20_4 rfl (lv_at hl 0 rfl) ?_
  refine zget (ci := 4) (C := RX4) (T := TX4) (v := .ref (ad 4 l0 (8 + 1))) (k := 8) hx hb hts inW_4 hown hK hZ g1.1 g1.2 rfl (by decide) k_4_142 rfl d_6_20_5 ?_
  refine lv_iconst (v := iI 0) hx hb d_6_20_8 rfl ?_
  refine zaldQ (t := 0) (ci := 4) (k := 8) hx hb hK rfl hZ g1.1 g1.2 rfl (Nat.le_of_ble_eq_true rfl) (by decide) (by decide) d_6_20_9 ?_
  refine W.eq (g2 := F0 m 10 ls [.ref (ad 4 l0 (360 + 1)), .ref (ad 4 l0 (5 + 1))]) rfl ?_
  refine lv_iload_n hx hb d_6_20_10 rfl (lv_at hl 1 rfl) ?_
  obtain ⟨g2, hf⟩ := gif hf
  refine zald (ci := 4) (k := 360) hx hb hK rfl hZ g1.1 g1.2 rfl (Nat.le_of_ble_eq_true rfl) g2.1 g2.2 d_6_20_11 ?_
  obtain ⟨g3, hf⟩ := gif hf
  refine zaldR (t := 1) (x := 7) (ci := 4) (k := 5) hx hb hK rfl rfl hZ g1.1 g1.2 rfl (Nat.le_of_ble_eq_true rfl) g3.1 g3.2 d_6_20_12 ?_
  refine zastore_n (lv' := [(0, .ref (ad 4 l0 0)), (1, .int (iI l1))]) hx hb d_6_20_13 rfl hl (by decide) (fun _ _ => rfl) (fun ls hl => ?_)
  refine zaload_n hx hb d_6_20_14 rfl (lv_at hl 0 rfl) ?_
  obtain ⟨g4, hf⟩ := gif hf
  refine zunrf g4.1 ?_
  refine zget (ci := 1) (C := RX1) (T := TX1) (v := .ref (ad 1 (B 4 l0 5 (B 4 l0 360 l1)) (12 + 1))) (k := 12) hx hb hts inW_1 hown hK hZ g4.1 g4.2 rfl (by decide) k_2_60 rfl d_6_20_15 ?_
  refine zaload_n hx hb d_6_20_18 rfl (lv_at hl 0 rfl) ?_
  refine zunrf g4.1 ?_
  refine zget (ci := 1) (C := RX1) (T := TX1) (v := .int (iI (F 1 (B 4 l0 5 (B 4 l0 360 l1)) 10))) (k := 10) hx hb hts inW_1 hown hK hZ g4.1 g4.2 rfl (by decide) k_2_54 rfl d_6_20_19 ?_
  refine lv_iconst (v := iI 1) hx hb d_6_20_22 rfl ?_
  refine zsub hx hb d_6_20_23 ?_
  refine lv_iconst (v := iI 0) hx hb d_6_20_24 rfl ?_
  obtain ⟨g5, hf⟩ := gif hf
  refine va_mmax hx hb (by rw [hml]; exact hl.1.symm) hown (hts _ k_5_77) (hts _ k_1_39) (hts _ k_1_3) (hts _ k_1_40) (Nat.le_of_ble_eq_true rfl) (Nat.le_of_ble_eq_true rfl) (Nat.le_of_ble_eq_true rfl) (Nat.le_of_ble_eq_true rfl) d_6_20_25 ?_
  rw [zmax_e g5 (by decide)]
  obtain ⟨g6, hf⟩ := gif hf
  refine zald (ci := 1) (k := 12) hx hb hK rfl hZ g4.1 g4.2 rfl (Nat.le_of_ble_eq_true rfl) g6.1 g6.2 d_6_20_28 ?_
  refine va_gets hx hb (hX.2.2.2.2.2.2 8 _ rfl).1 hS hown (hts _ k_5_138) (fun _ h => h) d_6_20_29 ?_
  refine W.eq (g2 := F0 m 32 ls [.ref (vS (1000 + 8)), .int (iI (B 1 (B 4 l0 5 (B 4 l0 360 l1)) 12 (zmax ((F 1 (B 4 l0 5 (B 4 l0 360 l1)) 10) - 1) 0)))]) rfl ?_
  refine lv_aload_n hx hb d_6_20_32 rfl (lv_at hl 1 rfl) ?_
  refine zget (ci := 4) (C := RX4) (T := TX4) (v := .int (iI (F 4 l0 1))) (k := 1) hx hb hts inW_4 hown hK hZ g1.1 g1.2 rfl (by decide) k_4_121 rfl d_6_20_33 ?_
  obtain ⟨g7, hf⟩ := gif hf
  refine va_ti (v := .int (iI (ztv 8 (F 4 l0 1)))) hx hb (ztI hX (by decide) (by decide)) hS (zt_in (by decide) g7) (ztI_v (by decide) g7) d_6_20_36 ?_
  refine zsub hx hb d_6_20_37 ?_
  cases hf
  exact W.iret hx hb hr (fun t ht hW => ⟨⟨_, (), rfl, rfl, by rw [ht]; exact hZ, va_K.moved hW.alike hK⟩, hS.F ht⟩) hS.2.2 d_6_20_38 hlk

noncomputable abbrev Q_Part_leastHeight (K : zK) (D : va_G) (ca : Nat → ClassId) (ad : Nat → Int → Nat → Nat) (L : List Nat) (r : Int) (F : zF) (B : zB) (A : Nat → Prop) : Array Value → State → Outcome → State → Prop := va_Qi (S := Unit) (fun p _ => p = iI r) (fun _ => zPo D ca ad lnC K.2 L F B A) A
noncomputable def f_Part_leastHeight (K : zK) (l0 : Int) (l1 : Int) (F : zF) (B : zB) : zO := if 0 ≤ l0 ∧ l0 < K.2 4 then if 0 ≤ l1 ∧ l1 < 800 then if 0 ≤ (B 4 l0 360 l1) ∧ (B 4 l0 360 l1) < 200 then if 0 ≤ (B 4 l0 5 (B 4 l0 360 l1)) ∧ (B 4 l0 5 (B 4 l0 360 l1)) < K.2 1 then if 0 ≤ (F 4 l0 1) ∧ (F 4 l0 1) < ztl 8 then some ((B 1 (B 4 l0 5 (B 4 l0 360 l1)) 12 0) - (ztv 8 (F 4 l0 1)), F, B) else none else none else none else none else none
set_option maxHeartbeats 4000000 in
set_option maxRecDepth 100000 in
theorem c_Part_leastHeight {l : Launch} {D : va_G} {ca : Nat → ClassId} {ad : Nat → Int → Nat → Nat} {L : List Nat} {aS vS : Nat → Nat} {sz : Nat} {K : zK}  {l0 : Int} {l1 : Int} {F F9 : zF} {B B9 : zB} {r : Int} (hf : f_Part_leastHeight K l0 l1 F B = some (r, F9, B9)) : Met l ({ cls := "StaveHouse$Part", name := "leastHeight", desc := "(I)I" } : Jvm.MethodName) (Cond.code ({ cls := "StaveHouse$Part", name := "leastHeight", desc := "(I)I" } : Jvm.MethodName) prog_6_method_19_code 2 (Option.some Jvm.ClassFile.FieldType.int) :: wAll) ({ frames := 0, cells := 0, slots := 0, locals := 0 } : Room) (va_Pc [.ref (ad 4 l0 0), .int (iI l1)] (zPre D ca ad lnC K.2 L aS vS F B sz)) (Q_Part_leastHeight K D ca ad L r F9 B9 (zA L sz)) 0 0 (zA L sz) := by
  refine zMet (Qc := Q_Part_leastHeight K D ca ad L r F9 B9) (lv := [(0, .ref (ad 4 l0 0)), (1, .int (iI l1))]) (by decide) (Nat.le_of_ble_eq_true rfl) rfl (fun A p e s m below meth c ls X hZ hS hl => ?_)
  obtain ⟨hx, hb, hr, hml, hown, hts, hlk, hK, hA, hL, hX⟩ := id X
  replace hf : (if 0 ≤ l0 ∧ l0 < K.2 4 then if 0 ≤ l1 ∧ l1 < 800 then if 0 ≤ (B 4 l0 360 l1) ∧ (B 4 l0 360 l1) < 200 then if 0 ≤ (B 4 l0 5 (B 4 l0 360 l1)) ∧ (B 4 l0 5 (B 4 l0 360 l1)) < K.2 1 then if 0 ≤ (F 4 l0 1) ∧ (F 4 l0 1) < ztl 8 then some ((B 1 (B 4 l0 5 (B 4 l0 360 l1)) 12 0) - (ztv 8 (F 4 l0 1)), F, B) else none else none else none else none else none) = some (r, F9, B9) := hf
  refine lv_aload_n hx hb d_6_19_0 rfl (lv_at hl 0 rfl) ?_
  obtain ⟨g1, hf⟩ := gif hf
  refine zget (ci := 4) (C := RX4) (T := TX4) (v := .ref (ad 4 l0 (5 + 1))) (k := 5) hx hb hts inW_4 hown hK hZ g1.1 g1.2 rfl (by decide) k_4_130 rfl d_6_19_1 ?_
  refine lv_aload_n hx hb d_6_19_4 rfl (lv_at hl 0 rfl) ?_
  refine zget (ci := 4) (C := RX4) (T := TX4) (v := .ref (ad 4 l0 (8 + 1))) (k := 8) hx hb hts inW_4 hown hK hZ g1.1 g1.2 rfl (by decide) k_4_142 rfl d_6_19_5 ?_
  refine lv_iconst (v := iI 0) hx hb d_6_19_8 rfl ?_
  refine zaldQ (t := 0) (ci := 4) (k := 8) hx hb hK rfl hZ g1.1 g1.2 rfl (Nat.le_of_ble_eq_true rfl) (by decide) (by decide) d_6_19_9 ?_
  refine W.eq (g2 := F0 m 10 ls [.ref (ad 4 l0 (360 + 1)), .ref (ad 4 l0 (5 + 1))]) rfl ?_
  refine lv_iload_n hx hb d_6_19_10 rfl (lv_at hl 1 rfl) ?_
  obtain ⟨g2, hf⟩ := gif hf
  refine zald (ci := 4) (k := 360) hx hb hK rfl hZ g1.1 g1.2 rfl (Nat.le_of_ble_eq_true rfl) g2.1 g2.2 d_6_19_11 ?_
  obtain ⟨g3, hf⟩ := gif hf
  refine zaldR (t := 1) (x := 7) (ci := 4) (k := 5) hx hb hK rfl rfl hZ g1.1 g1.2 rfl (Nat.le_of_ble_eq_true rfl) g3.1 g3.2 d_6_19_12 ?_
  obtain ⟨g4, hf⟩ := gif hf
  refine zunrf g4.1 ?_
  refine zget (ci := 1) (C := RX1) (T := TX1) (v := .ref (ad 1 (B 4 l0 5 (B 4 l0 360 l1)) (12 + 1))) (k := 12) hx hb hts inW_1 hown hK hZ g4.1 g4.2 rfl (by decide) k_2_60 rfl d_6_19_13 ?_
  refine lv_iconst (v := iI 0) hx hb d_6_19_16 rfl ?_
  refine zald (ci := 1) (k := 12) hx hb hK rfl hZ g4.1 g4.2 rfl (Nat.le_of_ble_eq_true rfl) (by decide) (show (0 : Int) < 6 by decide) d_6_19_17 ?_
  refine va_gets hx hb (hX.2.2.2.2.2.2 8 _ rfl).1 hS hown (hts _ k_5_138) (fun _ h => h) d_6_19_18 ?_
  refine W.eq (g2 := F0 m 21 ls [.ref (vS (1000 + 8)), .int (iI (B 1 (B 4 l0 5 (B 4 l0 360 l1)) 12 0))]) rfl ?_
  refine lv_aload_n hx hb d_6_19_21 rfl (lv_at hl 0 rfl) ?_
  refine zget (ci := 4) (C := RX4) (T := TX4) (v := .int (iI (F 4 l0 1))) (k := 1) hx hb hts inW_4 hown hK hZ g1.1 g1.2 rfl (by decide) k_4_121 rfl d_6_19_22 ?_
  obtain ⟨g5, hf⟩ := gif hf
  refine va_ti (v := .int (iI (ztv 8 (F 4 l0 1)))) hx hb (ztI hX (by decide) (by decide)) hS (zt_in (by decide) g5) (ztI_v (by decide) g5) d_6_19_25 ?_
  refine zsub hx hb d_6_19_26 ?_
  cases hf
  exact W.iret hx hb hr (fun t ht hW => ⟨⟨_, (), rfl, rfl, by rw [ht]; exact hZ, va_K.moved hW.alike hK⟩, hS.F ht⟩) hS.2.2 d_6_19_27 hlk

noncomputable abbrev Q_Piece_beatLength (K : zK) (D : va_G) (ca : Nat → ClassId) (ad : Nat → Int → Nat → Nat) (L : List Nat) (r : Int) (F : zF) (B : zB) (A : Nat → Prop) : Array Value → State → Outcome → State → Prop := va_Ql (S := Unit) (fun p _ => p = lI r) (fun _ => zPo D ca ad lnC K.2 L F B A) A
noncomputable def f_Piece_beatLength (K : zK) (l0 : Int) (F : zF) (B : zB) : zO := if 0 ≤ l0 ∧ l0 < K.2 6 then if r32 (F 6 l0 5) then if r32 (zmax (F 6 l0 5) 1) then if ¬ lI (zmax (F 6 l0 5) 1) = 0 then zbind (f_S_beatCount K (F 6 l0 4) (F 6 l0 5) F B) (fun r5 F5 B5 => if r32 r5 then some ((zldv 812851200 (zmax (F 6 l0 5) 1)) * r5, F5, B5) else none) else none else none else none else none
