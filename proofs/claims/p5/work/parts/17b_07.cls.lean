set_option maxHeartbeats 4000000 in
set_option maxRecDepth 100000 in
theorem b_Part_setStems_21 {D : va_G} {ca : Nat → ClassId} {ad : Nat → Int → Nat → Nat} {L : List Nat} {aS vS : Nat → Nat} {A : Nat → Prop} {p : Program} {l : Launch} {e : Env} {s : State} {m : MethodId} {args : Array Value} {below : List Frame} {meth : Method} {c : Code} {K : zK} {r : Int} {F9 : zF} {B9 : zB} (X : zX D ca L aS vS A p s m args meth c prog_6_method_25_code 7 (Option.none : Option Jvm.ClassFile.FieldType) "StaveHouse$Part") {rec4 : Int → Int → Int → zF → zB → zO} (hrec4 : ∀ {l2 : Int} {l1 : Int} {l0 : Int} {F : zF} {B : zB} {H : Heap} {locs : List Loc} {ls : Array Slot}, rec4 l2 l1 l0 F B = some (r, F9, B9) → zH D ca ad lnC K.2 L F B A H → va_S A s.heap H locs → lv_has ls 7 [(2, .int (iI l2)), (1, .int (iI l1)), (0, .ref (ad 4 l0 0))] → W p l e ({ frames := 2, cells := 0, slots := 0, locals := 36 } : Room) s m args below meth c H locs 0 0 (MQ below (Q_Part_setStems K D ca ad L r F9 B9 A) args s 0 0 A) (F0 m 4 ls [])) : ∀ {n : Nat} {l3 : Int} {l2 : Int} {l1 : Int} {l0 : Int} {F : zF} {B : zB} {H : Heap} {locs : List Loc} {ls : Array Slot}, f_Part_setStems_21 rec4 K n l3 l2 l1 l0 F B = some (r, F9, B9) → zH D ca ad lnC K.2 L F B A H → va_S A s.heap H locs → lv_has ls 7 [(3, .int (iI l3)), (2, .int (iI l2)), (1, .int (iI l1)), (0, .ref (ad 4 l0 0))] → W p l e ({ frames := 2, cells := 0, slots := 0, locals := 36 } : Room) s m args below meth c H locs 0 0 (MQ below (Q_Part_setStems K D ca ad L r F9 B9 A) args s 0 0 A) (F0 m 21 ls []) := by
  obtain ⟨hx, hb, hr, hml, hown, hts, hlk, hK, hA, hL, hX⟩ := id X
  intro n
  induction n with
  | zero =>
    intros
    rename_i hf _ _ _
    cases hf
  | succ n ih =>
    intro l3 l2 l1 l0 F B H locs ls hf hZ hS hl
    replace hf : (if 0 ≤ l0 ∧ l0 < K.2 4 then if 0 ≤ l1 ∧ l1 < 800 then if r32 (B 4 l0 369 l1) then (if (B 4 l0 369 l1) = (-1) then f_Part_setStems_73 rec4 K l3 l2 l1 l0 F B else if r32 (l1 + l3) then if r32 (F 4 l0 10) then (if (F 4 l0 10) ≤ (l1 + l3) then f_Part_setStems_73 rec4 K l3 l2 l1 l0 F B else if 0 ≤ (l1 + l3) ∧ (l1 + l3) < 800 then if r32 (B 4 l0 369 (l1 + l3)) then (if (B 4 l0 369 (l1 + l3)) = (B 4 l0 369 l1) then f_Part_setStems_21 rec4 K n (l3 + 1) l2 l1 l0 F B else f_Part_setStems_73 rec4 K l3 l2 l1 l0 F B) else none else none) else none else none) else none else none else none) = some (r, F9, B9) := hf
    refine lv_aload_n hx hb d_6_25_21 rfl (lv_at hl 3 rfl) ?_
    obtain ⟨g7, hf⟩ := gif hf
    refine zget (ci := 4) (C := RX4) (T := TX4) (v := .ref (ad 4 l0 (8 + 1))) (k := 8) hx hb hts inW_4 hown hK hZ g7.1 g7.2 rfl (by decide) k_4_142 rfl d_6_25_22 ?_
    refine lv_bipush (v := iI 9) hx hb d_6_25_25 (by decide) ?_
    refine zaldQ (t := 0) (ci := 4) (k := 8) hx hb hK rfl hZ g7.1 g7.2 rfl (Nat.le_of_ble_eq_true rfl) (by decide) (by decide) d_6_25_27 ?_
    refine W.eq (g2 := F0 m 28 ls [.ref (ad 4 l0 (369 + 1))]) rfl ?_
    refine lv_iload_n hx hb d_6_25_28 rfl (lv_at hl 2 rfl) ?_
    obtain ⟨g8, hf⟩ := gif hf
    refine zald (ci := 4) (k := 369) hx hb hK rfl hZ g7.1 g7.2 rfl (Nat.le_of_ble_eq_true rfl) g8.1 g8.2 d_6_25_29 ?_
    refine lv_iconst (v := iI (-1)) hx hb d_6_25_30 rfl ?_
    obtain ⟨g9, hf⟩ := gif hf
    refine zeq (tgt := 73) hx hb g9 (by decide) d_6_25_31 (by decide) (fun h10 => ?_) (fun h10 => ?_)
    · replace hf := gpos hf h10
      exact b_Part_setStems_73 X hrec4 hf hZ hS (lv_sub hl [0, 1, 2, 3] rfl)
    · replace hf := gneg hf h10
      refine lv_iload_n hx hb d_6_25_34 rfl (lv_at hl 2 rfl) ?_
      refine lv_iload_n hx hb d_6_25_35 rfl (lv_at hl 0 rfl) ?_
      refine zadd hx hb d_6_25_36 ?_
      refine lv_aload_n hx hb d_6_25_37 rfl (lv_at hl 3 rfl) ?_
      refine zget (ci := 4) (C := RX4) (T := TX4) (v := .int (iI (F 4 l0 10))) (k := 10) hx hb hts inW_4 hown hK hZ g7.1 g7.2 rfl (by decide) k_4_148 rfl d_6_25_38 ?_
      obtain ⟨g11, hf⟩ := gif hf
      obtain ⟨g12, hf⟩ := gif hf
      refine zge (tgt := 73) hx hb g11 g12 d_6_25_41 (by decide) (fun h13 => ?_) (fun h13 => ?_)
      · replace hf := gpos hf h13
        exact b_Part_setStems_73 X hrec4 hf hZ hS (lv_sub hl [0, 1, 2, 3] rfl)
      · replace hf := gneg hf h13
        refine lv_aload_n hx hb d_6_25_44 rfl (lv_at hl 3 rfl) ?_
        refine zget (ci := 4) (C := RX4) (T := TX4) (v := .ref (ad 4 l0 (8 + 1))) (k := 8) hx hb hts inW_4 hown hK hZ g7.1 g7.2 rfl (by decide) k_4_142 rfl d_6_25_45 ?_
        refine lv_bipush (v := iI 9) hx hb d_6_25_48 (by decide) ?_
        refine zaldQ (t := 0) (ci := 4) (k := 8) hx hb hK rfl hZ g7.1 g7.2 rfl (Nat.le_of_ble_eq_true rfl) (by decide) (by decide) d_6_25_50 ?_
        refine W.eq (g2 := F0 m 51 ls [.ref (ad 4 l0 (369 + 1))]) rfl ?_
        refine lv_iload_n hx hb d_6_25_51 rfl (lv_at hl 2 rfl) ?_
        refine lv_iload_n hx hb d_6_25_52 rfl (lv_at hl 0 rfl) ?_
        refine zadd hx hb d_6_25_53 ?_
        obtain ⟨g14, hf⟩ := gif hf
        refine zald (ci := 4) (k := 369) hx hb hK rfl hZ g7.1 g7.2 rfl (Nat.le_of_ble_eq_true rfl) g14.1 g14.2 d_6_25_54 ?_
        refine lv_aload_n hx hb d_6_25_55 rfl (lv_at hl 3 rfl) ?_
        refine zget (ci := 4) (C := RX4) (T := TX4) (v := .ref (ad 4 l0 (8 + 1))) (k := 8) hx hb hts inW_4 hown hK hZ g7.1 g7.2 rfl (by decide) k_4_142 rfl d_6_25_56 ?_
        refine lv_bipush (v := iI 9) hx hb d_6_25_59 (by decide) ?_
        refine zaldQ (t := 0) (ci := 4) (k := 8) hx hb hK rfl hZ g7.1 g7.2 rfl (Nat.le_of_ble_eq_true rfl) (by decide) (by decide) d_6_25_61 ?_
        refine W.eq (g2 := F0 m 62 ls [.ref (ad 4 l0 (369 + 1)), .int (iI (B 4 l0 369 (l1 + l3)))]) rfl ?_
        refine lv_iload_n hx hb d_6_25_62 rfl (lv_at hl 2 rfl) ?_
        refine zald (ci := 4) (k := 369) hx hb hK rfl hZ g7.1 g7.2 rfl (Nat.le_of_ble_eq_true rfl) g8.1 g8.2 d_6_25_63 ?_
        obtain ⟨g15, hf⟩ := gif hf
        refine zne (tgt := 73) hx hb g15 g9 d_6_25_64 (by decide) (fun h16 => ?_) (fun h16 => ?_)
        · replace hf := gneg hf h16
          exact b_Part_setStems_73 X hrec4 hf hZ hS (lv_sub hl [0, 1, 2, 3] rfl)
        · replace hf := gpos hf h16
          refine lv_iinc (v := iI (l3 + 1)) (lv' := [(3, .int (iI (l3 + 1))), (2, .int (iI l2)), (1, .int (iI l1)), (0, .ref (ad 4 l0 0))]) hx hb d_6_25_67 hl (k := 0) rfl (iI_add _ 1) (by decide) rfl (fun ls hl => ?_)
          refine lv_goto (tgt := 21) hx hb d_6_25_70 (by decide) ?_
          exact ih hf hZ hS (lv_sub hl [0, 1, 2, 3] rfl)

noncomputable def f_Part_setStems_4 (K : zK) : Nat → Int → Int → Int → zF → zB → zO
  | 0, _, _, _, _, _ => none
  | n + 1, l2, l1, l0, F, B => if r32 l2 then (if 800 ≤ l2 then f_Part_setStems_211 K F B else if 0 ≤ l0 ∧ l0 < K.2 4 then if r32 l1 then if r32 (F 4 l0 10) then (if (F 4 l0 10) ≤ l1 then f_Part_setStems_211 K F B else f_Part_setStems_21 (f_Part_setStems_4 K n) K K.1 1 l2 l1 l0 F B) else none else none else none) else none
set_option maxHeartbeats 4000000 in
set_option maxRecDepth 100000 in
theorem b_Part_setStems_4 {D : va_G} {ca : Nat → ClassId} {ad : Nat → Int → Nat → Nat} {L : List Nat} {aS vS : Nat → Nat} {A : Nat → Prop} {p : Program} {l : Launch} {e : Env} {s : State} {m : MethodId} {args : Array Value} {below : List Frame} {meth : Method} {c : Code} {K : zK} {r : Int} {F9 : zF} {B9 : zB} (X : zX D ca L aS vS A p s m args meth c prog_6_method_25_code 7 (Option.none : Option Jvm.ClassFile.FieldType) "StaveHouse$Part") : ∀ {n : Nat} {l2 : Int} {l1 : Int} {l0 : Int} {F : zF} {B : zB} {H : Heap} {locs : List Loc} {ls : Array Slot}, f_Part_setStems_4 K n l2 l1 l0 F B = some (r, F9, B9) → zH D ca ad lnC K.2 L F B A H → va_S A s.heap H locs → lv_has ls 7 [(2, .int (iI l2)), (1, .int (iI l1)), (0, .ref (ad 4 l0 0))] → W p l e ({ frames := 2, cells := 0, slots := 0, locals := 36 } : Room) s m args below meth c H locs 0 0 (MQ below (Q_Part_setStems K D ca ad L r F9 B9 A) args s 0 0 A) (F0 m 4 ls []) := by
  obtain ⟨hx, hb, hr, hml, hown, hts, hlk, hK, hA, hL, hX⟩ := id X
  intro n
  induction n with
  | zero =>
    intros
    rename_i hf _ _ _
    cases hf
  | succ n ih =>
    intro l2 l1 l0 F B H locs ls hf hZ hS hl
    replace hf : (if r32 l2 then (if 800 ≤ l2 then f_Part_setStems_211 K F B else if 0 ≤ l0 ∧ l0 < K.2 4 then if r32 l1 then if r32 (F 4 l0 10) then (if (F 4 l0 10) ≤ l1 then f_Part_setStems_211 K F B else f_Part_setStems_21 (f_Part_setStems_4 K n) K K.1 1 l2 l1 l0 F B) else none else none else none) else none) = some (r, F9, B9) := hf
    refine lv_iload_n hx hb d_6_25_4 rfl (lv_at hl 0 rfl) ?_
    refine lv_sipush (v := iI 800) hx hb d_6_25_5 (by decide) ?_
    obtain ⟨g1, hf⟩ := gif hf
    refine zge (tgt := 211) hx hb g1 (by decide) d_6_25_8 (by decide) (fun h2 => ?_) (fun h2 => ?_)
    · replace hf := gpos hf h2
      exact b_Part_setStems_211 X hf hZ hS (lv_sub hl [] rfl)
    · replace hf := gneg hf h2
      refine lv_iload_n hx hb d_6_25_11 rfl (lv_at hl 1 rfl) ?_
      refine lv_aload_n hx hb d_6_25_12 rfl (lv_at hl 2 rfl) ?_
      obtain ⟨g3, hf⟩ := gif hf
      refine zget (ci := 4) (C := RX4) (T := TX4) (v := .int (iI (F 4 l0 10))) (k := 10) hx hb hts inW_4 hown hK hZ g3.1 g3.2 rfl (by decide) k_4_148 rfl d_6_25_13 ?_
      obtain ⟨g4, hf⟩ := gif hf
      obtain ⟨g5, hf⟩ := gif hf
      refine zge (tgt := 211) hx hb g4 g5 d_6_25_16 (by decide) (fun h6 => ?_) (fun h6 => ?_)
      · replace hf := gpos hf h6
        exact b_Part_setStems_211 X hf hZ hS (lv_sub hl [] rfl)
      · replace hf := gneg hf h6
        refine lv_iconst (v := iI 1) hx hb d_6_25_19 rfl ?_
        refine lv_istore_n (lv' := [(3, .int (iI 1)), (2, .int (iI l2)), (1, .int (iI l1)), (0, .ref (ad 4 l0 0))]) hx hb d_6_25_20 rfl hl (by decide) rfl (fun ls hl => ?_)
        exact b_Part_setStems_21 X ih hf hZ hS (lv_sub hl [0, 1, 2, 3] rfl)

noncomputable def f_Part_setStems (K : zK) (l0 : Int) (F : zF) (B : zB) : zO := f_Part_setStems_4 K K.1 0 0 l0 F B
set_option maxHeartbeats 4000000 in
set_option maxRecDepth 100000 in
theorem c_Part_setStems {l : Launch} {D : va_G} {ca : Nat → ClassId} {ad : Nat → Int → Nat → Nat} {L : List Nat} {aS vS : Nat → Nat} {sz : Nat} {K : zK}  {l0 : Int} {F F9 : zF} {B B9 : zB} {r : Int} (hf : f_Part_setStems K l0 F B = some (r, F9, B9)) : Met l ({ cls := "StaveHouse$Part", name := "setStems", desc := "()V" } : Jvm.MethodName) (Cond.code ({ cls := "StaveHouse$Part", name := "setStems", desc := "()V" } : Jvm.MethodName) prog_6_method_25_code 7 (Option.none : Option Jvm.ClassFile.FieldType) :: wAll) ({ frames := 2, cells := 0, slots := 0, locals := 36 } : Room) (va_Pc [.ref (ad 4 l0 0)] (zPre D ca ad lnC K.2 L aS vS F B sz)) (Q_Part_setStems K D ca ad L r F9 B9 (zA L sz)) 0 0 (zA L sz) := by
  refine zMet (Qc := Q_Part_setStems K D ca ad L r F9 B9) (lv := [(0, .ref (ad 4 l0 0))]) (by decide) (Nat.le_of_ble_eq_true rfl) rfl (fun A p e s m below meth c ls X hZ hS hl => ?_)
  obtain ⟨hx, hb, hr, hml, hown, hts, hlk, hK, hA, hL, hX⟩ := id X
  replace hf : (f_Part_setStems_4 K K.1 0 0 l0 F B) = some (r, F9, B9) := hf
  refine lv_iconst (v := iI 0) hx hb d_6_25_0 rfl ?_
  refine lv_istore_n (lv' := [(1, .int (iI 0)), (0, .ref (ad 4 l0 0))]) hx hb d_6_25_1 rfl hl (by decide) rfl (fun ls hl => ?_)
  refine lv_iconst (v := iI 0) hx hb d_6_25_2 rfl ?_
  refine lv_istore_n (lv' := [(2, .int (iI 0)), (1, .int (iI 0)), (0, .ref (ad 4 l0 0))]) hx hb d_6_25_3 rfl hl (by decide) rfl (fun ls hl => ?_)
  exact b_Part_setStems_4 X hf hZ hS (lv_sub hl [0, 1, 2] rfl)


