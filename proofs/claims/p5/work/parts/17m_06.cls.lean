noncomputable def oH_CW (K : zK) (l : Launch) (D : va_G) (ca : Nat → ClassId) (ad : Nat → Int → Nat → Nat) (L : List Nat) (aS vS : Nat → Nat) (d : Nat) (o : oT_CW) : Prop := (∀ {sz : Nat} {l0 : Int} {l1 : Int} {l2 : Int} {F F9 : zF} {B B9 : zB} {r : Int}, o.1 l0 l1 l2 F B = some (r, F9, B9) → Met l ({ cls := "StaveHouse$Walker", name := "goThrough", desc := "(II)V" } : Jvm.MethodName) (Cond.code ({ cls := "StaveHouse$Walker", name := "goThrough", desc := "(II)V" } : Jvm.MethodName) prog_13_method_4_code 5 (Option.none : Option Jvm.ClassFile.FieldType) :: wAll) ({ frames := d + 5, cells := 0, slots := 0, locals := 25 * d + 95 } : Room) (va_Pc [.ref (ad 11 l0 0), .int (iI l1), .int (iI l2)] (zPre D ca ad lnC K.2 L aS vS F B sz)) (Q_Walker_goThrough K D ca ad L r F9 B9 (zA L sz)) 0 0 (zA L sz)) ∧ (∀ {sz : Nat} {l0 : Int} {l1 : Int} {l2 : Int} {F F9 : zF} {B B9 : zB} {r : Int}, o.2.1 l0 l1 l2 F B = some (r, F9, B9) → Met l ({ cls := "StaveHouse$Walker", name := "goItem", desc := "(II)V" } : Jvm.MethodName) (Cond.code ({ cls := "StaveHouse$Walker", name := "goItem", desc := "(II)V" } : Jvm.MethodName) prog_13_method_6_code 4 (Option.none : Option Jvm.ClassFile.FieldType) :: wAll) ({ frames := d + 5, cells := 0, slots := 0, locals := 25 * d + 95 } : Room) (va_Pc [.ref (ad 11 l0 0), .int (iI l1), .int (iI l2)] (zPre D ca ad lnC K.2 L aS vS F B sz)) (Q_Walker_goItem K D ca ad L r F9 B9 (zA L sz)) 0 0 (zA L sz)) ∧ (∀ {sz : Nat} {l0 : Int} {l1 : Int} {l2 : Int} {F F9 : zF} {B B9 : zB} {r : Int}, o.2.2.1 l0 l1 l2 F B = some (r, F9, B9) → Met l ({ cls := "StaveHouse$Walker", name := "goBracket", desc := "(II)V" } : Jvm.MethodName) (Cond.code ({ cls := "StaveHouse$Walker", name := "goBracket", desc := "(II)V" } : Jvm.MethodName) prog_13_method_7_code 5 (Option.none : Option Jvm.ClassFile.FieldType) :: wAll) ({ frames := d + 5, cells := 0, slots := 0, locals := 25 * d + 95 } : Room) (va_Pc [.ref (ad 11 l0 0), .int (iI l1), .int (iI l2)] (zPre D ca ad lnC K.2 L aS vS F B sz)) (Q_Walker_goBracket K D ca ad L r F9 B9 (zA L sz)) 0 0 (zA L sz)) ∧ (∀ {sz : Nat} {l0 : Int} {l1 : Int} {l2 : Int} {F F9 : zF} {B B9 : zB} {r : Int}, o.2.2.2.1 l0 l1 l2 F B = some (r, F9, B9) → Met l ({ cls := "StaveHouse$Walker", name := "goRepeat", desc := "(II)V" } : Jvm.MethodName) (Cond.code ({ cls := "StaveHouse$Walker", name := "goRepeat", desc := "(II)V" } : Jvm.MethodName) prog_13_method_8_code 6 (Option.none : Option Jvm.ClassFile.FieldType) :: wAll) ({ frames := d + 5, cells := 0, slots := 0, locals := 25 * d + 95 } : Room) (va_Pc [.ref (ad 11 l0 0), .int (iI l1), .int (iI l2)] (zPre D ca ad lnC K.2 L aS vS F B sz)) (Q_Walker_goRepeat K D ca ad L r F9 B9 (zA L sz)) 0 0 (zA L sz)) ∧ (∀ {sz : Nat} {l0 : Int} {l1 : Int} {l2 : Int} {l3 : Int} {F F9 : zF} {B B9 : zB} {r : Int}, o.2.2.2.2.1 l0 l1 l2 l3 F B = some (r, F9, B9) → Met l ({ cls := "StaveHouse$Walker", name := "goCarried", desc := "(III)V" } : Jvm.MethodName) (Cond.code ({ cls := "StaveHouse$Walker", name := "goCarried", desc := "(III)V" } : Jvm.MethodName) prog_13_method_9_code 4 (Option.none : Option Jvm.ClassFile.FieldType) :: wAll) ({ frames := d + 5, cells := 0, slots := 0, locals := 25 * d + 95 } : Room) (va_Pc [.ref (ad 11 l0 0), .int (iI l1), .int (iI l2), .int (iI l3)] (zPre D ca ad lnC K.2 L aS vS F B sz)) (Q_Walker_goCarried K D ca ad L r F9 B9 (zA L sz)) 0 0 (zA L sz)) ∧ (∀ {sz : Nat} {l0 : Int} {l1 : Int} {l2 : Int} {F F9 : zF} {B B9 : zB} {r : Int}, o.2.2.2.2.2 l0 l1 l2 F B = some (r, F9, B9) → Met l ({ cls := "StaveHouse$Walker", name := "goBack", desc := "(II)V" } : Jvm.MethodName) (Cond.code ({ cls := "StaveHouse$Walker", name := "goBack", desc := "(II)V" } : Jvm.MethodName) prog_13_method_10_code 4 (Option.none : Option Jvm.ClassFile.FieldType) :: wAll) ({ frames := d + 5, cells := 0, slots := 0, locals := 25 * d + 95 } : Room) (va_Pc [.ref (ad 11 l0 0), .int (iI l1), .int (iI l2)] (zPre D ca ad lnC K.2 L aS vS F B sz)) (Q_Walker_goBack K D ca ad L r F9 B9 (zA L sz)) 0 0 (zA L sz))
noncomputable def f_Walker_goThrough_73 (o : oT_CW) (K : zK)  (F : zF) (B : zB) : zO := some (0, F, B)
set_option maxHeartbeats 4000000 in
set_option maxRecDepth 100000 in
theorem b_Walker_goThrough_73 {D : va_G} {ca : Nat → ClassId} {ad : Nat → Int → Nat → Nat} {L : List Nat} {aS vS : Nat → Nat} {A : Nat → Prop} {p : Program} {l : Launch} {e : Env} {s : State} {m : MethodId} {args : Array Value} {below : List Frame} {meth : Method} {c : Code} {K : zK} {r : Int} {F9 : zF} {B9 : zB} {d : Nat} {o : oT_CW} (X : zX D ca L aS vS A p s m args meth c prog_13_method_4_code 5 (Option.none : Option Jvm.ClassFile.FieldType) "StaveHouse$Walker") (ho : oH_CW K l D ca ad L aS vS d o)  {F : zF} {B : zB} {H : Heap} {locs : List Loc} {ls : Array Slot} (hf : f_Walker_goThrough_73 o K  F B = some (r, F9, B9)) (hZ : zH D ca ad lnC K.2 L F B A H) (hS : va_S A s.heap H locs) (hl : lv_has ls 5 []) : W p l e ({ frames := d + 1 + 5, cells := 0, slots := 0, locals := 25 * (d + 1) + 95 } : Room) s m args below meth c H locs 0 0 (MQ below (Q_Walker_goThrough K D ca ad L r F9 B9 A) args s 0 0 A) (F0 m 73 ls []) := by
  obtain ⟨hx, hb, hr, hml, hown, hts, hlk, hK, hA, hL, hX⟩ := id X
  replace hf : (some (0, F, B)) = some (r, F9, B9) := hf
  cases hf
  exact W.vret hx hb hr (fun t ht hW => ⟨⟨(), rfl, trivial, by rw [ht]; exact hZ, va_K.moved hW.alike hK⟩, hS.F ht⟩) hS.2.2 d_13_4_73 hlk

noncomputable def f_Walker_goThrough_57 (o : oT_CW) (rec5 : Int → Int → Int → Int → zF → zB → zO) (K : zK) (l4 : Int) (l3 : Int) (l0 : Int) (l2 : Int) (F : zF) (B : zB) : zO := if 0 ≤ l0 ∧ l0 < K.2 11 then if 0 ≤ (F 11 l0 0) ∧ (F 11 l0 0) < K.2 3 then if 0 ≤ l3 ∧ l3 < 3000 then rec5 (l4 + 1) (B 3 (F 11 l0 0) 5 l3) l0 l2 F B else none else none else none
set_option maxHeartbeats 4000000 in
set_option maxRecDepth 100000 in
theorem b_Walker_goThrough_57 {D : va_G} {ca : Nat → ClassId} {ad : Nat → Int → Nat → Nat} {L : List Nat} {aS vS : Nat → Nat} {A : Nat → Prop} {p : Program} {l : Launch} {e : Env} {s : State} {m : MethodId} {args : Array Value} {below : List Frame} {meth : Method} {c : Code} {K : zK} {r : Int} {F9 : zF} {B9 : zB} {d : Nat} {o : oT_CW} (X : zX D ca L aS vS A p s m args meth c prog_13_method_4_code 5 (Option.none : Option Jvm.ClassFile.FieldType) "StaveHouse$Walker") (ho : oH_CW K l D ca ad L aS vS d o) {rec5 : Int → Int → Int → Int → zF → zB → zO} (hrec5 : ∀ {l4 : Int} {l3 : Int} {l0 : Int} {l2 : Int} {F : zF} {B : zB} {H : Heap} {locs : List Loc} {ls : Array Slot}, rec5 l4 l3 l0 l2 F B = some (r, F9, B9) → zH D ca ad lnC K.2 L F B A H → va_S A s.heap H locs → lv_has ls 5 [(4, .int (iI l4)), (3, .int (iI l3)), (0, .ref (ad 11 l0 0)), (2, .int (iI l2))] → W p l e ({ frames := d + 1 + 5, cells := 0, slots := 0, locals := 25 * (d + 1) + 95 } : Room) s m args below meth c H locs 0 0 (MQ below (Q_Walker_goThrough K D ca ad L r F9 B9 A) args s 0 0 A) (F0 m 5 ls [])) {l4 : Int} {l3 : Int} {l0 : Int} {l2 : Int} {F : zF} {B : zB} {H : Heap} {locs : List Loc} {ls : Array Slot} (hf : f_Walker_goThrough_57 o rec5 K l4 l3 l0 l2 F B = some (r, F9, B9)) (hZ : zH D ca ad lnC K.2 L F B A H) (hS : va_S A s.heap H locs) (hl : lv_has ls 5 [(4, .int (iI l4)), (3, .int (iI l3)), (0, .ref (ad 11 l0 0)), (2, .int (iI l2))]) : W p l e ({ frames := d + 1 + 5, cells := 0, slots := 0, locals := 25 * (d + 1) + 95 } : Room) s m args below meth c H locs 0 0 (MQ below (Q_Walker_goThrough K D ca ad L r F9 B9 A) args s 0 0 A) (F0 m 57 ls []) := by
  obtain ⟨hx, hb, hr, hml, hown, hts, hlk, hK, hA, hL, hX⟩ := id X
  replace hf : (if 0 ≤ l0 ∧ l0 < K.2 11 then if 0 ≤ (F 11 l0 0) ∧ (F 11 l0 0) < K.2 3 then if 0 ≤ l3 ∧ l3 < 3000 then rec5 (l4 + 1) (B 3 (F 11 l0 0) 5 l3) l0 l2 F B else none else none else none) = some (r, F9, B9) := hf
  refine lv_aload_n hx hb d_13_4_57 rfl (lv_at hl 2 rfl) ?_
  obtain ⟨g16, hf⟩ := gif hf
  refine zget (ci := 11) (C := RX11) (T := TX11) (v := va_rf (zrf ad 3 (F 11 l0 0))) (k := 0) hx hb hts inW_11 hown hK hZ g16.1 g16.2 rfl (by decide) k_1_190 rfl d_13_4_58 ?_
  obtain ⟨g17, hf⟩ := gif hf
  refine zunrf g17.1 ?_
  refine zget (ci := 3) (C := RX3) (T := TX3) (v := .ref (ad 3 (F 11 l0 0) (5 + 1))) (k := 5) hx hb hts inW_3 hown hK hZ g17.1 g17.2 rfl (by decide) k_1_117 rfl d_13_4_61 ?_
  refine lv_iload_n hx hb d_13_4_64 rfl (lv_at hl 1 rfl) ?_
  obtain ⟨g18, hf⟩ := gif hf
  refine zald (ci := 3) (k := 5) hx hb hK rfl hZ g17.1 g17.2 rfl (Nat.le_of_ble_eq_true rfl) g18.1 g18.2 d_13_4_65 ?_
  refine lv_istore_n (lv' := [(3, .int (iI (B 3 (F 11 l0 0) 5 l3))), (4, .int (iI l4)), (0, .ref (ad 11 l0 0)), (2, .int (iI l2))]) hx hb d_13_4_66 rfl hl (by decide) rfl (fun ls hl => ?_)
  refine lv_iinc (v := iI (l4 + 1)) (lv' := [(4, .int (iI (l4 + 1))), (3, .int (iI (B 3 (F 11 l0 0) 5 l3))), (0, .ref (ad 11 l0 0)), (2, .int (iI l2))]) hx hb d_13_4_67 hl (k := 1) rfl (iI_add _ 1) (by decide) rfl (fun ls hl => ?_)
  refine lv_goto (tgt := 5) hx hb d_13_4_70 (by decide) ?_
  exact hrec5 hf hZ hS (lv_sub hl [0, 1, 2, 3] rfl)

noncomputable def f_Walker_goThrough_5 (o : oT_CW) (K : zK) : Nat → Int → Int → Int → Int → zF → zB → zO
  | 0, _, _, _, _, _, _ => none
  | n + 1, l4, l3, l0, l2, F, B => if r32 l4 then (if 3000 ≤ l4 then f_Walker_goThrough_73 o K F B else if r32 l3 then (if l3 = (-1) then f_Walker_goThrough_73 o K F B else if 0 ≤ l0 ∧ l0 < K.2 11 then if r32 (F 11 l0 2) then (if (F 11 l0 2) = 0 then if r32 l2 then (if 64 ≤ l2 then f_Walker_goThrough_73 o K F B else if 0 ≤ (F 11 l0 0) ∧ (F 11 l0 0) < K.2 3 then if 0 ≤ l3 ∧ l3 < 3000 then zbind (f_Walker_countItem K l0 (B 3 (F 11 l0 0) 1 l3) F B) (fun r12 F12 B12 => if r32 (F12 11 l0 2) then (if (F12 11 l0 2) = 0 then zbind (o.2.1 l0 l3 l2 F12 B12) (fun r15 F15 B15 => f_Walker_goThrough_57 o (f_Walker_goThrough_5 o K n) K l4 l3 l0 l2 F15 B15) else f_Walker_goThrough_57 o (f_Walker_goThrough_5 o K n) K l4 l3 l0 l2 F12 B12) else none) else none else none) else none else f_Walker_goThrough_73 o K F B) else none else none) else none) else none
set_option maxHeartbeats 4000000 in
set_option maxRecDepth 100000 in
theorem b_Walker_goThrough_5 {D : va_G} {ca : Nat → ClassId} {ad : Nat → Int → Nat → Nat} {L : List Nat} {aS vS : Nat → Nat} {A : Nat → Prop} {p : Program} {l : Launch} {e : Env} {s : State} {m : MethodId} {args : Array Value} {below : List Frame} {meth : Method} {c : Code} {K : zK} {r : Int} {F9 : zF} {B9 : zB} {d : Nat} {o : oT_CW} (X : zX D ca L aS vS A p s m args meth c prog_13_method_4_code 5 (Option.none : Option Jvm.ClassFile.FieldType) "StaveHouse$Walker") (ho : oH_CW K l D ca ad L aS vS d o) : ∀ {n : Nat} {l4 : Int} {l3 : Int} {l0 : Int} {l2 : Int} {F : zF} {B : zB} {H : Heap} {locs : List Loc} {ls : Array Slot}, f_Walker_goThrough_5 o K n l4 l3 l0 l2 F B = some (r, F9, B9) → zH D ca ad lnC K.2 L F B A H → va_S A s.heap H locs → lv_has ls 5 [(4, .int (iI l4)), (3, .int (iI l3)), (0, .ref (ad 11 l0 0)), (2, .int (iI l2))] → W p l e ({ frames := d + 1 + 5, cells := 0, slots := 0, locals := 25 * (d + 1) + 95 } : Room) s m args below meth c H locs 0 0 (MQ below (Q_Walker_goThrough K D ca ad L r F9 B9 A) args s 0 0 A) (F0 m 5 ls []) := by
  obtain ⟨hx, hb, hr, hml, hown, hts, hlk, hK, hA, hL, hX⟩ := id X
  intro n
  induction n with
  | zero =>
    intros
    rename_i hf _ _ _
    cases hf
  | succ n ih =>
    intro l4 l3 l0 l2 F B H locs ls hf hZ hS hl
    replace hf : (if r32 l4 then (if 3000 ≤ l4 then f_Walker_goThrough_73 o K F B else if r32 l3 then (if l3 = (-1) then f_Walker_goThrough_73 o K F B else if 0 ≤ l0 ∧ l0 < K.2 11 then if r32 (F 11 l0 2) then (if (F 11 l0 2) = 0 then if r32 l2 then (if 64 ≤ l2 then f_Walker_goThrough_73 o K F B else if 0 ≤ (F 11 l0 0) ∧ (F 11 l0 0) < K.2 3 then if 0 ≤ l3 ∧ l3 < 3000 then zbind (f_Walker_countItem K l0 (B 3 (F 11 l0 0) 1 l3) F B) (fun r12 F12 B12 => if r32 (F12 11 l0 2) then (if (F12 11 l0 2) = 0 then zbind (o.2.1 l0 l3 l2 F12 B12) (fun r15 F15 B15 => f_Walker_goThrough_57 o (f_Walker_goThrough_5 o K n) K l4 l3 l0 l2 F15 B15) else f_Walker_goThrough_57 o (f_Walker_goThrough_5 o K n) K l4 l3 l0 l2 F12 B12) else none) else none else none) else none else f_Walker_goThrough_73 o K F B) else none else none) else none) else none) = some (r, F9, B9) := hf
    refine lv_iload hx hb d_13_4_5 (lv_at hl 0 rfl) ?_
    refine lv_sipush (v := iI 3000) hx hb d_13_4_7 (by decide) ?_
    obtain ⟨g1, hf⟩ := gif hf
    refine zge (tgt := 73) hx hb g1 (by decide) d_13_4_10 (by decide) (fun h2 => ?_) (fun h2 => ?_)
    · replace hf := gpos hf h2
      exact b_Walker_goThrough_73 X ho hf hZ hS (lv_sub hl [] rfl)
    · replace hf := gneg hf h2
      refine lv_iload_n hx hb d_13_4_13 rfl (lv_at hl 1 rfl) ?_
      refine lv_iconst (v := iI (-1)) hx hb d_13_4_14 rfl ?_
      obtain ⟨g3, hf⟩ := gif hf
      refine zeq (tgt := 73) hx hb g3 (by decide) d_13_4_15 (by decide) (fun h4 => ?_) (fun h4 => ?_)
      · replace hf := gpos hf h4
        exact b_Walker_goThrough_73 X ho hf hZ hS (lv_sub hl [] rfl)
      · replace hf := gneg hf h4
        refine lv_aload_n hx hb d_13_4_18 rfl (lv_at hl 2 rfl) ?_
        obtain ⟨g5, hf⟩ := gif hf
        refine zget (ci := 11) (C := RX11) (T := TX11) (v := .int (iI (F 11 l0 2))) (k := 2) hx hb hts inW_11 hown hK hZ g5.1 g5.2 rfl (by decide) k_1_192 rfl d_13_4_19 ?_
        obtain ⟨g6, hf⟩ := gif hf
        refine z0ne (tgt := 73) hx hb g6 d_13_4_22 (by decide) (fun h7 => ?_) (fun h7 => ?_)
        · replace hf := gneg hf h7
          exact b_Walker_goThrough_73 X ho hf hZ hS (lv_sub hl [] rfl)
        · replace hf := gpos hf h7
          refine lv_iload_n hx hb d_13_4_25 rfl (lv_at hl 3 rfl) ?_
          refine lv_bipush (v := iI 64) hx hb d_13_4_26 (by decide) ?_
          obtain ⟨g8, hf⟩ := gif hf
          refine zge (tgt := 73) hx hb g8 (by decide) d_13_4_28 (by decide) (fun h9 => ?_) (fun h9 => ?_)
          · replace hf := gpos hf h9
            exact b_Walker_goThrough_73 X ho hf hZ hS (lv_sub hl [] rfl)
          · replace hf := gneg hf h9
            refine lv_aload_n hx hb d_13_4_31 rfl (lv_at hl 2 rfl) ?_
            refine lv_aload_n hx hb d_13_4_32 rfl (lv_at hl 2 rfl) ?_
            refine zget (ci := 11) (C := RX11) (T := TX11) (v := va_rf (zrf ad 3 (F 11 l0 0))) (k := 0) hx hb hts inW_11 hown hK hZ g5.1 g5.2 rfl (by decide) k_1_190 rfl d_13_4_33 ?_
            obtain ⟨g10, hf⟩ := gif hf
            refine zunrf g10.1 ?_
            refine zget (ci := 3) (C := RX3) (T := TX3) (v := .ref (ad 3 (F 11 l0 0) (1 + 1))) (k := 1) hx hb hts inW_3 hown hK hZ g10.1 g10.2 rfl (by decide) k_1_109 rfl d_13_4_36 ?_
            refine lv_iload_n hx hb d_13_4_39 rfl (lv_at hl 1 rfl) ?_
            obtain ⟨g11, hf⟩ := gif hf
            refine zald (ci := 3) (k := 1) hx hb hK rfl hZ g10.1 g10.2 rfl (Nat.le_of_ble_eq_true rfl) g11.1 g11.2 d_13_4_40 ?_
            obtain ⟨r12, F12, B12, hc12, hf⟩ := gbind hf
            refine va_callv (va_runV (As := [.int (iI (B 3 (F 11 l0 0) 1 l3))]) (rest := []) ⟨hx, hb, hml, hown, hts⟩ (c_Walker_countItem (l := l) hc12) (cwV 1 hts (gdV k_4_200 k_4_202 ks_35 k_1_6 k_4_203) rfl rfl rfl (by decide +kernel) ⟨by dsimp only; omega, by dsimp only; omega⟩) (zPV X hZ hS (ci := 11) g5.1 g5.2 (r := (RX11, TX11, 19)) rfl [.int (iI (B 3 (F 11 l0 0) 1 l3))]) rfl rfl hl.1 rfl (lv_room (Nat.le_of_ble_eq_true rfl)) d_13_4_41 ⟨Nat.le_of_ble_eq_true rfl, Nat.le_of_ble_eq_true rfl⟩) hS (fun q _ h => zAin X hS q h) (zAin X hS) (fun u12 t12 H12 locs12 ht12 hv12 hw12 hB12 hz12 hk12 hS12 => ?_)
            have hZ12 := zBack X ht12 hB12
            refine lv_aload_n hx hb d_13_4_44 rfl (lv_at hl 2 rfl) ?_
            refine zget (ci := 11) (C := RX11) (T := TX11) (v := .int (iI (F12 11 l0 2))) (k := 2) hx hb hts inW_11 hown hK hZ12 g5.1 g5.2 rfl (by decide) k_1_192 rfl d_13_4_45 ?_
            obtain ⟨g13, hf⟩ := gif hf
            refine z0ne (tgt := 57) hx hb g13 d_13_4_48 (by decide) (fun h14 => ?_) (fun h14 => ?_)
            · replace hf := gneg hf h14
              exact b_Walker_goThrough_57 X ho ih hf hZ12 hS12 (lv_sub hl [0, 1, 2, 3] rfl)
            · replace hf := gpos hf h14
              refine lv_aload_n hx hb d_13_4_51 rfl (lv_at hl 2 rfl) ?_
              refine lv_iload_n hx hb d_13_4_52 rfl (lv_at hl 1 rfl) ?_
              refine lv_iload_n hx hb d_13_4_53 rfl (lv_at hl 3 rfl) ?_
              obtain ⟨r15, F15, B15, hc15, hf⟩ := gbind hf
              refine va_callv (va_runV (As := [.int (iI l3), .int (iI l2)]) (rest := []) ⟨hx, hb, hml, hown, hts⟩ (ho.2.1 hc15) (cwV 2 hts (gdV k_4_208 k_4_210 ks_37 k_1_6 k_4_211) rfl rfl rfl (by decide +kernel) ⟨by dsimp only; omega, by dsimp only; omega⟩) (zPV X hZ12 hS12 (ci := 11) g5.1 g5.2 (r := (RX11, TX11, 19)) rfl [.int (iI l3), .int (iI l2)]) rfl rfl hl.1 rfl (lv_room (Nat.le_of_ble_eq_true rfl)) d_13_4_54 ⟨Nat.le_of_ble_eq_true rfl, Nat.le_of_ble_eq_true rfl⟩) hS12 (fun q _ h => zAin X hS12 q h) (zAin X hS12) (fun u15 t15 H15 locs15 ht15 hv15 hw15 hB15 hz15 hk15 hS15 => ?_)
              have hZ15 := zBack X ht15 hB15
              exact b_Walker_goThrough_57 X ho ih hf hZ15 hS15 (lv_sub hl [0, 1, 2, 3] rfl)

noncomputable def fb_Walker_goThrough (o : oT_CW) (K : zK) (l0 : Int) (l1 : Int) (l2 : Int) (F : zF) (B : zB) : zO := f_Walker_goThrough_5 o K K.1 0 l1 l0 l2 F B
set_option maxHeartbeats 4000000 in
set_option maxRecDepth 100000 in
theorem cb_Walker_goThrough {l : Launch} {D : va_G} {ca : Nat → ClassId} {ad : Nat → Int → Nat → Nat} {L : List Nat} {aS vS : Nat → Nat} {sz : Nat} {K : zK} {d : Nat} {o : oT_CW} (ho : oH_CW K l D ca ad L aS vS d o)  {l0 : Int} {l1 : Int} {l2 : Int} {F F9 : zF} {B B9 : zB} {r : Int} (hf : fb_Walker_goThrough o K l0 l1 l2 F B = some (r, F9, B9)) : Met l ({ cls := "StaveHouse$Walker", name := "goThrough", desc := "(II)V" } : Jvm.MethodName) (Cond.code ({ cls := "StaveHouse$Walker", name := "goThrough", desc := "(II)V" } : Jvm.MethodName) prog_13_method_4_code 5 (Option.none : Option Jvm.ClassFile.FieldType) :: wAll) ({ frames := d + 1 + 5, cells := 0, slots := 0, locals := 25 * (d + 1) + 95 } : Room) (va_Pc [.ref (ad 11 l0 0), .int (iI l1), .int (iI l2)] (zPre D ca ad lnC K.2 L aS vS F B sz)) (Q_Walker_goThrough K D ca ad L r F9 B9 (zA L sz)) 0 0 (zA L sz) := by
  refine zMet (Qc := Q_Walker_goThrough K D ca ad L r F9 B9) (lv := [(0, .ref (ad 11 l0 0)), (1, .int (iI l1)), (2, .int (iI l2))]) (by decide) (Nat.le_of_ble_eq_true rfl) rfl (fun A p e s m below meth c ls X hZ hS hl => ?_)
  obtain ⟨hx, hb, hr, hml, hown, hts, hlk, hK, hA, hL, hX⟩ := id X
  replace hf : (f_Walker_goThrough_5 o K K.1 0 l1 l0 l2 F B) = some (r, F9, B9) := hf
  refine lv_iload_n hx hb d_13_4_0 rfl (lv_at hl 1 rfl) ?_
  refine lv_istore_n (lv' := [(3, .int (iI l1)), (0, .ref (ad 11 l0 0)), (1, .int (iI l1)), (2, .int (iI l2))]) hx hb d_13_4_1 rfl hl (by decide) rfl (fun ls hl => ?_)
  refine lv_iconst (v := iI 0) hx hb d_13_4_2 rfl ?_
  refine lv_istore (lv' := [(4, .int (iI 0)), (3, .int (iI l1)), (0, .ref (ad 11 l0 0)), (1, .int (iI l1)), (2, .int (iI l2))]) hx hb d_13_4_3 hl (by decide) rfl (fun ls hl => ?_)
  exact b_Walker_goThrough_5 X ho hf hZ hS (lv_sub hl [0, 1, 2, 4] rfl)

noncomputable def f_Walker_goItem_285 (o : oT_CW) (K : zK)  (F : zF) (B : zB) : zO := some (0, F, B)
set_option maxHeartbeats 4000000 in
set_option maxRecDepth 100000 in
theorem b_Walker_goItem_285 {D : va_G} {ca : Nat → ClassId} {ad : Nat → Int → Nat → Nat} {L : List Nat} {aS vS : Nat → Nat} {A : Nat → Prop} {p : Program} {l : Launch} {e : Env} {s : State} {m : MethodId} {args : Array Value} {below : List Frame} {meth : Method} {c : Code} {K : zK} {r : Int} {F9 : zF} {B9 : zB} {d : Nat} {o : oT_CW} (X : zX D ca L aS vS A p s m args meth c prog_13_method_6_code 4 (Option.none : Option Jvm.ClassFile.FieldType) "StaveHouse$Walker") (ho : oH_CW K l D ca ad L aS vS d o)  {F : zF} {B : zB} {H : Heap} {locs : List Loc} {ls : Array Slot} (hf : f_Walker_goItem_285 o K  F B = some (r, F9, B9)) (hZ : zH D ca ad lnC K.2 L F B A H) (hS : va_S A s.heap H locs) (hl : lv_has ls 4 []) : W p l e ({ frames := d + 1 + 5, cells := 0, slots := 0, locals := 25 * (d + 1) + 95 } : Room) s m args below meth c H locs 0 0 (MQ below (Q_Walker_goItem K D ca ad L r F9 B9 A) args s 0 0 A) (F0 m 285 ls []) := by
  obtain ⟨hx, hb, hr, hml, hown, hts, hlk, hK, hA, hL, hX⟩ := id X
  replace hf : (some (0, F, B)) = some (r, F9, B9) := hf
  cases hf
  exact W.vret hx hb hr (fun t ht hW => ⟨⟨(), rfl, trivial, by rw [ht]; exact hZ, va_K.moved hW.alike hK⟩, hS.F ht⟩) hS.2.2 d_13_6_285 hlk

noncomputable def fb_Walker_goItem (o : oT_CW) (K : zK) (l0 : Int) (l1 : Int) (l2 : Int) (F : zF) (B : zB) : zO := if 0 ≤ l0 ∧ l0 < K.2 11 then if 0 ≤ (F 11 l0 0) ∧ (F 11 l0 0) < K.2 3 then if 0 ≤ l1 ∧ l1 < 3000 then if r32 (B 3 (F 11 l0 0) 0 l1) then (if (B 3 (F 11 l0 0) 0 l1) = 0 then zbind (f_Walker_makeEvent K l0 l1 F B) (fun r6 F6 B6 => f_Walker_goItem_285 o K F6 B6) else (if (B 3 (F 11 l0 0) 0 l1) = 1 then if r32 (F 11 l0 5) then (if (F 11 l0 5) = 0 then if r64 (F 11 l0 13) then (if (zcmp (F 11 l0 13) 0) ≤ 0 then f_Walker_goItem_285 o K F B else if ¬ lI (F 11 l0 13) = 0 then if r64 (zlrm (F 11 l0 11) (F 11 l0 13)) then (if (zcmp (zlrm (F 11 l0 11) (F 11 l0 13)) 0) = 0 then f_Walker_goItem_285 o K F B else zbind (f_Walker_refuse K l0 7 (B 3 (F 11 l0 0) 1 l1) F B) (fun r15 F15 B15 => f_Walker_goItem_285 o K F15 B15)) else none else none) else none else f_Walker_goItem_285 o K F B) else none else (if (B 3 (F 11 l0 0) 0 l1) = 2 then f_Walker_goItem_285 o K (zup3 F 11 l0 4 (B 3 (F 11 l0 0) 2 l1)) B else (if (B 3 (F 11 l0 0) 0 l1) = 3 then zbind (o.2.2.1 l0 l1 l2 F B) (fun r19 F19 B19 => f_Walker_goItem_285 o K F19 B19) else (if (B 3 (F 11 l0 0) 0 l1) = 4 then zbind (o.2.2.2.1 l0 l1 l2 F B) (fun r21 F21 B21 => f_Walker_goItem_285 o K F21 B21) else (if (B 3 (F 11 l0 0) 0 l1) = 5 then if 0 ≤ (B 3 (F 11 l0 0) 2 l1) ∧ (B 3 (F 11 l0 0) 2 l1) < 3000 then zbind (o.1 l0 (B 3 (F 11 l0 0) 4 (B 3 (F 11 l0 0) 2 l1)) (l2 + 1) F B) (fun r24 F24 B24 => f_Walker_goItem_285 o K F24 B24) else none else (if (B 3 (F 11 l0 0) 0 l1) = 6 then zbind (o.2.2.2.2.1 l0 1 l1 l2 F B) (fun r26 F26 B26 => f_Walker_goItem_285 o K F26 B26) else (if (B 3 (F 11 l0 0) 0 l1) = 7 then zbind (o.2.2.2.2.1 l0 (-1) l1 l2 F B) (fun r28 F28 B28 => f_Walker_goItem_285 o K F28 B28) else (if (B 3 (F 11 l0 0) 0 l1) = 8 then zbind (o.2.2.2.2.2 l0 (B 3 (F 11 l0 0) 4 l1) l2 F B) (fun r30 F30 B30 => f_Walker_goItem_285 o K F30 B30) else (if (B 3 (F 11 l0 0) 0 l1) = 9 then zbind (f_Walker_multiplySlow K l0 (B 3 (F 11 l0 0) 2 l1) 1 F B) (fun r33 F33 B33 => if 0 ≤ (F33 11 l0 0) ∧ (F33 11 l0 0) < K.2 3 then zbind (f_Walker_multiplySlow K l0 (B33 3 (F33 11 l0 0) 3 l1) (-1) F33 B33) (fun r35 F35 B35 => zbind (o.1 l0 (B 3 (F 11 l0 0) 4 l1) (l2 + 1) F35 B35) (fun r36 F36 B36 => if 0 ≤ (F36 11 l0 0) ∧ (F36 11 l0 0) < K.2 3 then zbind (f_Walker_multiplySlow K l0 (B36 3 (F36 11 l0 0) 2 l1) (-1) F36 B36) (fun r38 F38 B38 => if 0 ≤ (F38 11 l0 0) ∧ (F38 11 l0 0) < K.2 3 then zbind (f_Walker_multiplySlow K l0 (B38 3 (F38 11 l0 0) 3 l1) 1 F38 B38) (fun r40 F40 B40 => f_Walker_goItem_285 o K F40 B40) else none) else none)) else none) else f_Walker_goItem_285 o K F B)))))))))) else none else none else none else none
set_option maxHeartbeats 4000000 in
set_option maxRecDepth 100000 in
theorem cb_Walker_goItem {l : Launch} {D : va_G} {ca : Nat → ClassId} {ad : Nat → Int → Nat → Nat} {L : List Nat} {aS vS : Nat → Nat} {sz : Nat} {K : zK} {d : Nat} {o : oT_CW} (ho : oH_CW K l D ca ad L aS vS d o)  {l0 : Int} {l1 : Int} {l2 : Int} {F F9 : zF} {B B9 : zB} {r : Int} (hf : fb_Walker_goItem o K l0 l1 l2 F B = some (r, F9, B9)) : Met l ({ cls := "StaveHouse$Walker", name := "goItem", desc := "(II)V" } : Jvm.MethodName) (Cond.code ({ cls := "StaveHouse$Walker", name := "goItem", desc := "(II)V" } : Jvm.MethodName) prog_13_method_6_code 4 (Option.none : Option Jvm.ClassFile.FieldType) :: wAll) ({ frames := d + 1 + 5, cells := 0, slots := 0, locals := 25 * (d + 1) + 95 } : Room) (va_Pc [.ref (ad 11 l0 0), .int (iI l1), .int (iI l2)] (zPre D ca ad lnC K.2 L aS vS F B sz)) (Q_Walker_goItem K D ca ad L r F9 B9 (zA L sz)) 0 0 (zA L sz) := by
  refine zMet (Qc := Q_Walker_goItem K D ca ad L r F9 B9) (lv := [(0, .ref (ad 11 l0 0)), (1, .int (iI l1)), (2, .int (iI l2))]) (by decide) (Nat.le_of_ble_eq_true rfl) rfl (fun A p e s m below meth c ls X hZ hS hl => ?_)
  obtain ⟨hx, hb, hr, hml, hown, hts, hlk, hK, hA, hL, hX⟩ := id X
  replace hf : (if 0 ≤ l0 ∧ l0 < K.2 11 then if 0 ≤ (F 11 l0 0) ∧ (F 11 l0 0) < K.2 3 then if 0 ≤ l1 ∧ l1 < 3000 then if r32 (B 3 (F 11 l0 0) 0 l1) then (if (B 3 (F 11 l0 0) 0 l1) = 0 then zbind (f_Walker_makeEvent K l0 l1 F B) (fun r6 F6 B6 => f_Walker_goItem_285 o K F6 B6) else (if (B 3 (F 11 l0 0) 0 l1) = 1 then if r32 (F 11 l0 5) then (if (F 11 l0 5) = 0 then if r64 (F 11 l0 13) then (if (zcmp (F 11 l0 13) 0) ≤ 0 then f_Walker_goItem_285 o K F B else if ¬ lI (F 11 l0 13) = 0 then if r64 (zlrm (F 11 l0 11) (F 11 l0 13)) then (if (zcmp (zlrm (F 11 l0 11) (F 11 l0 13)) 0) = 0 then f_Walker_goItem_285 o K F B else zbind (f_Walker_refuse K l0 7 (B 3 (F 11 l0 0) 1 l1) F B) (fun r15 F15 B15 => f_Walker_goItem_285 o K F15 B15)) else none else none) else none else f_Walker_goItem_285 o K F B) else none else (if (B 3 (F 11 l0 0) 0 l1) = 2 then f_Walker_goItem_285 o K (zup3 F 11 l0 4 (B 3 (F 11 l0 0) 2 l1)) B else (if (B 3 (F 11 l0 0) 0 l1) = 3 then zbind (o.2.2.1 l0 l1 l2 F B) (fun r19 F19 B19 => f_Walker_goItem_285 o K F19 B19) else (if (B 3 (F 11 l0 0) 0 l1) = 4 then zbind (o.2.2.2.1 l0 l1 l2 F B) (fun r21 F21 B21 => f_Walker_goItem_285 o K F21 B21) else (if (B 3 (F 11 l0 0) 0 l1) = 5 then if 0 ≤ (B 3 (F 11 l0 0) 2 l1) ∧ (B 3 (F 11 l0 0) 2 l1) < 3000 then zbind (o.1 l0 (B 3 (F 11 l0 0) 4 (B 3 (F 11 l0 0) 2 l1)) (l2 + 1) F B) (fun r24 F24 B24 => f_Walker_goItem_285 o K F24 B24) else none else (if (B 3 (F 11 l0 0) 0 l1) = 6 then zbind (o.2.2.2.2.1 l0 1 l1 l2 F B) (fun r26 F26 B26 => f_Walker_goItem_285 o K F26 B26) else (if (B 3 (F 11 l0 0) 0 l1) = 7 then zbind (o.2.2.2.2.1 l0 (-1) l1 l2 F B) (fun r28 F28 B28 => f_Walker_goItem_285 o K F28 B28) else (if (B 3 (F 11 l0 0) 0 l1) = 8 then zbind (o.2.2.2.2.2 l0 (B 3 (F 11 l0 0) 4 l1) l2 F B) (fun r30 F30 B30 => f_Walker_goItem_285 o K F30 B30) else (if (B 3 (F 11 l0 0) 0 l1) = 9 then zbind (f_Walker_multiplySlow K l0 (B 3 (F 11 l0 0) 2 l1) 1 F B) (fun r33 F33 B33 => if 0 ≤ (F33 11 l0 0) ∧ (F33 11 l0 0) < K.2 3 then zbind (f_Walker_multiplySlow K l0 (B33 3 (F33 11 l0 0) 3 l1) (-1) F33 B33) (fun r35 F35 B35 => zbind (o.1 l0 (B 3 (F 11 l0 0) 4 l1) (l2 + 1) F35 B35) (fun r36 F36 B36 => if 0 ≤ (F36 11 l0 0) ∧ (F36 11 l0 0) < K.2 3 then zbind (f_Walker_multiplySlow K l0 (B36 3 (F36 11 l0 0) 2 l1) (-1) F36 B36) (fun r38 F38 B38 => if 0 ≤ (F38 11 l0 0) ∧ (F38 11 l0 0) < K.2 3 then zbind (f_Walker_multiplySlow K l0 (B38 3 (F38 11 l0 0) 3 l1) 1 F38 B38) (fun r40 F40 B40 => f_Walker_goItem_285 o K F40 B40) else none) else none)) else none) else f_Walker_goItem_285 o K F B)))))))))) else none else none else none else none) = some (r, F9, B9) := hf
  refine lv_aload_n hx hb d_13_6_0 rfl (lv_at hl 0 rfl) ?_
  obtain ⟨g1, hf⟩ := gif hf
  refine zget (ci := 11) (C := RX11) (T := TX11) (v := va_rf (zrf ad 3 (F 11 l0 0))) (k := 0) hx hb hts inW_11 hown hK hZ g1.1 g1.2 rfl (by decide) k_1_190 rfl d_13_6_1 ?_
  obtain ⟨g2, hf⟩ := gif hf
  refine zunrf g2.1 ?_
  refine zget (ci := 3) (C := RX3) (T := TX3) (v := .ref (ad 3 (F 11 l0 0) (4 + 1))) (k := 4) hx hb hts inW_3 hown hK hZ g2.1 g2.2 rfl (by decide) k_1_115 rfl d_13_6_4 ?_
  refine lv_iload_n hx hb d_13_6_7 rfl (lv_at hl 1 rfl) ?_
  obtain ⟨g3, hf⟩ := gif hf
  refine zald (ci := 3) (k := 4) hx hb hK rfl hZ g2.1 g2.2 rfl (Nat.le_of_ble_eq_true rfl) g3.1 g3.2 d_13_6_8 ?_
  refine lv_istore_n (lv' := [(3, .int (iI (B 3 (F 11 l0 0) 4 l1))), (0, .ref (ad 11 l0 0)), (1, .int (iI l1)), (2, .int (iI l2))]) hx hb d_13_6_9 rfl hl (by decide) rfl (fun ls hl => ?_)
  refine lv_aload_n hx hb d_13_6_10 rfl (lv_at hl 1 rfl) ?_
  refine zget (ci := 11) (C := RX11) (T := TX11) (v := va_rf (zrf ad 3 (F 11 l0 0))) (k := 0) hx hb hts inW_11 hown hK hZ g1.1 g1.2 rfl (by decide) k_1_190 rfl d_13_6_11 ?_
  refine zunrf g2.1 ?_
  refine zget (ci := 3) (C := RX3) (T := TX3) (v := .ref (ad 3 (F 11 l0 0) (0 + 1))) (k := 0) hx hb hts inW_3 hown hK hZ g2.1 g2.2 rfl (by decide) k_1_107 rfl d_13_6_14 ?_
  refine lv_iload_n hx hb d_13_6_17 rfl (lv_at hl 2 rfl) ?_
  refine zald (ci := 3) (k := 0) hx hb hK rfl hZ g2.1 g2.2 rfl (Nat.le_of_ble_eq_true rfl) g3.1 g3.2 d_13_6_18 ?_
  obtain ⟨g4, hf⟩ := gif hf
  by_cases h5 : (B 3 (F 11 l0 0) 0 l1) = 0
  · replace hf := gpos hf h5
    refine lv_tableIn (off := 53) (tgt := 72) hx hb d_13_6_19 (by rw [iI_to g4, h5]; decide) (by rw [iI_to g4, h5]; decide) (by rw [iI_to g4, h5]; rfl) (by decide) ?_
    refine lv_aload_n hx hb d_13_6_72 rfl (lv_at hl 1 rfl) ?_
    refine lv_iload_n hx hb d_13_6_73 rfl (lv_at hl 2 rfl) ?_
    obtain ⟨r6, F6, B6, hc6, hf⟩ := gbind hf
    refine va_callv (va_runV (As := [.int (iI l1)]) (rest := []) ⟨hx, hb, hml, hown, hts⟩ (c_Walker_makeEvent (l := l) hc6) (cwV 1 hts (gdV k_4_212 k_4_214 ks_38 k_1_6 k_4_215) rfl rfl rfl (by decide +kernel) ⟨by dsimp only; omega, by dsimp only; omega⟩) (zPV X hZ hS (ci := 11) g1.1 g1.2 (r := (RX11, TX11, 19)) rfl [.int (iI l1)]) rfl rfl hl.1 rfl (lv_room (Nat.le_of_ble_eq_true rfl)) d_13_6_74 ⟨Nat.le_of_ble_eq_true rfl, Nat.le_of_ble_eq_true rfl⟩) hS (fun q _ h => zAin X hS q h) (zAin X hS) (fun u6 t6 H6 locs6 ht6 hv6 hw6 hB6 hz6 hk6 hS6 => ?_)
    have hZ6 := zBack X ht6 hB6
    refine lv_goto (tgt := 285) hx hb d_13_6_77 (by decide) ?_
    exact b_Walker_goItem_285 X ho hf hZ6 hS6 (lv_sub hl [] rfl)
  replace hf := gneg hf h5
  by_cases h7 : (B 3 (F 11 l0 0) 0 l1) = 1
  · replace hf := gpos hf h7
    refine lv_tableIn (off := 61) (tgt := 80) hx hb d_13_6_19 (by rw [iI_to g4, h7]; decide) (by rw [iI_to g4, h7]; decide) (by rw [iI_to g4, h7]; rfl) (by decide) ?_
    refine lv_aload_n hx hb d_13_6_80 rfl (lv_at hl 1 rfl) ?_
    refine zget (ci := 11) (C := RX11) (T := TX11) (v := .int (iI (F 11 l0 5))) (k := 5) hx hb hts inW_11 hown hK hZ g1.1 g1.2 rfl (by decide) k_1_195 rfl d_13_6_81 ?_
    obtain ⟨g8, hf⟩ := gif hf
    refine z0ne (tgt := 285) hx hb g8 d_13_6_84 (by decide) (fun h9 => ?_) (fun h9 => ?_)
    · replace hf := gneg hf h9
      exact b_Walker_goItem_285 X ho hf hZ hS (lv_sub hl [] rfl)
    · replace hf := gpos hf h9
      refine lv_aload_n hx hb d_13_6_87 rfl (lv_at hl 1 rfl) ?_
      refine zget (ci := 11) (C := RX11) (T := TX11) (v := .long (lI (F 11 l0 13))) (k := 13) hx hb hts inW_11 hown hK hZ g1.1 g1.2 rfl (by decide) k_1_203 rfl d_13_6_88 ?_
      refine lv_lconst (v := lI 0) hx hb d_13_6_91 (by decide) ?_
      obtain ⟨g10, hf⟩ := gif hf
      refine zcmp_r hx hb g10 (by decide) d_13_6_92 ?_
      refine z0le (tgt := 285) hx hb zcmp_32 d_13_6_93 (by decide) (fun h11 => ?_) (fun h11 => ?_)
      · replace hf := gpos hf h11
        exact b_Walker_goItem_285 X ho hf hZ hS (lv_sub hl [] rfl)
      · replace hf := gneg hf h11
        refine lv_aload_n hx hb d_13_6_96 rfl (lv_at hl 1 rfl) ?_
        refine zget (ci := 11) (C := RX11) (T := TX11) (v := .long (lI (F 11 l0 11))) (k := 11) hx hb hts inW_11 hown hK hZ g1.1 g1.2 rfl (by decide) k_1_201 rfl d_13_6_97 ?_
        refine lv_aload_n hx hb d_13_6_100 rfl (lv_at hl 1 rfl) ?_
        refine zget (ci := 11) (C := RX11) (T := TX11) (v := .long (lI (F 11 l0 13))) (k := 13) hx hb hts inW_11 hown hK hZ g1.1 g1.2 rfl (by decide) k_1_203 rfl d_13_6_101 ?_
        obtain ⟨g12, hf⟩ := gif hf
        refine zlrm_r hx hb g12 d_13_6_104 ?_
        refine lv_lconst (v := lI 0) hx hb d_13_6_105 (by decide) ?_
        obtain ⟨g13, hf⟩ := gif hf
        refine zcmp_r hx hb g13 (by decide) d_13_6_106 ?_
        refine z0eq (tgt := 285) hx hb zcmp_32 d_13_6_107 (by decide) (fun h14 => ?_) (fun h14 => ?_)
        · replace hf := gpos hf h14
          exact b_Walker_goItem_285 X ho hf hZ hS (lv_sub hl [] rfl)
        · replace hf := gneg hf h14
          refine lv_aload_n hx hb d_13_6_110 rfl (lv_at hl 1 rfl) ?_
          refine lv_bipush (v := iI 7) hx hb d_13_6_111 (by decide) ?_
          refine lv_aload_n hx hb d_13_6_113 rfl (lv_at hl 1 rfl) ?_
          refine zget (ci := 11) (C := RX11) (T := TX11) (v := va_rf (zrf ad 3 (F 11 l0 0))) (k := 0) hx hb hts inW_11 hown hK hZ g1.1 g1.2 rfl (by decide) k_1_190 rfl d_13_6_114 ?_
          refine zunrf g2.1 ?_
          refine zget (ci := 3) (C := RX3) (T := TX3) (v := .ref (ad 3 (F 11 l0 0) (1 + 1))) (k := 1) hx hb hts inW_3 hown hK hZ g2.1 g2.2 rfl (by decide) k_1_109 rfl d_13_6_117 ?_
          refine lv_iload_n hx hb d_13_6_120 rfl (lv_at hl 2 rfl) ?_
          refine zald (ci := 3) (k := 1) hx hb hK rfl hZ g2.1 g2.2 rfl (Nat.le_of_ble_eq_true rfl) g3.1 g3.2 d_13_6_121 ?_
          obtain ⟨r15, F15, B15, hc15, hf⟩ := gbind hf
          refine va_callv (va_runV (As := [.int (iI 7), .int (iI (B 3 (F 11 l0 0) 1 l1))]) (rest := []) ⟨hx, hb, hml, hown, hts⟩ (c_Walker_refuse (l := l) hc15) (cwV 2 hts (gdV k_4_204 k_4_206 ks_36 k_1_6 k_4_207) rfl rfl rfl (by decide +kernel) ⟨by dsimp only; omega, by dsimp only; omega⟩) (zPV X hZ hS (ci := 11) g1.1 g1.2 (r := (RX11, TX11, 19)) rfl [.int (iI 7), .int (iI (B 3 (F 11 l0 0) 1 l1))]) rfl rfl hl.1 rfl (lv_room (Nat.le_of_ble_eq_true rfl)) d_13_6_122 ⟨Nat.le_of_ble_eq_true rfl, Nat.le_of_ble_eq_true rfl⟩) hS (fun q _ h => zAin X hS q h) (zAin X hS) (fun u15 t15 H15 locs15 ht15 hv15 hw15 hB15 hz15 hk15 hS15 => ?_)
          have hZ15 := zBack X ht15 hB15
          refine lv_goto (tgt := 285) hx hb d_13_6_125 (by decide) ?_
          exact b_Walker_goItem_285 X ho hf hZ15 hS15 (lv_sub hl [] rfl)
  replace hf := gneg hf h7
  by_cases h16 : (B 3 (F 11 l0 0) 0 l1) = 2
  · replace hf := gpos hf h16
    refine lv_tableIn (off := 109) (tgt := 128) hx hb d_13_6_19 (by rw [iI_to g4, h16]; decide) (by rw [iI_to g4, h16]; decide) (by rw [iI_to g4, h16]; rfl) (by decide) ?_
    refine lv_aload_n hx hb d_13_6_128 rfl (lv_at hl 1 rfl) ?_
    refine lv_aload_n hx hb d_13_6_129 rfl (lv_at hl 1 rfl) ?_
    refine zget (ci := 11) (C := RX11) (T := TX11) (v := va_rf (zrf ad 3 (F 11 l0 0))) (k := 0) hx hb hts inW_11 hown hK hZ g1.1 g1.2 rfl (by decide) k_1_190 rfl d_13_6_130 ?_
    refine zunrf g2.1 ?_
    refine zget (ci := 3) (C := RX3) (T := TX3) (v := .ref (ad 3 (F 11 l0 0) (2 + 1))) (k := 2) hx hb hts inW_3 hown hK hZ g2.1 g2.2 rfl (by decide) k_1_111 rfl d_13_6_133 ?_
    refine lv_iload_n hx hb d_13_6_136 rfl (lv_at hl 2 rfl) ?_
    refine zald (ci := 3) (k := 2) hx hb hK rfl hZ g2.1 g2.2 rfl (Nat.le_of_ble_eq_true rfl) g3.1 g3.2 d_13_6_137 ?_
    refine zput (ci := 11) (C := RX11) (T := TX11) (k := 4) (v := (B 3 (F 11 l0 0) 2 l1)) (w := .int (iI (B 3 (F 11 l0 0) 2 l1))) hx hb hts inW_11 tyX11 tyX11_ok nmX11 hown hK hZ hS g1.1 g1.2 rfl (by decide) k_1_194 rfl (fun G h => congrArg (fun q => Value.int (iI q)) h) rfl rfl (zno (by decide)) d_13_6_138 (fun H17 locs17 hZ17 hS17 => ?_)
    refine lv_goto (tgt := 285) hx hb d_13_6_141 (by decide) ?_
    exact b_Walker_goItem_285 X ho hf hZ17 hS17 (lv_sub hl [] rfl)
  replace hf := gneg hf h16
  by_cases h18 : (B 3 (F 11 l0 0) 0 l1) = 3
  · replace hf := gpos hf h18
    refine lv_tableIn (off := 125) (tgt := 144) hx hb d_13_6_19 (by rw [iI_to g4, h18]; decide) (by rw [iI_to g4, h18]; decide) (by rw [iI_to g4, h18]; rfl) (by decide) ?_
    refine lv_aload_n hx hb d_13_6_144 rfl (lv_at hl 1 rfl) ?_
    refine lv_iload_n hx hb d_13_6_145 rfl (lv_at hl 2 rfl) ?_
    refine lv_iload_n hx hb d_13_6_146 rfl (lv_at hl 3 rfl) ?_
    obtain ⟨r19, F19, B19, hc19, hf⟩ := gbind hf
    refine va_callv (va_runV (As := [.int (iI l1), .int (iI l2)]) (rest := []) ⟨hx, hb, hml, hown, hts⟩ (ho.2.2.1 hc19) (cwV 2 hts (gdV k_4_235 k_4_237 ks_41 k_1_6 k_4_238) rfl rfl rfl (by decide +kernel) ⟨by dsimp only; omega, by dsimp only; omega⟩) (zPV X hZ hS (ci := 11) g1.1 g1.2 (r := (RX11, TX11, 19)) rfl [.int (iI l1), .int (iI l2)]) rfl rfl hl.1 rfl (lv_room (Nat.le_of_ble_eq_true rfl)) d_13_6_147 ⟨Nat.le_of_ble_eq_true rfl, Nat.le_of_ble_eq_true rfl⟩) hS (fun q _ h => zAin X hS q h) (zAin X hS) (fun u19 t19 H19 locs19 ht19 hv19 hw19 hB19 hz19 hk19 hS19 => ?_)
    have hZ19 := zBack X ht19 hB19
    refine lv_goto (tgt := 285) hx hb d_13_6_150 (by decide) ?_
    exact b_Walker_goItem_285 X ho hf hZ19 hS19 (lv_sub hl [] rfl)
  replace hf := gneg hf h18
  by_cases h20 : (B 3 (F 11 l0 0) 0 l1) = 4
  · replace hf := gpos hf h20
    refine lv_tableIn (off := 134) (tgt := 153) hx hb d_13_6_19 (by rw [iI_to g4, h20]; decide) (by rw [iI_to g4, h20]; decide) (by rw [iI_to g4, h20]; rfl) (by decide) ?_
    refine lv_aload_n hx hb d_13_6_153 rfl (lv_at hl 1 rfl) ?_
    refine lv_iload_n hx hb d_13_6_154 rfl (lv_at hl 2 rfl) ?_
    refine lv_iload_n hx hb d_13_6_155 rfl (lv_at hl 3 rfl) ?_
    obtain ⟨r21, F21, B21, hc21, hf⟩ := gbind hf
    refine va_callv (va_runV (As := [.int (iI l1), .int (iI l2)]) (rest := []) ⟨hx, hb, hml, hown, hts⟩ (ho.2.2.2.1 hc21) (cwV 2 hts (gdV k_4_239 k_5_1 ks_42 k_1_6 k_5_2) rfl rfl rfl (by decide +kernel) ⟨by dsimp only; omega, by dsimp only; omega⟩) (zPV X hZ hS (ci := 11) g1.1 g1.2 (r := (RX11, TX11, 19)) rfl [.int (iI l1), .int (iI l2)]) rfl rfl hl.1 rfl (lv_room (Nat.le_of_ble_eq_true rfl)) d_13_6_156 ⟨Nat.le_of_ble_eq_true rfl, Nat.le_of_ble_eq_true rfl⟩) hS (fun q _ h => zAin X hS q h) (zAin X hS) (fun u21 t21 H21 locs21 ht21 hv21 hw21 hB21 hz21 hk21 hS21 => ?_)
    have hZ21 := zBack X ht21 hB21
    refine lv_goto (tgt := 285) hx hb d_13_6_159 (by decide) ?_
    exact b_Walker_goItem_285 X ho hf hZ21 hS21 (lv_sub hl [] rfl)
  replace hf := gneg hf h20
  by_cases h22 : (B 3 (F 11 l0 0) 0 l1) = 5
  · replace hf := gpos hf h22
    refine lv_tableIn (off := 143) (tgt := 162) hx hb d_13_6_19 (by rw [iI_to g4, h22]; decide) (by rw [iI_to g4, h22]; decide) (by rw [iI_to g4, h22]; rfl) (by decide) ?_
    refine lv_aload_n hx hb d_13_6_162 rfl (lv_at hl 1 rfl) ?_
    refine lv_aload_n hx hb d_13_6_163 rfl (lv_at hl 1 rfl) ?_
    refine zget (ci := 11) (C := RX11) (T := TX11) (v := va_rf (zrf ad 3 (F 11 l0 0))) (k := 0) hx hb hts inW_11 hown hK hZ g1.1 g1.2 rfl (by decide) k_1_190 rfl d_13_6_164 ?_
    refine zunrf g2.1 ?_
    refine zget (ci := 3) (C := RX3) (T := TX3) (v := .ref (ad 3 (F 11 l0 0) (4 + 1))) (k := 4) hx hb hts inW_3 hown hK hZ g2.1 g2.2 rfl (by decide) k_1_115 rfl d_13_6_167 ?_
    refine lv_aload_n hx hb d_13_6_170 rfl (lv_at hl 1 rfl) ?_
    refine zget (ci := 11) (C := RX11) (T := TX11) (v := va_rf (zrf ad 3 (F 11 l0 0))) (k := 0) hx hb hts inW_11 hown hK hZ g1.1 g1.2 rfl (by decide) k_1_190 rfl d_13_6_171 ?_
    refine zunrf g2.1 ?_
    refine zget (ci := 3) (C := RX3) (T := TX3) (v := .ref (ad 3 (F 11 l0 0) (2 + 1))) (k := 2) hx hb hts inW_3 hown hK hZ g2.1 g2.2 rfl (by decide) k_1_111 rfl d_13_6_174 ?_
    refine lv_iload_n hx hb d_13_6_177 rfl (lv_at hl 2 rfl) ?_
    refine zald (ci := 3) (k := 2) hx hb hK rfl hZ g2.1 g2.2 rfl (Nat.le_of_ble_eq_true rfl) g3.1 g3.2 d_13_6_178 ?_
    obtain ⟨g23, hf⟩ := gif hf
    refine zald (ci := 3) (k := 4) hx hb hK rfl hZ g2.1 g2.2 rfl (Nat.le_of_ble_eq_true rfl) g23.1 g23.2 d_13_6_179 ?_
    refine lv_iload_n hx hb d_13_6_180 rfl (lv_at hl 3 rfl) ?_
    refine lv_iconst (v := iI 1) hx hb d_13_6_181 rfl ?_
    refine zadd hx hb d_13_6_182 ?_
    obtain ⟨r24, F24, B24, hc24, hf⟩ := gbind hf
    refine va_callv (va_runV (As := [.int (iI (B 3 (F 11 l0 0) 4 (B 3 (F 11 l0 0) 2 l1))), .int (iI (l2 + 1))]) (rest := []) ⟨hx, hb, hml, hown, hts⟩ (ho.1 hc24) (cwV 2 hts (gdV k_4_196 k_4_198 ks_34 k_1_6 k_4_199) rfl rfl rfl (by decide +kernel) ⟨by dsimp only; omega, by dsimp only; omega⟩) (zPV X hZ hS (ci := 11) g1.1 g1.2 (r := (RX11, TX11, 19)) rfl [.int (iI (B 3 (F 11 l0 0) 4 (B 3 (F 11 l0 0) 2 l1))), .int (iI (l2 + 1))]) rfl rfl hl.1 rfl (lv_room (Nat.le_of_ble_eq_true rfl)) d_13_6_183 ⟨Nat.le_of_ble_eq_true rfl, Nat.le_of_ble_eq_true rfl⟩) hS (fun q _ h => zAin X hS q h) (zAin X hS) (fun u24 t24 H24 locs24 ht24 hv24 hw24 hB24 hz24 hk24 hS24 => ?_)
    have hZ24 := zBack X ht24 hB24
    refine lv_goto (tgt := 285) hx hb d_13_6_186 (by decide) ?_
    exact b_Walker_goItem_285 X ho hf hZ24 hS24 (lv_sub hl [] rfl)
  replace hf := gneg hf h22
  by_cases h25 : (B 3 (F 11 l0 0) 0 l1) = 6
  · replace hf := gpos hf h25
    refine lv_tableIn (off := 170) (tgt := 189) hx hb d_13_6_19 (by rw [iI_to g4, h25]; decide) (by rw [iI_to g4, h25]; decide) (by rw [iI_to g4, h25]; rfl) (by decide) ?_
    refine lv_aload_n hx hb d_13_6_189 rfl (lv_at hl 1 rfl) ?_
    refine lv_iconst (v := iI 1) hx hb d_13_6_190 rfl ?_
    refine lv_iload_n hx hb d_13_6_191 rfl (lv_at hl 2 rfl) ?_
    refine lv_iload_n hx hb d_13_6_192 rfl (lv_at hl 3 rfl) ?_
    obtain ⟨r26, F26, B26, hc26, hf⟩ := gbind hf
    refine va_callv (va_runV (As := [.int (iI 1), .int (iI l1), .int (iI l2)]) (rest := []) ⟨hx, hb, hml, hown, hts⟩ (ho.2.2.2.2.1 hc26) (cwV 3 hts (gdV k_5_3 k_5_5 ks_43 k_1_6 k_5_6) rfl rfl rfl (by decide +kernel) ⟨by dsimp only; omega, by dsimp only; omega⟩) (zPV X hZ hS (ci := 11) g1.1 g1.2 (r := (RX11, TX11, 19)) rfl [.int (iI 1), .int (iI l1), .int (iI l2)]) rfl rfl hl.1 rfl (lv_room (Nat.le_of_ble_eq_true rfl)) d_13_6_193 ⟨Nat.le_of_ble_eq_true rfl, Nat.le_of_ble_eq_true rfl⟩) hS (fun q _ h => zAin X hS q h) (zAin X hS) (fun u26 t26 H26 locs26 ht26 hv26 hw26 hB26 hz26 hk26 hS26 => ?_)
    have hZ26 := zBack X ht26 hB26
    refine lv_goto (tgt := 285) hx hb d_13_6_196 (by decide) ?_
    exact b_Walker_goItem_285 X ho hf hZ26 hS26 (lv_sub hl [] rfl)
  replace hf := gneg hf h25
  by_cases h27 : (B 3 (F 11 l0 0) 0 l1) = 7
  · replace hf := gpos hf h27
    refine lv_tableIn (off := 180) (tgt := 199) hx hb d_13_6_19 (by rw [iI_to g4, h27]; decide) (by rw [iI_to g4, h27]; decide) (by rw [iI_to g4, h27]; rfl) (by decide) ?_
    refine lv_aload_n hx hb d_13_6_199 rfl (lv_at hl 1 rfl) ?_
    refine lv_iconst (v := iI (-1)) hx hb d_13_6_200 rfl ?_
    refine lv_iload_n hx hb d_13_6_201 rfl (lv_at hl 2 rfl) ?_
    refine lv_iload_n hx hb d_13_6_202 rfl (lv_at hl 3 rfl) ?_
    obtain ⟨r28, F28, B28, hc28, hf⟩ := gbind hf
    refine va_callv (va_runV (As := [.int (iI (-1)), .int (iI l1), .int (iI l2)]) (rest := []) ⟨hx, hb, hml, hown, hts⟩ (ho.2.2.2.2.1 hc28) (cwV 3 hts (gdV k_5_3 k_5_5 ks_43 k_1_6 k_5_6) rfl rfl rfl (by decide +kernel) ⟨by dsimp only; omega, by dsimp only; omega⟩) (zPV X hZ hS (ci := 11) g1.1 g1.2 (r := (RX11, TX11, 19)) rfl [.int (iI (-1)), .int (iI l1), .int (iI l2)]) rfl rfl hl.1 rfl (lv_room (Nat.le_of_ble_eq_true rfl)) d_13_6_203 ⟨Nat.le_of_ble_eq_true rfl, Nat.le_of_ble_eq_true rfl⟩) hS (fun q _ h => zAin X hS q h) (zAin X hS) (fun u28 t28 H28 locs28 ht28 hv28 hw28 hB28 hz28 hk28 hS28 => ?_)
    have hZ28 := zBack X ht28 hB28
    refine lv_goto (tgt := 285) hx hb d_13_6_206 (by decide) ?_
    exact b_Walker_goItem_285 X ho hf hZ28 hS28 (lv_sub hl [] rfl)
  replace hf := gneg hf h27
  by_cases h29 : (B 3 (F 11 l0 0) 0 l1) = 8
  · replace hf := gpos hf h29
    refine lv_tableIn (off := 190) (tgt := 209) hx hb d_13_6_19 (by rw [iI_to g4, h29]; decide) (by rw [iI_to g4, h29]; decide) (by rw [iI_to g4, h29]; rfl) (by decide) ?_
    refine lv_aload_n hx hb d_13_6_209 rfl (lv_at hl 1 rfl) ?_
    refine lv_iload_n hx hb d_13_6_210 rfl (lv_at hl 0 rfl) ?_
    refine lv_iload_n hx hb d_13_6_211 rfl (lv_at hl 3 rfl) ?_
    obtain ⟨r30, F30, B30, hc30, hf⟩ := gbind hf
    refine va_callv (va_runV (As := [.int (iI (B 3 (F 11 l0 0) 4 l1)), .int (iI l2)]) (rest := []) ⟨hx, hb, hml, hown, hts⟩ (ho.2.2.2.2.2 hc30) (cwV 2 hts (gdV k_5_7 k_5_9 ks_44 k_1_6 k_5_10) rfl rfl rfl (by decide +kernel) ⟨by dsimp only; omega, by dsimp only; omega⟩) (zPV X hZ hS (ci := 11) g1.1 g1.2 (r := (RX11, TX11, 19)) rfl [.int (iI (B 3 (F 11 l0 0) 4 l1)), .int (iI l2)]) rfl rfl hl.1 rfl (lv_room (Nat.le_of_ble_eq_true rfl)) d_13_6_212 ⟨Nat.le_of_ble_eq_true rfl, Nat.le_of_ble_eq_true rfl⟩) hS (fun q _ h => zAin X hS q h) (zAin X hS) (fun u30 t30 H30 locs30 ht30 hv30 hw30 hB30 hz30 hk30 hS30 => ?_)
    have hZ30 := zBack X ht30 hB30
    refine lv_goto (tgt := 285) hx hb d_13_6_215 (by decide) ?_
    exact b_Walker_goItem_285 X ho hf hZ30 hS30 (lv_sub hl [] rfl)
  replace hf := gneg hf h29
  by_cases h31 : (B 3 (F 11 l0 0) 0 l1) = 9
  · replace hf := gpos hf h31
    refine lv_tableIn (off := 199) (tgt := 218) hx hb d_13_6_19 (by rw [iI_to g4, h31]; decide) (by rw [iI_to g4, h31]; decide) (by rw [iI_to g4, h31]; rfl) (by decide) ?_
    refine lv_aload_n hx hb d_13_6_218 rfl (lv_at hl 1 rfl) ?_
    refine lv_aload_n hx hb d_13_6_219 rfl (lv_at hl 1 rfl) ?_
    refine zget (ci := 11) (C := RX11) (T := TX11) (v := va_rf (zrf ad 3 (F 11 l0 0))) (k := 0) hx hb hts inW_11 hown hK hZ g1.1 g1.2 rfl (by decide) k_1_190 rfl d_13_6_220 ?_
    refine zunrf g2.1 ?_
    refine zget (ci := 3) (C := RX3) (T := TX3) (v := .ref (ad 3 (F 11 l0 0) (2 + 1))) (k := 2) hx hb hts inW_3 hown hK hZ g2.1 g2.2 rfl (by decide) k_1_111 rfl d_13_6_223 ?_
    refine lv_iload_n hx hb d_13_6_226 rfl (lv_at hl 2 rfl) ?_
    refine zald (ci := 3) (k := 2) hx hb hK rfl hZ g2.1 g2.2 rfl (Nat.le_of_ble_eq_true rfl) g3.1 g3.2 d_13_6_227 ?_
    refine lv_iconst (v := iI 1) hx hb d_13_6_228 rfl ?_
    obtain ⟨r33, F33, B33, hc33, hf⟩ := gbind hf
    refine va_callv (va_runV (As := [.int (iI (B 3 (F 11 l0 0) 2 l1)), .int (iI 1)]) (rest := []) ⟨hx, hb, hml, hown, hts⟩ (c_Walker_multiplySlow (l := l) hc33) (cwV 2 hts (gdV k_5_19 k_5_21 ks_45 k_1_6 k_5_22) rfl rfl rfl (by decide +kernel) ⟨by dsimp only; omega, by dsimp only; omega⟩) (zPV X hZ hS (ci := 11) g1.1 g1.2 (r := (RX11, TX11, 19)) rfl [.int (iI (B 3 (F 11 l0 0) 2 l1)), .int (iI 1)]) rfl rfl hl.1 rfl (lv_room (Nat.le_of_ble_eq_true rfl)) d_13_6_229 ⟨Nat.le_of_ble_eq_true rfl, Nat.le_of_ble_eq_true rfl⟩) hS (fun q _ h => zAin X hS q h) (zAin X hS) (fun u33 t33 H33 locs33 ht33 hv33 hw33 hB33 hz33 hk33 hS33 => ?_)
    have hZ33 := zBack X ht33 hB33
    refine lv_aload_n hx hb d_13_6_232 rfl (lv_at hl 1 rfl) ?_
    refine lv_aload_n hx hb d_13_6_233 rfl (lv_at hl 1 rfl) ?_
    refine zget (ci := 11) (C := RX11) (T := TX11) (v := va_rf (zrf ad 3 (F33 11 l0 0))) (k := 0) hx hb hts inW_11 hown hK hZ33 g1.1 g1.2 rfl (by decide) k_1_190 rfl d_13_6_234 ?_
    obtain ⟨g34, hf⟩ := gif hf
    refine zunrf g34.1 ?_
    refine zget (ci := 3) (C := RX3) (T := TX3) (v := .ref (ad 3 (F33 11 l0 0) (3 + 1))) (k := 3) hx hb hts inW_3 hown hK hZ33 g34.1 g34.2 rfl (by decide) k_1_113 rfl d_13_6_237 ?_
    refine lv_iload_n hx hb d_13_6_240 rfl (lv_at hl 2 rfl) ?_
    refine zald (ci := 3) (k := 3) hx hb hK rfl hZ33 g34.1 g34.2 rfl (Nat.le_of_ble_eq_true rfl) g3.1 g3.2 d_13_6_241 ?_
    refine lv_iconst (v := iI (-1)) hx hb d_13_6_242 rfl ?_
    obtain ⟨r35, F35, B35, hc35, hf⟩ := gbind hf
    refine va_callv (va_runV (As := [.int (iI (B33 3 (F33 11 l0 0) 3 l1)), .int (iI (-1))]) (rest := []) ⟨hx, hb, hml, hown, hts⟩ (c_Walker_multiplySlow (l := l) hc35) (cwV 2 hts (gdV k_5_19 k_5_21 ks_45 k_1_6 k_5_22) rfl rfl rfl (by decide +kernel) ⟨by dsimp only; omega, by dsimp only; omega⟩) (zPV X hZ33 hS33 (ci := 11) g1.1 g1.2 (r := (RX11, TX11, 19)) rfl [.int (iI (B33 3 (F33 11 l0 0) 3 l1)), .int (iI (-1))]) rfl rfl hl.1 rfl (lv_room (Nat.le_of_ble_eq_true rfl)) d_13_6_243 ⟨Nat.le_of_ble_eq_true rfl, Nat.le_of_ble_eq_true rfl⟩) hS33 (fun q _ h => zAin X hS33 q h) (zAin X hS33) (fun u35 t35 H35 locs35 ht35 hv35 hw35 hB35 hz35 hk35 hS35 => ?_)
    have hZ35 := zBack X ht35 hB35
    refine lv_aload_n hx hb d_13_6_246 rfl (lv_at hl 1 rfl) ?_
    refine lv_iload_n hx hb d_13_6_247 rfl (lv_at hl 0 rfl) ?_
    refine lv_iload_n hx hb d_13_6_248 rfl (lv_at hl 3 rfl) ?_
    refine lv_iconst (v := iI 1) hx hb d_13_6_249 rfl ?_
    refine zadd hx hb d_13_6_250 ?_
    obtain ⟨r36, F36, B36, hc36, hf⟩ := gbind hf
    refine va_callv (va_runV (As := [.int (iI (B 3 (F 11 l0 0) 4 l1)), .int (iI (l2 + 1))]) (rest := []) ⟨hx, hb, hml, hown, hts⟩ (ho.1 hc36) (cwV 2 hts (gdV k_4_196 k_4_198 ks_34 k_1_6 k_4_199) rfl rfl rfl (by decide +kernel) ⟨by dsimp only; omega, by dsimp only; omega⟩) (zPV X hZ35 hS35 (ci := 11) g1.1 g1.2 (r := (RX11, TX11, 19)) rfl [.int (iI (B 3 (F 11 l0 0) 4 l1)), .int (iI (l2 + 1))]) rfl rfl hl.1 rfl (lv_room (Nat.le_of_ble_eq_true rfl)) d_13_6_251 ⟨Nat.le_of_ble_eq_true rfl, Nat.le_of_ble_eq_true rfl⟩) hS35 (fun q _ h => zAin X hS35 q h) (zAin X hS35) (fun u36 t36 H36 locs36 ht36 hv36 hw36 hB36 hz36 hk36 hS36 => ?_)
    have hZ36 := zBack X ht36 hB36
    refine lv_aload_n hx hb d_13_6_254 rfl (lv_at hl 1 rfl) ?_
    refine lv_aload_n hx hb d_13_6_255 rfl (lv_at hl 1 rfl) ?_
    refine zget (ci := 11) (C := RX11) (T := TX11) (v := va_rf (zrf ad 3 (F36 11 l0 0))) (k := 0) hx hb hts inW_11 hown hK hZ36 g1.1 g1.2 rfl (by decide) k_1_190 rfl d_13_6_256 ?_
    obtain ⟨g37, hf⟩ := gif hf
    refine zunrf g37.1 ?_
    refine zget (ci := 3) (C := RX3) (T := TX3) (v := .ref (ad 3 (F36 11 l0 0) (2 + 1))) (k := 2) hx hb hts inW_3 hown hK hZ36 g37.1 g37.2 rfl (by decide) k_1_111 rfl d_13_6_259 ?_
    refine lv_iload_n hx hb d_13_6_262 rfl (lv_at hl 2 rfl) ?_
    refine zald (ci := 3) (k := 2) hx hb hK rfl hZ36 g37.1 g37.2 rfl (Nat.le_of_ble_eq_true rfl) g3.1 g3.2 d_13_6_263 ?_
    refine lv_iconst (v := iI (-1)) hx hb d_13_6_264 rfl ?_
    obtain ⟨r38, F38, B38, hc38, hf⟩ := gbind hf
    refine va_callv (va_runV (As := [.int (iI (B36 3 (F36 11 l0 0) 2 l1)), .int (iI (-1))]) (rest := []) ⟨hx, hb, hml, hown, hts⟩ (c_Walker_multiplySlow (l := l) hc38) (cwV 2 hts (gdV k_5_19 k_5_21 ks_45 k_1_6 k_5_22) rfl rfl rfl (by decide +kernel) ⟨by dsimp only; omega, by dsimp only; omega⟩) (zPV X hZ36 hS36 (ci := 11) g1.1 g1.2 (r := (RX11, TX11, 19)) rfl [.int (iI (B36 3 (F36 11 l0 0) 2 l1)), .int (iI (-1))]) rfl rfl hl.1 rfl (lv_room (Nat.le_of_ble_eq_true rfl)) d_13_6_265 ⟨Nat.le_of_ble_eq_true rfl, Nat.le_of_ble_eq_true rfl⟩) hS36 (fun q _ h => zAin X hS36 q h) (zAin X hS36) (fun u38 t38 H38 locs38 ht38 hv38 hw38 hB38 hz38 hk38 hS38 => ?_)
    have hZ38 := zBack X ht38 hB38
    refine lv_aload_n hx hb d_13_6_268 rfl (lv_at hl 1 rfl) ?_
    refine lv_aload_n hx hb d_13_6_269 rfl (lv_at hl 1 rfl) ?_
    refine zget (ci := 11) (C := RX11) (T := TX11) (v := va_rf (zrf ad 3 (F38 11 l0 0))) (k := 0) hx hb hts inW_11 hown hK hZ38 g1.1 g1.2 rfl (by decide) k_1_190 rfl d_13_6_270 ?_
    obtain ⟨g39, hf⟩ := gif hf
    refine zunrf g39.1 ?_
    refine zget (ci := 3) (C := RX3) (T := TX3) (v := .ref (ad 3 (F38 11 l0 0) (3 + 1))) (k := 3) hx hb hts inW_3 hown hK hZ38 g39.1 g39.2 rfl (by decide) k_1_113 rfl d_13_6_273 ?_
    refine lv_iload_n hx hb d_13_6_276 rfl (lv_at hl 2 rfl) ?_
    refine zald (ci := 3) (k := 3) hx hb hK rfl hZ38 g39.1 g39.2 rfl (Nat.le_of_ble_eq_true rfl) g3.1 g3.2 d_13_6_277 ?_
    refine lv_iconst (v := iI 1) hx hb d_13_6_278 rfl ?_
    obtain ⟨r40, F40, B40, hc40, hf⟩ := gbind hf
    refine va_callv (va_runV (As := [.int (iI (B38 3 (F38 11 l0 0) 3 l1)), .int (iI 1)]) (rest := []) ⟨hx, hb, hml, hown, hts⟩ (c_Walker_multiplySlow (l := l) hc40) (cwV 2 hts (gdV k_5_19 k_5_21 ks_45 k_1_6 k_5_22) rfl rfl rfl (by decide +kernel) ⟨by dsimp only; omega, by dsimp only; omega⟩) (zPV X hZ38 hS38 (ci := 11) g1.1 g1.2 (r := (RX11, TX11, 19)) rfl [.int (iI (B38 3 (F38 11 l0 0) 3 l1)), .int (iI 1)]) rfl rfl hl.1 rfl (lv_room (Nat.le_of_ble_eq_true rfl)) d_13_6_279 ⟨Nat.le_of_ble_eq_true rfl, Nat.le_of_ble_eq_true rfl⟩) hS38 (fun q _ h => zAin X hS38 q h) (zAin X hS38) (fun u40 t40 H40 locs40 ht40 hv40 hw40 hB40 hz40 hk40 hS40 => ?_)
    have hZ40 := zBack X ht40 hB40
    refine lv_goto (tgt := 285) hx hb d_13_6_282 (by decide) ?_
    exact b_Walker_goItem_285 X ho hf hZ40 hS40 (lv_sub hl [] rfl)
  replace hf := gneg hf h31
  refine lv_tableOut (tgt := 285) hx hb d_13_6_19 (by rw [iI_to g4]; omega) (by decide) ?_
  exact b_Walker_goItem_285 X ho hf hZ hS (lv_sub hl [] rfl)

noncomputable def f_Walker_goBracket_95 (o : oT_CW) (K : zK) (l4 : Int) (l3 : Int) (l0 : Int) (l1 : Int) (l2 : Int) (F : zF) (B : zB) : zO := if 0 ≤ l0 ∧ l0 < K.2 11 then if 0 ≤ (F 11 l0 0) ∧ (F 11 l0 0) < K.2 3 then if 0 ≤ l1 ∧ l1 < 3000 then zbind (o.1 l0 (B 3 (F 11 l0 0) 4 l1) (l2 + 1) F B) (fun r19 F19 B19 => some (0, (zup3 (zup3 (zup3 F19 11 l0 6 ((F19 11 l0 6) - 1)) 11 l0 9 l3) 11 l0 10 l4), B19)) else none else none else none
set_option maxHeartbeats 4000000 in
set_option maxRecDepth 100000 in
theorem b_Walker_goBracket_95 {D : va_G} {ca : Nat → ClassId} {ad : Nat → Int → Nat → Nat} {L : List Nat} {aS vS : Nat → Nat} {A : Nat → Prop} {p : Program} {l : Launch} {e : Env} {s : State} {m : MethodId} {args : Array Value} {below : List Frame} {meth : Method} {c : Code} {K : zK} {r : Int} {F9 : zF} {B9 : zB} {d : Nat} {o : oT_CW} (X : zX D ca L aS vS A p s m args meth c prog_13_method_7_code 5 (Option.none : Option Jvm.ClassFile.FieldType) "StaveHouse$Walker") (ho : oH_CW K l D ca ad L aS vS d o) {l4 : Int} {l3 : Int} {l0 : Int} {l1 : Int} {l2 : Int} {F : zF} {B : zB} {H : Heap} {locs : List Loc} {ls : Array Slot} (hf : f_Walker_goBracket_95 o K l4 l3 l0 l1 l2 F B = some (r, F9, B9)) (hZ : zH D ca ad lnC K.2 L F B A H) (hS : va_S A s.heap H locs) (hl : lv_has ls 5 [(4, .int (iI l4)), (3, .int (iI l3)), (0, .ref (ad 11 l0 0)), (1, .int (iI l1)), (2, .int (iI l2))]) : W p l e ({ frames := d + 1 + 5, cells := 0, slots := 0, locals := 25 * (d + 1) + 95 } : Room) s m args below meth c H locs 0 0 (MQ below (Q_Walker_goBracket K D ca ad L r F9 B9 A) args s 0 0 A) (F0 m 95 ls []) := by
  obtain ⟨hx, hb, hr, hml, hown, hts, hlk, hK, hA, hL, hX⟩ := id X
  replace hf : (if 0 ≤ l0 ∧ l0 < K.2 11 then if 0 ≤ (F 11 l0 0) ∧ (F 11 l0 0) < K.2 3 then if 0 ≤ l1 ∧ l1 < 3000 then zbind (o.1 l0 (B 3 (F 11 l0 0) 4 l1) (l2 + 1) F B) (fun r19 F19 B19 => some (0, (zup3 (zup3 (zup3 F19 11 l0 6 ((F19 11 l0 6) - 1)) 11 l0 9 l3) 11 l0 10 l4), B19)) else none else none else none) = some (r, F9, B9) := hf
  refine lv_aload_n hx hb d_13_7_95 rfl (lv_at hl 2 rfl) ?_
  refine lv_aload_n hx hb d_13_7_96 rfl (lv_at hl 2 rfl) ?_
  obtain ⟨g16, hf⟩ := gif hf
  refine zget (ci := 11) (C := RX11) (T := TX11) (v := va_rf (zrf ad 3 (F 11 l0 0))) (k := 0) hx hb hts inW_11 hown hK hZ g16.1 g16.2 rfl (by decide) k_1_190 rfl d_13_7_97 ?_
  obtain ⟨g17, hf⟩ := gif hf
  refine zunrf g17.1 ?_
  refine zget (ci := 3) (C := RX3) (T := TX3) (v := .ref (ad 3 (F 11 l0 0) (4 + 1))) (k := 4) hx hb hts inW_3 hown hK hZ g17.1 g17.2 rfl (by decide) k_1_115 rfl d_13_7_100 ?_
  refine lv_iload_n hx hb d_13_7_103 rfl (lv_at hl 3 rfl) ?_
  obtain ⟨g18, hf⟩ := gif hf
  refine zald (ci := 3) (k := 4) hx hb hK rfl hZ g17.1 g17.2 rfl (Nat.le_of_ble_eq_true rfl) g18.1 g18.2 d_13_7_104 ?_
  refine lv_iload_n hx hb d_13_7_105 rfl (lv_at hl 4 rfl) ?_
  refine lv_iconst (v := iI 1) hx hb d_13_7_106 rfl ?_
  refine zadd hx hb d_13_7_107 ?_
  obtain ⟨r19, F19, B19, hc19, hf⟩ := gbind hf
  refine va_callv (va_runV (As := [.int (iI (B 3 (F 11 l0 0) 4 l1)), .int (iI (l2 + 1))]) (rest := []) ⟨hx, hb, hml, hown, hts⟩ (ho.1 hc19) (cwV 2 hts (gdV k_4_196 k_4_198 ks_34 k_1_6 k_4_199) rfl rfl rfl (by decide +kernel) ⟨by dsimp only; omega, by dsimp only; omega⟩) (zPV X hZ hS (ci := 11) g16.1 g16.2 (r := (RX11, TX11, 19)) rfl [.int (iI (B 3 (F 11 l0 0) 4 l1)), .int (iI (l2 + 1))]) rfl rfl hl.1 rfl (lv_room (Nat.le_of_ble_eq_true rfl)) d_13_7_108 ⟨Nat.le_of_ble_eq_true rfl, Nat.le_of_ble_eq_true rfl⟩) hS (fun q _ h => zAin X hS q h) (zAin X hS) (fun u19 t19 H19 locs19 ht19 hv19 hw19 hB19 hz19 hk19 hS19 => ?_)
  have hZ19 := zBack X ht19 hB19
  refine lv_aload_n hx hb d_13_7_111 rfl (lv_at hl 2 rfl) ?_
  refine lv_dup hx hb d_13_7_112 rfl ?_
  refine zget (ci := 11) (C := RX11) (T := TX11) (v := .int (iI (F19 11 l0 6))) (k := 6) hx hb hts inW_11 hown hK hZ19 g16.1 g16.2 rfl (by decide) k_1_196 rfl d_13_7_113 ?_
  refine lv_iconst (v := iI 1) hx hb d_13_7_116 rfl ?_
  refine zsub hx hb d_13_7_117 ?_
  refine zput (ci := 11) (C := RX11) (T := TX11) (k := 6) (v := ((F19 11 l0 6) - 1)) (w := .int (iI ((F19 11 l0 6) - 1))) hx hb hts inW_11 tyX11 tyX11_ok nmX11 hown hK hZ19 hS19 g16.1 g16.2 rfl (by decide) k_1_196 rfl (fun G h => congrArg (fun q => Value.int (iI q)) h) rfl rfl (zno (by decide)) d_13_7_118 (fun H20 locs20 hZ20 hS20 => ?_)
  refine lv_aload_n hx hb d_13_7_121 rfl (lv_at hl 2 rfl) ?_
  refine lv_iload_n hx hb d_13_7_122 rfl (lv_at hl 1 rfl) ?_
  refine zput (ci := 11) (C := RX11) (T := TX11) (k := 9) (v := l3) (w := .int (iI l3)) hx hb hts inW_11 tyX11 tyX11_ok nmX11 hown hK hZ20 hS20 g16.1 g16.2 rfl (by decide) k_1_199 rfl (fun G h => congrArg (fun q => Value.int (iI q)) h) rfl rfl (zno (by decide)) d_13_7_123 (fun H21 locs21 hZ21 hS21 => ?_)
  refine lv_aload_n hx hb d_13_7_126 rfl (lv_at hl 2 rfl) ?_
  refine lv_iload hx hb d_13_7_127 (lv_at hl 0 rfl) ?_
  refine zput (ci := 11) (C := RX11) (T := TX11) (k := 10) (v := l4) (w := .int (iI l4)) hx hb hts inW_11 tyX11 tyX11_ok nmX11 hown hK hZ21 hS21 g16.1 g16.2 rfl (by decide) k_1_200 rfl (fun G h => congrArg (fun q => Value.int (iI q)) h) rfl rfl (zno (by decide)) d_13_7_129 (fun H22 locs22 hZ22 hS22 => ?_)
  cases hf
  exact W.vret hx hb hr (fun t ht hW => ⟨⟨(), rfl, trivial, by rw [ht]; exact hZ22, va_K.moved hW.alike hK⟩, hS22.F ht⟩) hS22.2.2 d_13_7_132 hlk

noncomputable def f_Walker_goBracket_41 (o : oT_CW) (K : zK) (l4 : Int) (l3 : Int) (l0 : Int) (l1 : Int) (l2 : Int) (F : zF) (B : zB) : zO := if 0 ≤ l0 ∧ l0 < K.2 11 then if r32 ((F 11 l0 6) + 1) then (if 2 < ((F 11 l0 6) + 1) then f_Walker_goBracket_95 o K l4 l3 l0 l1 l2 (zup3 F 11 l0 6 ((F 11 l0 6) + 1)) B else if 0 ≤ (F 11 l0 0) ∧ (F 11 l0 0) < K.2 3 then if 0 ≤ l1 ∧ l1 < 3000 then f_Walker_goBracket_95 o K l4 l3 l0 l1 l2 (zup3 (zup3 (zup3 F 11 l0 6 ((F 11 l0 6) + 1)) 11 l0 9 ((F 11 l0 9) * (B 3 (F 11 l0 0) 2 l1))) 11 l0 10 ((F 11 l0 10) * (B 3 (F 11 l0 0) 3 l1))) B else none else none) else none else none
