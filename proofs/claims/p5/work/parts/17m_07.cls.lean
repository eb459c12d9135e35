set_option maxHeartbeats 4000000 in
set_option maxRecDepth 100000 in
theorem b_Walker_goBracket_41 {D : va_G} {ca : Nat → ClassId} {ad : Nat → Int → Nat → Nat} {L : List Nat} {aS vS : Nat → Nat} {A : Nat → Prop} {p : Program} {l : Launch} {e : Env} {s : State} {m : MethodId} {args : Array Value} {below : List Frame} {meth : Method} {c : Code} {K : zK} {r : Int} {F9 : zF} {B9 : zB} {d : Nat} {o : oT_CW} (X : zX D ca L aS vS A p s m args meth c prog_13_method_7_code 5 (Option.none : Option Jvm.ClassFile.FieldType) "StaveHouse$Walker") (ho : oH_CW K l D ca ad L aS vS d o) {l4 : Int} {l3 : Int} {l0 : Int} {l1 : Int} {l2 : Int} {F : zF} {B : zB} {H : Heap} {locs : List Loc} {ls : Array Slot} (hf : f_Walker_goBracket_41 o K l4 l3 l0 l1 l2 F B = some (r, F9, B9)) (hZ : zH D ca ad lnC K.2 L F B A H) (hS : va_S A s.heap H locs) (hl : lv_has ls 5 [(4, .int (iI l4)), (3, .int (iI l3)), (0, .ref (ad 11 l0 0)), (1, .int (iI l1)), (2, .int (iI l2))]) : W p l e ({ frames := d + 1 + 5, cells := 0, slots := 0, locals := 25 * (d + 1) + 95 } : Room) s m args below meth c H locs 0 0 (MQ below (Q_Walker_goBracket K D ca ad L r F9 B9 A) args s 0 0 A) (F0 m 41 ls []) := by
  obtain ⟨hx, hb, hr, hml, hown, hts, hlk, hK, hA, hL, hX⟩ := id X
  replace hf : (if 0 ≤ l0 ∧ l0 < K.2 11 then if r32 ((F 11 l0 6) + 1) then (if 2 < ((F 11 l0 6) + 1) then f_Walker_goBracket_95 o K l4 l3 l0 l1 l2 (zup3 F 11 l0 6 ((F 11 l0 6) + 1)) B else if 0 ≤ (F 11 l0 0) ∧ (F 11 l0 0) < K.2 3 then if 0 ≤ l1 ∧ l1 < 3000 then f_Walker_goBracket_95 o K l4 l3 l0 l1 l2 (zup3 (zup3 (zup3 F 11 l0 6 ((F 11 l0 6) + 1)) 11 l0 9 ((F 11 l0 9) * (B 3 (F 11 l0 0) 2 l1))) 11 l0 10 ((F 11 l0 10) * (B 3 (F 11 l0 0) 3 l1))) B else none else none) else none else none) = some (r, F9, B9) := hf
  refine lv_aload_n hx hb d_13_7_41 rfl (lv_at hl 2 rfl) ?_
  refine lv_dup hx hb d_13_7_42 rfl ?_
  obtain ⟨g8, hf⟩ := gif hf
  refine zget (ci := 11) (C := RX11) (T := TX11) (v := .int (iI (F 11 l0 6))) (k := 6) hx hb hts inW_11 hown hK hZ g8.1 g8.2 rfl (by decide) k_1_196 rfl d_13_7_43 ?_
  refine lv_iconst (v := iI 1) hx hb d_13_7_46 rfl ?_
  refine zadd hx hb d_13_7_47 ?_
  refine zput (ci := 11) (C := RX11) (T := TX11) (k := 6) (v := ((F 11 l0 6) + 1)) (w := .int (iI ((F 11 l0 6) + 1))) hx hb hts inW_11 tyX11 tyX11_ok nmX11 hown hK hZ hS g8.1 g8.2 rfl (by decide) k_1_196 rfl (fun G h => congrArg (fun q => Value.int (iI q)) h) rfl rfl (zno (by decide)) d_13_7_48 (fun H9 locs9 hZ9 hS9 => ?_)
  refine lv_aload_n hx hb d_13_7_51 rfl (lv_at hl 2 rfl) ?_
  refine zget (ci := 11) (C := RX11) (T := TX11) (v := .int (iI ((F 11 l0 6) + 1))) (k := 6) hx hb hts inW_11 hown hK hZ9 g8.1 g8.2 rfl (by decide) k_1_196 (congrArg (fun q : Int => Value.int (iI q)) (show (zup3 F 11 l0 6 ((F 11 l0 6) + 1)) 11 l0 6 = (F 11 l0 6) + 1 by simp [zup3])) d_13_7_52 ?_
  refine lv_iconst (v := iI 2) hx hb d_13_7_55 rfl ?_
  obtain ⟨g10, hf⟩ := gif hf
  refine zgt (tgt := 95) hx hb g10 (by decide) d_13_7_56 (by decide) (fun h11 => ?_) (fun h11 => ?_)
  · replace hf := gpos hf h11
    exact b_Walker_goBracket_95 X ho hf hZ9 hS9 (lv_sub hl [0, 1, 2, 3, 4] rfl)
  · replace hf := gneg hf h11
    refine lv_aload_n hx hb d_13_7_59 rfl (lv_at hl 2 rfl) ?_
    refine lv_dup hx hb d_13_7_60 rfl ?_
    refine zget (ci := 11) (C := RX11) (T := TX11) (v := .int (iI (F 11 l0 9))) (k := 9) hx hb hts inW_11 hown hK hZ9 g8.1 g8.2 rfl (by decide) k_1_199 (congrArg (fun q : Int => Value.int (iI q)) (show (zup3 F 11 l0 6 ((F 11 l0 6) + 1)) 11 l0 9 = F 11 l0 9 by simp [zup3])) d_13_7_61 ?_
    refine lv_aload_n hx hb d_13_7_64 rfl (lv_at hl 2 rfl) ?_
    refine zget (ci := 11) (C := RX11) (T := TX11) (v := va_rf (zrf ad 3 (F 11 l0 0))) (k := 0) hx hb hts inW_11 hown hK hZ9 g8.1 g8.2 rfl (by decide) k_1_190 (congrArg (fun q : Int => va_rf (zrf ad 3 q)) (show (zup3 F 11 l0 6 ((F 11 l0 6) + 1)) 11 l0 0 = F 11 l0 0 by simp [zup3])) d_13_7_65 ?_
    obtain ⟨g12, hf⟩ := gif hf
    refine zunrf g12.1 ?_
    refine zget (ci := 3) (C := RX3) (T := TX3) (v := .ref (ad 3 (F 11 l0 0) (2 + 1))) (k := 2) hx hb hts inW_3 hown hK hZ9 g12.1 g12.2 rfl (by decide) k_1_111 rfl d_13_7_68 ?_
    refine lv_iload_n hx hb d_13_7_71 rfl (lv_at hl 3 rfl) ?_
    obtain ⟨g13, hf⟩ := gif hf
    refine zald (ci := 3) (k := 2) hx hb hK rfl hZ9 g12.1 g12.2 rfl (Nat.le_of_ble_eq_true rfl) g13.1 g13.2 d_13_7_72 ?_
    refine zmul hx hb d_13_7_73 ?_
    refine zput (ci := 11) (C := RX11) (T := TX11) (k := 9) (v := ((F 11 l0 9) * (B 3 (F 11 l0 0) 2 l1))) (w := .int (iI ((F 11 l0 9) * (B 3 (F 11 l0 0) 2 l1)))) hx hb hts inW_11 tyX11 tyX11_ok nmX11 hown hK hZ9 hS9 g8.1 g8.2 rfl (by decide) k_1_199 rfl (fun G h => congrArg (fun q => Value.int (iI q)) h) rfl rfl (zno (by decide)) d_13_7_74 (fun H14 locs14 hZ14 hS14 => ?_)
    refine lv_aload_n hx hb d_13_7_77 rfl (lv_at hl 2 rfl) ?_
    refine lv_dup hx hb d_13_7_78 rfl ?_
    refine zget (ci := 11) (C := RX11) (T := TX11) (v := .int (iI (F 11 l0 10))) (k := 10) hx hb hts inW_11 hown hK hZ14 g8.1 g8.2 rfl (by decide) k_1_200 (congrArg (fun q : Int => Value.int (iI q)) (show (zup3 (zup3 F 11 l0 6 ((F 11 l0 6) + 1)) 11 l0 9 ((F 11 l0 9) * (B 3 (F 11 l0 0) 2 l1))) 11 l0 10 = F 11 l0 10 by simp [zup3])) d_13_7_79 ?_
    refine lv_aload_n hx hb d_13_7_82 rfl (lv_at hl 2 rfl) ?_
    refine zget (ci := 11) (C := RX11) (T := TX11) (v := va_rf (zrf ad 3 (F 11 l0 0))) (k := 0) hx hb hts inW_11 hown hK hZ14 g8.1 g8.2 rfl (by decide) k_1_190 (congrArg (fun q : Int => va_rf (zrf ad 3 q)) (show (zup3 (zup3 F 11 l0 6 ((F 11 l0 6) + 1)) 11 l0 9 ((F 11 l0 9) * (B 3 (F 11 l0 0) 2 l1))) 11 l0 0 = F 11 l0 0 by simp [zup3])) d_13_7_83 ?_
    refine zunrf g12.1 ?_
    refine zget (ci := 3) (C := RX3) (T := TX3) (v := .ref (ad 3 (F 11 l0 0) (3 + 1))) (k := 3) hx hb hts inW_3 hown hK hZ14 g12.1 g12.2 rfl (by decide) k_1_113 rfl d_13_7_86 ?_
    refine lv_iload_n hx hb d_13_7_89 rfl (lv_at hl 3 rfl) ?_
    refine zald (ci := 3) (k := 3) hx hb hK rfl hZ14 g12.1 g12.2 rfl (Nat.le_of_ble_eq_true rfl) g13.1 g13.2 d_13_7_90 ?_
    refine zmul hx hb d_13_7_91 ?_
    refine zput (ci := 11) (C := RX11) (T := TX11) (k := 10) (v := ((F 11 l0 10) * (B 3 (F 11 l0 0) 3 l1))) (w := .int (iI ((F 11 l0 10) * (B 3 (F 11 l0 0) 3 l1)))) hx hb hts inW_11 tyX11 tyX11_ok nmX11 hown hK hZ14 hS14 g8.1 g8.2 rfl (by decide) k_1_200 rfl (fun G h => congrArg (fun q => Value.int (iI q)) h) rfl rfl (zno (by decide)) d_13_7_92 (fun H15 locs15 hZ15 hS15 => ?_)
    exact b_Walker_goBracket_95 X ho hf hZ15 hS15 (lv_sub hl [0, 1, 2, 3, 4] rfl)

noncomputable def fb_Walker_goBracket (o : oT_CW) (K : zK) (l0 : Int) (l1 : Int) (l2 : Int) (F : zF) (B : zB) : zO := if 0 ≤ l0 ∧ l0 < K.2 11 then if r32 (F 11 l0 6) then (if (F 11 l0 6) = 0 then if 0 ≤ (F 11 l0 0) ∧ (F 11 l0 0) < K.2 3 then if 0 ≤ l1 ∧ l1 < 3000 then f_Walker_goBracket_41 o K (F 11 l0 10) (F 11 l0 9) l0 l1 l2 (zup3 (zup3 F 11 l0 7 ((F 11 l0 7) + 1)) 11 l0 8 (B 3 (F 11 l0 0) 1 l1)) B else none else none else f_Walker_goBracket_41 o K (F 11 l0 10) (F 11 l0 9) l0 l1 l2 F B) else none else none
set_option maxHeartbeats 4000000 in
set_option maxRecDepth 100000 in
theorem cb_Walker_goBracket {l : Launch} {D : va_G} {ca : Nat → ClassId} {ad : Nat → Int → Nat → Nat} {L : List Nat} {aS vS : Nat → Nat} {sz : Nat} {K : zK} {d : Nat} {o : oT_CW} (ho : oH_CW K l D ca ad L aS vS d o)  {l0 : Int} {l1 : Int} {l2 : Int} {F F9 : zF} {B B9 : zB} {r : Int} (hf : fb_Walker_goBracket o K l0 l1 l2 F B = some (r, F9, B9)) : Met l ({ cls := "StaveHouse$Walker", name := "goBracket", desc := "(II)V" } : Jvm.MethodName) (Cond.code ({ cls := "StaveHouse$Walker", name := "goBracket", desc := "(II)V" } : Jvm.MethodName) prog_13_method_7_code 5 (Option.none : Option Jvm.ClassFile.FieldType) :: wAll) ({ frames := d + 1 + 5, cells := 0, slots := 0, locals := 25 * (d + 1) + 95 } : Room) (va_Pc [.ref (ad 11 l0 0), .int (iI l1), .int (iI l2)] (zPre D ca ad lnC K.2 L aS vS F B sz)) (Q_Walker_goBracket K D ca ad L r F9 B9 (zA L sz)) 0 0 (zA L sz) := by
  refine zMet (Qc := Q_Walker_goBracket K D ca ad L r F9 B9) (lv := [(0, .ref (ad 11 l0 0)), (1, .int (iI l1)), (2, .int (iI l2))]) (by decide) (Nat.le_of_ble_eq_true rfl) rfl (fun A p e s m below meth c ls X hZ hS hl => ?_)
  obtain ⟨hx, hb, hr, hml, hown, hts, hlk, hK, hA, hL, hX⟩ := id X
  replace hf : (if 0 ≤ l0 ∧ l0 < K.2 11 then if r32 (F 11 l0 6) then (if (F 11 l0 6) = 0 then if 0 ≤ (F 11 l0 0) ∧ (F 11 l0 0) < K.2 3 then if 0 ≤ l1 ∧ l1 < 3000 then f_Walker_goBracket_41 o K (F 11 l0 10) (F 11 l0 9) l0 l1 l2 (zup3 (zup3 F 11 l0 7 ((F 11 l0 7) + 1)) 11 l0 8 (B 3 (F 11 l0 0) 1 l1)) B else none else none else f_Walker_goBracket_41 o K (F 11 l0 10) (F 11 l0 9) l0 l1 l2 F B) else none else none) = some (r, F9, B9) := hf
  refine lv_aload_n hx hb d_13_7_0 rfl (lv_at hl 0 rfl) ?_
  obtain ⟨g1, hf⟩ := gif hf
  refine zget (ci := 11) (C := RX11) (T := TX11) (v := .int (iI (F 11 l0 9))) (k := 9) hx hb hts inW_11 hown hK hZ g1.1 g1.2 rfl (by decide) k_1_199 rfl d_13_7_1 ?_
  refine lv_istore_n (lv' := [(3, .int (iI (F 11 l0 9))), (0, .ref (ad 11 l0 0)), (1, .int (iI l1)), (2, .int (iI l2))]) hx hb d_13_7_4 rfl hl (by decide) rfl (fun ls hl => ?_)
  refine lv_aload_n hx hb d_13_7_5 rfl (lv_at hl 1 rfl) ?_
  refine zget (ci := 11) (C := RX11) (T := TX11) (v := .int (iI (F 11 l0 10))) (k := 10) hx hb hts inW_11 hown hK hZ g1.1 g1.2 rfl (by decide) k_1_200 rfl d_13_7_6 ?_
  refine lv_istore (lv' := [(4, .int (iI (F 11 l0 10))), (3, .int (iI (F 11 l0 9))), (0, .ref (ad 11 l0 0)), (1, .int (iI l1)), (2, .int (iI l2))]) hx hb d_13_7_9 hl (by decide) rfl (fun ls hl => ?_)
  refine lv_aload_n hx hb d_13_7_11 rfl (lv_at hl 2 rfl) ?_
  refine zget (ci := 11) (C := RX11) (T := TX11) (v := .int (iI (F 11 l0 6))) (k := 6) hx hb hts inW_11 hown hK hZ g1.1 g1.2 rfl (by decide) k_1_196 rfl d_13_7_12 ?_
  obtain ⟨g2, hf⟩ := gif hf
  refine z0ne (tgt := 41) hx hb g2 d_13_7_15 (by decide) (fun h3 => ?_) (fun h3 => ?_)
  · replace hf := gneg hf h3
    exact b_Walker_goBracket_41 X ho hf hZ hS (lv_sub hl [0, 1, 2, 3, 4] rfl)
  · replace hf := gpos hf h3
    refine lv_aload_n hx hb d_13_7_18 rfl (lv_at hl 2 rfl) ?_
    refine lv_dup hx hb d_13_7_19 rfl ?_
    refine zget (ci := 11) (C := RX11) (T := TX11) (v := .int (iI (F 11 l0 7))) (k := 7) hx hb hts inW_11 hown hK hZ g1.1 g1.2 rfl (by decide) k_1_197 rfl d_13_7_20 ?_
    refine lv_iconst (v := iI 1) hx hb d_13_7_23 rfl ?_
    refine zadd hx hb d_13_7_24 ?_
    refine zput (ci := 11) (C := RX11) (T := TX11) (k := 7) (v := ((F 11 l0 7) + 1)) (w := .int (iI ((F 11 l0 7) + 1))) hx hb hts inW_11 tyX11 tyX11_ok nmX11 hown hK hZ hS g1.1 g1.2 rfl (by decide) k_1_197 rfl (fun G h => congrArg (fun q => Value.int (iI q)) h) rfl rfl (zno (by decide)) d_13_7_25 (fun H4 locs4 hZ4 hS4 => ?_)
    refine lv_aload_n hx hb d_13_7_28 rfl (lv_at hl 2 rfl) ?_
    refine lv_aload_n hx hb d_13_7_29 rfl (lv_at hl 2 rfl) ?_
    refine zget (ci := 11) (C := RX11) (T := TX11) (v := va_rf (zrf ad 3 (F 11 l0 0))) (k := 0) hx hb hts inW_11 hown hK hZ4 g1.1 g1.2 rfl (by decide) k_1_190 (congrArg (fun q : Int => va_rf (zrf ad 3 q)) (show (zup3 F 11 l0 7 ((F 11 l0 7) + 1)) 11 l0 0 = F 11 l0 0 by simp [zup3])) d_13_7_30 ?_
    obtain ⟨g5, hf⟩ := gif hf
    refine zunrf g5.1 ?_
    refine zget (ci := 3) (C := RX3) (T := TX3) (v := .ref (ad 3 (F 11 l0 0) (1 + 1))) (k := 1) hx hb hts inW_3 hown hK hZ4 g5.1 g5.2 rfl (by decide) k_1_109 rfl d_13_7_33 ?_
    refine lv_iload_n hx hb d_13_7_36 rfl (lv_at hl 3 rfl) ?_
    obtain ⟨g6, hf⟩ := gif hf
    refine zald (ci := 3) (k := 1) hx hb hK rfl hZ4 g5.1 g5.2 rfl (Nat.le_of_ble_eq_true rfl) g6.1 g6.2 d_13_7_37 ?_
    refine zput (ci := 11) (C := RX11) (T := TX11) (k := 8) (v := (B 3 (F 11 l0 0) 1 l1)) (w := .int (iI (B 3 (F 11 l0 0) 1 l1))) hx hb hts inW_11 tyX11 tyX11_ok nmX11 hown hK hZ4 hS4 g1.1 g1.2 rfl (by decide) k_1_198 rfl (fun G h => congrArg (fun q => Value.int (iI q)) h) rfl rfl (zno (by decide)) d_13_7_38 (fun H7 locs7 hZ7 hS7 => ?_)
    exact b_Walker_goBracket_41 X ho hf hZ7 hS7 (lv_sub hl [0, 1, 2, 3, 4] rfl)

noncomputable def f_Walker_goRepeat_127 (o : oT_CW) (K : zK)  (F : zF) (B : zB) : zO := some (0, F, B)
set_option maxHeartbeats 4000000 in
set_option maxRecDepth 100000 in
theorem b_Walker_goRepeat_127 {D : va_G} {ca : Nat → ClassId} {ad : Nat → Int → Nat → Nat} {L : List Nat} {aS vS : Nat → Nat} {A : Nat → Prop} {p : Program} {l : Launch} {e : Env} {s : State} {m : MethodId} {args : Array Value} {below : List Frame} {meth : Method} {c : Code} {K : zK} {r : Int} {F9 : zF} {B9 : zB} {d : Nat} {o : oT_CW} (X : zX D ca L aS vS A p s m args meth c prog_13_method_8_code 6 (Option.none : Option Jvm.ClassFile.FieldType) "StaveHouse$Walker") (ho : oH_CW K l D ca ad L aS vS d o)  {F : zF} {B : zB} {H : Heap} {locs : List Loc} {ls : Array Slot} (hf : f_Walker_goRepeat_127 o K  F B = some (r, F9, B9)) (hZ : zH D ca ad lnC K.2 L F B A H) (hS : va_S A s.heap H locs) (hl : lv_has ls 6 []) : W p l e ({ frames := d + 1 + 5, cells := 0, slots := 0, locals := 25 * (d + 1) + 95 } : Room) s m args below meth c H locs 0 0 (MQ below (Q_Walker_goRepeat K D ca ad L r F9 B9 A) args s 0 0 A) (F0 m 127 ls []) := by
  obtain ⟨hx, hb, hr, hml, hown, hts, hlk, hK, hA, hL, hX⟩ := id X
  replace hf : (some (0, F, B)) = some (r, F9, B9) := hf
  cases hf
  exact W.vret hx hb hr (fun t ht hW => ⟨⟨(), rfl, trivial, by rw [ht]; exact hZ, va_K.moved hW.alike hK⟩, hS.F ht⟩) hS.2.2 d_13_8_127 hlk

noncomputable def f_Walker_goRepeat_121 (o : oT_CW) (rec13 : Int → Int → Int → Int → Int → zF → zB → zO) (K : zK) (l4 : Int) (l3 : Int) (l0 : Int) (l1 : Int) (l2 : Int) (F : zF) (B : zB) : zO := rec13 (l4 + 1) l3 l0 l1 l2 F B
set_option maxHeartbeats 4000000 in
set_option maxRecDepth 100000 in
theorem b_Walker_goRepeat_121 {D : va_G} {ca : Nat → ClassId} {ad : Nat → Int → Nat → Nat} {L : List Nat} {aS vS : Nat → Nat} {A : Nat → Prop} {p : Program} {l : Launch} {e : Env} {s : State} {m : MethodId} {args : Array Value} {below : List Frame} {meth : Method} {c : Code} {K : zK} {r : Int} {F9 : zF} {B9 : zB} {d : Nat} {o : oT_CW} (X : zX D ca L aS vS A p s m args meth c prog_13_method_8_code 6 (Option.none : Option Jvm.ClassFile.FieldType) "StaveHouse$Walker") (ho : oH_CW K l D ca ad L aS vS d o) {rec13 : Int → Int → Int → Int → Int → zF → zB → zO} (hrec13 : ∀ {l4 : Int} {l3 : Int} {l0 : Int} {l1 : Int} {l2 : Int} {F : zF} {B : zB} {H : Heap} {locs : List Loc} {ls : Array Slot}, rec13 l4 l3 l0 l1 l2 F B = some (r, F9, B9) → zH D ca ad lnC K.2 L F B A H → va_S A s.heap H locs → lv_has ls 6 [(4, .int (iI l4)), (3, .int (iI l3)), (0, .ref (ad 11 l0 0)), (1, .int (iI l1)), (2, .int (iI l2))] → W p l e ({ frames := d + 1 + 5, cells := 0, slots := 0, locals := 25 * (d + 1) + 95 } : Room) s m args below meth c H locs 0 0 (MQ below (Q_Walker_goRepeat K D ca ad L r F9 B9 A) args s 0 0 A) (F0 m 13 ls [])) {l4 : Int} {l3 : Int} {l0 : Int} {l1 : Int} {l2 : Int} {F : zF} {B : zB} {H : Heap} {locs : List Loc} {ls : Array Slot} (hf : f_Walker_goRepeat_121 o rec13 K l4 l3 l0 l1 l2 F B = some (r, F9, B9)) (hZ : zH D ca ad lnC K.2 L F B A H) (hS : va_S A s.heap H locs) (hl : lv_has ls 6 [(4, .int (iI l4)), (3, .int (iI l3)), (0, .ref (ad 11 l0 0)), (1, .int (iI l1)), (2, .int (iI l2))]) : W p l e ({ frames := d + 1 + 5, cells := 0, slots := 0, locals := 25 * (d + 1) + 95 } : Room) s m args below meth c H locs 0 0 (MQ below (Q_Walker_goRepeat K D ca ad L r F9 B9 A) args s 0 0 A) (F0 m 121 ls []) := by
  obtain ⟨hx, hb, hr, hml, hown, hts, hlk, hK, hA, hL, hX⟩ := id X
  replace hf : (rec13 (l4 + 1) l3 l0 l1 l2 F B) = some (r, F9, B9) := hf
  refine lv_iinc (v := iI (l4 + 1)) (lv' := [(4, .int (iI (l4 + 1))), (3, .int (iI l3)), (0, .ref (ad 11 l0 0)), (1, .int (iI l1)), (2, .int (iI l2))]) hx hb d_13_8_121 hl (k := 0) rfl (iI_add _ 1) (by decide) rfl (fun ls hl => ?_)
  refine lv_goto (tgt := 13) hx hb d_13_8_124 (by decide) ?_
  exact hrec13 hf hZ hS (lv_sub hl [0, 1, 2, 3, 4] rfl)

noncomputable def f_Walker_goRepeat_120 (o : oT_CW) (rec13 : Int → Int → Int → Int → Int → zF → zB → zO) (K : zK) (l4 : Int) (l0 : Int) (l1 : Int) (l2 : Int) (s0 : Int) (F : zF) (B : zB) : zO := f_Walker_goRepeat_121 o rec13 K l4 s0 l0 l1 l2 F B
set_option maxHeartbeats 4000000 in
set_option maxRecDepth 100000 in
theorem b_Walker_goRepeat_120 {D : va_G} {ca : Nat → ClassId} {ad : Nat → Int → Nat → Nat} {L : List Nat} {aS vS : Nat → Nat} {A : Nat → Prop} {p : Program} {l : Launch} {e : Env} {s : State} {m : MethodId} {args : Array Value} {below : List Frame} {meth : Method} {c : Code} {K : zK} {r : Int} {F9 : zF} {B9 : zB} {d : Nat} {o : oT_CW} (X : zX D ca L aS vS A p s m args meth c prog_13_method_8_code 6 (Option.none : Option Jvm.ClassFile.FieldType) "StaveHouse$Walker") (ho : oH_CW K l D ca ad L aS vS d o) {rec13 : Int → Int → Int → Int → Int → zF → zB → zO} (hrec13 : ∀ {l4 : Int} {l3 : Int} {l0 : Int} {l1 : Int} {l2 : Int} {F : zF} {B : zB} {H : Heap} {locs : List Loc} {ls : Array Slot}, rec13 l4 l3 l0 l1 l2 F B = some (r, F9, B9) → zH D ca ad lnC K.2 L F B A H → va_S A s.heap H locs → lv_has ls 6 [(4, .int (iI l4)), (3, .int (iI l3)), (0, .ref (ad 11 l0 0)), (1, .int (iI l1)), (2, .int (iI l2))] → W p l e ({ frames := d + 1 + 5, cells := 0, slots := 0, locals := 25 * (d + 1) + 95 } : Room) s m args below meth c H locs 0 0 (MQ below (Q_Walker_goRepeat K D ca ad L r F9 B9 A) args s 0 0 A) (F0 m 13 ls [])) {l4 : Int} {l0 : Int} {l1 : Int} {l2 : Int} {s0 : Int} {F : zF} {B : zB} {H : Heap} {locs : List Loc} {ls : Array Slot} (hf : f_Walker_goRepeat_120 o rec13 K l4 l0 l1 l2 s0 F B = some (r, F9, B9)) (hZ : zH D ca ad lnC K.2 L F B A H) (hS : va_S A s.heap H locs) (hl : lv_has ls 6 [(4, .int (iI l4)), (0, .ref (ad 11 l0 0)), (1, .int (iI l1)), (2, .int (iI l2))]) : W p l e ({ frames := d + 1 + 5, cells := 0, slots := 0, locals := 25 * (d + 1) + 95 } : Room) s m args below meth c H locs 0 0 (MQ below (Q_Walker_goRepeat K D ca ad L r F9 B9 A) args s 0 0 A) (F0 m 120 ls [.int (iI s0)]) := by
  obtain ⟨hx, hb, hr, hml, hown, hts, hlk, hK, hA, hL, hX⟩ := id X
  replace hf : (f_Walker_goRepeat_121 o rec13 K l4 s0 l0 l1 l2 F B) = some (r, F9, B9) := hf
  refine lv_istore_n (lv' := [(3, .int (iI s0)), (4, .int (iI l4)), (0, .ref (ad 11 l0 0)), (1, .int (iI l1)), (2, .int (iI l2))]) hx hb d_13_8_120 rfl hl (by decide) rfl (fun ls hl => ?_)
  exact b_Walker_goRepeat_121 X ho hrec13 hf hZ hS (lv_sub hl [1, 0, 2, 3, 4] rfl)

noncomputable def f_Walker_goRepeat_13 (o : oT_CW) (K : zK) : Nat → Int → Int → Int → Int → Int → zF → zB → zO
  | 0, _, _, _, _, _, _, _ => none
  | n + 1, l4, l3, l0, l1, l2, F, B => if 0 ≤ l0 ∧ l0 < K.2 11 then if 0 ≤ (F 11 l0 0) ∧ (F 11 l0 0) < K.2 3 then if 0 ≤ l1 ∧ l1 < 3000 then if r32 l4 then if r32 (B 3 (F 11 l0 0) 2 l1) then (if (B 3 (F 11 l0 0) 2 l1) ≤ l4 then f_Walker_goRepeat_127 o K F B else if r32 (F 11 l0 2) then (if (F 11 l0 2) = 0 then zbind (f_Walker_countItem K l0 (B 3 (F 11 l0 0) 1 l1) F B) (fun r12 F12 B12 => if 0 ≤ (F12 11 l0 0) ∧ (F12 11 l0 0) < K.2 3 then zbind (o.1 l0 (B12 3 (F12 11 l0 0) 4 l1) (l2 + 1) F12 B12) (fun r14 F14 B14 => if r32 l3 then (if l3 = (-1) then f_Walker_goRepeat_121 o (f_Walker_goRepeat_13 o K n) K l4 l3 l0 l1 l2 F14 B14 else if 0 ≤ (F14 11 l0 0) ∧ (F14 11 l0 0) < K.2 3 then zbind (f_Walker_countItem K l0 (B14 3 (F14 11 l0 0) 1 l1) F14 B14) (fun r18 F18 B18 => if 0 ≤ (F18 11 l0 0) ∧ (F18 11 l0 0) < K.2 3 then if 0 ≤ l3 ∧ l3 < 3000 then zbind (o.1 l0 (B18 3 (F18 11 l0 0) 4 l3) (l2 + 1) F18 B18) (fun r21 F21 B21 => if 0 ≤ (F21 11 l0 0) ∧ (F21 11 l0 0) < K.2 3 then if r32 (B21 3 (F21 11 l0 0) 5 l3) then (if (B21 3 (F21 11 l0 0) 5 l3) = (-1) then f_Walker_goRepeat_120 o (f_Walker_goRepeat_13 o K n) K l4 l0 l1 l2 l3 F21 B21 else f_Walker_goRepeat_120 o (f_Walker_goRepeat_13 o K n) K l4 l0 l1 l2 (B21 3 (F21 11 l0 0) 5 l3) F21 B21) else none else none) else none else none) else none) else none) else none) else f_Walker_goRepeat_127 o K F B) else none) else none else none else none else none else none
set_option maxHeartbeats 4000000 in
set_option maxRecDepth 100000 in
theorem b_Walker_goRepeat_13 {D : va_G} {ca : Nat → ClassId} {ad : Nat → Int → Nat → Nat} {L : List Nat} {aS vS : Nat → Nat} {A : Nat → Prop} {p : Program} {l : Launch} {e : Env} {s : State} {m : MethodId} {args : Array Value} {below : List Frame} {meth : Method} {c : Code} {K : zK} {r : Int} {F9 : zF} {B9 : zB} {d : Nat} {o : oT_CW} (X : zX D ca L aS vS A p s m args meth c prog_13_method_8_code 6 (Option.none : Option Jvm.ClassFile.FieldType) "StaveHouse$Walker") (ho : oH_CW K l D ca ad L aS vS d o) : ∀ {n : Nat} {l4 : Int} {l3 : Int} {l0 : Int} {l1 : Int} {l2 : Int} {F : zF} {B : zB} {H : Heap} {locs : List Loc} {ls : Array Slot}, f_Walker_goRepeat_13 o K n l4 l3 l0 l1 l2 F B = some (r, F9, B9) → zH D ca ad lnC K.2 L F B A H → va_S A s.heap H locs → lv_has ls 6 [(4, .int (iI l4)), (3, .int (iI l3)), (0, .ref (ad 11 l0 0)), (1, .int (iI l1)), (2, .int (iI l2))] → W p l e ({ frames := d + 1 + 5, cells := 0, slots := 0, locals := 25 * (d + 1) + 95 } : Room) s m args below meth c H locs 0 0 (MQ below (Q_Walker_goRepeat K D ca ad L r F9 B9 A) args s 0 0 A) (F0 m 13 ls []) := by
  obtain ⟨hx, hb, hr, hml, hown, hts, hlk, hK, hA, hL, hX⟩ := id X
  intro n
  induction n with
  | zero =>
    intros
    rename_i hf _ _ _
    cases hf
  | succ n ih =>
    intro l4 l3 l0 l1 l2 F B H locs ls hf hZ hS hl
    replace hf : (if 0 ≤ l0 ∧ l0 < K.2 11 then if 0 ≤ (F 11 l0 0) ∧ (F 11 l0 0) < K.2 3 then if 0 ≤ l1 ∧ l1 < 3000 then if r32 l4 then if r32 (B 3 (F 11 l0 0) 2 l1) then (if (B 3 (F 11 l0 0) 2 l1) ≤ l4 then f_Walker_goRepeat_127 o K F B else if r32 (F 11 l0 2) then (if (F 11 l0 2) = 0 then zbind (f_Walker_countItem K l0 (B 3 (F 11 l0 0) 1 l1) F B) (fun r12 F12 B12 => if 0 ≤ (F12 11 l0 0) ∧ (F12 11 l0 0) < K.2 3 then zbind (o.1 l0 (B12 3 (F12 11 l0 0) 4 l1) (l2 + 1) F12 B12) (fun r14 F14 B14 => if r32 l3 then (if l3 = (-1) then f_Walker_goRepeat_121 o (f_Walker_goRepeat_13 o K n) K l4 l3 l0 l1 l2 F14 B14 else if 0 ≤ (F14 11 l0 0) ∧ (F14 11 l0 0) < K.2 3 then zbind (f_Walker_countItem K l0 (B14 3 (F14 11 l0 0) 1 l1) F14 B14) (fun r18 F18 B18 => if 0 ≤ (F18 11 l0 0) ∧ (F18 11 l0 0) < K.2 3 then if 0 ≤ l3 ∧ l3 < 3000 then zbind (o.1 l0 (B18 3 (F18 11 l0 0) 4 l3) (l2 + 1) F18 B18) (fun r21 F21 B21 => if 0 ≤ (F21 11 l0 0) ∧ (F21 11 l0 0) < K.2 3 then if r32 (B21 3 (F21 11 l0 0) 5 l3) then (if (B21 3 (F21 11 l0 0) 5 l3) = (-1) then f_Walker_goRepeat_120 o (f_Walker_goRepeat_13 o K n) K l4 l0 l1 l2 l3 F21 B21 else f_Walker_goRepeat_120 o (f_Walker_goRepeat_13 o K n) K l4 l0 l1 l2 (B21 3 (F21 11 l0 0) 5 l3) F21 B21) else none else none) else none else none) else none) else none) else none) else f_Walker_goRepeat_127 o K F B) else none) else none else none else none else none else none) = some (r, F9, B9) := hf
    refine lv_iload hx hb d_13_8_13 (lv_at hl 0 rfl) ?_
    refine lv_aload_n hx hb d_13_8_15 rfl (lv_at hl 2 rfl) ?_
    obtain ⟨g4, hf⟩ := gif hf
    refine zget (ci := 11) (C := RX11) (T := TX11) (v := va_rf (zrf ad 3 (F 11 l0 0))) (k := 0) hx hb hts inW_11 hown hK hZ g4.1 g4.2 rfl (by decide) k_1_190 rfl d_13_8_16 ?_
    obtain ⟨g5, hf⟩ := gif hf
    refine zunrf g5.1 ?_
    refine zget (ci := 3) (C := RX3) (T := TX3) (v := .ref (ad 3 (F 11 l0 0) (2 + 1))) (k := 2) hx hb hts inW_3 hown hK hZ g5.1 g5.2 rfl (by decide) k_1_111 rfl d_13_8_19 ?_
    refine lv_iload_n hx hb d_13_8_22 rfl (lv_at hl 3 rfl) ?_
    obtain ⟨g6, hf⟩ := gif hf
    refine zald (ci := 3) (k := 2) hx hb hK rfl hZ g5.1 g5.2 rfl (Nat.le_of_ble_eq_true rfl) g6.1 g6.2 d_13_8_23 ?_
    obtain ⟨g7, hf⟩ := gif hf
    obtain ⟨g8, hf⟩ := gif hf
    refine zge (tgt := 127) hx hb g7 g8 d_13_8_24 (by decide) (fun h9 => ?_) (fun h9 => ?_)
    · replace hf := gpos hf h9
      exact b_Walker_goRepeat_127 X ho hf hZ hS (lv_sub hl [] rfl)
    · replace hf := gneg hf h9
      refine lv_aload_n hx hb d_13_8_27 rfl (lv_at hl 2 rfl) ?_
      refine zget (ci := 11) (C := RX11) (T := TX11) (v := .int (iI (F 11 l0 2))) (k := 2) hx hb hts inW_11 hown hK hZ g4.1 g4.2 rfl (by decide) k_1_192 rfl d_13_8_28 ?_
      obtain ⟨g10, hf⟩ := gif hf
      refine z0ne (tgt := 127) hx hb g10 d_13_8_31 (by decide) (fun h11 => ?_) (fun h11 => ?_)
      · replace hf := gneg hf h11
        exact b_Walker_goRepeat_127 X ho hf hZ hS (lv_sub hl [] rfl)
      · replace hf := gpos hf h11
        refine lv_aload_n hx hb d_13_8_34 rfl (lv_at hl 2 rfl) ?_
        refine lv_aload_n hx hb d_13_8_35 rfl (lv_at hl 2 rfl) ?_
        refine zget (ci := 11) (C := RX11) (T := TX11) (v := va_rf (zrf ad 3 (F 11 l0 0))) (k := 0) hx hb hts inW_11 hown hK hZ g4.1 g4.2 rfl (by decide) k_1_190 rfl d_13_8_36 ?_
        refine zunrf g5.1 ?_
        refine zget (ci := 3) (C := RX3) (T := TX3) (v := .ref (ad 3 (F 11 l0 0) (1 + 1))) (k := 1) hx hb hts inW_3 hown hK hZ g5.1 g5.2 rfl (by decide) k_1_109 rfl d_13_8_39 ?_
        refine lv_iload_n hx hb d_13_8_42 rfl (lv_at hl 3 rfl) ?_
        refine zald (ci := 3) (k := 1) hx hb hK rfl hZ g5.1 g5.2 rfl (Nat.le_of_ble_eq_true rfl) g6.1 g6.2 d_13_8_43 ?_
        obtain ⟨r12, F12, B12, hc12, hf⟩ := gbind hf
        refine va_callv (va_runV (As := [.int (iI (B 3 (F 11 l0 0) 1 l1))]) (rest := []) ⟨hx, hb, hml, hown, hts⟩ (c_Walker_countItem (l := l) hc12) (cwV 1 hts (gdV k_4_200 k_4_202 ks_35 k_1_6 k_4_203) rfl rfl rfl (by decide +kernel) ⟨by dsimp only; omega, by dsimp only; omega⟩) (zPV X hZ hS (ci := 11) g4.1 g4.2 (r := (RX11, TX11, 19)) rfl [.int (iI (B 3 (F 11 l0 0) 1 l1))]) rfl rfl hl.1 rfl (lv_room (Nat.le_of_ble_eq_true rfl)) d_13_8_44 ⟨Nat.le_of_ble_eq_true rfl, Nat.le_of_ble_eq_true rfl⟩) hS (fun q _ h => zAin X hS q h) (zAin X hS) (fun u12 t12 H12 locs12 ht12 hv12 hw12 hB12 hz12 hk12 hS12 => ?_)
        have hZ12 := zBack X ht12 hB12
        refine lv_aload_n hx hb d_13_8_47 rfl (lv_at hl 2 rfl) ?_
        refine lv_aload_n hx hb d_13_8_48 rfl (lv_at hl 2 rfl) ?_
        refine zget (ci := 11) (C := RX11) (T := TX11) (v := va_rf (zrf ad 3 (F12 11 l0 0))) (k := 0) hx hb hts inW_11 hown hK hZ12 g4.1 g4.2 rfl (by decide) k_1_190 rfl d_13_8_49 ?_
        obtain ⟨g13, hf⟩ := gif hf
        refine zunrf g13.1 ?_
        refine zget (ci := 3) (C := RX3) (T := TX3) (v := .ref (ad 3 (F12 11 l0 0) (4 + 1))) (k := 4) hx hb hts inW_3 hown hK hZ12 g13.1 g13.2 rfl (by decide) k_1_115 rfl d_13_8_52 ?_
        refine lv_iload_n hx hb d_13_8_55 rfl (lv_at hl 3 rfl) ?_
        refine zald (ci := 3) (k := 4) hx hb hK rfl hZ12 g13.1 g13.2 rfl (Nat.le_of_ble_eq_true rfl) g6.1 g6.2 d_13_8_56 ?_
        refine lv_iload_n hx hb d_13_8_57 rfl (lv_at hl 4 rfl) ?_
        refine lv_iconst (v := iI 1) hx hb d_13_8_58 rfl ?_
        refine zadd hx hb d_13_8_59 ?_
        obtain ⟨r14, F14, B14, hc14, hf⟩ := gbind hf
        refine va_callv (va_runV (As := [.int (iI (B12 3 (F12 11 l0 0) 4 l1)), .int (iI (l2 + 1))]) (rest := []) ⟨hx, hb, hml, hown, hts⟩ (ho.1 hc14) (cwV 2 hts (gdV k_4_196 k_4_198 ks_34 k_1_6 k_4_199) rfl rfl rfl (by decide +kernel) ⟨by dsimp only; omega, by dsimp only; omega⟩) (zPV X hZ12 hS12 (ci := 11) g4.1 g4.2 (r := (RX11, TX11, 19)) rfl [.int (iI (B12 3 (F12 11 l0 0) 4 l1)), .int (iI (l2 + 1))]) rfl rfl hl.1 rfl (lv_room (Nat.le_of_ble_eq_true rfl)) d_13_8_60 ⟨Nat.le_of_ble_eq_true rfl, Nat.le_of_ble_eq_true rfl⟩) hS12 (fun q _ h => zAin X hS12 q h) (zAin X hS12) (fun u14 t14 H14 locs14 ht14 hv14 hw14 hB14 hz14 hk14 hS14 => ?_)
        have hZ14 := zBack X ht14 hB14
        refine lv_iload_n hx hb d_13_8_63 rfl (lv_at hl 1 rfl) ?_
        refine lv_iconst (v := iI (-1)) hx hb d_13_8_64 rfl ?_
        obtain ⟨g15, hf⟩ := gif hf
        refine zeq (tgt := 121) hx hb g15 (by decide) d_13_8_65 (by decide) (fun h16 => ?_) (fun h16 => ?_)
        · replace hf := gpos hf h16
          exact b_Walker_goRepeat_121 X ho ih hf hZ14 hS14 (lv_sub hl [0, 1, 2, 3, 4] rfl)
        · replace hf := gneg hf h16
          refine lv_aload_n hx hb d_13_8_68 rfl (lv_at hl 2 rfl) ?_
          refine lv_aload_n hx hb d_13_8_69 rfl (lv_at hl 2 rfl) ?_
          refine zget (ci := 11) (C := RX11) (T := TX11) (v := va_rf (zrf ad 3 (F14 11 l0 0))) (k := 0) hx hb hts inW_11 hown hK hZ14 g4.1 g4.2 rfl (by decide) k_1_190 rfl d_13_8_70 ?_
          obtain ⟨g17, hf⟩ := gif hf
          refine zunrf g17.1 ?_
          refine zget (ci := 3) (C := RX3) (T := TX3) (v := .ref (ad 3 (F14 11 l0 0) (1 + 1))) (k := 1) hx hb hts inW_3 hown hK hZ14 g17.1 g17.2 rfl (by decide) k_1_109 rfl d_13_8_73 ?_
          refine lv_iload_n hx hb d_13_8_76 rfl (lv_at hl 3 rfl) ?_
          refine zald (ci := 3) (k := 1) hx hb hK rfl hZ14 g17.1 g17.2 rfl (Nat.le_of_ble_eq_true rfl) g6.1 g6.2 d_13_8_77 ?_
          obtain ⟨r18, F18, B18, hc18, hf⟩ := gbind hf
          refine va_callv (va_runV (As := [.int (iI (B14 3 (F14 11 l0 0) 1 l1))]) (rest := []) ⟨hx, hb, hml, hown, hts⟩ (c_Walker_countItem (l := l) hc18) (cwV 1 hts (gdV k_4_200 k_4_202 ks_35 k_1_6 k_4_203) rfl rfl rfl (by decide +kernel) ⟨by dsimp only; omega, by dsimp only; omega⟩) (zPV X hZ14 hS14 (ci := 11) g4.1 g4.2 (r := (RX11, TX11, 19)) rfl [.int (iI (B14 3 (F14 11 l0 0) 1 l1))]) rfl rfl hl.1 rfl (lv_room (Nat.le_of_ble_eq_true rfl)) d_13_8_78 ⟨Nat.le_of_ble_eq_true rfl, Nat.le_of_ble_eq_true rfl⟩) hS14 (fun q _ h => zAin X hS14 q h) (zAin X hS14) (fun u18 t18 H18 locs18 ht18 hv18 hw18 hB18 hz18 hk18 hS18 => ?_)
          have hZ18 := zBack X ht18 hB18
          refine lv_aload_n hx hb d_13_8_81 rfl (lv_at hl 2 rfl) ?_
          refine lv_aload_n hx hb d_13_8_82 rfl (lv_at hl 2 rfl) ?_
          refine zget (ci := 11) (C := RX11) (T := TX11) (v := va_rf (zrf ad 3 (F18 11 l0 0))) (k := 0) hx hb hts inW_11 hown hK hZ18 g4.1 g4.2 rfl (by decide) k_1_190 rfl d_13_8_83 ?_
          obtain ⟨g19, hf⟩ := gif hf
          refine zunrf g19.1 ?_
          refine zget (ci := 3) (C := RX3) (T := TX3) (v := .ref (ad 3 (F18 11 l0 0) (4 + 1))) (k := 4) hx hb hts inW_3 hown hK hZ18 g19.1 g19.2 rfl (by decide) k_1_115 rfl d_13_8_86 ?_
          refine lv_iload_n hx hb d_13_8_89 rfl (lv_at hl 1 rfl) ?_
          obtain ⟨g20, hf⟩ := gif hf
          refine zald (ci := 3) (k := 4) hx hb hK rfl hZ18 g19.1 g19.2 rfl (Nat.le_of_ble_eq_true rfl) g20.1 g20.2 d_13_8_90 ?_
          refine lv_iload_n hx hb d_13_8_91 rfl (lv_at hl 4 rfl) ?_
          refine lv_iconst (v := iI 1) hx hb d_13_8_92 rfl ?_
          refine zadd hx hb d_13_8_93 ?_
          obtain ⟨r21, F21, B21, hc21, hf⟩ := gbind hf
          refine va_callv (va_runV (As := [.int (iI (B18 3 (F18 11 l0 0) 4 l3)), .int (iI (l2 + 1))]) (rest := []) ⟨hx, hb, hml, hown, hts⟩ (ho.1 hc21) (cwV 2 hts (gdV k_4_196 k_4_198 ks_34 k_1_6 k_4_199) rfl rfl rfl (by decide +kernel) ⟨by dsimp only; omega, by dsimp only; omega⟩) (zPV X hZ18 hS18 (ci := 11) g4.1 g4.2 (r := (RX11, TX11, 19)) rfl [.int (iI (B18 3 (F18 11 l0 0) 4 l3)), .int (iI (l2 + 1))]) rfl rfl hl.1 rfl (lv_room (Nat.le_of_ble_eq_true rfl)) d_13_8_94 ⟨Nat.le_of_ble_eq_true rfl, Nat.le_of_ble_eq_true rfl⟩) hS18 (fun q _ h => zAin X hS18 q h) (zAin X hS18) (fun u21 t21 H21 locs21 ht21 hv21 hw21 hB21 hz21 hk21 hS21 => ?_)
          have hZ21 := zBack X ht21 hB21
          refine lv_aload_n hx hb d_13_8_97 rfl (lv_at hl 2 rfl) ?_
          refine zget (ci := 11) (C := RX11) (T := TX11) (v := va_rf (zrf ad 3 (F21 11 l0 0))) (k := 0) hx hb hts inW_11 hown hK hZ21 g4.1 g4.2 rfl (by decide) k_1_190 rfl d_13_8_98 ?_
          obtain ⟨g22, hf⟩ := gif hf
          refine zunrf g22.1 ?_
          refine zget (ci := 3) (C := RX3) (T := TX3) (v := .ref (ad 3 (F21 11 l0 0) (5 + 1))) (k := 5) hx hb hts inW_3 hown hK hZ21 g22.1 g22.2 rfl (by decide) k_1_117 rfl d_13_8_101 ?_
          refine lv_iload_n hx hb d_13_8_104 rfl (lv_at hl 1 rfl) ?_
          refine zald (ci := 3) (k := 5) hx hb hK rfl hZ21 g22.1 g22.2 rfl (Nat.le_of_ble_eq_true rfl) g20.1 g20.2 d_13_8_105 ?_
          refine lv_istore (lv' := [(5, .int (iI (B21 3 (F21 11 l0 0) 5 l3))), (4, .int (iI l4)), (3, .int (iI l3)), (0, .ref (ad 11 l0 0)), (1, .int (iI l1)), (2, .int (iI l2))]) hx hb d_13_8_106 hl (by decide) rfl (fun ls hl => ?_)
          refine lv_iload hx hb d_13_8_108 (lv_at hl 0 rfl) ?_
          refine lv_iconst (v := iI (-1)) hx hb d_13_8_110 rfl ?_
          obtain ⟨g23, hf⟩ := gif hf
          refine zne (tgt := 118) hx hb g23 (by decide) d_13_8_111 (by decide) (fun h24 => ?_) (fun h24 => ?_)
          · replace hf := gneg hf h24
            refine lv_iload hx hb d_13_8_118 (lv_at hl 0 rfl) ?_
            exact b_Walker_goRepeat_120 X ho ih hf hZ21 hS21 (lv_sub hl [1, 3, 4, 5] rfl)
          · replace hf := gpos hf h24
            refine lv_iload_n hx hb d_13_8_114 rfl (lv_at hl 2 rfl) ?_
            refine lv_goto (tgt := 120) hx hb d_13_8_115 (by decide) ?_
            exact b_Walker_goRepeat_120 X ho ih hf hZ21 hS21 (lv_sub hl [1, 3, 4, 5] rfl)

noncomputable def fb_Walker_goRepeat (o : oT_CW) (K : zK) (l0 : Int) (l1 : Int) (l2 : Int) (F : zF) (B : zB) : zO := if 0 ≤ l0 ∧ l0 < K.2 11 then if 0 ≤ (F 11 l0 0) ∧ (F 11 l0 0) < K.2 3 then if 0 ≤ l1 ∧ l1 < 3000 then f_Walker_goRepeat_13 o K K.1 0 (B 3 (F 11 l0 0) 3 l1) l0 l1 l2 F B else none else none else none
set_option maxHeartbeats 4000000 in
set_option maxRecDepth 100000 in
theorem cb_Walker_goRepeat {l : Launch} {D : va_G} {ca : Nat → ClassId} {ad : Nat → Int → Nat → Nat} {L : List Nat} {aS vS : Nat → Nat} {sz : Nat} {K : zK} {d : Nat} {o : oT_CW} (ho : oH_CW K l D ca ad L aS vS d o)  {l0 : Int} {l1 : Int} {l2 : Int} {F F9 : zF} {B B9 : zB} {r : Int} (hf : fb_Walker_goRepeat o K l0 l1 l2 F B = some (r, F9, B9)) : Met l ({ cls := "StaveHouse$Walker", name := "goRepeat", desc := "(II)V" } : Jvm.MethodName) (Cond.code ({ cls := "StaveHouse$Walker", name := "goRepeat", desc := "(II)V" } : Jvm.MethodName) prog_13_method_8_code 6 (Option.none : Option Jvm.ClassFile.FieldType) :: wAll) ({ frames := d + 1 + 5, cells := 0, slots := 0, locals := 25 * (d + 1) + 95 } : Room) (va_Pc [.ref (ad 11 l0 0), .int (iI l1), .int (iI l2)] (zPre D ca ad lnC K.2 L aS vS F B sz)) (Q_Walker_goRepeat K D ca ad L r F9 B9 (zA L sz)) 0 0 (zA L sz) := by
  refine zMet (Qc := Q_Walker_goRepeat K D ca ad L r F9 B9) (lv := [(0, .ref (ad 11 l0 0)), (1, .int (iI l1)), (2, .int (iI l2))]) (by decide) (Nat.le_of_ble_eq_true rfl) rfl (fun A p e s m below meth c ls X hZ hS hl => ?_)
  obtain ⟨hx, hb, hr, hml, hown, hts, hlk, hK, hA, hL, hX⟩ := id X
  replace hf : (if 0 ≤ l0 ∧ l0 < K.2 11 then if 0 ≤ (F 11 l0 0) ∧ (F 11 l0 0) < K.2 3 then if 0 ≤ l1 ∧ l1 < 3000 then f_Walker_goRepeat_13 o K K.1 0 (B 3 (F 11 l0 0) 3 l1) l0 l1 l2 F B else none else none else none) = some (r, F9, B9) := hf
  refine lv_aload_n hx hb d_13_8_0 rfl (lv_at hl 0 rfl) ?_
  obtain ⟨g1, hf⟩ := gif hf
  refine zget (ci := 11) (C := RX11) (T := TX11) (v := va_rf (zrf ad 3 (F 11 l0 0))) (k := 0) hx hb hts inW_11 hown hK hZ g1.1 g1.2 rfl (by decide) k_1_190 rfl d_13_8_1 ?_
  obtain ⟨g2, hf⟩ := gif hf
  refine zunrf g2.1 ?_
  refine zget (ci := 3) (C := RX3) (T := TX3) (v := .ref (ad 3 (F 11 l0 0) (3 + 1))) (k := 3) hx hb hts inW_3 hown hK hZ g2.1 g2.2 rfl (by decide) k_1_113 rfl d_13_8_4 ?_
  refine lv_iload_n hx hb d_13_8_7 rfl (lv_at hl 1 rfl) ?_
  obtain ⟨g3, hf⟩ := gif hf
  refine zald (ci := 3) (k := 3) hx hb hK rfl hZ g2.1 g2.2 rfl (Nat.le_of_ble_eq_true rfl) g3.1 g3.2 d_13_8_8 ?_
  refine lv_istore_n (lv' := [(3, .int (iI (B 3 (F 11 l0 0) 3 l1))), (0, .ref (ad 11 l0 0)), (1, .int (iI l1)), (2, .int (iI l2))]) hx hb d_13_8_9 rfl hl (by decide) rfl (fun ls hl => ?_)
  refine lv_iconst (v := iI 0) hx hb d_13_8_10 rfl ?_
  refine lv_istore (lv' := [(4, .int (iI 0)), (3, .int (iI (B 3 (F 11 l0 0) 3 l1))), (0, .ref (ad 11 l0 0)), (1, .int (iI l1)), (2, .int (iI l2))]) hx hb d_13_8_11 hl (by decide) rfl (fun ls hl => ?_)
  exact b_Walker_goRepeat_13 X ho hf hZ hS (lv_sub hl [0, 1, 2, 3, 4] rfl)

noncomputable def fb_Walker_goCarried (o : oT_CW) (K : zK) (l0 : Int) (l1 : Int) (l2 : Int) (l3 : Int) (F : zF) (B : zB) : zO := if 0 ≤ l0 ∧ l0 < K.2 11 then if r32 (F 11 l0 18) then (if (F 11 l0 18) < 64 then if 0 ≤ (F 11 l0 18) ∧ (F 11 l0 18) < 64 then if 0 ≤ (F 11 l0 0) ∧ (F 11 l0 0) < K.2 3 then if 0 ≤ l2 ∧ l2 < 3000 then zbind (o.1 l0 ((zup4 (zup4 (zup4 B 11 l0 15 (F 11 l0 18) l1) 11 l0 16 (F 11 l0 18) ((zup4 B 11 l0 15 (F 11 l0 18) l1) 3 (F 11 l0 0) 2 l2)) 11 l0 17 (F 11 l0 18) ((zup4 (zup4 B 11 l0 15 (F 11 l0 18) l1) 11 l0 16 (F 11 l0 18) ((zup4 B 11 l0 15 (F 11 l0 18) l1) 3 (F 11 l0 0) 2 l2)) 3 (F 11 l0 0) 3 l2)) 3 (F 11 l0 0) 4 l2) (l3 + 1) (zup3 F 11 l0 18 ((F 11 l0 18) + 1)) (zup4 (zup4 (zup4 B 11 l0 15 (F 11 l0 18) l1) 11 l0 16 (F 11 l0 18) ((zup4 B 11 l0 15 (F 11 l0 18) l1) 3 (F 11 l0 0) 2 l2)) 11 l0 17 (F 11 l0 18) ((zup4 (zup4 B 11 l0 15 (F 11 l0 18) l1) 11 l0 16 (F 11 l0 18) ((zup4 B 11 l0 15 (F 11 l0 18) l1) 3 (F 11 l0 0) 2 l2)) 3 (F 11 l0 0) 3 l2))) (fun r11 F11 B11 => some (0, (zup3 F11 11 l0 18 ((F11 11 l0 18) - 1)), B11)) else none else none else none else some (0, F, B)) else none else none
set_option maxHeartbeats 4000000 in
set_option maxRecDepth 100000 in
theorem cb_Walker_goCarried {l : Launch} {D : va_G} {ca : Nat → ClassId} {ad : Nat → Int → Nat → Nat} {L : List Nat} {aS vS : Nat → Nat} {sz : Nat} {K : zK} {d : Nat} {o : oT_CW} (ho : oH_CW K l D ca ad L aS vS d o)  {l0 : Int} {l1 : Int} {l2 : Int} {l3 : Int} {F F9 : zF} {B B9 : zB} {r : Int} (hf : fb_Walker_goCarried o K l0 l1 l2 l3 F B = some (r, F9, B9)) : Met l ({ cls := "StaveHouse$Walker", name := "goCarried", desc := "(III)V" } : Jvm.MethodName) (Cond.code ({ cls := "StaveHouse$Walker", name := "goCarried", desc := "(III)V" } : Jvm.MethodName) prog_13_method_9_code 4 (Option.none : Option Jvm.ClassFile.FieldType) :: wAll) ({ frames := d + 1 + 5, cells := 0, slots := 0, locals := 25 * (d + 1) + 95 } : Room) (va_Pc [.ref (ad 11 l0 0), .int (iI l1), .int (iI l2), .int (iI l3)] (zPre D ca ad lnC K.2 L aS vS F B sz)) (Q_Walker_goCarried K D ca ad L r F9 B9 (zA L sz)) 0 0 (zA L sz) := by
  refine zMet (Qc := Q_Walker_goCarried K D ca ad L r F9 B9) (lv := [(0, .ref (ad 11 l0 0)), (1, .int (iI l1)), (2, .int (iI l2)), (3, .int (iI l3))]) (by decide) (Nat.le_of_ble_eq_true rfl) rfl (fun A p e s m below meth c ls X hZ hS hl => ?_)
  obtain ⟨hx, hb, hr, hml, hown, hts, hlk, hK, hA, hL, hX⟩ := id X
  replace hf : (if 0 ≤ l0 ∧ l0 < K.2 11 then if r32 (F 11 l0 18) then (if (F 11 l0 18) < 64 then if 0 ≤ (F 11 l0 18) ∧ (F 11 l0 18) < 64 then if 0 ≤ (F 11 l0 0) ∧ (F 11 l0 0) < K.2 3 then if 0 ≤ l2 ∧ l2 < 3000 then zbind (o.1 l0 ((zup4 (zup4 (zup4 B 11 l0 15 (F 11 l0 18) l1) 11 l0 16 (F 11 l0 18) ((zup4 B 11 l0 15 (F 11 l0 18) l1) 3 (F 11 l0 0) 2 l2)) 11 l0 17 (F 11 l0 18) ((zup4 (zup4 B 11 l0 15 (F 11 l0 18) l1) 11 l0 16 (F 11 l0 18) ((zup4 B 11 l0 15 (F 11 l0 18) l1) 3 (F 11 l0 0) 2 l2)) 3 (F 11 l0 0) 3 l2)) 3 (F 11 l0 0) 4 l2) (l3 + 1) (zup3 F 11 l0 18 ((F 11 l0 18) + 1)) (zup4 (zup4 (zup4 B 11 l0 15 (F 11 l0 18) l1) 11 l0 16 (F 11 l0 18) ((zup4 B 11 l0 15 (F 11 l0 18) l1) 3 (F 11 l0 0) 2 l2)) 11 l0 17 (F 11 l0 18) ((zup4 (zup4 B 11 l0 15 (F 11 l0 18) l1) 11 l0 16 (F 11 l0 18) ((zup4 B 11 l0 15 (F 11 l0 18) l1) 3 (F 11 l0 0) 2 l2)) 3 (F 11 l0 0) 3 l2))) (fun r11 F11 B11 => some (0, (zup3 F11 11 l0 18 ((F11 11 l0 18) - 1)), B11)) else none else none else none else some (0, F, B)) else none else none) = some (r, F9, B9) := hf
  refine lv_aload_n hx hb d_13_9_0 rfl (lv_at hl 0 rfl) ?_
  obtain ⟨g1, hf⟩ := gif hf
  refine zget (ci := 11) (C := RX11) (T := TX11) (v := .int (iI (F 11 l0 18))) (k := 18) hx hb hts inW_11 hown hK hZ g1.1 g1.2 rfl (by decide) k_1_208 rfl d_13_9_1 ?_
  refine lv_bipush (v := iI 64) hx hb d_13_9_4 (by decide) ?_
  obtain ⟨g2, hf⟩ := gif hf
  refine zlt (tgt := 10) hx hb g2 (by decide) d_13_9_6 (by decide) (fun h3 => ?_) (fun h3 => ?_)
  · replace hf := gpos hf h3
    refine lv_aload_n hx hb d_13_9_10 rfl (lv_at hl 0 rfl) ?_
    refine zget (ci := 11) (C := RX11) (T := TX11) (v := .ref (ad 11 l0 (15 + 1))) (k := 15) hx hb hts inW_11 hown hK hZ g1.1 g1.2 rfl (by decide) k_1_205 rfl d_13_9_11 ?_
    refine lv_aload_n hx hb d_13_9_14 rfl (lv_at hl 0 rfl) ?_
    refine zget (ci := 11) (C := RX11) (T := TX11) (v := .int (iI (F 11 l0 18))) (k := 18) hx hb hts inW_11 hown hK hZ g1.1 g1.2 rfl (by decide) k_1_208 rfl d_13_9_15 ?_
    refine lv_iload_n hx hb d_13_9_18 rfl (lv_at hl 1 rfl) ?_
    obtain ⟨g4, hf⟩ := gif hf
    refine zast (ci := 11) (k := 15) hx hb hK rfl hZ hS g1.1 g1.2 rfl (Nat.le_of_ble_eq_true rfl) g4.1 g4.2 d_13_9_19 (fun H5 locs5 hZ5 hS5 => ?_)
    refine lv_aload_n hx hb d_13_9_20 rfl (lv_at hl 0 rfl) ?_
    refine zget (ci := 11) (C := RX11) (T := TX11) (v := .ref (ad 11 l0 (16 + 1))) (k := 16) hx hb hts inW_11 hown hK hZ5 g1.1 g1.2 rfl (by decide) k_1_206 rfl d_13_9_21 ?_
    refine lv_aload_n hx hb d_13_9_24 rfl (lv_at hl 0 rfl) ?_
    refine zget (ci := 11) (C := RX11) (T := TX11) (v := .int (iI (F 11 l0 18))) (k := 18) hx hb hts inW_11 hown hK hZ5 g1.1 g1.2 rfl (by decide) k_1_208 rfl d_13_9_25 ?_
    refine lv_aload_n hx hb d_13_9_28 rfl (lv_at hl 0 rfl) ?_
    refine zget (ci := 11) (C := RX11) (T := TX11) (v := va_rf (zrf ad 3 (F 11 l0 0))) (k := 0) hx hb hts inW_11 hown hK hZ5 g1.1 g1.2 rfl (by decide) k_1_190 rfl d_13_9_29 ?_
    obtain ⟨g6, hf⟩ := gif hf
    refine zunrf g6.1 ?_
    refine zget (ci := 3) (C := RX3) (T := TX3) (v := .ref (ad 3 (F 11 l0 0) (2 + 1))) (k := 2) hx hb hts inW_3 hown hK hZ5 g6.1 g6.2 rfl (by decide) k_1_111 rfl d_13_9_32 ?_
    refine lv_iload_n hx hb d_13_9_35 rfl (lv_at hl 2 rfl) ?_
    obtain ⟨g7, hf⟩ := gif hf
    refine zald (ci := 3) (k := 2) hx hb hK rfl hZ5 g6.1 g6.2 rfl (Nat.le_of_ble_eq_true rfl) g7.1 g7.2 d_13_9_36 ?_
    refine zast (ci := 11) (k := 16) hx hb hK rfl hZ5 hS5 g1.1 g1.2 rfl (Nat.le_of_ble_eq_true rfl) g4.1 g4.2 d_13_9_37 (fun H8 locs8 hZ8 hS8 => ?_)
    refine lv_aload_n hx hb d_13_9_38 rfl (lv_at hl 0 rfl) ?_
    refine zget (ci := 11) (C := RX11) (T := TX11) (v := .ref (ad 11 l0 (17 + 1))) (k := 17) hx hb hts inW_11 hown hK hZ8 g1.1 g1.2 rfl (by decide) k_1_207 rfl d_13_9_39 ?_
    refine lv_aload_n hx hb d_13_9_42 rfl (lv_at hl 0 rfl) ?_
    refine zget (ci := 11) (C := RX11) (T := TX11) (v := .int (iI (F 11 l0 18))) (k := 18) hx hb hts inW_11 hown hK hZ8 g1.1 g1.2 rfl (by decide) k_1_208 rfl d_13_9_43 ?_
    refine lv_aload_n hx hb d_13_9_46 rfl (lv_at hl 0 rfl) ?_
    refine zget (ci := 11) (C := RX11) (T := TX11) (v := va_rf (zrf ad 3 (F 11 l0 0))) (k := 0) hx hb hts inW_11 hown hK hZ8 g1.1 g1.2 rfl (by decide) k_1_190 rfl d_13_9_47 ?_
    refine zunrf g6.1 ?_
    refine zget (ci := 3) (C := RX3) (T := TX3) (v := .ref (ad 3 (F 11 l0 0) (3 + 1))) (k := 3) hx hb hts inW_3 hown hK hZ8 g6.1 g6.2 rfl (by decide) k_1_113 rfl d_13_9_50 ?_
    refine lv_iload_n hx hb d_13_9_53 rfl (lv_at hl 2 rfl) ?_
    refine zald (ci := 3) (k := 3) hx hb hK rfl hZ8 g6.1 g6.2 rfl (Nat.le_of_ble_eq_true rfl) g7.1 g7.2 d_13_9_54 ?_
    refine zast (ci := 11) (k := 17) hx hb hK rfl hZ8 hS8 g1.1 g1.2 rfl (Nat.le_of_ble_eq_true rfl) g4.1 g4.2 d_13_9_55 (fun H9 locs9 hZ9 hS9 => ?_)
    refine lv_aload_n hx hb d_13_9_56 rfl (lv_at hl 0 rfl) ?_
    refine lv_dup hx hb d_13_9_57 rfl ?_
    refine zget (ci := 11) (C := RX11) (T := TX11) (v := .int (iI (F 11 l0 18))) (k := 18) hx hb hts inW_11 hown hK hZ9 g1.1 g1.2 rfl (by decide) k_1_208 rfl d_13_9_58 ?_
    refine lv_iconst (v := iI 1) hx hb d_13_9_61 rfl ?_
    refine zadd hx hb d_13_9_62 ?_
    refine zput (ci := 11) (C := RX11) (T := TX11) (k := 18) (v := ((F 11 l0 18) + 1)) (w := .int (iI ((F 11 l0 18) + 1))) hx hb hts inW_11 tyX11 tyX11_ok nmX11 hown hK hZ9 hS9 g1.1 g1.2 rfl (by decide) k_1_208 rfl (fun G h => congrArg (fun q => Value.int (iI q)) h) rfl rfl (zno (by decide)) d_13_9_63 (fun H10 locs10 hZ10 hS10 => ?_)
    refine lv_aload_n hx hb d_13_9_66 rfl (lv_at hl 0 rfl) ?_
    refine lv_aload_n hx hb d_13_9_67 rfl (lv_at hl 0 rfl) ?_
    refine zget (ci := 11) (C := RX11) (T := TX11) (v := va_rf (zrf ad 3 (F 11 l0 0))) (k := 0) hx hb hts inW_11 hown hK hZ10 g1.1 g1.2 rfl (by decide) k_1_190 (congrArg (fun q : Int => va_rf (zrf ad 3 q)) (show (zup3 F 11 l0 18 ((F 11 l0 18) + 1)) 11 l0 0 = F 11 l0 0 by simp [zup3])) d_13_9_68 ?_
    refine zunrf g6.1 ?_
    refine zget (ci := 3) (C := RX3) (T := TX3) (v := .ref (ad 3 (F 11 l0 0) (4 + 1))) (k := 4) hx hb hts inW_3 hown hK hZ10 g6.1 g6.2 rfl (by decide) k_1_115 rfl d_13_9_71 ?_
    refine lv_iload_n hx hb d_13_9_74 rfl (lv_at hl 2 rfl) ?_
    refine zald (ci := 3) (k := 4) hx hb hK rfl hZ10 g6.1 g6.2 rfl (Nat.le_of_ble_eq_true rfl) g7.1 g7.2 d_13_9_75 ?_
    refine lv_iload_n hx hb d_13_9_76 rfl (lv_at hl 3 rfl) ?_
    refine lv_iconst (v := iI 1) hx hb d_13_9_77 rfl ?_
    refine zadd hx hb d_13_9_78 ?_
    obtain ⟨r11, F11, B11, hc11, hf⟩ := gbind hf
    refine va_callv (va_runV (As := [.int (iI ((zup4 (zup4 (zup4 B 11 l0 15 (F 11 l0 18) l1) 11 l0 16 (F 11 l0 18) ((zup4 B 11 l0 15 (F 11 l0 18) l1) 3 (F 11 l0 0) 2 l2)) 11 l0 17 (F 11 l0 18) ((zup4 (zup4 B 11 l0 15 (F 11 l0 18) l1) 11 l0 16 (F 11 l0 18) ((zup4 B 11 l0 15 (F 11 l0 18) l1) 3 (F 11 l0 0) 2 l2)) 3 (F 11 l0 0) 3 l2)) 3 (F 11 l0 0) 4 l2)), .int (iI (l3 + 1))]) (rest := []) ⟨hx, hb, hml, hown, hts⟩ (ho.1 hc11) (cwV 2 hts (gdV k_4_196 k_4_198 ks_34 k_1_6 k_4_199) rfl rfl rfl (by decide +kernel) ⟨by dsimp only; omega, by dsimp only; omega⟩) (zPV X hZ10 hS10 (ci := 11) g1.1 g1.2 (r := (RX11, TX11, 19)) rfl [.int (iI ((zup4 (zup4 (zup4 B 11 l0 15 (F 11 l0 18) l1) 11 l0 16 (F 11 l0 18) ((zup4 B 11 l0 15 (F 11 l0 18) l1) 3 (F 11 l0 0) 2 l2)) 11 l0 17 (F 11 l0 18) ((zup4 (zup4 B 11 l0 15 (F 11 l0 18) l1) 11 l0 16 (F 11 l0 18) ((zup4 B 11 l0 15 (F 11 l0 18) l1) 3 (F 11 l0 0) 2 l2)) 3 (F 11 l0 0) 3 l2)) 3 (F 11 l0 0) 4 l2)), .int (iI (l3 + 1))]) rfl rfl hl.1 rfl (lv_room (Nat.le_of_ble_eq_true rfl)) d_13_9_79 ⟨Nat.le_of_ble_eq_true rfl, Nat.le_of_ble_eq_true rfl⟩) hS10 (fun q _ h => zAin X hS10 q h) (zAin X hS10) (fun u11 t11 H11 locs11 ht11 hv11 hw11 hB11 hz11 hk11 hS11 => ?_)
    have hZ11 := zBack X ht11 hB11
    refine lv_aload_n hx hb d_13_9_82 rfl (lv_at hl 0 rfl) ?_
    refine lv_dup hx hb d_13_9_83 rfl ?_
    refine zget (ci := 11) (C := RX11) (T := TX11) (v := .int (iI (F11 11 l0 18))) (k := 18) hx hb hts inW_11 hown hK hZ11 g1.1 g1.2 rfl (by decide) k_1_208 rfl d_13_9_84 ?_
    refine lv_iconst (v := iI 1) hx hb d_13_9_87 rfl ?_
    refine zsub hx hb d_13_9_88 ?_
    refine zput (ci := 11) (C := RX11) (T := TX11) (k := 18) (v := ((F11 11 l0 18) - 1)) (w := .int (iI ((F11 11 l0 18) - 1))) hx hb hts inW_11 tyX11 tyX11_ok nmX11 hown hK hZ11 hS11 g1.1 g1.2 rfl (by decide) k_1_208 rfl (fun G h => congrArg (fun q => Value.int (iI q)) h) rfl rfl (zno (by decide)) d_13_9_89 (fun H12 locs12 hZ12 hS12 => ?_)
    cases hf
    exact W.vret hx hb hr (fun t ht hW => ⟨⟨(), rfl, trivial, by rw [ht]; exact hZ12, va_K.moved hW.alike hK⟩, hS12.F ht⟩) hS12.2.2 d_13_9_92 hlk
  · replace hf := gneg hf h3
    cases hf
    exact W.vret hx hb hr (fun t ht hW => ⟨⟨(), rfl, trivial, by rw [ht]; exact hZ, va_K.moved hW.alike hK⟩, hS.F ht⟩) hS.2.2 d_13_9_9 hlk

noncomputable def fb_Walker_goBack (o : oT_CW) (K : zK) (l0 : Int) (l1 : Int) (l2 : Int) (F : zF) (B : zB) : zO := if 0 ≤ l0 ∧ l0 < K.2 11 then if 0 ≤ (F 11 l0 1) ∧ (F 11 l0 1) < K.2 4 then zbind (o.1 l0 l1 (l2 + 1) (zup3 F 11 l0 5 ((F 11 l0 5) + 1)) B) (fun r4 F4 B4 => if 0 ≤ (F4 11 l0 1) ∧ (F4 11 l0 1) < K.2 4 then zbind (f_Part_turn K (F4 11 l0 1) (F 4 (F 11 l0 1) 6) (zup3 F4 11 l0 5 ((F4 11 l0 5) - 1)) B4) (fun r7 F7 B7 => some (0, F7, B7)) else none) else none else none
set_option maxHeartbeats 4000000 in
set_option maxRecDepth 100000 in
theorem cb_Walker_goBack {l : Launch} {D : va_G} {ca : Nat → ClassId} {ad : Nat → Int → Nat → Nat} {L : List Nat} {aS vS : Nat → Nat} {sz : Nat} {K : zK} {d : Nat} {o : oT_CW} (ho : oH_CW K l D ca ad L aS vS d o)  {l0 : Int} {l1 : Int} {l2 : Int} {F F9 : zF} {B B9 : zB} {r : Int} (hf : fb_Walker_goBack o K l0 l1 l2 F B = some (r, F9, B9)) : Met l ({ cls := "StaveHouse$Walker", name := "goBack", desc := "(II)V" } : Jvm.MethodName) (Cond.code ({ cls := "StaveHouse$Walker", name := "goBack", desc := "(II)V" } : Jvm.MethodName) prog_13_method_10_code 4 (Option.none : Option Jvm.ClassFile.FieldType) :: wAll) ({ frames := d + 1 + 5, cells := 0, slots := 0, locals := 25 * (d + 1) + 95 } : Room) (va_Pc [.ref (ad 11 l0 0), .int (iI l1), .int (iI l2)] (zPre D ca ad lnC K.2 L aS vS F B sz)) (Q_Walker_goBack K D ca ad L r F9 B9 (zA L sz)) 0 0 (zA L sz) := by
  refine zMet (Qc := Q_Walker_goBack K D ca ad L r F9 B9) (lv := [(0, .ref (ad 11 l0 0)), (1, .int (iI l1)), (2, .int (iI l2))]) (by decide) (Nat.le_of_ble_eq_true rfl) rfl (fun A p e s m below meth c ls X hZ hS hl => ?_)
  obtain ⟨hx, hb, hr, hml, hown, hts, hlk, hK, hA, hL, hX⟩ := id X
  replace hf : (if 0 ≤ l0 ∧ l0 < K.2 11 then if 0 ≤ (F 11 l0 1) ∧ (F 11 l0 1) < K.2 4 then zbind (o.1 l0 l1 (l2 + 1) (zup3 F 11 l0 5 ((F 11 l0 5) + 1)) B) (fun r4 F4 B4 => if 0 ≤ (F4 11 l0 1) ∧ (F4 11 l0 1) < K.2 4 then zbind (f_Part_turn K (F4 11 l0 1) (F 4 (F 11 l0 1) 6) (zup3 F4 11 l0 5 ((F4 11 l0 5) - 1)) B4) (fun r7 F7 B7 => some (0, F7, B7)) else none) else none else none) = some (r, F9, B9) := hf
  refine lv_aload_n hx hb d_13_10_0 rfl (lv_at hl 0 rfl) ?_
  obtain ⟨g1, hf⟩ := gif hf
  refine zget (ci := 11) (C := RX11) (T := TX11) (v := va_rf (zrf ad 4 (F 11 l0 1))) (k := 1) hx hb hts inW_11 hown hK hZ g1.1 g1.2 rfl (by decide) k_1_191 rfl d_13_10_1 ?_
  obtain ⟨g2, hf⟩ := gif hf
  refine zunrf g2.1 ?_
  refine zget (ci := 4) (C := RX4) (T := TX4) (v := .int (iI (F 4 (F 11 l0 1) 6))) (k := 6) hx hb hts inW_4 hown hK hZ g2.1 g2.2 rfl (by decide) k_4_139 rfl d_13_10_4 ?_
  refine lv_istore_n (lv' := [(3, .int (iI (F 4 (F 11 l0 1) 6))), (0, .ref (ad 11 l0 0)), (1, .int (iI l1)), (2, .int (iI l2))]) hx hb d_13_10_7 rfl hl (by decide) rfl (fun ls hl => ?_)
  refine lv_aload_n hx hb d_13_10_8 rfl (lv_at hl 1 rfl) ?_
  refine lv_dup hx hb d_13_10_9 rfl ?_
  refine zget (ci := 11) (C := RX11) (T := TX11) (v := .int (iI (F 11 l0 5))) (k := 5) hx hb hts inW_11 hown hK hZ g1.1 g1.2 rfl (by decide) k_1_195 rfl d_13_10_10 ?_
  refine lv_iconst (v := iI 1) hx hb d_13_10_13 rfl ?_
  refine zadd hx hb d_13_10_14 ?_
  refine zput (ci := 11) (C := RX11) (T := TX11) (k := 5) (v := ((F 11 l0 5) + 1)) (w := .int (iI ((F 11 l0 5) + 1))) hx hb hts inW_11 tyX11 tyX11_ok nmX11 hown hK hZ hS g1.1 g1.2 rfl (by decide) k_1_195 rfl (fun G h => congrArg (fun q => Value.int (iI q)) h) rfl rfl (zno (by decide)) d_13_10_15 (fun H3 locs3 hZ3 hS3 => ?_)
  refine lv_aload_n hx hb d_13_10_18 rfl (lv_at hl 1 rfl) ?_
  refine lv_iload_n hx hb d_13_10_19 rfl (lv_at hl 2 rfl) ?_
  refine lv_iload_n hx hb d_13_10_20 rfl (lv_at hl 3 rfl) ?_
  refine lv_iconst (v := iI 1) hx hb d_13_10_21 rfl ?_
  refine zadd hx hb d_13_10_22 ?_
  obtain ⟨r4, F4, B4, hc4, hf⟩ := gbind hf
  refine va_callv (va_runV (As := [.int (iI l1), .int (iI (l2 + 1))]) (rest := []) ⟨hx, hb, hml, hown, hts⟩ (ho.1 hc4) (cwV 2 hts (gdV k_4_196 k_4_198 ks_34 k_1_6 k_4_199) rfl rfl rfl (by decide +kernel) ⟨by dsimp only; omega, by dsimp only; omega⟩) (zPV X hZ3 hS3 (ci := 11) g1.1 g1.2 (r := (RX11, TX11, 19)) rfl [.int (iI l1), .int (iI (l2 + 1))]) rfl rfl hl.1 rfl (lv_room (Nat.le_of_ble_eq_true rfl)) d_13_10_23 ⟨Nat.le_of_ble_eq_true rfl, Nat.le_of_ble_eq_true rfl⟩) hS3 (fun q _ h => zAin X hS3 q h) (zAin X hS3) (fun u4 t4 H4 locs4 ht4 hv4 hw4 hB4 hz4 hk4 hS4 => ?_)
  have hZ4 := zBack X ht4 hB4
  refine lv_aload_n hx hb d_13_10_26 rfl (lv_at hl 1 rfl) ?_
  refine lv_dup hx hb d_13_10_27 rfl ?_
  refine zget (ci := 11) (C := RX11) (T := TX11) (v := .int (iI (F4 11 l0 5))) (k := 5) hx hb hts inW_11 hown hK hZ4 g1.1 g1.2 rfl (by decide) k_1_195 rfl d_13_10_28 ?_
  refine lv_iconst (v := iI 1) hx hb d_13_10_31 rfl ?_
  refine zsub hx hb d_13_10_32 ?_
  refine zput (ci := 11) (C := RX11) (T := TX11) (k := 5) (v := ((F4 11 l0 5) - 1)) (w := .int (iI ((F4 11 l0 5) - 1))) hx hb hts inW_11 tyX11 tyX11_ok nmX11 hown hK hZ4 hS4 g1.1 g1.2 rfl (by decide) k_1_195 rfl (fun G h => congrArg (fun q => Value.int (iI q)) h) rfl rfl (zno (by decide)) d_13_10_33 (fun H5 locs5 hZ5 hS5 => ?_)
  refine lv_aload_n hx hb d_13_10_36 rfl (lv_at hl 1 rfl) ?_
  refine zget (ci := 11) (C := RX11) (T := TX11) (v := va_rf (zrf ad 4 (F4 11 l0 1))) (k := 1) hx hb hts inW_11 hown hK hZ5 g1.1 g1.2 rfl (by decide) k_1_191 (congrArg (fun q : Int => va_rf (zrf ad 4 q)) (show (zup3 F4 11 l0 5 ((F4 11 l0 5) - 1)) 11 l0 1 = F4 11 l0 1 by simp [zup3])) d_13_10_37 ?_
  refine lv_iload_n hx hb d_13_10_40 rfl (lv_at hl 0 rfl) ?_
  obtain ⟨g6, hf⟩ := gif hf
  refine W.eq (g2 := F0 m 41 ls [.int (iI (F 4 (F 11 l0 1) 6)), .ref (ad 4 (F4 11 l0 1) 0)]) (by rw [zrf_pos (ad := ad) (t := 4) g6.1]; try rfl) ?_
  obtain ⟨r7, F7, B7, hc7, hf⟩ := gbind hf
  refine va_callv (va_runV (As := [.int (iI (F 4 (F 11 l0 1) 6))]) (rest := []) ⟨hx, hb, hml, hown, hts⟩ (c_Part_turn (l := l) hc7) (cwV 1 hts (gdV k_5_11 k_5_12 k_5_13 k_1_18 k_5_14) rfl rfl rfl (by decide +kernel) ⟨by dsimp only; omega, by dsimp only; omega⟩) (zPV X hZ5 hS5 (ci := 4) g6.1 g6.2 (r := (RX4, TX4, 13)) rfl [.int (iI (F 4 (F 11 l0 1) 6))]) rfl rfl hl.1 rfl (lv_room (Nat.le_of_ble_eq_true rfl)) d_13_10_41 ⟨Nat.le_of_ble_eq_true rfl, Nat.le_of_ble_eq_true rfl⟩) hS5 (fun q _ h => zAin X hS5 q h) (zAin X hS5) (fun u7 t7 H7 locs7 ht7 hv7 hw7 hB7 hz7 hk7 hS7 => ?_)
  have hZ7 := zBack X ht7 hB7
  cases hf
  exact W.vret hx hb hr (fun t ht hW => ⟨⟨(), rfl, trivial, by rw [ht]; exact hZ7, va_K.moved hW.alike hK⟩, hS7.F ht⟩) hS7.2.2 d_13_10_44 hlk

noncomputable def gr_CW (K : zK) : Nat → oT_CW
  | 0 => (fun _ _ _ _ _ => none, fun _ _ _ _ _ => none, fun _ _ _ _ _ => none, fun _ _ _ _ _ => none, fun _ _ _ _ _ _ => none, fun _ _ _ _ _ => none)
  | d + 1 => (fun l0 l1 l2 F B => fb_Walker_goThrough (gr_CW K d) K l0 l1 l2 F B, fun l0 l1 l2 F B => fb_Walker_goItem (gr_CW K d) K l0 l1 l2 F B, fun l0 l1 l2 F B => fb_Walker_goBracket (gr_CW K d) K l0 l1 l2 F B, fun l0 l1 l2 F B => fb_Walker_goRepeat (gr_CW K d) K l0 l1 l2 F B, fun l0 l1 l2 l3 F B => fb_Walker_goCarried (gr_CW K d) K l0 l1 l2 l3 F B, fun l0 l1 l2 F B => fb_Walker_goBack (gr_CW K d) K l0 l1 l2 F B)
theorem gh_CW {l : Launch} {D : va_G} {ca : Nat → ClassId} {ad : Nat → Int → Nat → Nat} {L : List Nat} {aS vS : Nat → Nat} {K : zK} : ∀ d, oH_CW K l D ca ad L aS vS d (gr_CW K d) := by
  intro d
  induction d with
  | zero => exact ⟨(fun hf => by cases hf), (fun hf => by cases hf), (fun hf => by cases hf), (fun hf => by cases hf), (fun hf => by cases hf), (fun hf => by cases hf)⟩
  | succ d ih => exact ⟨(fun hf => cb_Walker_goThrough ih hf), (fun hf => cb_Walker_goItem ih hf), (fun hf => cb_Walker_goBracket ih hf), (fun hf => cb_Walker_goRepeat ih hf), (fun hf => cb_Walker_goCarried ih hf), (fun hf => cb_Walker_goBack ih hf)⟩
noncomputable def f_Walker_goThrough (K : zK) (l0 : Int) (l1 : Int) (l2 : Int) (F : zF) (B : zB) : zO := (gr_CW K 200).1 l0 l1 l2 F B
theorem c_Walker_goThrough {l : Launch} {D : va_G} {ca : Nat → ClassId} {ad : Nat → Int → Nat → Nat} {L : List Nat} {aS vS : Nat → Nat} {sz : Nat} {K : zK} {l0 : Int} {l1 : Int} {l2 : Int} {F F9 : zF} {B B9 : zB} {r : Int} (hf : f_Walker_goThrough K l0 l1 l2 F B = some (r, F9, B9)) : Met l ({ cls := "StaveHouse$Walker", name := "goThrough", desc := "(II)V" } : Jvm.MethodName) (Cond.code ({ cls := "StaveHouse$Walker", name := "goThrough", desc := "(II)V" } : Jvm.MethodName) prog_13_method_4_code 5 (Option.none : Option Jvm.ClassFile.FieldType) :: wAll) ({ frames := 205, cells := 0, slots := 0, locals := 5095 } : Room) (va_Pc [.ref (ad 11 l0 0), .int (iI l1), .int (iI l2)] (zPre D ca ad lnC K.2 L aS vS F B sz)) (Q_Walker_goThrough K D ca ad L r F9 B9 (zA L sz)) 0 0 (zA L sz) := (gh_CW 200).1 hf
noncomputable def f_Walker_goItem (K : zK) (l0 : Int) (l1 : Int) (l2 : Int) (F : zF) (B : zB) : zO := (gr_CW K 200).2.1 l0 l1 l2 F B
theorem c_Walker_goItem {l : Launch} {D : va_G} {ca : Nat → ClassId} {ad : Nat → Int → Nat → Nat} {L : List Nat} {aS vS : Nat → Nat} {sz : Nat} {K : zK} {l0 : Int} {l1 : Int} {l2 : Int} {F F9 : zF} {B B9 : zB} {r : Int} (hf : f_Walker_goItem K l0 l1 l2 F B = some (r, F9, B9)) : Met l ({ cls := "StaveHouse$Walker", name := "goItem", desc := "(II)V" } : Jvm.MethodName) (Cond.code ({ cls := "StaveHouse$Walker", name := "goItem", desc := "(II)V" } : Jvm.MethodName) prog_13_method_6_code 4 (Option.none : Option Jvm.ClassFile.FieldType) :: wAll) ({ frames := 205, cells := 0, slots := 0, locals := 5095 } : Room) (va_Pc [.ref (ad 11 l0 0), .int (iI l1), .int (iI l2)] (zPre D ca ad lnC K.2 L aS vS F B sz)) (Q_Walker_goItem K D ca ad L r F9 B9 (zA L sz)) 0 0 (zA L sz) := (gh_CW 200).2.1 hf
noncomputable def f_Walker_goBracket (K : zK) (l0 : Int) (l1 : Int) (l2 : Int) (F : zF) (B : zB) : zO := (gr_CW K 200).2.2.1 l0 l1 l2 F B
theorem c_Walker_goBracket {l : Launch} {D : va_G} {ca : Nat → ClassId} {ad : Nat → Int → Nat → Nat} {L : List Nat} {aS vS : Nat → Nat} {sz : Nat} {K : zK} {l0 : Int} {l1 : Int} {l2 : Int} {F F9 : zF} {B B9 : zB} {r : Int} (hf : f_Walker_goBracket K l0 l1 l2 F B = some (r, F9, B9)) : Met l ({ cls := "StaveHouse$Walker", name := "goBracket", desc := "(II)V" } : Jvm.MethodName) (Cond.code ({ cls := "StaveHouse$Walker", name := "goBracket", desc := "(II)V" } : Jvm.MethodName) prog_13_method_7_code 5 (Option.none : Option Jvm.ClassFile.FieldType) :: wAll) ({ frames := 205, cells := 0, slots := 0, locals := 5095 } : Room) (va_Pc [.ref (ad 11 l0 0), .int (iI l1), .int (iI l2)] (zPre D ca ad lnC K.2 L aS vS F B sz)) (Q_Walker_goBracket K D ca ad L r F9 B9 (zA L sz)) 0 0 (zA L sz) := (gh_CW 200).2.2.1 hf
noncomputable def f_Walker_goRepeat (K : zK) (l0 : Int) (l1 : Int) (l2 : Int) (F : zF) (B : zB) : zO := (gr_CW K 200).2.2.2.1 l0 l1 l2 F B
theorem c_Walker_goRepeat {l : Launch} {D : va_G} {ca : Nat → ClassId} {ad : Nat → Int → Nat → Nat} {L : List Nat} {aS vS : Nat → Nat} {sz : Nat} {K : zK} {l0 : Int} {l1 : Int} {l2 : Int} {F F9 : zF} {B B9 : zB} {r : Int} (hf : f_Walker_goRepeat K l0 l1 l2 F B = some (r, F9, B9)) : Met l ({ cls := "StaveHouse$Walker", name := "goRepeat", desc := "(II)V" } : Jvm.MethodName) (Cond.code ({ cls := "StaveHouse$Walker", name := "goRepeat", desc := "(II)V" } : Jvm.MethodName) prog_13_method_8_code 6 (Option.none : Option Jvm.ClassFile.FieldType) :: wAll) ({ frames := 205, cells := 0, slots := 0, locals := 5095 } : Room) (va_Pc [.ref (ad 11 l0 0), .int (iI l1), .int (iI l2)] (zPre D ca ad lnC K.2 L aS vS F B sz)) (Q_Walker_goRepeat K D ca ad L r F9 B9 (zA L sz)) 0 0 (zA L sz) := (gh_CW 200).2.2.2.1 hf
noncomputable def f_Walker_goCarried (K : zK) (l0 : Int) (l1 : Int) (l2 : Int) (l3 : Int) (F : zF) (B : zB) : zO := (gr_CW K 200).2.2.2.2.1 l0 l1 l2 l3 F B
theorem c_Walker_goCarried {l : Launch} {D : va_G} {ca : Nat → ClassId} {ad : Nat → Int → Nat → Nat} {L : List Nat} {aS vS : Nat → Nat} {sz : Nat} {K : zK} {l0 : Int} {l1 : Int} {l2 : Int} {l3 : Int} {F F9 : zF} {B B9 : zB} {r : Int} (hf : f_Walker_goCarried K l0 l1 l2 l3 F B = some (r, F9, B9)) : Met l ({ cls := "StaveHouse$Walker", name := "goCarried", desc := "(III)V" } : Jvm.MethodName) (Cond.code ({ cls := "StaveHouse$Walker", name := "goCarried", desc := "(III)V" } : Jvm.MethodName) prog_13_method_9_code 4 (Option.none : Option Jvm.ClassFile.FieldType) :: wAll) ({ frames := 205, cells := 0, slots := 0, locals := 5095 } : Room) (va_Pc [.ref (ad 11 l0 0), .int (iI l1), .int (iI l2), .int (iI l3)] (zPre D ca ad lnC K.2 L aS vS F B sz)) (Q_Walker_goCarried K D ca ad L r F9 B9 (zA L sz)) 0 0 (zA L sz) := (gh_CW 200).2.2.2.2.1 hf
noncomputable def f_Walker_goBack (K : zK) (l0 : Int) (l1 : Int) (l2 : Int) (F : zF) (B : zB) : zO := (gr_CW K 200).2.2.2.2.2 l0 l1 l2 F B
theorem c_Walker_goBack {l : Launch} {D : va_G} {ca : Nat → ClassId} {ad : Nat → Int → Nat → Nat} {L : List Nat} {aS vS : Nat → Nat} {sz : Nat} {K : zK} {l0 : Int} {l1 : Int} {l2 : Int} {F F9 : zF} {B B9 : zB} {r : Int} (hf : f_Walker_goBack K l0 l1 l2 F B = some (r, F9, B9)) : Met l ({ cls := "StaveHouse$Walker", name := "goBack", desc := "(II)V" } : Jvm.MethodName) (Cond.code ({ cls := "StaveHouse$Walker", name := "goBack", desc := "(II)V" } : Jvm.MethodName) prog_13_method_10_code 4 (Option.none : Option Jvm.ClassFile.FieldType) :: wAll) ({ frames := 205, cells := 0, slots := 0, locals := 5095 } : Room) (va_Pc [.ref (ad 11 l0 0), .int (iI l1), .int (iI l2)] (zPre D ca ad lnC K.2 L aS vS F B sz)) (Q_Walker_goBack K D ca ad L r F9 B9 (zA L sz)) 0 0 (zA L sz) := (gh_CW 200).2.2.2.2.2 hf

