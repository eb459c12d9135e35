set_option maxHeartbeats 4000000 in
set_option maxRecDepth 100000 in
theorem b_Parser_refuse_17 {D : va_G} {ca : Nat → ClassId} {ad : Nat → Int → Nat → Nat} {L : List Nat} {aS vS : Nat → Nat} {A : Nat → Prop} {p : Program} {l : Launch} {e : Env} {s : State} {m : MethodId} {args : Array Value} {below : List Frame} {meth : Method} {c : Code} {K : zK} {r : Int} {F9 : zF} {B9 : zB} (X : zX D ca L aS vS A p s m args meth c prog_5_method_3_code 2 (Option.some Jvm.ClassFile.FieldType.boolean) "StaveHouse$Parser") {l0 : Int} {s0 : Int} {s1 : Int} {F : zF} {B : zB} {H : Heap} {locs : List Loc} {ls : Array Slot} (hf : f_Parser_refuse_17 K l0 s0 s1 F B = some (r, F9, B9)) (hZ : zH D ca ad lnC K.2 L F B A H) (hS : va_S A s.heap H locs) (hl : lv_has ls 2 [(0, .ref (ad 3 l0 0))]) : W p l e ({ frames := 0, cells := 0, slots := 0, locals := 0 } : Room) s m args below meth c H locs 0 0 (MQ below (Q_Parser_refuse K D ca ad L r F9 B9 A) args s 0 0 A) (F0 m 17 ls [.int (iI s1), va_rf (zrf ad 3 s0)]) := by
  obtain ⟨hx, hb, hr, hml, hown, hts, hlk, hK, hA, hL, hX⟩ := id X
  replace hf : (if 0 ≤ l0 ∧ l0 < K.2 3 then if 0 ≤ (F 3 l0 11) ∧ (F 3 l0 11) < K.2 10 then if 0 ≤ s0 ∧ s0 < K.2 3 then some (0, (zup3 F 3 s0 21 (s1 + (16 * (F 10 (F 3 l0 11) 1)))), B) else none else none else none) = some (r, F9, B9) := hf
  refine lv_bipush (v := iI 16) hx hb d_5_3_17 (by decide) ?_
  refine lv_aload_n hx hb d_5_3_19 rfl (lv_at hl 0 rfl) ?_
  obtain ⟨g5, hf⟩ := gif hf
  refine zget (ci := 3) (C := RX3) (T := TX3) (v := va_rf (zrf ad 10 (F 3 l0 11))) (k := 11) hx hb hts inW_3 hown hK hZ g5.1 g5.2 rfl (by decide) k_1_128 rfl d_5_3_20 ?_
  obtain ⟨g6, hf⟩ := gif hf
  refine zunrf g6.1 ?_
  refine zget (ci := 10) (C := RX10) (T := TX10) (v := .int (iI (F 10 (F 3 l0 11) 1))) (k := 1) hx hb hts inW_10 hown hK hZ g6.1 g6.2 rfl (by decide) k_1_75 rfl d_5_3_23 ?_
  refine zmul hx hb d_5_3_26 ?_
  refine zadd hx hb d_5_3_27 ?_
  obtain ⟨g7, hf⟩ := gif hf
  refine W.eq (g2 := F0 m 28 ls [.int (iI (s1 + (16 * (F 10 (F 3 l0 11) 1)))), .ref (ad 3 s0 0)]) (by rw [zrf_pos (ad := ad) (t := 3) g7.1]; try rfl) ?_
  refine zput (ci := 3) (C := RX3) (T := TX3) (k := 21) (v := (s1 + (16 * (F 10 (F 3 l0 11) 1)))) (w := .int (iI (s1 + (16 * (F 10 (F 3 l0 11) 1))))) hx hb hts inW_3 tyX3 tyX3_ok nmX3 hown hK hZ hS g7.1 g7.2 rfl (by decide) k_1_138 rfl (fun G h => congrArg (fun q => Value.int (iI q)) h) rfl rfl (zno (by decide)) d_5_3_28 (fun H8 locs8 hZ8 hS8 => ?_)
  refine lv_iconst (v := iI 0) hx hb d_5_3_31 rfl ?_
  cases hf
  exact W.zret hx hb hr rfl (fun t ht hW => ⟨⟨_, (), rfl, rfl, by rw [ht]; exact hZ8, va_K.moved hW.alike hK⟩, hS8.F ht⟩) hS8.2.2 d_5_3_32 hlk

noncomputable def f_Parser_refuse (K : zK) (l0 : Int) (l1 : Int) (F : zF) (B : zB) : zO := if 0 ≤ l0 ∧ l0 < K.2 3 then if 0 ≤ (F 3 l0 11) ∧ (F 3 l0 11) < K.2 10 then if r32 (F 10 (F 3 l0 11) 0) then (if (F 10 (F 3 l0 11) 0) = 1 then f_Parser_refuse_17 K l0 l0 1 F B else f_Parser_refuse_17 K l0 l0 l1 F B) else none else none else none
set_option maxHeartbeats 4000000 in
set_option maxRecDepth 100000 in
theorem c_Parser_refuse {l : Launch} {D : va_G} {ca : Nat → ClassId} {ad : Nat → Int → Nat → Nat} {L : List Nat} {aS vS : Nat → Nat} {sz : Nat} {K : zK}  {l0 : Int} {l1 : Int} {F F9 : zF} {B B9 : zB} {r : Int} (hf : f_Parser_refuse K l0 l1 F B = some (r, F9, B9)) : Met l ({ cls := "StaveHouse$Parser", name := "refuse", desc := "(I)Z" } : Jvm.MethodName) (Cond.code ({ cls := "StaveHouse$Parser", name := "refuse", desc := "(I)Z" } : Jvm.MethodName) prog_5_method_3_code 2 (Option.some Jvm.ClassFile.FieldType.boolean) :: wAll) ({ frames := 0, cells := 0, slots := 0, locals := 0 } : Room) (va_Pc [.ref (ad 3 l0 0), .int (iI l1)] (zPre D ca ad lnC K.2 L aS vS F B sz)) (Q_Parser_refuse K D ca ad L r F9 B9 (zA L sz)) 0 0 (zA L sz) := by
  refine zMet (Qc := Q_Parser_refuse K D ca ad L r F9 B9) (lv := [(0, .ref (ad 3 l0 0)), (1, .int (iI l1))]) (by decide) (Nat.le_of_ble_eq_true rfl) rfl (fun A p e s m below meth c ls X hZ hS hl => ?_)
  obtain ⟨hx, hb, hr, hml, hown, hts, hlk, hK, hA, hL, hX⟩ := id X
  replace hf : (if 0 ≤ l0 ∧ l0 < K.2 3 then if 0 ≤ (F 3 l0 11) ∧ (F 3 l0 11) < K.2 10 then if r32 (F 10 (F 3 l0 11) 0) then (if (F 10 (F 3 l0 11) 0) = 1 then f_Parser_refuse_17 K l0 l0 1 F B else f_Parser_refuse_17 K l0 l0 l1 F B) else none else none else none) = some (r, F9, B9) := hf
  refine lv_aload_n hx hb d_5_3_0 rfl (lv_at hl 0 rfl) ?_
  refine lv_aload_n hx hb d_5_3_1 rfl (lv_at hl 0 rfl) ?_
  obtain ⟨g1, hf⟩ := gif hf
  refine zget (ci := 3) (C := RX3) (T := TX3) (v := va_rf (zrf ad 10 (F 3 l0 11))) (k := 11) hx hb hts inW_3 hown hK hZ g1.1 g1.2 rfl (by decide) k_1_128 rfl d_5_3_2 ?_
  obtain ⟨g2, hf⟩ := gif hf
  refine zunrf g2.1 ?_
  refine zget (ci := 10) (C := RX10) (T := TX10) (v := .int (iI (F 10 (F 3 l0 11) 0))) (k := 0) hx hb hts inW_10 hown hK hZ g2.1 g2.2 rfl (by decide) k_1_72 rfl d_5_3_5 ?_
  refine lv_iconst (v := iI 1) hx hb d_5_3_8 rfl ?_
  obtain ⟨g3, hf⟩ := gif hf
  refine zne (tgt := 16) hx hb g3 (by decide) d_5_3_9 (by decide) (fun h4 => ?_) (fun h4 => ?_)
  · replace hf := gneg hf h4
    refine lv_iload_n hx hb d_5_3_16 rfl (lv_at hl 1 rfl) ?_
    refine W.eq (g2 := F0 m 17 ls [.int (iI l1), va_rf (zrf ad 3 l0)]) (by rw [zrf_pos (ad := ad) (t := 3) g1.1]; try rfl) ?_
    exact b_Parser_refuse_17 X hf hZ hS (lv_sub hl [0] rfl)
  · replace hf := gpos hf h4
    refine lv_iconst (v := iI 1) hx hb d_5_3_12 rfl ?_
    refine lv_goto (tgt := 17) hx hb d_5_3_13 (by decide) ?_
    refine W.eq (g2 := F0 m 17 ls [.int (iI 1), va_rf (zrf ad 3 l0)]) (by rw [zrf_pos (ad := ad) (t := 3) g1.1]; try rfl) ?_
    exact b_Parser_refuse_17 X hf hZ hS (lv_sub hl [0] rfl)

noncomputable abbrev Q_Parser_letNamed (K : zK) (D : va_G) (ca : Nat → ClassId) (ad : Nat → Int → Nat → Nat) (L : List Nat) (r : Int) (F : zF) (B : zB) (A : Nat → Prop) : Array Value → State → Outcome → State → Prop := va_Qi (S := Unit) (fun p _ => p = iI r) (fun _ => zPo D ca ad lnC K.2 L F B A) A
noncomputable def f_Parser_letNamed_2 (K : zK) : Nat → Int → Int → Int → zF → zB → zO
  | 0, _, _, _, _, _ => none
  | n + 1, l3, l0, l1, F, B => if 0 ≤ l0 ∧ l0 < K.2 3 then if r32 l3 then if r32 (F 3 l0 16) then (if (F 3 l0 16) ≤ l3 then some ((-1), F, B) else if 0 ≤ l3 ∧ l3 < 6 then if r64 (B 3 l0 12 l3) then if r64 l1 then (if (zcmp (B 3 l0 12 l3) l1) = 0 then some (B 3 l0 13 l3, F, B) else f_Parser_letNamed_2 K n (l3 + 1) l0 l1 F B) else none else none else none) else none else none else none
set_option maxHeartbeats 4000000 in
set_option maxRecDepth 100000 in
theorem b_Parser_letNamed_2 {D : va_G} {ca : Nat → ClassId} {ad : Nat → Int → Nat → Nat} {L : List Nat} {aS vS : Nat → Nat} {A : Nat → Prop} {p : Program} {l : Launch} {e : Env} {s : State} {m : MethodId} {args : Array Value} {below : List Frame} {meth : Method} {c : Code} {K : zK} {r : Int} {F9 : zF} {B9 : zB} (X : zX D ca L aS vS A p s m args meth c prog_5_method_10_code 4 (Option.some Jvm.ClassFile.FieldType.int) "StaveHouse$Parser") : ∀ {n : Nat} {l3 : Int} {l0 : Int} {l1 : Int} {F : zF} {B : zB} {H : Heap} {locs : List Loc} {ls : Array Slot}, f_Parser_letNamed_2 K n l3 l0 l1 F B = some (r, F9, B9) → zH D ca ad lnC K.2 L F B A H → va_S A s.heap H locs → lv_has ls 4 [(3, .int (iI l3)), (0, .ref (ad 3 l0 0)), (1, .long (lI l1))] → W p l e ({ frames := 0, cells := 0, slots := 0, locals := 0 } : Room) s m args below meth c H locs 0 0 (MQ below (Q_Parser_letNamed K D ca ad L r F9 B9 A) args s 0 0 A) (F0 m 2 ls []) := by
  obtain ⟨hx, hb, hr, hml, hown, hts, hlk, hK, hA, hL, hX⟩ := id X
  intro n
  induction n with
  | zero =>
    intros
    rename_i hf _ _ _
    cases hf
  | succ n ih =>
    intro l3 l0 l1 F B H locs ls hf hZ hS hl
    replace hf : (if 0 ≤ l0 ∧ l0 < K.2 3 then if r32 l3 then if r32 (F 3 l0 16) then (if (F 3 l0 16) ≤ l3 then some ((-1), F, B) else if 0 ≤ l3 ∧ l3 < 6 then if r64 (B 3 l0 12 l3) then if r64 l1 then (if (zcmp (B 3 l0 12 l3) l1) = 0 then some (B 3 l0 13 l3, F, B) else f_Parser_letNamed_2 K n (l3 + 1) l0 l1 F B) else none else none else none) else none else none else none) = some (r, F9, B9) := hf
    refine lv_iload_n hx hb d_5_10_2 rfl (lv_at hl 0 rfl) ?_
    refine lv_aload_n hx hb d_5_10_3 rfl (lv_at hl 1 rfl) ?_
    obtain ⟨g1, hf⟩ := gif hf
    refine zget (ci := 3) (C := RX3) (T := TX3) (v := .int (iI (F 3 l0 16))) (k := 16) hx hb hts inW_3 hown hK hZ g1.1 g1.2 rfl (by decide) k_1_133 rfl d_5_10_4 ?_
    obtain ⟨g2, hf⟩ := gif hf
    obtain ⟨g3, hf⟩ := gif hf
    refine zge (tgt := 34) hx hb g2 g3 d_5_10_7 (by decide) (fun h4 => ?_) (fun h4 => ?_)
    · replace hf := gpos hf h4
      refine lv_iconst (v := iI (-1)) hx hb d_5_10_34 rfl ?_
      cases hf
      exact W.iret hx hb hr (fun t ht hW => ⟨⟨_, (), rfl, rfl, by rw [ht]; exact hZ, va_K.moved hW.alike hK⟩, hS.F ht⟩) hS.2.2 d_5_10_35 hlk
    · replace hf := gneg hf h4
      refine lv_aload_n hx hb d_5_10_10 rfl (lv_at hl 1 rfl) ?_
      refine zget (ci := 3) (C := RX3) (T := TX3) (v := .ref (ad 3 l0 (12 + 1))) (k := 12) hx hb hts inW_3 hown hK hZ g1.1 g1.2 rfl (by decide) k_1_129 rfl d_5_10_11 ?_
      refine lv_iload_n hx hb d_5_10_14 rfl (lv_at hl 0 rfl) ?_
      obtain ⟨g5, hf⟩ := gif hf
      refine zlald (ci := 3) (k := 12) hx hb hK rfl hZ g1.1 g1.2 rfl (Nat.le_of_ble_eq_true rfl) g5.1 g5.2 d_5_10_15 ?_
      refine lv_lload_n hx hb d_5_10_16 rfl (lv_at hl 2 rfl) ?_
      obtain ⟨g6, hf⟩ := gif hf
      obtain ⟨g7, hf⟩ := gif hf
      refine zcmp_r hx hb g6 g7 d_5_10_17 ?_
      refine z0ne (tgt := 28) hx hb zcmp_32 d_5_10_18 (by decide) (fun h8 => ?_) (fun h8 => ?_)
      · replace hf := gneg hf h8
        refine lv_iinc (v := iI (l3 + 1)) (lv' := [(3, .int (iI (l3 + 1))), (0, .ref (ad 3 l0 0)), (1, .long (lI l1))]) hx hb d_5_10_28 hl (k := 0) rfl (iI_add _ 1) (by decide) rfl (fun ls hl => ?_)
        refine lv_goto (tgt := 2) hx hb d_5_10_31 (by decide) ?_
        exact ih hf hZ hS (lv_sub hl [0, 1, 2] rfl)
      · replace hf := gpos hf h8
        refine lv_aload_n hx hb d_5_10_21 rfl (lv_at hl 1 rfl) ?_
        refine zget (ci := 3) (C := RX3) (T := TX3) (v := .ref (ad 3 l0 (13 + 1))) (k := 13) hx hb hts inW_3 hown hK hZ g1.1 g1.2 rfl (by decide) k_1_130 rfl d_5_10_22 ?_
        refine lv_iload_n hx hb d_5_10_25 rfl (lv_at hl 0 rfl) ?_
        refine zald (ci := 3) (k := 13) hx hb hK rfl hZ g1.1 g1.2 rfl (Nat.le_of_ble_eq_true rfl) g5.1 g5.2 d_5_10_26 ?_
        cases hf
        exact W.iret hx hb hr (fun t ht hW => ⟨⟨_, (), rfl, rfl, by rw [ht]; exact hZ, va_K.moved hW.alike hK⟩, hS.F ht⟩) hS.2.2 d_5_10_27 hlk

noncomputable def f_Parser_letNamed (K : zK) (l0 : Int) (l1 : Int) (F : zF) (B : zB) : zO := f_Parser_letNamed_2 K K.1 0 l0 l1 F B
set_option maxHeartbeats 4000000 in
set_option maxRecDepth 100000 in
theorem c_Parser_letNamed {l : Launch} {D : va_G} {ca : Nat → ClassId} {ad : Nat → Int → Nat → Nat} {L : List Nat} {aS vS : Nat → Nat} {sz : Nat} {K : zK}  {l0 : Int} {l1 : Int} {F F9 : zF} {B B9 : zB} {r : Int} (hf : f_Parser_letNamed K l0 l1 F B = some (r, F9, B9)) : Met l ({ cls := "StaveHouse$Parser", name := "letNamed", desc := "(J)I" } : Jvm.MethodName) (Cond.code ({ cls := "StaveHouse$Parser", name := "letNamed", desc := "(J)I" } : Jvm.MethodName) prog_5_method_10_code 4 (Option.some Jvm.ClassFile.FieldType.int) :: wAll) ({ frames := 0, cells := 0, slots := 0, locals := 0 } : Room) (va_Pc [.ref (ad 3 l0 0), .long (lI l1)] (zPre D ca ad lnC K.2 L aS vS F B sz)) (Q_Parser_letNamed K D ca ad L r F9 B9 (zA L sz)) 0 0 (zA L sz) := by
  refine zMet (Qc := Q_Parser_letNamed K D ca ad L r F9 B9) (lv := [(0, .ref (ad 3 l0 0)), (1, .long (lI l1))]) (by decide) (Nat.le_of_ble_eq_true rfl) rfl (fun A p e s m below meth c ls X hZ hS hl => ?_)
  obtain ⟨hx, hb, hr, hml, hown, hts, hlk, hK, hA, hL, hX⟩ := id X
  replace hf : (f_Parser_letNamed_2 K K.1 0 l0 l1 F B) = some (r, F9, B9) := hf
  refine lv_iconst (v := iI 0) hx hb d_5_10_0 rfl ?_
  refine lv_istore_n (lv' := [(3, .int (iI 0)), (0, .ref (ad 3 l0 0)), (1, .long (lI l1))]) hx hb d_5_10_1 rfl hl (by decide) rfl (fun ls hl => ?_)
  exact b_Parser_letNamed_2 X hf hZ hS (lv_sub hl [0, 1, 2] rfl)

noncomputable abbrev Q_Tokens_isSign (K : zK) (D : va_G) (ca : Nat → ClassId) (ad : Nat → Int → Nat → Nat) (L : List Nat) (r : Int) (F : zF) (B : zB) (A : Nat → Prop) : Array Value → State → Outcome → State → Prop := va_Qi (S := Unit) (fun p _ => p = iI r) (fun _ => zPo D ca ad lnC K.2 L F B A) A
noncomputable def f_Tokens_isSign_23 (K : zK) (s0 : Int) (F : zF) (B : zB) : zO := if (s0 = 0 ∨ s0 = 1) then some (s0, F, B) else none
set_option maxHeartbeats 4000000 in
set_option maxRecDepth 100000 in
theorem b_Tokens_isSign_23 {D : va_G} {ca : Nat → ClassId} {ad : Nat → Int → Nat → Nat} {L : List Nat} {aS vS : Nat → Nat} {A : Nat → Prop} {p : Program} {l : Launch} {e : Env} {s : State} {m : MethodId} {args : Array Value} {below : List Frame} {meth : Method} {c : Code} {K : zK} {r : Int} {F9 : zF} {B9 : zB} (X : zX D ca L aS vS A p s m args meth c prog_12_method_4_code 2 (Option.some Jvm.ClassFile.FieldType.boolean) "StaveHouse$Tokens") {s0 : Int} {F : zF} {B : zB} {H : Heap} {locs : List Loc} {ls : Array Slot} (hf : f_Tokens_isSign_23 K s0 F B = some (r, F9, B9)) (hZ : zH D ca ad lnC K.2 L F B A H) (hS : va_S A s.heap H locs) (hl : lv_has ls 2 []) : W p l e ({ frames := 0, cells := 0, slots := 0, locals := 0 } : Room) s m args below meth c H locs 0 0 (MQ below (Q_Tokens_isSign K D ca ad L r F9 B9 A) args s 0 0 A) (F0 m 23 ls [.int (iI s0)]) := by
  obtain ⟨hx, hb, hr, hml, hown, hts, hlk, hK, hA, hL, hX⟩ := id X
  replace hf : (if (s0 = 0 ∨ s0 = 1) then some (s0, F, B) else none) = some (r, F9, B9) := hf
  obtain ⟨g8, hf⟩ := gif hf
  cases hf
  exact W.zret hx hb hr (zbool g8) (fun t ht hW => ⟨⟨_, (), rfl, rfl, by rw [ht]; exact hZ, va_K.moved hW.alike hK⟩, hS.F ht⟩) hS.2.2 d_12_4_23 hlk

noncomputable def f_Tokens_isSign_22 (K : zK)  (F : zF) (B : zB) : zO := f_Tokens_isSign_23 K 0 F B
set_option maxHeartbeats 4000000 in
set_option maxRecDepth 100000 in
theorem b_Tokens_isSign_22 {D : va_G} {ca : Nat → ClassId} {ad : Nat → Int → Nat → Nat} {L : List Nat} {aS vS : Nat → Nat} {A : Nat → Prop} {p : Program} {l : Launch} {e : Env} {s : State} {m : MethodId} {args : Array Value} {below : List Frame} {meth : Method} {c : Code} {K : zK} {r : Int} {F9 : zF} {B9 : zB} (X : zX D ca L aS vS A p s m args meth c prog_12_method_4_code 2 (Option.some Jvm.ClassFile.FieldType.boolean) "StaveHouse$Tokens")  {F : zF} {B : zB} {H : Heap} {locs : List Loc} {ls : Array Slot} (hf : f_Tokens_isSign_22 K  F B = some (r, F9, B9)) (hZ : zH D ca ad lnC K.2 L F B A H) (hS : va_S A s.heap H locs) (hl : lv_has ls 2 []) : W p l e ({ frames := 0, cells := 0, slots := 0, locals := 0 } : Room) s m args below meth c H locs 0 0 (MQ below (Q_Tokens_isSign K D ca ad L r F9 B9 A) args s 0 0 A) (F0 m 22 ls []) := by
  obtain ⟨hx, hb, hr, hml, hown, hts, hlk, hK, hA, hL, hX⟩ := id X
  replace hf : (f_Tokens_isSign_23 K 0 F B) = some (r, F9, B9) := hf
  refine lv_iconst (v := iI 0) hx hb d_12_4_22 rfl ?_
  exact b_Tokens_isSign_23 X hf hZ hS (lv_sub hl [] rfl)

noncomputable def f_Tokens_isSign (K : zK) (l0 : Int) (l1 : Int) (F : zF) (B : zB) : zO := if 0 ≤ l0 ∧ l0 < K.2 10 then if r32 (F 10 l0 0) then (if (F 10 l0 0) = 5 then if r32 l1 then if r64 (F 10 l0 2) then if r64 l1 then (if (zcmp (F 10 l0 2) l1) = 0 then f_Tokens_isSign_23 K 1 F B else f_Tokens_isSign_22 K F B) else none else none else none else f_Tokens_isSign_22 K F B) else none else none
set_option maxHeartbeats 4000000 in
set_option maxRecDepth 100000 in
theorem c_Tokens_isSign {l : Launch} {D : va_G} {ca : Nat → ClassId} {ad : Nat → Int → Nat → Nat} {L : List Nat} {aS vS : Nat → Nat} {sz : Nat} {K : zK}  {l0 : Int} {l1 : Int} {F F9 : zF} {B B9 : zB} {r : Int} (hf : f_Tokens_isSign K l0 l1 F B = some (r, F9, B9)) : Met l ({ cls := "StaveHouse$Tokens", name := "isSign", desc := "(C)Z" } : Jvm.MethodName) (Cond.code ({ cls := "StaveHouse$Tokens", name := "isSign", desc := "(C)Z" } : Jvm.MethodName) prog_12_method_4_code 2 (Option.some Jvm.ClassFile.FieldType.boolean) :: wAll) ({ frames := 0, cells := 0, slots := 0, locals := 0 } : Room) (va_Pc [.ref (ad 10 l0 0), .int (iI l1)] (zPre D ca ad lnC K.2 L aS vS F B sz)) (Q_Tokens_isSign K D ca ad L r F9 B9 (zA L sz)) 0 0 (zA L sz) := by
  refine zMet (Qc := Q_Tokens_isSign K D ca ad L r F9 B9) (lv := [(0, .ref (ad 10 l0 0)), (1, .int (iI l1))]) (by decide) (Nat.le_of_ble_eq_true rfl) rfl (fun A p e s m below meth c ls X hZ hS hl => ?_)
  obtain ⟨hx, hb, hr, hml, hown, hts, hlk, hK, hA, hL, hX⟩ := id X
  replace hf : (if 0 ≤ l0 ∧ l0 < K.2 10 then if r32 (F 10 l0 0) then (if (F 10 l0 0) = 5 then if r32 l1 then if r64 (F 10 l0 2) then if r64 l1 then (if (zcmp (F 10 l0 2) l1) = 0 then f_Tokens_isSign_23 K 1 F B else f_Tokens_isSign_22 K F B) else none else none else none else f_Tokens_isSign_22 K F B) else none else none) = some (r, F9, B9) := hf
  refine lv_aload_n hx hb d_12_4_0 rfl (lv_at hl 0 rfl) ?_
  obtain ⟨g1, hf⟩ := gif hf
  refine zget (ci := 10) (C := RX10) (T := TX10) (v := .int (iI (F 10 l0 0))) (k := 0) hx hb hts inW_10 hown hK hZ g1.1 g1.2 rfl (by decide) k_1_73 rfl d_12_4_1 ?_
  refine lv_iconst (v := iI 5) hx hb d_12_4_4 rfl ?_
  obtain ⟨g2, hf⟩ := gif hf
  refine zne (tgt := 22) hx hb g2 (by decide) d_12_4_5 (by decide) (fun h3 => ?_) (fun h3 => ?_)
  · replace hf := gneg hf h3
    exact b_Tokens_isSign_22 X hf hZ hS (lv_sub hl [] rfl)
  · replace hf := gpos hf h3
    refine lv_aload_n hx hb d_12_4_8 rfl (lv_at hl 0 rfl) ?_
    refine zget (ci := 10) (C := RX10) (T := TX10) (v := .long (lI (F 10 l0 2))) (k := 2) hx hb hts inW_10 hown hK hZ g1.1 g1.2 rfl (by decide) k_1_76 rfl d_12_4_9 ?_
    refine lv_iload_n hx hb d_12_4_12 rfl (lv_at hl 1 rfl) ?_
    obtain ⟨g4, hf⟩ := gif hf
    refine zi2l hx hb g4 d_12_4_13 ?_
    obtain ⟨g5, hf⟩ := gif hf
    obtain ⟨g6, hf⟩ := gif hf
    refine zcmp_r hx hb g5 g6 d_12_4_14 ?_
    refine z0ne (tgt := 22) hx hb zcmp_32 d_12_4_15 (by decide) (fun h7 => ?_) (fun h7 => ?_)
    · replace hf := gneg hf h7
      exact b_Tokens_isSign_22 X hf hZ hS (lv_sub hl [] rfl)
    · replace hf := gpos hf h7
      refine lv_iconst (v := iI 1) hx hb d_12_4_18 rfl ?_
      refine lv_goto (tgt := 23) hx hb d_12_4_19 (by decide) ?_
      exact b_Tokens_isSign_23 X hf hZ hS (lv_sub hl [] rfl)

noncomputable abbrev Q_Parser_takeOpening (K : zK) (D : va_G) (ca : Nat → ClassId) (ad : Nat → Int → Nat → Nat) (L : List Nat) (r : Int) (F : zF) (B : zB) (A : Nat → Prop) : Array Value → State → Outcome → State → Prop := va_Qi (S := Unit) (fun p _ => p = iI r) (fun _ => zPo D ca ad lnC K.2 L F B A) A
noncomputable def f_Parser_takeOpening (K : zK) (l0 : Int) (l1 : Int) (F : zF) (B : zB) : zO := if 0 ≤ l0 ∧ l0 < K.2 3 then if 0 ≤ (F 3 l0 11) ∧ (F 3 l0 11) < K.2 10 then zbind (f_Tokens_isSign K (F 3 l0 11) l1 F B) (fun r3 F3 B3 => if r32 r3 then (if r3 = 0 then zbind (f_Parser_refuse K l0 2 F3 B3) (fun r13 F13 B13 => if (r13 = 0 ∨ r13 = 1) then some (r13, F13, B13) else none) else if r32 (F3 3 l0 18) then (if (F3 3 l0 18) < 8 then if 0 ≤ (F3 3 l0 11) ∧ (F3 3 l0 11) < K.2 10 then zbind (f_Tokens_advance K (F3 3 l0 11) (zup3 F3 3 l0 18 ((F3 3 l0 18) + 1)) B3) (fun r10 F10 B10 => some (1, F10, B10)) else none else zbind (f_Parser_refuse K l0 3 F3 B3) (fun r11 F11 B11 => if (r11 = 0 ∨ r11 = 1) then some (r11, F11, B11) else none)) else none) else none) else none else none
set_option maxHeartbeats 4000000 in
set_option maxRecDepth 100000 in
theorem c_Parser_takeOpening {l : Launch} {D : va_G} {ca : Nat → ClassId} {ad : Nat → Int → Nat → Nat} {L : List Nat} {aS vS : Nat → Nat} {sz : Nat} {K : zK}  {l0 : Int} {l1 : Int} {F F9 : zF} {B B9 : zB} {r : Int} (hf : f_Parser_takeOpening K l0 l1 F B = some (r, F9, B9)) : Met l ({ cls := "StaveHouse$Parser", name := "takeOpening", desc := "(C)Z" } : Jvm.MethodName) (Cond.code ({ cls := "StaveHouse$Parser", name := "takeOpening", desc := "(C)Z" } : Jvm.MethodName) prog_5_method_17_code 2 (Option.some Jvm.ClassFile.FieldType.boolean) :: wAll) ({ frames := 1, cells := 0, slots := 0, locals := 21 } : Room) (va_Pc [.ref (ad 3 l0 0), .int (iI l1)] (zPre D ca ad lnC K.2 L aS vS F B sz)) (Q_Parser_takeOpening K D ca ad L r F9 B9 (zA L sz)) 0 0 (zA L sz) := by
  refine zMet (Qc := Q_Parser_takeOpening K D ca ad L r F9 B9) (lv := [(0, .ref (ad 3 l0 0)), (1, .int (iI l1))]) (by decide) (Nat.le_of_ble_eq_true rfl) rfl (fun A p e s m below meth c ls X hZ hS hl => ?_)
  obtain ⟨hx, hb, hr, hml, hown, hts, hlk, hK, hA, hL, hX⟩ := id X
  replace hf : (if 0 ≤ l0 ∧ l0 < K.2 3 then if 0 ≤ (F 3 l0 11) ∧ (F 3 l0 11) < K.2 10 then zbind (f_Tokens_isSign K (F 3 l0 11) l1 F B) (fun r3 F3 B3 => if r32 r3 then (if r3 = 0 then zbind (f_Parser_refuse K l0 2 F3 B3) (fun r13 F13 B13 => if (r13 = 0 ∨ r13 = 1) then some (r13, F13, B13) else none) else if r32 (F3 3 l0 18) then (if (F3 3 l0 18) < 8 then if 0 ≤ (F3 3 l0 11) ∧ (F3 3 l0 11) < K.2 10 then zbind (f_Tokens_advance K (F3 3 l0 11) (zup3 F3 3 l0 18 ((F3 3 l0 18) + 1)) B3) (fun r10 F10 B10 => some (1, F10, B10)) else none else zbind (f_Parser_refuse K l0 3 F3 B3) (fun r11 F11 B11 => if (r11 = 0 ∨ r11 = 1) then some (r11, F11, B11) else none)) else none) else none) else none else none) = some (r, F9, B9) := hf
  refine lv_aload_n hx hb d_5_17_0 rfl (lv_at hl 0 rfl) ?_
  obtain ⟨g1, hf⟩ := gif hf
  refine zget (ci := 3) (C := RX3) (T := TX3) (v := va_rf (zrf ad 10 (F 3 l0 11))) (k := 11) hx hb hts inW_3 hown hK hZ g1.1 g1.2 rfl (by decide) k_1_128 rfl d_5_17_1 ?_
  refine lv_iload_n hx hb d_5_17_4 rfl (lv_at hl 1 rfl) ?_
  obtain ⟨g2, hf⟩ := gif hf
  refine W.eq (g2 := F0 m 5 ls [.int (iI l1), .ref (ad 10 (F 3 l0 11) 0)]) (by rw [zrf_pos (ad := ad) (t := 10) g2.1]; try rfl) ?_
  obtain ⟨r3, F3, B3, hc3, hf⟩ := gbind hf
  refine va_calli (va_runV (As := [.int (iI l1)]) (rest := []) ⟨hx, hb, hml, hown, hts⟩ (c_Tokens_isSign (l := l) hc3) (cwV 1 hts (gdV k_3_208 k_3_209 k_3_210 k_1_5 k_3_211) rfl rfl rfl (by decide +kernel) ⟨Nat.le_of_ble_eq_true rfl, Nat.le_of_ble_eq_true rfl⟩) (zPV X hZ hS (ci := 10) g2.1 g2.2 (r := (RX10, TX10, 9)) rfl [.int (iI l1)]) rfl rfl hl.1 rfl (lv_room (Nat.le_of_ble_eq_true rfl)) d_5_17_5 ⟨Nat.le_of_ble_eq_true rfl, Nat.le_of_ble_eq_true rfl⟩) hS (fun q _ h => zAin X hS q h) (zAin X hS) (fun p3 u3 t3 H3 locs3 ht3 hv3 hw3 hB3 hz3 hk3 hS3 => ?_)
  have hZ3 := zBack X ht3 hB3
  subst hw3
  obtain ⟨g4, hf⟩ := gif hf
  refine z0ne (tgt := 17) hx hb g4 d_5_17_8 (by decide) (fun h5 => ?_) (fun h5 => ?_)
  · replace hf := gneg hf h5
    refine lv_aload_n hx hb d_5_17_17 rfl (lv_at hl 0 rfl) ?_
    refine zget (ci := 3) (C := RX3) (T := TX3) (v := .int (iI (F3 3 l0 18))) (k := 18) hx hb hts inW_3 hown hK hZ3 g1.1 g1.2 rfl (by decide) k_1_135 rfl d_5_17_18 ?_
    refine lv_bipush (v := iI 8) hx hb d_5_17_21 (by decide) ?_
    obtain ⟨g6, hf⟩ := gif hf
    refine zlt (tgt := 32) hx hb g6 (by decide) d_5_17_23 (by decide) (fun h7 => ?_) (fun h7 => ?_)
    · replace hf := gpos hf h7
      refine lv_aload_n hx hb d_5_17_32 rfl (lv_at hl 0 rfl) ?_
      refine lv_dup hx hb d_5_17_33 rfl ?_
      refine zget (ci := 3) (C := RX3) (T := TX3) (v := .int (iI (F3 3 l0 18))) (k := 18) hx hb hts inW_3 hown hK hZ3 g1.1 g1.2 rfl (by decide) k_1_135 rfl d_5_17_34 ?_
      refine lv_iconst (v := iI 1) hx hb d_5_17_37 rfl ?_
      refine zadd hx hb d_5_17_38 ?_
      refine zput (ci := 3) (C := RX3) (T := TX3) (k := 18) (v := ((F3 3 l0 18) + 1)) (w := .int (iI ((F3 3 l0 18) + 1))) hx hb hts inW_3 tyX3 tyX3_ok nmX3 hown hK hZ3 hS3 g1.1 g1.2 rfl (by decide) k_1_135 rfl (fun G h => congrArg (fun q => Value.int (iI q)) h) rfl rfl (zno (by decide)) d_5_17_39 (fun H8 locs8 hZ8 hS8 => ?_)
      refine lv_aload_n hx hb d_5_17_42 rfl (lv_at hl 0 rfl) ?_
      refine zget (ci := 3) (C := RX3) (T := TX3) (v := va_rf (zrf ad 10 (F3 3 l0 11))) (k := 11) hx hb hts inW_3 hown hK hZ8 g1.1 g1.2 rfl (by decide) k_1_128 (congrArg (fun q : Int => va_rf (zrf ad 10 q)) (show (zup3 F3 3 l0 18 ((F3 3 l0 18) + 1)) 3 l0 11 = F3 3 l0 11 by simp [zup3])) d_5_17_43 ?_
      obtain ⟨g9, hf⟩ := gif hf
      refine W.eq (g2 := F0 m 46 ls [.ref (ad 10 (F3 3 l0 11) 0)]) (by rw [zrf_pos (ad := ad) (t := 10) g9.1]; try rfl) ?_
      obtain ⟨r10, F10, B10, hc10, hf⟩ := gbind hf
      refine va_callv (va_runV (As := []) (rest := []) ⟨hx, hb, hml, hown, hts⟩ (c_Tokens_advance (l := l) hc10) (cwV 0 hts (gdV k_3_180 k_3_152 k_3_153 k_1_5 k_3_154) rfl rfl rfl (by decide +kernel) ⟨Nat.le_of_ble_eq_true rfl, Nat.le_of_ble_eq_true rfl⟩) (zPV X hZ8 hS8 (ci := 10) g9.1 g9.2 (r := (RX10, TX10, 9)) rfl []) rfl rfl hl.1 rfl (lv_room (Nat.le_of_ble_eq_true rfl)) d_5_17_46 ⟨Nat.le_of_ble_eq_true rfl, Nat.le_of_ble_eq_true rfl⟩) hS8 (fun q _ h => zAin X hS8 q h) (zAin X hS8) (fun u10 t10 H10 locs10 ht10 hv10 hw10 hB10 hz10 hk10 hS10 => ?_)
      have hZ10 := zBack X ht10 hB10
      refine lv_iconst (v := iI 1) hx hb d_5_17_49 rfl ?_
      cases hf
      exact W.zret hx hb hr rfl (fun t ht hW => ⟨⟨_, (), rfl, rfl, by rw [ht]; exact hZ10, va_K.moved hW.alike hK⟩, hS10.F ht⟩) hS10.2.2 d_5_17_50 hlk
    · replace hf := gneg hf h7
      refine lv_aload_n hx hb d_5_17_26 rfl (lv_at hl 0 rfl) ?_
      refine lv_iconst (v := iI 3) hx hb d_5_17_27 rfl ?_
      obtain ⟨r11, F11, B11, hc11, hf⟩ := gbind hf
      refine va_calli (va_runV (As := [.int (iI 3)]) (rest := []) ⟨hx, hb, hml, hown, hts⟩ (c_Parser_refuse (l := l) hc11) (cwV 1 hts (gdV k_3_196 k_3_198 ks_7 k_1_4 k_3_199) rfl rfl rfl (by decide +kernel) ⟨Nat.le_of_ble_eq_true rfl, Nat.le_of_ble_eq_true rfl⟩) (zPV X hZ3 hS3 (ci := 3) g1.1 g1.2 (r := (RX3, TX3, 22)) rfl [.int (iI 3)]) rfl rfl hl.1 rfl (lv_room (Nat.le_of_ble_eq_true rfl)) d_5_17_28 ⟨Nat.le_of_ble_eq_true rfl, Nat.le_of_ble_eq_true rfl⟩) hS3 (fun q _ h => zAin X hS3 q h) (zAin X hS3) (fun p11 u11 t11 H11 locs11 ht11 hv11 hw11 hB11 hz11 hk11 hS11 => ?_)
      have hZ11 := zBack X ht11 hB11
      subst hw11
      obtain ⟨g12, hf⟩ := gif hf
      cases hf
      exact W.zret hx hb hr (zbool g12) (fun t ht hW => ⟨⟨_, (), rfl, rfl, by rw [ht]; exact hZ11, va_K.moved hW.alike hK⟩, hS11.F ht⟩) hS11.2.2 d_5_17_31 hlk
  · replace hf := gpos hf h5
    refine lv_aload_n hx hb d_5_17_11 rfl (lv_at hl 0 rfl) ?_
    refine lv_iconst (v := iI 2) hx hb d_5_17_12 rfl ?_
    obtain ⟨r13, F13, B13, hc13, hf⟩ := gbind hf
    refine va_calli (va_runV (As := [.int (iI 2)]) (rest := []) ⟨hx, hb, hml, hown, hts⟩ (c_Parser_refuse (l := l) hc13) (cwV 1 hts (gdV k_3_196 k_3_198 ks_7 k_1_4 k_3_199) rfl rfl rfl (by decide +kernel) ⟨Nat.le_of_ble_eq_true rfl, Nat.le_of_ble_eq_true rfl⟩) (zPV X hZ3 hS3 (ci := 3) g1.1 g1.2 (r := (RX3, TX3, 22)) rfl [.int (iI 2)]) rfl rfl hl.1 rfl (lv_room (Nat.le_of_ble_eq_true rfl)) d_5_17_13 ⟨Nat.le_of_ble_eq_true rfl, Nat.le_of_ble_eq_true rfl⟩) hS3 (fun q _ h => zAin X hS3 q h) (zAin X hS3) (fun p13 u13 t13 H13 locs13 ht13 hv13 hw13 hB13 hz13 hk13 hS13 => ?_)
    have hZ13 := zBack X ht13 hB13
    subst hw13
    obtain ⟨g14, hf⟩ := gif hf
    cases hf
    exact W.zret hx hb hr (zbool g14) (fun t ht hW => ⟨⟨_, (), rfl, rfl, by rw [ht]; exact hZ13, va_K.moved hW.alike hK⟩, hS13.F ht⟩) hS13.2.2 d_5_17_16 hlk

noncomputable abbrev Q_Parser_itemSort (K : zK) (D : va_G) (ca : Nat → ClassId) (ad : Nat → Int → Nat → Nat) (L : List Nat) (r : Int) (F : zF) (B : zB) (A : Nat → Prop) : Array Value → State → Outcome → State → Prop := va_Qi (S := Unit) (fun p _ => p = iI r) (fun _ => zPo D ca ad lnC K.2 L F B A) A
noncomputable def f_Parser_itemSort_124 (K : zK) (s0 : Int) (F : zF) (B : zB) : zO := some (s0, F, B)
set_option maxHeartbeats 4000000 in
set_option maxRecDepth 100000 in
theorem b_Parser_itemSort_124 {D : va_G} {ca : Nat → ClassId} {ad : Nat → Int → Nat → Nat} {L : List Nat} {aS vS : Nat → Nat} {A : Nat → Prop} {p : Program} {l : Launch} {e : Env} {s : State} {m : MethodId} {args : Array Value} {below : List Frame} {meth : Method} {c : Code} {K : zK} {r : Int} {F9 : zF} {B9 : zB} (X : zX D ca L aS vS A p s m args meth c prog_5_method_21_code 2 (Option.some Jvm.ClassFile.FieldType.int) "StaveHouse$Parser") {s0 : Int} {F : zF} {B : zB} {H : Heap} {locs : List Loc} {ls : Array Slot} (hf : f_Parser_itemSort_124 K s0 F B = some (r, F9, B9)) (hZ : zH D ca ad lnC K.2 L F B A H) (hS : va_S A s.heap H locs) (hl : lv_has ls 2 []) : W p l e ({ frames := 1, cells := 0, slots := 0, locals := 23 } : Room) s m args below meth c H locs 0 0 (MQ below (Q_Parser_itemSort K D ca ad L r F9 B9 A) args s 0 0 A) (F0 m 124 ls [.int (iI s0)]) := by
  obtain ⟨hx, hb, hr, hml, hown, hts, hlk, hK, hA, hL, hX⟩ := id X
  replace hf : (some (s0, F, B)) = some (r, F9, B9) := hf
  cases hf
  exact W.iret hx hb hr (fun t ht hW => ⟨⟨_, (), rfl, rfl, by rw [ht]; exact hZ, va_K.moved hW.alike hK⟩, hS.F ht⟩) hS.2.2 d_5_21_124 hlk

noncomputable def f_Parser_itemSort_77 (K : zK)  (F : zF) (B : zB) : zO := some (0, F, B)
set_option maxHeartbeats 4000000 in
set_option maxRecDepth 100000 in
theorem b_Parser_itemSort_77 {D : va_G} {ca : Nat → ClassId} {ad : Nat → Int → Nat → Nat} {L : List Nat} {aS vS : Nat → Nat} {A : Nat → Prop} {p : Program} {l : Launch} {e : Env} {s : State} {m : MethodId} {args : Array Value} {below : List Frame} {meth : Method} {c : Code} {K : zK} {r : Int} {F9 : zF} {B9 : zB} (X : zX D ca L aS vS A p s m args meth c prog_5_method_21_code 2 (Option.some Jvm.ClassFile.FieldType.int) "StaveHouse$Parser")  {F : zF} {B : zB} {H : Heap} {locs : List Loc} {ls : Array Slot} (hf : f_Parser_itemSort_77 K  F B = some (r, F9, B9)) (hZ : zH D ca ad lnC K.2 L F B A H) (hS : va_S A s.heap H locs) (hl : lv_has ls 2 []) : W p l e ({ frames := 1, cells := 0, slots := 0, locals := 23 } : Room) s m args below meth c H locs 0 0 (MQ below (Q_Parser_itemSort K D ca ad L r F9 B9 A) args s 0 0 A) (F0 m 77 ls []) := by
  obtain ⟨hx, hb, hr, hml, hown, hts, hlk, hK, hA, hL, hX⟩ := id X
  replace hf : (some (0, F, B)) = some (r, F9, B9) := hf
  refine lv_iconst (v := iI 0) hx hb d_5_21_77 rfl ?_
  cases hf
  exact W.iret hx hb hr (fun t ht hW => ⟨⟨_, (), rfl, rfl, by rw [ht]; exact hZ, va_K.moved hW.alike hK⟩, hS.F ht⟩) hS.2.2 d_5_21_78 hlk

noncomputable def f_Parser_itemSort_53 (K : zK) (s0 : Int) (F : zF) (B : zB) : zO := some (s0, F, B)
set_option maxHeartbeats 4000000 in
set_option maxRecDepth 100000 in
theorem b_Parser_itemSort_53 {D : va_G} {ca : Nat → ClassId} {ad : Nat → Int → Nat → Nat} {L : List Nat} {aS vS : Nat → Nat} {A : Nat → Prop} {p : Program} {l : Launch} {e : Env} {s : State} {m : MethodId} {args : Array Value} {below : List Frame} {meth : Method} {c : Code} {K : zK} {r : Int} {F9 : zF} {B9 : zB} (X : zX D ca L aS vS A p s m args meth c prog_5_method_21_code 2 (Option.some Jvm.ClassFile.FieldType.int) "StaveHouse$Parser") {s0 : Int} {F : zF} {B : zB} {H : Heap} {locs : List Loc} {ls : Array Slot} (hf : f_Parser_itemSort_53 K s0 F B = some (r, F9, B9)) (hZ : zH D ca ad lnC K.2 L F B A H) (hS : va_S A s.heap H locs) (hl : lv_has ls 2 []) : W p l e ({ frames := 1, cells := 0, slots := 0, locals := 23 } : Room) s m args below meth c H locs 0 0 (MQ below (Q_Parser_itemSort K D ca ad L r F9 B9 A) args s 0 0 A) (F0 m 53 ls [.int (iI s0)]) := by
  obtain ⟨hx, hb, hr, hml, hown, hts, hlk, hK, hA, hL, hX⟩ := id X
  replace hf : (some (s0, F, B)) = some (r, F9, B9) := hf
  cases hf
  exact W.iret hx hb hr (fun t ht hW => ⟨⟨_, (), rfl, rfl, by rw [ht]; exact hZ, va_K.moved hW.alike hK⟩, hS.F ht⟩) hS.2.2 d_5_21_53 hlk

noncomputable def f_Parser_itemSort (K : zK) (l0 : Int) (F : zF) (B : zB) : zO := if 0 ≤ l0 ∧ l0 < K.2 3 then if 0 ≤ (F 3 l0 11) ∧ (F 3 l0 11) < K.2 10 then if r32 (F 10 (F 3 l0 11) 0) then (if (F 10 (F 3 l0 11) 0) = 4 then zbind (f_Parser_indexOf K 2 (F 10 (F 3 l0 11) 2) F B) (fun r21 F21 B21 => if r32 r21 then (if r21 = (-1) then if 0 ≤ (F21 3 l0 11) ∧ (F21 3 l0 11) < K.2 10 then if r64 (F21 10 (F21 3 l0 11) 2) then (if (zcmp (F21 10 (F21 3 l0 11) 2) 114) = 0 then f_Parser_itemSort_53 K 0 F21 B21 else f_Parser_itemSort_53 K (-1) F21 B21) else none else none else some (4 + r21, F21, B21)) else none) else (if (F 10 (F 3 l0 11) 0) = 2 then f_Parser_itemSort_77 K F B else zbind (f_Tokens_isSign K (F 3 l0 11) 60 F B) (fun r6 F6 B6 => if r32 r6 then (if r6 = 0 then if 0 ≤ (F6 3 l0 11) ∧ (F6 3 l0 11) < K.2 10 then zbind (f_Tokens_isSign K (F6 3 l0 11) 124 F6 B6) (fun r10 F10 B10 => if r32 r10 then (if r10 = 0 then if 0 ≤ (F10 3 l0 11) ∧ (F10 3 l0 11) < K.2 10 then zbind (f_Tokens_isSign K (F10 3 l0 11) 33 F10 B10) (fun r14 F14 B14 => if r32 r14 then (if r14 = 0 then if 0 ≤ (F14 3 l0 11) ∧ (F14 3 l0 11) < K.2 10 then zbind (f_Tokens_isSign K (F14 3 l0 11) 91 F14 B14) (fun r18 F18 B18 => if r32 r18 then (if r18 = 0 then f_Parser_itemSort_124 K (-1) F18 B18 else f_Parser_itemSort_124 K 3 F18 B18) else none) else none else some (2, F14, B14)) else none) else none else some (1, F10, B10)) else none) else none else f_Parser_itemSort_77 K F6 B6) else none))) else none else none else none
set_option maxHeartbeats 4000000 in
set_option maxRecDepth 100000 in
theorem c_Parser_itemSort {l : Launch} {D : va_G} {ca : Nat → ClassId} {ad : Nat → Int → Nat → Nat} {L : List Nat} {aS vS : Nat → Nat} {sz : Nat} {K : zK}  {l0 : Int} {F F9 : zF} {B B9 : zB} {r : Int} (hf : f_Parser_itemSort K l0 F B = some (r, F9, B9)) : Met l ({ cls := "StaveHouse$Parser", name := "itemSort", desc := "()I" } : Jvm.MethodName) (Cond.code ({ cls := "StaveHouse$Parser", name := "itemSort", desc := "()I" } : Jvm.MethodName) prog_5_method_21_code 2 (Option.some Jvm.ClassFile.FieldType.int) :: wAll) ({ frames := 1, cells := 0, slots := 0, locals := 23 } : Room) (va_Pc [.ref (ad 3 l0 0)] (zPre D ca ad lnC K.2 L aS vS F B sz)) (Q_Parser_itemSort K D ca ad L r F9 B9 (zA L sz)) 0 0 (zA L sz) := by
  refine zMet (Qc := Q_Parser_itemSort K D ca ad L r F9 B9) (lv := [(0, .ref (ad 3 l0 0))]) (by decide) (Nat.le_of_ble_eq_true rfl) rfl (fun A p e s m below meth c ls X hZ hS hl => ?_)
  obtain ⟨hx, hb, hr, hml, hown, hts, hlk, hK, hA, hL, hX⟩ := id X
  replace hf : (if 0 ≤ l0 ∧ l0 < K.2 3 then if 0 ≤ (F 3 l0 11) ∧ (F 3 l0 11) < K.2 10 then if r32 (F 10 (F 3 l0 11) 0) then (if (F 10 (F 3 l0 11) 0) = 4 then zbind (f_Parser_indexOf K 2 (F 10 (F 3 l0 11) 2) F B) (fun r21 F21 B21 => if r32 r21 then (if r21 = (-1) then if 0 ≤ (F21 3 l0 11) ∧ (F21 3 l0 11) < K.2 10 then if r64 (F21 10 (F21 3 l0 11) 2) then (if (zcmp (F21 10 (F21 3 l0 11) 2) 114) = 0 then f_Parser_itemSort_53 K 0 F21 B21 else f_Parser_itemSort_53 K (-1) F21 B21) else none else none else some (4 + r21, F21, B21)) else none) else (if (F 10 (F 3 l0 11) 0) = 2 then f_Parser_itemSort_77 K F B else zbind (f_Tokens_isSign K (F 3 l0 11) 60 F B) (fun r6 F6 B6 => if r32 r6 then (if r6 = 0 then if 0 ≤ (F6 3 l0 11) ∧ (F6 3 l0 11) < K.2 10 then zbind (f_Tokens_isSign K (F6 3 l0 11) 124 F6 B6) (fun r10 F10 B10 => if r32 r10 then (if r10 = 0 then if 0 ≤ (F10 3 l0 11) ∧ (F10 3 l0 11) < K.2 10 then zbind (f_Tokens_isSign K (F10 3 l0 11) 33 F10 B10) (fun r14 F14 B14 => if r32 r14 then (if r14 = 0 then if 0 ≤ (F14 3 l0 11) ∧ (F14 3 l0 11) < K.2 10 then zbind (f_Tokens_isSign K (F14 3 l0 11) 91 F14 B14) (fun r18 F18 B18 => if r32 r18 then (if r18 = 0 then f_Parser_itemSort_124 K (-1) F18 B18 else f_Parser_itemSort_124 K 3 F18 B18) else none) else none else some (2, F14, B14)) else none) else none else some (1, F10, B10)) else none) else none else f_Parser_itemSort_77 K F6 B6) else none))) else none else none else none) = some (r, F9, B9) := hf
  refine lv_aload_n hx hb d_5_21_0 rfl (lv_at hl 0 rfl) ?_
  obtain ⟨g1, hf⟩ := gif hf
  refine zget (ci := 3) (C := RX3) (T := TX3) (v := va_rf (zrf ad 10 (F 3 l0 11))) (k := 11) hx hb hts inW_3 hown hK hZ g1.1 g1.2 rfl (by decide) k_1_128 rfl d_5_21_1 ?_
  obtain ⟨g2, hf⟩ := gif hf
  refine zunrf g2.1 ?_
  refine zget (ci := 10) (C := RX10) (T := TX10) (v := .int (iI (F 10 (F 3 l0 11) 0))) (k := 0) hx hb hts inW_10 hown hK hZ g2.1 g2.2 rfl (by decide) k_1_72 rfl d_5_21_4 ?_
  refine lv_iconst (v := iI 4) hx hb d_5_21_7 rfl ?_
  obtain ⟨g3, hf⟩ := gif hf
  refine zne (tgt := 54) hx hb g3 (by decide) d_5_21_8 (by decide) (fun h4 => ?_) (fun h4 => ?_)
  · replace hf := gneg hf h4
    refine lv_aload_n hx hb d_5_21_54 rfl (lv_at hl 0 rfl) ?_
    refine zget (ci := 3) (C := RX3) (T := TX3) (v := va_rf (zrf ad 10 (F 3 l0 11))) (k := 11) hx hb hts inW_3 hown hK hZ g1.1 g1.2 rfl (by decide) k_1_128 rfl d_5_21_55 ?_
    refine zunrf g2.1 ?_
    refine zget (ci := 10) (C := RX10) (T := TX10) (v := .int (iI (F 10 (F 3 l0 11) 0))) (k := 0) hx hb hts inW_10 hown hK hZ g2.1 g2.2 rfl (by decide) k_1_72 rfl d_5_21_58 ?_
    refine lv_iconst (v := iI 2) hx hb d_5_21_61 rfl ?_
    refine zeq (tgt := 77) hx hb g3 (by decide) d_5_21_62 (by decide) (fun h5 => ?_) (fun h5 => ?_)
    · replace hf := gpos hf h5
      exact b_Parser_itemSort_77 X hf hZ hS (lv_sub hl [] rfl)
    · replace hf := gneg hf h5
      refine lv_aload_n hx hb d_5_21_65 rfl (lv_at hl 0 rfl) ?_
      refine zget (ci := 3) (C := RX3) (T := TX3) (v := va_rf (zrf ad 10 (F 3 l0 11))) (k := 11) hx hb hts inW_3 hown hK hZ g1.1 g1.2 rfl (by decide) k_1_128 rfl d_5_21_66 ?_
      refine lv_bipush (v := iI 60) hx hb d_5_21_69 (by decide) ?_
      refine W.eq (g2 := F0 m 71 ls [.int (iI 60), .ref (ad 10 (F 3 l0 11) 0)]) (by rw [zrf_pos (ad := ad) (t := 10) g2.1]; try rfl) ?_
      obtain ⟨r6, F6, B6, hc6, hf⟩ := gbind hf
      refine va_calli (va_runV (As := [.int (iI 60)]) (rest := []) ⟨hx, hb, hml, hown, hts⟩ (c_Tokens_isSign (l := l) hc6) (cwV 1 hts (gdV k_3_208 k_3_209 k_3_210 k_1_5 k_3_211) rfl rfl rfl (by decide +kernel) ⟨Nat.le_of_ble_eq_true rfl, Nat.le_of_ble_eq_true rfl⟩) (zPV X hZ hS (ci := 10) g2.1 g2.2 (r := (RX10, TX10, 9)) rfl [.int (iI 60)]) rfl rfl hl.1 rfl (lv_room (Nat.le_of_ble_eq_true rfl)) d_5_21_71 ⟨Nat.le_of_ble_eq_true rfl, Nat.le_of_ble_eq_true rfl⟩) hS (fun q _ h => zAin X hS q h) (zAin X hS) (fun p6 u6 t6 H6 locs6 ht6 hv6 hw6 hB6 hz6 hk6 hS6 => ?_)
      have hZ6 := zBack X ht6 hB6
      subst hw6
      obtain ⟨g7, hf⟩ := gif hf
      refine z0eq (tgt := 79) hx hb g7 d_5_21_74 (by decide) (fun h8 => ?_) (fun h8 => ?_)
      · replace hf := gpos hf h8
        refine lv_aload_n hx hb d_5_21_79 rfl (lv_at hl 0 rfl) ?_
        refine zget (ci := 3) (C := RX3) (T := TX3) (v := va_rf (zrf ad 10 (F6 3 l0 11))) (k := 11) hx hb hts inW_3 hown hK hZ6 g1.1 g1.2 rfl (by decide) k_1_128 rfl d_5_21_80 ?_
        refine lv_bipush (v := iI 124) hx hb d_5_21_83 (by decide) ?_
        obtain ⟨g9, hf⟩ := gif hf
        refine W.eq (g2 := F0 m 85 ls [.int (iI 124), .ref (ad 10 (F6 3 l0 11) 0)]) (by rw [zrf_pos (ad := ad) (t := 10) g9.1]; try rfl) ?_
        obtain ⟨r10, F10, B10, hc10, hf⟩ := gbind hf
        refine va_calli (va_runV (As := [.int (iI 124)]) (rest := []) ⟨hx, hb, hml, hown, hts⟩ (c_Tokens_isSign (l := l) hc10) (cwV 1 hts (gdV k_3_208 k_3_209 k_3_210 k_1_5 k_3_211) rfl rfl rfl (by decide +kernel) ⟨Nat.le_of_ble_eq_true rfl, Nat.le_of_ble_eq_true rfl⟩) (zPV X hZ6 hS6 (ci := 10) g9.1 g9.2 (r := (RX10, TX10, 9)) rfl [.int (iI 124)]) rfl rfl hl.1 rfl (lv_room (Nat.le_of_ble_eq_true rfl)) d_5_21_85 ⟨Nat.le_of_ble_eq_true rfl, Nat.le_of_ble_eq_true rfl⟩) hS6 (fun q _ h => zAin X hS6 q h) (zAin X hS6) (fun p10 u10 t10 H10 locs10 ht10 hv10 hw10 hB10 hz10 hk10 hS10 => ?_)
        have hZ10 := zBack X ht10 hB10
        subst hw10
        obtain ⟨g11, hf⟩ := gif hf
        refine z0eq (tgt := 93) hx hb g11 d_5_21_88 (by decide) (fun h12 => ?_) (fun h12 => ?_)
        · replace hf := gpos hf h12
          refine lv_aload_n hx hb d_5_21_93 rfl (lv_at hl 0 rfl) ?_
          refine zget (ci := 3) (C := RX3) (T := TX3) (v := va_rf (zrf ad 10 (F10 3 l0 11))) (k := 11) hx hb hts inW_3 hown hK hZ10 g1.1 g1.2 rfl (by decide) k_1_128 rfl d_5_21_94 ?_
          refine lv_bipush (v := iI 33) hx hb d_5_21_97 (by decide) ?_
          obtain ⟨g13, hf⟩ := gif hf
          refine W.eq (g2 := F0 m 99 ls [.int (iI 33), .ref (ad 10 (F10 3 l0 11) 0)]) (by rw [zrf_pos (ad := ad) (t := 10) g13.1]; try rfl) ?_
          obtain ⟨r14, F14, B14, hc14, hf⟩ := gbind hf
          refine va_calli (va_runV (As := [.int (iI 33)]) (rest := []) ⟨hx, hb, hml, hown, hts⟩ (c_Tokens_isSign (l := l) hc14) (cwV 1 hts (gdV k_3_208 k_3_209 k_3_210 k_1_5 k_3_211) rfl rfl rfl (by decide +kernel) ⟨Nat.le_of_ble_eq_true rfl, Nat.le_of_ble_eq_true rfl⟩) (zPV X hZ10 hS10 (ci := 10) g13.1 g13.2 (r := (RX10, TX10, 9)) rfl [.int (iI 33)]) rfl rfl hl.1 rfl (lv_room (Nat.le_of_ble_eq_true rfl)) d_5_21_99 ⟨Nat.le_of_ble_eq_true rfl, Nat.le_of_ble_eq_true rfl⟩) hS10 (fun q _ h => zAin X hS10 q h) (zAin X hS10) (fun p14 u14 t14 H14 locs14 ht14 hv14 hw14 hB14 hz14 hk14 hS14 => ?_)
          have hZ14 := zBack X ht14 hB14
          subst hw14
          obtain ⟨g15, hf⟩ := gif hf
          refine z0eq (tgt := 107) hx hb g15 d_5_21_102 (by decide) (fun h16 => ?_) (fun h16 => ?_)
          · replace hf := gpos hf h16
            refine lv_aload_n hx hb d_5_21_107 rfl (lv_at hl 0 rfl) ?_
            refine zget (ci := 3) (C := RX3) (T := TX3) (v := va_rf (zrf ad 10 (F14 3 l0 11))) (k := 11) hx hb hts inW_3 hown hK hZ14 g1.1 g1.2 rfl (by decide) k_1_128 rfl d_5_21_108 ?_
            refine lv_bipush (v := iI 91) hx hb d_5_21_111 (by decide) ?_
            obtain ⟨g17, hf⟩ := gif hf
            refine W.eq (g2 := F0 m 113 ls [.int (iI 91), .ref (ad 10 (F14 3 l0 11) 0)]) (by rw [zrf_pos (ad := ad) (t := 10) g17.1]; try rfl) ?_
            obtain ⟨r18, F18, B18, hc18, hf⟩ := gbind hf
            refine va_calli (va_runV (As := [.int (iI 91)]) (rest := []) ⟨hx, hb, hml, hown, hts⟩ (c_Tokens_isSign (l := l) hc18) (cwV 1 hts (gdV k_3_208 k_3_209 k_3_210 k_1_5 k_3_211) rfl rfl rfl (by decide +kernel) ⟨Nat.le_of_ble_eq_true rfl, Nat.le_of_ble_eq_true rfl⟩) (zPV X hZ14 hS14 (ci := 10) g17.1 g17.2 (r := (RX10, TX10, 9)) rfl [.int (iI 91)]) rfl rfl hl.1 rfl (lv_room (Nat.le_of_ble_eq_true rfl)) d_5_21_113 ⟨Nat.le_of_ble_eq_true rfl, Nat.le_of_ble_eq_true rfl⟩) hS14 (fun q _ h => zAin X hS14 q h) (zAin X hS14) (fun p18 u18 t18 H18 locs18 ht18 hv18 hw18 hB18 hz18 hk18 hS18 => ?_)
            have hZ18 := zBack X ht18 hB18
            subst hw18
            obtain ⟨g19, hf⟩ := gif hf
            refine z0eq (tgt := 123) hx hb g19 d_5_21_116 (by decide) (fun h20 => ?_) (fun h20 => ?_)
            · replace hf := gpos hf h20
              refine lv_iconst (v := iI (-1)) hx hb d_5_21_123 rfl ?_
              exact b_Parser_itemSort_124 X hf hZ18 hS18 (lv_sub hl [] rfl)
            · replace hf := gneg hf h20
              refine lv_iconst (v := iI 3) hx hb d_5_21_119 rfl ?_
              refine lv_goto (tgt := 124) hx hb d_5_21_120 (by decide) ?_
              exact b_Parser_itemSort_124 X hf hZ18 hS18 (lv_sub hl [] rfl)
          · replace hf := gneg hf h16
            refine lv_iconst (v := iI 2) hx hb d_5_21_105 rfl ?_
            cases hf
            exact W.iret hx hb hr (fun t ht hW => ⟨⟨_, (), rfl, rfl, by rw [ht]; exact hZ14, va_K.moved hW.alike hK⟩, hS14.F ht⟩) hS14.2.2 d_5_21_106 hlk
        · replace hf := gneg hf h12
          refine lv_iconst (v := iI 1) hx hb d_5_21_91 rfl ?_
          cases hf
          exact W.iret hx hb hr (fun t ht hW => ⟨⟨_, (), rfl, rfl, by rw [ht]; exact hZ10, va_K.moved hW.alike hK⟩, hS10.F ht⟩) hS10.2.2 d_5_21_92 hlk
      · replace hf := gneg hf h8
        exact b_Parser_itemSort_77 X hf hZ6 hS6 (lv_sub hl [] rfl)
  · replace hf := gpos hf h4
    refine va_gets hx hb (hX.2.2.2.2.2.2 2 _ rfl).1 hS hown (hts _ k_3_192) (fun _ h => h) d_5_21_11 ?_
    refine W.eq (g2 := F0 m 14 ls [.ref (vS (1000 + 2))]) rfl ?_
    refine lv_aload_n hx hb d_5_21_14 rfl (lv_at hl 0 rfl) ?_
    refine zget (ci := 3) (C := RX3) (T := TX3) (v := va_rf (zrf ad 10 (F 3 l0 11))) (k := 11) hx hb hts inW_3 hown hK hZ g1.1 g1.2 rfl (by decide) k_1_128 rfl d_5_21_15 ?_
    refine zunrf g2.1 ?_
    refine zget (ci := 10) (C := RX10) (T := TX10) (v := .long (lI (F 10 (F 3 l0 11) 2))) (k := 2) hx hb hts inW_10 hown hK hZ g2.1 g2.2 rfl (by decide) k_1_77 rfl d_5_21_18 ?_
    obtain ⟨r21, F21, B21, hc21, hf⟩ := gbind hf
    refine va_calli (va_runS (As := [.ref (vS (1000 + 2)), .long (lI (F 10 (F 3 l0 11) 2))]) (rest := []) ⟨hx, hb, hml, hown, hts⟩ (c_Parser_indexOf (l := l) hc21) (va_cwS 2 hts (gdS k_3_187 k_3_188 k_1_4 k_3_189) rfl rfl rfl (by decide +kernel) ⟨Nat.le_of_ble_eq_true rfl, Nat.le_of_ble_eq_true rfl⟩) (zPS X hZ hS [.ref (vS (1000 + 2)), .long (lI (F 10 (F 3 l0 11) 2))]) rfl rfl hl.1 rfl (lv_room (Nat.le_of_ble_eq_true rfl)) d_5_21_21 ⟨Nat.le_of_ble_eq_true rfl, Nat.le_of_ble_eq_true rfl⟩) hS (fun q _ h => zAin X hS q h) (zAin X hS) (fun p21 u21 t21 H21 locs21 ht21 hv21 hw21 hB21 hz21 hk21 hS21 => ?_)
    have hZ21 := zBack X ht21 hB21
    subst hw21
    refine lv_istore_n (lv' := [(1, .int (iI r21)), (0, .ref (ad 3 l0 0))]) hx hb d_5_21_24 rfl hl (by decide) rfl (fun ls hl => ?_)
    refine lv_iload_n hx hb d_5_21_25 rfl (lv_at hl 0 rfl) ?_
    refine lv_iconst (v := iI (-1)) hx hb d_5_21_26 rfl ?_
    obtain ⟨g22, hf⟩ := gif hf
    refine zeq (tgt := 34) hx hb g22 (by decide) d_5_21_27 (by decide) (fun h23 => ?_) (fun h23 => ?_)
    · replace hf := gpos hf h23
      refine lv_aload_n hx hb d_5_21_34 rfl (lv_at hl 1 rfl) ?_
      refine zget (ci := 3) (C := RX3) (T := TX3) (v := va_rf (zrf ad 10 (F21 3 l0 11))) (k := 11) hx hb hts inW_3 hown hK hZ21 g1.1 g1.2 rfl (by decide) k_1_128 rfl d_5_21_35 ?_
      obtain ⟨g24, hf⟩ := gif hf
      refine zunrf g24.1 ?_
      refine zget (ci := 10) (C := RX10) (T := TX10) (v := .long (lI (F21 10 (F21 3 l0 11) 2))) (k := 2) hx hb hts inW_10 hown hK hZ21 g24.1 g24.2 rfl (by decide) k_1_77 rfl d_5_21_38 ?_
      refine lv_ldc2 hx hb hown (hts _ k_3_228) d_5_21_41 ?_
      refine W.eq (g2 := F0 m 44 ls [.long (lI 114), .long (lI (F21 10 (F21 3 l0 11) 2))]) rfl ?_
      obtain ⟨g25, hf⟩ := gif hf
      refine zcmp_r hx hb g25 (by decide) d_5_21_44 ?_
      refine z0ne (tgt := 52) hx hb zcmp_32 d_5_21_45 (by decide) (fun h26 => ?_) (fun h26 => ?_)
      · replace hf := gneg hf h26
        refine lv_iconst (v := iI (-1)) hx hb d_5_21_52 rfl ?_
        exact b_Parser_itemSort_53 X hf hZ21 hS21 (lv_sub hl [] rfl)
      · replace hf := gpos hf h26
        refine lv_iconst (v := iI 0) hx hb d_5_21_48 rfl ?_
        refine lv_goto (tgt := 53) hx hb d_5_21_49 (by decide) ?_
        exact b_Parser_itemSort_53 X hf hZ21 hS21 (lv_sub hl [] rfl)
    · replace hf := gneg hf h23
      refine lv_iconst (v := iI 4) hx hb d_5_21_30 rfl ?_
      refine lv_iload_n hx hb d_5_21_31 rfl (lv_at hl 0 rfl) ?_
      refine zadd hx hb d_5_21_32 ?_
      cases hf
      exact W.iret hx hb hr (fun t ht hW => ⟨⟨_, (), rfl, rfl, by rw [ht]; exact hZ21, va_K.moved hW.alike hK⟩, hS21.F ht⟩) hS21.2.2 d_5_21_33 hlk

noncomputable abbrev Q_Parser_takePitch (K : zK) (D : va_G) (ca : Nat → ClassId) (ad : Nat → Int → Nat → Nat) (L : List Nat) (r : Int) (F : zF) (B : zB) (A : Nat → Prop) : Array Value → State → Outcome → State → Prop := va_Qv (S := Unit) (fun _ => True) (fun _ => zPo D ca ad lnC K.2 L F B A) A
noncomputable def f_Parser_takePitch_80 (K : zK) (l0 : Int) (F : zF) (B : zB) : zO := if 0 ≤ l0 ∧ l0 < K.2 3 then if 0 ≤ (F 3 l0 11) ∧ (F 3 l0 11) < K.2 10 then zbind (f_Tokens_advance K (F 3 l0 11) F B) (fun r14 F14 B14 => some (0, F14, B14)) else none else none
set_option maxHeartbeats 4000000 in
set_option maxRecDepth 100000 in
theorem b_Parser_takePitch_80 {D : va_G} {ca : Nat → ClassId} {ad : Nat → Int → Nat → Nat} {L : List Nat} {aS vS : Nat → Nat} {A : Nat → Prop} {p : Program} {l : Launch} {e : Env} {s : State} {m : MethodId} {args : Array Value} {below : List Frame} {meth : Method} {c : Code} {K : zK} {r : Int} {F9 : zF} {B9 : zB} (X : zX D ca L aS vS A p s m args meth c prog_5_method_24_code 2 (Option.none : Option Jvm.ClassFile.FieldType) "StaveHouse$Parser") {l0 : Int} {F : zF} {B : zB} {H : Heap} {locs : List Loc} {ls : Array Slot} (hf : f_Parser_takePitch_80 K l0 F B = some (r, F9, B9)) (hZ : zH D ca ad lnC K.2 L F B A H) (hS : va_S A s.heap H locs) (hl : lv_has ls 2 [(0, .ref (ad 3 l0 0))]) : W p l e ({ frames := 1, cells := 0, slots := 0, locals := 20 } : Room) s m args below meth c H locs 0 0 (MQ below (Q_Parser_takePitch K D ca ad L r F9 B9 A) args s 0 0 A) (F0 m 80 ls []) := by
  obtain ⟨hx, hb, hr, hml, hown, hts, hlk, hK, hA, hL, hX⟩ := id X
  replace hf : (if 0 ≤ l0 ∧ l0 < K.2 3 then if 0 ≤ (F 3 l0 11) ∧ (F 3 l0 11) < K.2 10 then zbind (f_Tokens_advance K (F 3 l0 11) F B) (fun r14 F14 B14 => some (0, F14, B14)) else none else none) = some (r, F9, B9) := hf
  refine lv_aload_n hx hb d_5_24_80 rfl (lv_at hl 0 rfl) ?_
  obtain ⟨g12, hf⟩ := gif hf
  refine zget (ci := 3) (C := RX3) (T := TX3) (v := va_rf (zrf ad 10 (F 3 l0 11))) (k := 11) hx hb hts inW_3 hown hK hZ g12.1 g12.2 rfl (by decide) k_1_128 rfl d_5_24_81 ?_
  obtain ⟨g13, hf⟩ := gif hf
  refine W.eq (g2 := F0 m 84 ls [.ref (ad 10 (F 3 l0 11) 0)]) (by rw [zrf_pos (ad := ad) (t := 10) g13.1]; try rfl) ?_
  obtain ⟨r14, F14, B14, hc14, hf⟩ := gbind hf
  refine va_callv (va_runV (As := []) (rest := []) ⟨hx, hb, hml, hown, hts⟩ (c_Tokens_advance (l := l) hc14) (cwV 0 hts (gdV k_3_180 k_3_152 k_3_153 k_1_5 k_3_154) rfl rfl rfl (by decide +kernel) ⟨Nat.le_of_ble_eq_true rfl, Nat.le_of_ble_eq_true rfl⟩) (zPV X hZ hS (ci := 10) g13.1 g13.2 (r := (RX10, TX10, 9)) rfl []) rfl rfl hl.1 rfl (lv_room (Nat.le_of_ble_eq_true rfl)) d_5_24_84 ⟨Nat.le_of_ble_eq_true rfl, Nat.le_of_ble_eq_true rfl⟩) hS (fun q _ h => zAin X hS q h) (zAin X hS) (fun u14 t14 H14 locs14 ht14 hv14 hw14 hB14 hz14 hk14 hS14 => ?_)
  have hZ14 := zBack X ht14 hB14
  cases hf
  exact W.vret hx hb hr (fun t ht hW => ⟨⟨(), rfl, trivial, by rw [ht]; exact hZ14, va_K.moved hW.alike hK⟩, hS14.F ht⟩) hS14.2.2 d_5_24_87 hlk

noncomputable def f_Parser_takePitch (K : zK) (l0 : Int) (l1 : Int) (F : zF) (B : zB) : zO := if 0 ≤ l0 ∧ l0 < K.2 3 then if r32 (F 3 l0 15) then (if 1500 ≤ (F 3 l0 15) then f_Parser_takePitch_80 K l0 F B else if 0 ≤ (F 3 l0 11) ∧ (F 3 l0 11) < K.2 10 then if 0 ≤ (F 3 l0 15) ∧ (F 3 l0 15) < 1500 then if 0 ≤ l1 ∧ l1 < 3000 then f_Parser_takePitch_80 K l0 (zup3 F 3 l0 15 ((F 3 l0 15) + 1)) (zup4 (zup4 (zup4 (zup4 B 3 l0 8 (F 3 l0 15) (F 10 (F 3 l0 11) 3)) 3 l0 9 (F 3 l0 15) (F 10 (F 3 l0 11) 4)) 3 l0 10 (F 3 l0 15) (F 10 (F 3 l0 11) 1)) 3 l0 6 l1 (((zup4 (zup4 (zup4 B 3 l0 8 (F 3 l0 15) (F 10 (F 3 l0 11) 3)) 3 l0 9 (F 3 l0 15) (F 10 (F 3 l0 11) 4)) 3 l0 10 (F 3 l0 15) (F 10 (F 3 l0 11) 1)) 3 l0 6 l1) + 1)) else none else none else none) else none else none
set_option maxHeartbeats 4000000 in
set_option maxRecDepth 100000 in
theorem c_Parser_takePitch {l : Launch} {D : va_G} {ca : Nat → ClassId} {ad : Nat → Int → Nat → Nat} {L : List Nat} {aS vS : Nat → Nat} {sz : Nat} {K : zK}  {l0 : Int} {l1 : Int} {F F9 : zF} {B B9 : zB} {r : Int} (hf : f_Parser_takePitch K l0 l1 F B = some (r, F9, B9)) : Met l ({ cls := "StaveHouse$Parser", name := "takePitch", desc := "(I)V" } : Jvm.MethodName) (Cond.code ({ cls := "StaveHouse$Parser", name := "takePitch", desc := "(I)V" } : Jvm.MethodName) prog_5_method_24_code 2 (Option.none : Option Jvm.ClassFile.FieldType) :: wAll) ({ frames := 1, cells := 0, slots := 0, locals := 20 } : Room) (va_Pc [.ref (ad 3 l0 0), .int (iI l1)] (zPre D ca ad lnC K.2 L aS vS F B sz)) (Q_Parser_takePitch K D ca ad L r F9 B9 (zA L sz)) 0 0 (zA L sz) := by
  refine zMet (Qc := Q_Parser_takePitch K D ca ad L r F9 B9) (lv := [(0, .ref (ad 3 l0 0)), (1, .int (iI l1))]) (by decide) (Nat.le_of_ble_eq_true rfl) rfl (fun A p e s m below meth c ls X hZ hS hl => ?_)
  obtain ⟨hx, hb, hr, hml, hown, hts, hlk, hK, hA, hL, hX⟩ := id X
  replace hf : (if 0 ≤ l0 ∧ l0 < K.2 3 then if r32 (F 3 l0 15) then (if 1500 ≤ (F 3 l0 15) then f_Parser_takePitch_80 K l0 F B else if 0 ≤ (F 3 l0 11) ∧ (F 3 l0 11) < K.2 10 then if 0 ≤ (F 3 l0 15) ∧ (F 3 l0 15) < 1500 then if 0 ≤ l1 ∧ l1 < 3000 then f_Parser_takePitch_80 K l0 (zup3 F 3 l0 15 ((F 3 l0 15) + 1)) (zup4 (zup4 (zup4 (zup4 B 3 l0 8 (F 3 l0 15) (F 10 (F 3 l0 11) 3)) 3 l0 9 (F 3 l0 15) (F 10 (F 3 l0 11) 4)) 3 l0 10 (F 3 l0 15) (F 10 (F 3 l0 11) 1)) 3 l0 6 l1 (((zup4 (zup4 (zup4 B 3 l0 8 (F 3 l0 15) (F 10 (F 3 l0 11) 3)) 3 l0 9 (F 3 l0 15) (F 10 (F 3 l0 11) 4)) 3 l0 10 (F 3 l0 15) (F 10 (F 3 l0 11) 1)) 3 l0 6 l1) + 1)) else none else none else none) else none else none) = some (r, F9, B9) := hf
  refine lv_aload_n hx hb d_5_24_0 rfl (lv_at hl 0 rfl) ?_
  obtain ⟨g1, hf⟩ := gif hf
  refine zget (ci := 3) (C := RX3) (T := TX3) (v := .int (iI (F 3 l0 15))) (k := 15) hx hb hts inW_3 hown hK hZ g1.1 g1.2 rfl (by decide) k_1_132 rfl d_5_24_1 ?_
  refine lv_aload_n hx hb d_5_24_4 rfl (lv_at hl 0 rfl) ?_
  refine zget (ci := 3) (C := RX3) (T := TX3) (v := .ref (ad 3 l0 (8 + 1))) (k := 8) hx hb hts inW_3 hown hK hZ g1.1 g1.2 rfl (by decide) k_1_122 rfl d_5_24_5 ?_
  refine zlen (t := 0) (x := 0) (ci := 3) (k := 8) hx hb hK rfl (fun _ _ => ⟨_, rfl⟩) hZ g1.1 g1.2 rfl d_5_24_8 ?_
  refine W.eq (g2 := F0 m 9 ls [.int (iI 1500), .int (iI (F 3 l0 15))]) rfl ?_
  obtain ⟨g2, hf⟩ := gif hf
  refine zge (tgt := 80) hx hb g2 (by decide) d_5_24_9 (by decide) (fun h3 => ?_) (fun h3 => ?_)
  · replace hf := gpos hf h3
    exact b_Parser_takePitch_80 X hf hZ hS (lv_sub hl [0] rfl)
  · replace hf := gneg hf h3
    refine lv_aload_n hx hb d_5_24_12 rfl (lv_at hl 0 rfl) ?_
    refine zget (ci := 3) (C := RX3) (T := TX3) (v := .ref (ad 3 l0 (8 + 1))) (k := 8) hx hb hts inW_3 hown hK hZ g1.1 g1.2 rfl (by decide) k_1_122 rfl d_5_24_13 ?_
    refine lv_aload_n hx hb d_5_24_16 rfl (lv_at hl 0 rfl) ?_
    refine zget (ci := 3) (C := RX3) (T := TX3) (v := .int (iI (F 3 l0 15))) (k := 15) hx hb hts inW_3 hown hK hZ g1.1 g1.2 rfl (by decide) k_1_132 rfl d_5_24_17 ?_
    refine lv_aload_n hx hb d_5_24_20 rfl (lv_at hl 0 rfl) ?_
    refine zget (ci := 3) (C := RX3) (T := TX3) (v := va_rf (zrf ad 10 (F 3 l0 11))) (k := 11) hx hb hts inW_3 hown hK hZ g1.1 g1.2 rfl (by decide) k_1_128 rfl d_5_24_21 ?_
    obtain ⟨g4, hf⟩ := gif hf
    refine zunrf g4.1 ?_
    refine zget (ci := 10) (C := RX10) (T := TX10) (v := .int (iI (F 10 (F 3 l0 11) 3))) (k := 3) hx hb hts inW_10 hown hK hZ g4.1 g4.2 rfl (by decide) k_1_79 rfl d_5_24_24 ?_
    obtain ⟨g5, hf⟩ := gif hf
    refine zast (ci := 3) (k := 8) hx hb hK rfl hZ hS g1.1 g1.2 rfl (Nat.le_of_ble_eq_true rfl) g5.1 g5.2 d_5_24_27 (fun H6 locs6 hZ6 hS6 => ?_)
    refine lv_aload_n hx hb d_5_24_28 rfl (lv_at hl 0 rfl) ?_
    refine zget (ci := 3) (C := RX3) (T := TX3) (v := .ref (ad 3 l0 (9 + 1))) (k := 9) hx hb hts inW_3 hown hK hZ6 g1.1 g1.2 rfl (by decide) k_1_124 rfl d_5_24_29 ?_
    refine lv_aload_n hx hb d_5_24_32 rfl (lv_at hl 0 rfl) ?_
    refine zget (ci := 3) (C := RX3) (T := TX3) (v := .int (iI (F 3 l0 15))) (k := 15) hx hb hts inW_3 hown hK hZ6 g1.1 g1.2 rfl (by decide) k_1_132 rfl d_5_24_33 ?_
    refine lv_aload_n hx hb d_5_24_36 rfl (lv_at hl 0 rfl) ?_
    refine zget (ci := 3) (C := RX3) (T := TX3) (v := va_rf (zrf ad 10 (F 3 l0 11))) (k := 11) hx hb hts inW_3 hown hK hZ6 g1.1 g1.2 rfl (by decide) k_1_128 rfl d_5_24_37 ?_
    refine zunrf g4.1 ?_
    refine zget (ci := 10) (C := RX10) (T := TX10) (v := .int (iI (F 10 (F 3 l0 11) 4))) (k := 4) hx hb hts inW_10 hown hK hZ6 g4.1 g4.2 rfl (by decide) k_1_81 rfl d_5_24_40 ?_
    refine zast (ci := 3) (k := 9) hx hb hK rfl hZ6 hS6 g1.1 g1.2 rfl (Nat.le_of_ble_eq_true rfl) g5.1 g5.2 d_5_24_43 (fun H7 locs7 hZ7 hS7 => ?_)
    refine lv_aload_n hx hb d_5_24_44 rfl (lv_at hl 0 rfl) ?_
    refine zget (ci := 3) (C := RX3) (T := TX3) (v := .ref (ad 3 l0 (10 + 1))) (k := 10) hx hb hts inW_3 hown hK hZ7 g1.1 g1.2 rfl (by decide) k_1_126 rfl d_5_24_45 ?_
    refine lv_aload_n hx hb d_5_24_48 rfl (lv_at hl 0 rfl) ?_
    refine zget (ci := 3) (C := RX3) (T := TX3) (v := .int (iI (F 3 l0 15))) (k := 15) hx hb hts inW_3 hown hK hZ7 g1.1 g1.2 rfl (by decide) k_1_132 rfl d_5_24_49 ?_
    refine lv_aload_n hx hb d_5_24_52 rfl (lv_at hl 0 rfl) ?_
    refine zget (ci := 3) (C := RX3) (T := TX3) (v := va_rf (zrf ad 10 (F 3 l0 11))) (k := 11) hx hb hts inW_3 hown hK hZ7 g1.1 g1.2 rfl (by decide) k_1_128 rfl d_5_24_53 ?_
    refine zunrf g4.1 ?_
    refine zget (ci := 10) (C := RX10) (T := TX10) (v := .int (iI (F 10 (F 3 l0 11) 1))) (k := 1) hx hb hts inW_10 hown hK hZ7 g4.1 g4.2 rfl (by decide) k_1_75 rfl d_5_24_56 ?_
    refine zast (ci := 3) (k := 10) hx hb hK rfl hZ7 hS7 g1.1 g1.2 rfl (Nat.le_of_ble_eq_true rfl) g5.1 g5.2 d_5_24_59 (fun H8 locs8 hZ8 hS8 => ?_)
    refine lv_aload_n hx hb d_5_24_60 rfl (lv_at hl 0 rfl) ?_
    refine lv_dup hx hb d_5_24_61 rfl ?_
    refine zget (ci := 3) (C := RX3) (T := TX3) (v := .int (iI (F 3 l0 15))) (k := 15) hx hb hts inW_3 hown hK hZ8 g1.1 g1.2 rfl (by decide) k_1_132 rfl d_5_24_62 ?_
    refine lv_iconst (v := iI 1) hx hb d_5_24_65 rfl ?_
    refine zadd hx hb d_5_24_66 ?_
    refine zput (ci := 3) (C := RX3) (T := TX3) (k := 15) (v := ((F 3 l0 15) + 1)) (w := .int (iI ((F 3 l0 15) + 1))) hx hb hts inW_3 tyX3 tyX3_ok nmX3 hown hK hZ8 hS8 g1.1 g1.2 rfl (by decide) k_1_132 rfl (fun G h => congrArg (fun q => Value.int (iI q)) h) rfl rfl (zno (by decide)) d_5_24_67 (fun H9 locs9 hZ9 hS9 => ?_)
    refine lv_aload_n hx hb d_5_24_70 rfl (lv_at hl 0 rfl) ?_
    refine zget (ci := 3) (C := RX3) (T := TX3) (v := .ref (ad 3 l0 (6 + 1))) (k := 6) hx hb hts inW_3 hown hK hZ9 g1.1 g1.2 rfl (by decide) k_1_118 rfl d_5_24_71 ?_
    refine lv_iload_n hx hb d_5_24_74 rfl (lv_at hl 1 rfl) ?_
    refine lv_dup2_11 hx hb d_5_24_75 rfl rfl ?_
    obtain ⟨g10, hf⟩ := gif hf
    refine zald (ci := 3) (k := 6) hx hb hK rfl hZ9 g1.1 g1.2 rfl (Nat.le_of_ble_eq_true rfl) g10.1 g10.2 d_5_24_76 ?_
    refine lv_iconst (v := iI 1) hx hb d_5_24_77 rfl ?_
    refine zadd hx hb d_5_24_78 ?_
    refine zast (ci := 3) (k := 6) hx hb hK rfl hZ9 hS9 g1.1 g1.2 rfl (Nat.le_of_ble_eq_true rfl) g10.1 g10.2 d_5_24_79 (fun H11 locs11 hZ11 hS11 => ?_)
    exact b_Parser_takePitch_80 X hf hZ11 hS11 (lv_sub hl [0] rfl)

noncomputable abbrev Q_Long_bitCount (K : zK) (D : va_G) (ca : Nat → ClassId) (ad : Nat → Int → Nat → Nat) (L : List Nat) (r : Int) (F : zF) (B : zB) (A : Nat → Prop) : Array Value → State → Outcome → State → Prop := va_Qi (S := Unit) (fun p _ => p = iI r) (fun _ => zPo D ca ad lnC K.2 L F B A) A
