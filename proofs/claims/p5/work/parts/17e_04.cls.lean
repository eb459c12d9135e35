set_option maxHeartbeats 4000000 in
set_option maxRecDepth 100000 in
theorem b_S_end_29 {D : va_G} {ca : Nat → ClassId} {ad : Nat → Int → Nat → Nat} {L : List Nat} {aS vS : Nat → Nat} {A : Nat → Prop} {p : Program} {l : Launch} {e : Env} {s : State} {m : MethodId} {args : Array Value} {below : List Frame} {meth : Method} {c : Code} {K : zK} {r : Int} {F9 : zF} {B9 : zB} (X : zX D ca L aS vS A p s m args meth c prog_1_method_4_code 3 (Option.some Jvm.ClassFile.FieldType.int) "StaveHouse") : ∀ {n : Nat} {l2 : Int} {l0 : Int} {l1 : Int} {F : zF} {B : zB} {H : Heap} {locs : List Loc} {ls : Array Slot}, f_S_end_29 K n l2 l0 l1 F B = some (r, F9, B9) → zH D ca ad lnC K.2 L F B A H → va_S A s.heap H locs → lv_has ls 3 [(2, .int (iI l2)), (0, .ref (ad 12 l0 0)), (1, .int (iI l1))] → W p l e ({ frames := 1, cells := 0, slots := 0, locals := 21 } : Room) s m args below meth c H locs 0 0 (MQ below (Q_S_end K D ca ad L r F9 B9 A) args s 0 0 A) (F0 m 29 ls []) := by
  obtain ⟨hx, hb, hr, hml, hown, hts, hlk, hK, hA, hL, hX⟩ := id X
  intro n
  induction n with
  | zero =>
    intros
    rename_i hf _ _ _
    cases hf
  | succ n ih =>
    intro l2 l0 l1 F B H locs ls hf hZ hS hl
    replace hf : (if r32 l2 then if r32 l1 then (if l1 ≤ l2 then if 0 ≤ l0 ∧ l0 < K.2 12 then if 0 ≤ (F 12 l0 0) ∧ (F 12 l0 0) < K.2 0 then some (F 0 (F 12 l0 0) 1, F, B) else none else none else if 0 ≤ l0 ∧ l0 < K.2 12 then if 0 ≤ l2 ∧ l2 < 20 then if 0 ≤ (F 12 l0 0) ∧ (F 12 l0 0) < K.2 0 then zbind (f_ByteRow_put K (F 12 l0 0) (B 12 l0 1 l2) F B) (fun r16 F16 B16 => f_S_end_29 K n (l2 + 1) l0 l1 F16 B16) else none else none else none) else none else none) = some (r, F9, B9) := hf
    refine lv_iload_n hx hb d_1_4_29 rfl (lv_at hl 0 rfl) ?_
    refine lv_iload_n hx hb d_1_4_30 rfl (lv_at hl 2 rfl) ?_
    obtain ⟨g8, hf⟩ := gif hf
    obtain ⟨g9, hf⟩ := gif hf
    refine zge (tgt := 53) hx hb g8 g9 d_1_4_31 (by decide) (fun h10 => ?_) (fun h10 => ?_)
    · replace hf := gpos hf h10
      refine lv_aload_n hx hb d_1_4_53 rfl (lv_at hl 1 rfl) ?_
      obtain ⟨g11, hf⟩ := gif hf
      refine zget (ci := 12) (C := RX12) (T := TX12) (v := va_rf (zrf ad 0 (F 12 l0 0))) (k := 0) hx hb hts inW_12 hown hK hZ g11.1 g11.2 rfl (by decide) k_2_127 rfl d_1_4_54 ?_
      obtain ⟨g12, hf⟩ := gif hf
      refine zunrf g12.1 ?_
      refine zget (ci := 0) (C := RX0) (T := TX0) (v := .int (iI (F 0 (F 12 l0 0) 1))) (k := 1) hx hb hts inW_0 hown hK hZ g12.1 g12.2 rfl (by decide) k_1_46 rfl d_1_4_57 ?_
      cases hf
      exact W.iret hx hb hr (fun t ht hW => ⟨⟨_, (), rfl, rfl, by rw [ht]; exact hZ, va_K.moved hW.alike hK⟩, hS.F ht⟩) hS.2.2 d_1_4_60 hlk
    · replace hf := gneg hf h10
      refine lv_aload_n hx hb d_1_4_34 rfl (lv_at hl 1 rfl) ?_
      obtain ⟨g13, hf⟩ := gif hf
      refine zget (ci := 12) (C := RX12) (T := TX12) (v := va_rf (zrf ad 0 (F 12 l0 0))) (k := 0) hx hb hts inW_12 hown hK hZ g13.1 g13.2 rfl (by decide) k_2_127 rfl d_1_4_35 ?_
      refine lv_aload_n hx hb d_1_4_38 rfl (lv_at hl 1 rfl) ?_
      refine zget (ci := 12) (C := RX12) (T := TX12) (v := .ref (ad 12 l0 (1 + 1))) (k := 1) hx hb hts inW_12 hown hK hZ g13.1 g13.2 rfl (by decide) k_2_128 rfl d_1_4_39 ?_
      refine lv_iload_n hx hb d_1_4_42 rfl (lv_at hl 0 rfl) ?_
      obtain ⟨g14, hf⟩ := gif hf
      refine zald (ci := 12) (k := 1) hx hb hK rfl hZ g13.1 g13.2 rfl (Nat.le_of_ble_eq_true rfl) g14.1 g14.2 d_1_4_43 ?_
      obtain ⟨g15, hf⟩ := gif hf
      refine W.eq (g2 := F0 m 44 ls [.int (iI (B 12 l0 1 l2)), .ref (ad 0 (F 12 l0 0) 0)]) (by rw [zrf_pos (ad := ad) (t := 0) g15.1]; try rfl) ?_
      obtain ⟨r16, F16, B16, hc16, hf⟩ := gbind hf
      refine va_callv (va_runV (As := [.int (iI (B 12 l0 1 l2))]) (rest := []) ⟨hx, hb, hml, hown, hts⟩ (c_ByteRow_put (l := l) hc16) (cwV 1 hts (gdV k_2_170 k_2_171 k_2_172 k_1_2 k_2_173) rfl rfl rfl (by decide +kernel) ⟨Nat.le_of_ble_eq_true rfl, Nat.le_of_ble_eq_true rfl⟩) (zPV X hZ hS (ci := 0) g15.1 g15.2 (r := (RX0, TX0, 3)) rfl [.int (iI (B 12 l0 1 l2))]) rfl rfl hl.1 rfl (lv_room (Nat.le_of_ble_eq_true rfl)) d_1_4_44 ⟨Nat.le_of_ble_eq_true rfl, Nat.le_of_ble_eq_true rfl⟩) hS (fun q _ h => zAin X hS q h) (zAin X hS) (fun u16 t16 H16 locs16 ht16 hv16 hw16 hB16 hz16 hk16 hS16 => ?_)
      have hZ16 := zBack X ht16 hB16
      refine lv_iinc (v := iI (l2 + 1)) (lv' := [(2, .int (iI (l2 + 1))), (0, .ref (ad 12 l0 0)), (1, .int (iI l1))]) hx hb d_1_4_47 hl (k := 0) rfl (iI_add _ 1) (by decide) rfl (fun ls hl => ?_)
      refine lv_goto (tgt := 29) hx hb d_1_4_50 (by decide) ?_
      exact ih hf hZ16 hS16 (lv_sub hl [0, 1, 2] rfl)

noncomputable def f_S_end_25 (K : zK)  (F : zF) (B : zB) : zO := some ((-1), F, B)
set_option maxHeartbeats 4000000 in
set_option maxRecDepth 100000 in
theorem b_S_end_25 {D : va_G} {ca : Nat → ClassId} {ad : Nat → Int → Nat → Nat} {L : List Nat} {aS vS : Nat → Nat} {A : Nat → Prop} {p : Program} {l : Launch} {e : Env} {s : State} {m : MethodId} {args : Array Value} {below : List Frame} {meth : Method} {c : Code} {K : zK} {r : Int} {F9 : zF} {B9 : zB} (X : zX D ca L aS vS A p s m args meth c prog_1_method_4_code 3 (Option.some Jvm.ClassFile.FieldType.int) "StaveHouse")  {F : zF} {B : zB} {H : Heap} {locs : List Loc} {ls : Array Slot} (hf : f_S_end_25 K  F B = some (r, F9, B9)) (hZ : zH D ca ad lnC K.2 L F B A H) (hS : va_S A s.heap H locs) (hl : lv_has ls 3 []) : W p l e ({ frames := 1, cells := 0, slots := 0, locals := 21 } : Room) s m args below meth c H locs 0 0 (MQ below (Q_S_end K D ca ad L r F9 B9 A) args s 0 0 A) (F0 m 25 ls []) := by
  obtain ⟨hx, hb, hr, hml, hown, hts, hlk, hK, hA, hL, hX⟩ := id X
  replace hf : (some ((-1), F, B)) = some (r, F9, B9) := hf
  refine lv_iconst (v := iI (-1)) hx hb d_1_4_25 rfl ?_
  cases hf
  exact W.iret hx hb hr (fun t ht hW => ⟨⟨_, (), rfl, rfl, by rw [ht]; exact hZ, va_K.moved hW.alike hK⟩, hS.F ht⟩) hS.2.2 d_1_4_26 hlk

noncomputable def f_S_end (K : zK) (l0 : Int) (l1 : Int) (F : zF) (B : zB) : zO := if r32 l1 then (if l1 < 0 then f_S_end_25 K F B else (if 20 < l1 then f_S_end_25 K F B else if 0 ≤ l0 ∧ l0 < K.2 12 then if 0 ≤ (F 12 l0 0) ∧ (F 12 l0 0) < K.2 0 then if r32 ((F 0 (F 12 l0 0) 1) + l1) then (if ((F 0 (F 12 l0 0) 1) + l1) ≤ 3000 then f_S_end_29 K K.1 0 l0 l1 F B else f_S_end_25 K F B) else none else none else none)) else none
set_option maxHeartbeats 4000000 in
set_option maxRecDepth 100000 in
theorem c_S_end {l : Launch} {D : va_G} {ca : Nat → ClassId} {ad : Nat → Int → Nat → Nat} {L : List Nat} {aS vS : Nat → Nat} {sz : Nat} {K : zK}  {l0 : Int} {l1 : Int} {F F9 : zF} {B B9 : zB} {r : Int} (hf : f_S_end K l0 l1 F B = some (r, F9, B9)) : Met l ({ cls := "StaveHouse", name := "end", desc := "(I)I" } : Jvm.MethodName) (Cond.code ({ cls := "StaveHouse", name := "end", desc := "(I)I" } : Jvm.MethodName) prog_1_method_4_code 3 (Option.some Jvm.ClassFile.FieldType.int) :: wAll) ({ frames := 1, cells := 0, slots := 0, locals := 21 } : Room) (va_Pc [.ref (ad 12 l0 0), .int (iI l1)] (zPre D ca ad lnC K.2 L aS vS F B sz)) (Q_S_end K D ca ad L r F9 B9 (zA L sz)) 0 0 (zA L sz) := by
  refine zMet (Qc := Q_S_end K D ca ad L r F9 B9) (lv := [(0, .ref (ad 12 l0 0)), (1, .int (iI l1))]) (by decide) (Nat.le_of_ble_eq_true rfl) rfl (fun A p e s m below meth c ls X hZ hS hl => ?_)
  obtain ⟨hx, hb, hr, hml, hown, hts, hlk, hK, hA, hL, hX⟩ := id X
  replace hf : (if r32 l1 then (if l1 < 0 then f_S_end_25 K F B else (if 20 < l1 then f_S_end_25 K F B else if 0 ≤ l0 ∧ l0 < K.2 12 then if 0 ≤ (F 12 l0 0) ∧ (F 12 l0 0) < K.2 0 then if r32 ((F 0 (F 12 l0 0) 1) + l1) then (if ((F 0 (F 12 l0 0) 1) + l1) ≤ 3000 then f_S_end_29 K K.1 0 l0 l1 F B else f_S_end_25 K F B) else none else none else none)) else none) = some (r, F9, B9) := hf
  refine lv_iload_n hx hb d_1_4_0 rfl (lv_at hl 1 rfl) ?_
  obtain ⟨g1, hf⟩ := gif hf
  refine z0lt (tgt := 25) hx hb g1 d_1_4_1 (by decide) (fun h2 => ?_) (fun h2 => ?_)
  · replace hf := gpos hf h2
    exact b_S_end_25 X hf hZ hS (lv_sub hl [] rfl)
  · replace hf := gneg hf h2
    refine lv_iload_n hx hb d_1_4_4 rfl (lv_at hl 1 rfl) ?_
    refine lv_bipush (v := iI 20) hx hb d_1_4_5 (by decide) ?_
    refine zgt (tgt := 25) hx hb g1 (by decide) d_1_4_7 (by decide) (fun h3 => ?_) (fun h3 => ?_)
    · replace hf := gpos hf h3
      exact b_S_end_25 X hf hZ hS (lv_sub hl [] rfl)
    · replace hf := gneg hf h3
      refine lv_aload_n hx hb d_1_4_10 rfl (lv_at hl 0 rfl) ?_
      obtain ⟨g4, hf⟩ := gif hf
      refine zget (ci := 12) (C := RX12) (T := TX12) (v := va_rf (zrf ad 0 (F 12 l0 0))) (k := 0) hx hb hts inW_12 hown hK hZ g4.1 g4.2 rfl (by decide) k_2_127 rfl d_1_4_11 ?_
      obtain ⟨g5, hf⟩ := gif hf
      refine zunrf g5.1 ?_
      refine zget (ci := 0) (C := RX0) (T := TX0) (v := .int (iI (F 0 (F 12 l0 0) 1))) (k := 1) hx hb hts inW_0 hown hK hZ g5.1 g5.2 rfl (by decide) k_1_46 rfl d_1_4_14 ?_
      refine lv_iload_n hx hb d_1_4_17 rfl (lv_at hl 1 rfl) ?_
      refine zadd hx hb d_1_4_18 ?_
      refine lv_sipush (v := iI 3000) hx hb d_1_4_19 (by decide) ?_
      obtain ⟨g6, hf⟩ := gif hf
      refine zle (tgt := 27) hx hb g6 (by decide) d_1_4_22 (by decide) (fun h7 => ?_) (fun h7 => ?_)
      · replace hf := gpos hf h7
        refine lv_iconst (v := iI 0) hx hb d_1_4_27 rfl ?_
        refine lv_istore_n (lv' := [(2, .int (iI 0)), (0, .ref (ad 12 l0 0)), (1, .int (iI l1))]) hx hb d_1_4_28 rfl hl (by decide) rfl (fun ls hl => ?_)
        exact b_S_end_29 X hf hZ hS (lv_sub hl [0, 1, 2] rfl)
      · replace hf := gneg hf h7
        exact b_S_end_25 X hf hZ hS (lv_sub hl [] rfl)

noncomputable abbrev Q_Tokens_isRunByte (K : zK) (D : va_G) (ca : Nat → ClassId) (ad : Nat → Int → Nat → Nat) (L : List Nat) (r : Int) (F : zF) (B : zB) (A : Nat → Prop) : Array Value → State → Outcome → State → Prop := va_Qi (S := Unit) (fun p _ => p = iI r) (fun _ => zPo D ca ad lnC K.2 L F B A) A
noncomputable def f_Tokens_isRunByte_25 (K : zK) (s0 : Int) (F : zF) (B : zB) : zO := if (s0 = 0 ∨ s0 = 1) then some (s0, F, B) else none
set_option maxHeartbeats 4000000 in
set_option maxRecDepth 100000 in
theorem b_Tokens_isRunByte_25 {D : va_G} {ca : Nat → ClassId} {ad : Nat → Int → Nat → Nat} {L : List Nat} {aS vS : Nat → Nat} {A : Nat → Prop} {p : Program} {l : Launch} {e : Env} {s : State} {m : MethodId} {args : Array Value} {below : List Frame} {meth : Method} {c : Code} {K : zK} {r : Int} {F9 : zF} {B9 : zB} (X : zX D ca L aS vS A p s m args meth c prog_12_method_14_code 1 (Option.some Jvm.ClassFile.FieldType.boolean) "StaveHouse$Tokens") {s0 : Int} {F : zF} {B : zB} {H : Heap} {locs : List Loc} {ls : Array Slot} (hf : f_Tokens_isRunByte_25 K s0 F B = some (r, F9, B9)) (hZ : zH D ca ad lnC K.2 L F B A H) (hS : va_S A s.heap H locs) (hl : lv_has ls 1 []) : W p l e ({ frames := 1, cells := 0, slots := 0, locals := 20 } : Room) s m args below meth c H locs 0 0 (MQ below (Q_Tokens_isRunByte K D ca ad L r F9 B9 A) args s 0 0 A) (F0 m 25 ls [.int (iI s0)]) := by
  obtain ⟨hx, hb, hr, hml, hown, hts, hlk, hK, hA, hL, hX⟩ := id X
  replace hf : (if (s0 = 0 ∨ s0 = 1) then some (s0, F, B) else none) = some (r, F9, B9) := hf
  obtain ⟨g9, hf⟩ := gif hf
  cases hf
  exact W.zret hx hb hr (zbool g9) (fun t ht hW => ⟨⟨_, (), rfl, rfl, by rw [ht]; exact hZ, va_K.moved hW.alike hK⟩, hS.F ht⟩) hS.2.2 d_12_14_25 hlk

noncomputable def f_Tokens_isRunByte_20 (K : zK)  (F : zF) (B : zB) : zO := f_Tokens_isRunByte_25 K 1 F B
set_option maxHeartbeats 4000000 in
set_option maxRecDepth 100000 in
theorem b_Tokens_isRunByte_20 {D : va_G} {ca : Nat → ClassId} {ad : Nat → Int → Nat → Nat} {L : List Nat} {aS vS : Nat → Nat} {A : Nat → Prop} {p : Program} {l : Launch} {e : Env} {s : State} {m : MethodId} {args : Array Value} {below : List Frame} {meth : Method} {c : Code} {K : zK} {r : Int} {F9 : zF} {B9 : zB} (X : zX D ca L aS vS A p s m args meth c prog_12_method_14_code 1 (Option.some Jvm.ClassFile.FieldType.boolean) "StaveHouse$Tokens")  {F : zF} {B : zB} {H : Heap} {locs : List Loc} {ls : Array Slot} (hf : f_Tokens_isRunByte_20 K  F B = some (r, F9, B9)) (hZ : zH D ca ad lnC K.2 L F B A H) (hS : va_S A s.heap H locs) (hl : lv_has ls 1 []) : W p l e ({ frames := 1, cells := 0, slots := 0, locals := 20 } : Room) s m args below meth c H locs 0 0 (MQ below (Q_Tokens_isRunByte K D ca ad L r F9 B9 A) args s 0 0 A) (F0 m 20 ls []) := by
  obtain ⟨hx, hb, hr, hml, hown, hts, hlk, hK, hA, hL, hX⟩ := id X
  replace hf : (f_Tokens_isRunByte_25 K 1 F B) = some (r, F9, B9) := hf
  refine lv_iconst (v := iI 1) hx hb d_12_14_20 rfl ?_
  refine lv_goto (tgt := 25) hx hb d_12_14_21 (by decide) ?_
  exact b_Tokens_isRunByte_25 X hf hZ hS (lv_sub hl [] rfl)

noncomputable def f_Tokens_isRunByte (K : zK) (l0 : Int) (F : zF) (B : zB) : zO := zbind (f_Tokens_isLetter K l0 F B) (fun r1 F1 B1 => if r32 r1 then (if r1 = 0 then zbind (f_Tokens_isDigit K l0 F1 B1) (fun r4 F4 B4 => if r32 r4 then (if r4 = 0 then if r32 l0 then (if l0 = 35 then f_Tokens_isRunByte_20 K F4 B4 else f_Tokens_isRunByte_25 K 0 F4 B4) else none else f_Tokens_isRunByte_20 K F4 B4) else none) else f_Tokens_isRunByte_20 K F1 B1) else none)
set_option maxHeartbeats 4000000 in
set_option maxRecDepth 100000 in
theorem c_Tokens_isRunByte {l : Launch} {D : va_G} {ca : Nat → ClassId} {ad : Nat → Int → Nat → Nat} {L : List Nat} {aS vS : Nat → Nat} {sz : Nat} {K : zK}  {l0 : Int} {F F9 : zF} {B B9 : zB} {r : Int} (hf : f_Tokens_isRunByte K l0 F B = some (r, F9, B9)) : Met l ({ cls := "StaveHouse$Tokens", name := "isRunByte", desc := "(I)Z" } : Jvm.MethodName) (Cond.code ({ cls := "StaveHouse$Tokens", name := "isRunByte", desc := "(I)Z" } : Jvm.MethodName) prog_12_method_14_code 1 (Option.some Jvm.ClassFile.FieldType.boolean) :: wAll) ({ frames := 1, cells := 0, slots := 0, locals := 20 } : Room) (va_Pc [.int (iI l0)] (zPre D ca ad lnC K.2 L aS vS F B sz)) (Q_Tokens_isRunByte K D ca ad L r F9 B9 (zA L sz)) 0 0 (zA L sz) := by
  refine zMet (Qc := Q_Tokens_isRunByte K D ca ad L r F9 B9) (lv := [(0, .int (iI l0))]) (by decide) (Nat.le_of_ble_eq_true rfl) rfl (fun A p e s m below meth c ls X hZ hS hl => ?_)
  obtain ⟨hx, hb, hr, hml, hown, hts, hlk, hK, hA, hL, hX⟩ := id X
  replace hf : (zbind (f_Tokens_isLetter K l0 F B) (fun r1 F1 B1 => if r32 r1 then (if r1 = 0 then zbind (f_Tokens_isDigit K l0 F1 B1) (fun r4 F4 B4 => if r32 r4 then (if r4 = 0 then if r32 l0 then (if l0 = 35 then f_Tokens_isRunByte_20 K F4 B4 else f_Tokens_isRunByte_25 K 0 F4 B4) else none else f_Tokens_isRunByte_20 K F4 B4) else none) else f_Tokens_isRunByte_20 K F1 B1) else none)) = some (r, F9, B9) := hf
  refine lv_iload_n hx hb d_12_14_0 rfl (lv_at hl 0 rfl) ?_
  obtain ⟨r1, F1, B1, hc1, hf⟩ := gbind hf
  refine va_calli (va_runS (As := [.int (iI l0)]) (rest := []) ⟨hx, hb, hml, hown, hts⟩ (c_Tokens_isLetter (l := l) hc1) (va_cwS 1 hts (gdS k_3_44 k_3_45 k_1_5 k_3_46) rfl rfl rfl (by decide +kernel) ⟨Nat.le_of_ble_eq_true rfl, Nat.le_of_ble_eq_true rfl⟩) (zPS X hZ hS [.int (iI l0)]) rfl rfl hl.1 rfl (lv_room (Nat.le_of_ble_eq_true rfl)) d_12_14_1 ⟨Nat.le_of_ble_eq_true rfl, Nat.le_of_ble_eq_true rfl⟩) hS (fun q _ h => zAin X hS q h) (zAin X hS) (fun p1 u1 t1 H1 locs1 ht1 hv1 hw1 hB1 hz1 hk1 hS1 => ?_)
  have hZ1 := zBack X ht1 hB1
  subst hw1
  obtain ⟨g2, hf⟩ := gif hf
  refine z0ne (tgt := 20) hx hb g2 d_12_14_4 (by decide) (fun h3 => ?_) (fun h3 => ?_)
  · replace hf := gneg hf h3
    exact b_Tokens_isRunByte_20 X hf hZ1 hS1 (lv_sub hl [] rfl)
  · replace hf := gpos hf h3
    refine lv_iload_n hx hb d_12_14_7 rfl (lv_at hl 0 rfl) ?_
    obtain ⟨r4, F4, B4, hc4, hf⟩ := gbind hf
    refine va_calli (va_runS (As := [.int (iI l0)]) (rest := []) ⟨hx, hb, hml, hown, hts⟩ (c_Tokens_isDigit (l := l) hc4) (va_cwS 1 hts (gdS k_3_47 k_3_48 k_1_5 k_3_49) rfl rfl rfl (by decide +kernel) ⟨Nat.le_of_ble_eq_true rfl, Nat.le_of_ble_eq_true rfl⟩) (zPS X hZ1 hS1 [.int (iI l0)]) rfl rfl hl.1 rfl (lv_room (Nat.le_of_ble_eq_true rfl)) d_12_14_8 ⟨Nat.le_of_ble_eq_true rfl, Nat.le_of_ble_eq_true rfl⟩) hS1 (fun q _ h => zAin X hS1 q h) (zAin X hS1) (fun p4 u4 t4 H4 locs4 ht4 hv4 hw4 hB4 hz4 hk4 hS4 => ?_)
    have hZ4 := zBack X ht4 hB4
    subst hw4
    obtain ⟨g5, hf⟩ := gif hf
    refine z0ne (tgt := 20) hx hb g5 d_12_14_11 (by decide) (fun h6 => ?_) (fun h6 => ?_)
    · replace hf := gneg hf h6
      exact b_Tokens_isRunByte_20 X hf hZ4 hS4 (lv_sub hl [] rfl)
    · replace hf := gpos hf h6
      refine lv_iload_n hx hb d_12_14_14 rfl (lv_at hl 0 rfl) ?_
      refine lv_bipush (v := iI 35) hx hb d_12_14_15 (by decide) ?_
      obtain ⟨g7, hf⟩ := gif hf
      refine zne (tgt := 24) hx hb g7 (by decide) d_12_14_17 (by decide) (fun h8 => ?_) (fun h8 => ?_)
      · replace hf := gneg hf h8
        refine lv_iconst (v := iI 0) hx hb d_12_14_24 rfl ?_
        exact b_Tokens_isRunByte_25 X hf hZ4 hS4 (lv_sub hl [] rfl)
      · replace hf := gpos hf h8
        exact b_Tokens_isRunByte_20 X hf hZ4 hS4 (lv_sub hl [] rfl)

noncomputable abbrev Q_Tokens_runEnd (K : zK) (D : va_G) (ca : Nat → ClassId) (ad : Nat → Int → Nat → Nat) (L : List Nat) (r : Int) (F : zF) (B : zB) (A : Nat → Prop) : Array Value → State → Outcome → State → Prop := va_Qi (S := Unit) (fun p _ => p = iI r) (fun _ => zPo D ca ad lnC K.2 L F B A) A
noncomputable def f_Tokens_runEnd_27 (K : zK) (l2 : Int) (F : zF) (B : zB) : zO := some (l2, F, B)
set_option maxHeartbeats 4000000 in
set_option maxRecDepth 100000 in
theorem b_Tokens_runEnd_27 {D : va_G} {ca : Nat → ClassId} {ad : Nat → Int → Nat → Nat} {L : List Nat} {aS vS : Nat → Nat} {A : Nat → Prop} {p : Program} {l : Launch} {e : Env} {s : State} {m : MethodId} {args : Array Value} {below : List Frame} {meth : Method} {c : Code} {K : zK} {r : Int} {F9 : zF} {B9 : zB} (X : zX D ca L aS vS A p s m args meth c prog_12_method_6_code 3 (Option.some Jvm.ClassFile.FieldType.int) "StaveHouse$Tokens") {l2 : Int} {F : zF} {B : zB} {H : Heap} {locs : List Loc} {ls : Array Slot} (hf : f_Tokens_runEnd_27 K l2 F B = some (r, F9, B9)) (hZ : zH D ca ad lnC K.2 L F B A H) (hS : va_S A s.heap H locs) (hl : lv_has ls 3 [(2, .int (iI l2))]) : W p l e ({ frames := 2, cells := 0, slots := 0, locals := 40 } : Room) s m args below meth c H locs 0 0 (MQ below (Q_Tokens_runEnd K D ca ad L r F9 B9 A) args s 0 0 A) (F0 m 27 ls []) := by
  obtain ⟨hx, hb, hr, hml, hown, hts, hlk, hK, hA, hL, hX⟩ := id X
  replace hf : (some (l2, F, B)) = some (r, F9, B9) := hf
  refine lv_iload_n hx hb d_12_6_27 rfl (lv_at hl 0 rfl) ?_
  cases hf
  exact W.iret hx hb hr (fun t ht hW => ⟨⟨_, (), rfl, rfl, by rw [ht]; exact hZ, va_K.moved hW.alike hK⟩, hS.F ht⟩) hS.2.2 d_12_6_28 hlk

noncomputable def f_Tokens_runEnd_2 (K : zK) : Nat → Int → Int → zF → zB → zO
  | 0, _, _, _, _ => none
  | n + 1, l2, l0, F, B => if 0 ≤ l0 ∧ l0 < K.2 0 then if r32 l2 then if r32 (F 0 l0 1) then (if (F 0 l0 1) ≤ l2 then f_Tokens_runEnd_27 K l2 F B else zbind (f_ByteRow_at K l0 l2 F B) (fun r5 F5 B5 => zbind (f_Tokens_isRunByte K r5 F5 B5) (fun r6 F6 B6 => if r32 r6 then (if r6 = 0 then f_Tokens_runEnd_27 K l2 F6 B6 else f_Tokens_runEnd_2 K n (l2 + 1) l0 F6 B6) else none))) else none else none else none
set_option maxHeartbeats 4000000 in
set_option maxRecDepth 100000 in
theorem b_Tokens_runEnd_2 {D : va_G} {ca : Nat → ClassId} {ad : Nat → Int → Nat → Nat} {L : List Nat} {aS vS : Nat → Nat} {A : Nat → Prop} {p : Program} {l : Launch} {e : Env} {s : State} {m : MethodId} {args : Array Value} {below : List Frame} {meth : Method} {c : Code} {K : zK} {r : Int} {F9 : zF} {B9 : zB} (X : zX D ca L aS vS A p s m args meth c prog_12_method_6_code 3 (Option.some Jvm.ClassFile.FieldType.int) "StaveHouse$Tokens") : ∀ {n : Nat} {l2 : Int} {l0 : Int} {F : zF} {B : zB} {H : Heap} {locs : List Loc} {ls : Array Slot}, f_Tokens_runEnd_2 K n l2 l0 F B = some (r, F9, B9) → zH D ca ad lnC K.2 L F B A H → va_S A s.heap H locs → lv_has ls 3 [(2, .int (iI l2)), (0, .ref (ad 0 l0 0))] → W p l e ({ frames := 2, cells := 0, slots := 0, locals := 40 } : Room) s m args below meth c H locs 0 0 (MQ below (Q_Tokens_runEnd K D ca ad L r F9 B9 A) args s 0 0 A) (F0 m 2 ls []) := by
  obtain ⟨hx, hb, hr, hml, hown, hts, hlk, hK, hA, hL, hX⟩ := id X
  intro n
  induction n with
  | zero =>
    intros
    rename_i hf _ _ _
    cases hf
  | succ n ih =>
    intro l2 l0 F B H locs ls hf hZ hS hl
    replace hf : (if 0 ≤ l0 ∧ l0 < K.2 0 then if r32 l2 then if r32 (F 0 l0 1) then (if (F 0 l0 1) ≤ l2 then f_Tokens_runEnd_27 K l2 F B else zbind (f_ByteRow_at K l0 l2 F B) (fun r5 F5 B5 => zbind (f_Tokens_isRunByte K r5 F5 B5) (fun r6 F6 B6 => if r32 r6 then (if r6 = 0 then f_Tokens_runEnd_27 K l2 F6 B6 else f_Tokens_runEnd_2 K n (l2 + 1) l0 F6 B6) else none))) else none else none else none) = some (r, F9, B9) := hf
    refine lv_iload_n hx hb d_12_6_2 rfl (lv_at hl 0 rfl) ?_
    refine lv_aload_n hx hb d_12_6_3 rfl (lv_at hl 1 rfl) ?_
    obtain ⟨g1, hf⟩ := gif hf
    refine zget (ci := 0) (C := RX0) (T := TX0) (v := .int (iI (F 0 l0 1))) (k := 1) hx hb hts inW_0 hown hK hZ g1.1 g1.2 rfl (by decide) k_1_44 rfl d_12_6_4 ?_
    obtain ⟨g2, hf⟩ := gif hf
    obtain ⟨g3, hf⟩ := gif hf
    refine zge (tgt := 27) hx hb g2 g3 d_12_6_7 (by decide) (fun h4 => ?_) (fun h4 => ?_)
    · replace hf := gpos hf h4
      exact b_Tokens_runEnd_27 X hf hZ hS (lv_sub hl [0] rfl)
    · replace hf := gneg hf h4
      refine lv_aload_n hx hb d_12_6_10 rfl (lv_at hl 1 rfl) ?_
      refine lv_iload_n hx hb d_12_6_11 rfl (lv_at hl 0 rfl) ?_
      obtain ⟨r5, F5, B5, hc5, hf⟩ := gbind hf
      refine va_calli (va_runV (As := [.int (iI l2)]) (rest := []) ⟨hx, hb, hml, hown, hts⟩ (c_ByteRow_at (l := l) hc5) (cwV 1 hts (gdV k_3_34 k_3_35 k_3_36 k_1_2 k_3_37) rfl rfl rfl (by decide +kernel) ⟨Nat.le_of_ble_eq_true rfl, Nat.le_of_ble_eq_true rfl⟩) (zPV X hZ hS (ci := 0) g1.1 g1.2 (r := (RX0, TX0, 3)) rfl [.int (iI l2)]) rfl rfl hl.1 rfl (lv_room (Nat.le_of_ble_eq_true rfl)) d_12_6_12 ⟨Nat.le_of_ble_eq_true rfl, Nat.le_of_ble_eq_true rfl⟩) hS (fun q _ h => zAin X hS q h) (zAin X hS) (fun p5 u5 t5 H5 locs5 ht5 hv5 hw5 hB5 hz5 hk5 hS5 => ?_)
      have hZ5 := zBack X ht5 hB5
      subst hw5
      obtain ⟨r6, F6, B6, hc6, hf⟩ := gbind hf
      refine va_calli (va_runS (As := [.int (iI r5)]) (rest := []) ⟨hx, hb, hml, hown, hts⟩ (c_Tokens_isRunByte (l := l) hc6) (va_cwS 1 hts (gdS k_3_41 k_3_42 k_1_5 k_3_43) rfl rfl rfl (by decide +kernel) ⟨Nat.le_of_ble_eq_true rfl, Nat.le_of_ble_eq_true rfl⟩) (zPS X hZ5 hS5 [.int (iI r5)]) rfl rfl hl.1 rfl (lv_room (Nat.le_of_ble_eq_true rfl)) d_12_6_15 ⟨Nat.le_of_ble_eq_true rfl, Nat.le_of_ble_eq_true rfl⟩) hS5 (fun q _ h => zAin X hS5 q h) (zAin X hS5) (fun p6 u6 t6 H6 locs6 ht6 hv6 hw6 hB6 hz6 hk6 hS6 => ?_)
      have hZ6 := zBack X ht6 hB6
      subst hw6
      obtain ⟨g7, hf⟩ := gif hf
      refine z0eq (tgt := 27) hx hb g7 d_12_6_18 (by decide) (fun h8 => ?_) (fun h8 => ?_)
      · replace hf := gpos hf h8
        exact b_Tokens_runEnd_27 X hf hZ6 hS6 (lv_sub hl [0] rfl)
      · replace hf := gneg hf h8
        refine lv_iinc (v := iI (l2 + 1)) (lv' := [(2, .int (iI (l2 + 1))), (0, .ref (ad 0 l0 0))]) hx hb d_12_6_21 hl (k := 0) rfl (iI_add _ 1) (by decide) rfl (fun ls hl => ?_)
        refine lv_goto (tgt := 2) hx hb d_12_6_24 (by decide) ?_
        exact ih hf hZ6 hS6 (lv_sub hl [0, 1] rfl)

noncomputable def f_Tokens_runEnd (K : zK) (l0 : Int) (l1 : Int) (F : zF) (B : zB) : zO := f_Tokens_runEnd_2 K K.1 l1 l0 F B
set_option maxHeartbeats 4000000 in
set_option maxRecDepth 100000 in
theorem c_Tokens_runEnd {l : Launch} {D : va_G} {ca : Nat → ClassId} {ad : Nat → Int → Nat → Nat} {L : List Nat} {aS vS : Nat → Nat} {sz : Nat} {K : zK}  {l0 : Int} {l1 : Int} {F F9 : zF} {B B9 : zB} {r : Int} (hf : f_Tokens_runEnd K l0 l1 F B = some (r, F9, B9)) : Met l ({ cls := "StaveHouse$Tokens", name := "runEnd", desc := "(LStaveHouse$ByteRow;I)I" } : Jvm.MethodName) (Cond.code ({ cls := "StaveHouse$Tokens", name := "runEnd", desc := "(LStaveHouse$ByteRow;I)I" } : Jvm.MethodName) prog_12_method_6_code 3 (Option.some Jvm.ClassFile.FieldType.int) :: wAll) ({ frames := 2, cells := 0, slots := 0, locals := 40 } : Room) (va_Pc [.ref (ad 0 l0 0), .int (iI l1)] (zPre D ca ad lnC K.2 L aS vS F B sz)) (Q_Tokens_runEnd K D ca ad L r F9 B9 (zA L sz)) 0 0 (zA L sz) := by
  refine zMet (Qc := Q_Tokens_runEnd K D ca ad L r F9 B9) (lv := [(0, .ref (ad 0 l0 0)), (1, .int (iI l1))]) (by decide) (Nat.le_of_ble_eq_true rfl) rfl (fun A p e s m below meth c ls X hZ hS hl => ?_)
  obtain ⟨hx, hb, hr, hml, hown, hts, hlk, hK, hA, hL, hX⟩ := id X
  replace hf : (f_Tokens_runEnd_2 K K.1 l1 l0 F B) = some (r, F9, B9) := hf
  refine lv_iload_n hx hb d_12_6_0 rfl (lv_at hl 1 rfl) ?_
  refine lv_istore_n (lv' := [(2, .int (iI l1)), (0, .ref (ad 0 l0 0)), (1, .int (iI l1))]) hx hb d_12_6_1 rfl hl (by decide) rfl (fun ls hl => ?_)
  exact b_Tokens_runEnd_2 X hf hZ hS (lv_sub hl [0, 1] rfl)

noncomputable abbrev Q_Tokens_keepRun (K : zK) (D : va_G) (ca : Nat → ClassId) (ad : Nat → Int → Nat → Nat) (L : List Nat) (r : Int) (F : zF) (B : zB) (A : Nat → Prop) : Array Value → State → Outcome → State → Prop := va_Qv (S := Unit) (fun _ => True) (fun _ => zPo D ca ad lnC K.2 L F B A) A
noncomputable def f_Tokens_keepRun_197 (K : zK)  (F : zF) (B : zB) : zO := some (0, F, B)
set_option maxHeartbeats 4000000 in
set_option maxRecDepth 100000 in
theorem b_Tokens_keepRun_197 {D : va_G} {ca : Nat → ClassId} {ad : Nat → Int → Nat → Nat} {L : List Nat} {aS vS : Nat → Nat} {A : Nat → Prop} {p : Program} {l : Launch} {e : Env} {s : State} {m : MethodId} {args : Array Value} {below : List Frame} {meth : Method} {c : Code} {K : zK} {r : Int} {F9 : zF} {B9 : zB} (X : zX D ca L aS vS A p s m args meth c prog_12_method_7_code 8 (Option.none : Option Jvm.ClassFile.FieldType) "StaveHouse$Tokens")  {F : zF} {B : zB} {H : Heap} {locs : List Loc} {ls : Array Slot} (hf : f_Tokens_keepRun_197 K  F B = some (r, F9, B9)) (hZ : zH D ca ad lnC K.2 L F B A H) (hS : va_S A s.heap H locs) (hl : lv_has ls 8 []) : W p l e ({ frames := 2, cells := 0, slots := 0, locals := 48 } : Room) s m args below meth c H locs 0 0 (MQ below (Q_Tokens_keepRun K D ca ad L r F9 B9 A) args s 0 0 A) (F0 m 197 ls []) := by
  obtain ⟨hx, hb, hr, hml, hown, hts, hlk, hK, hA, hL, hX⟩ := id X
  replace hf : (some (0, F, B)) = some (r, F9, B9) := hf
  cases hf
  exact W.vret hx hb hr (fun t ht hW => ⟨⟨(), rfl, trivial, by rw [ht]; exact hZ, va_K.moved hW.alike hK⟩, hS.F ht⟩) hS.2.2 d_12_7_197 hlk

noncomputable def f_Tokens_keepRun_159 (K : zK) (l7 : Int) (l5 : Int) (l0 : Int) (l1 : Int) (l2 : Int) (l3 : Int) (F : zF) (B : zB) : zO := if r32 l5 then if r32 l7 then (if l5 = l7 then (if 8 < l7 then f_Tokens_keepRun_197 K F B else if 0 ≤ l0 ∧ l0 < K.2 10 then if 0 ≤ l2 ∧ l2 < 3001 then zbind (f_Tokens_joined K l1 l3 l7 256 0 F (zup4 B 10 l0 5 l2 4)) (fun r39 F39 B39 => f_Tokens_keepRun_197 K F39 (zup4 B39 10 l0 7 l2 r39)) else none else none) else f_Tokens_keepRun_197 K F B) else none else none
set_option maxHeartbeats 4000000 in
set_option maxRecDepth 100000 in
theorem b_Tokens_keepRun_159 {D : va_G} {ca : Nat → ClassId} {ad : Nat → Int → Nat → Nat} {L : List Nat} {aS vS : Nat → Nat} {A : Nat → Prop} {p : Program} {l : Launch} {e : Env} {s : State} {m : MethodId} {args : Array Value} {below : List Frame} {meth : Method} {c : Code} {K : zK} {r : Int} {F9 : zF} {B9 : zB} (X : zX D ca L aS vS A p s m args meth c prog_12_method_7_code 8 (Option.none : Option Jvm.ClassFile.FieldType) "StaveHouse$Tokens") {l7 : Int} {l5 : Int} {l0 : Int} {l1 : Int} {l2 : Int} {l3 : Int} {F : zF} {B : zB} {H : Heap} {locs : List Loc} {ls : Array Slot} (hf : f_Tokens_keepRun_159 K l7 l5 l0 l1 l2 l3 F B = some (r, F9, B9)) (hZ : zH D ca ad lnC K.2 L F B A H) (hS : va_S A s.heap H locs) (hl : lv_has ls 8 [(7, .int (iI l7)), (5, .int (iI l5)), (0, .ref (ad 10 l0 0)), (1, .ref (ad 0 l1 0)), (2, .int (iI l2)), (3, .int (iI l3))]) : W p l e ({ frames := 2, cells := 0, slots := 0, locals := 48 } : Room) s m args below meth c H locs 0 0 (MQ below (Q_Tokens_keepRun K D ca ad L r F9 B9 A) args s 0 0 A) (F0 m 159 ls []) := by
  obtain ⟨hx, hb, hr, hml, hown, hts, hlk, hK, hA, hL, hX⟩ := id X
  replace hf : (if r32 l5 then if r32 l7 then (if l5 = l7 then (if 8 < l7 then f_Tokens_keepRun_197 K F B else if 0 ≤ l0 ∧ l0 < K.2 10 then if 0 ≤ l2 ∧ l2 < 3001 then zbind (f_Tokens_joined K l1 l3 l7 256 0 F (zup4 B 10 l0 5 l2 4)) (fun r39 F39 B39 => f_Tokens_keepRun_197 K F39 (zup4 B39 10 l0 7 l2 r39)) else none else none) else f_Tokens_keepRun_197 K F B) else none else none) = some (r, F9, B9) := hf
  refine lv_iload hx hb d_12_7_159 (lv_at hl 1 rfl) ?_
  refine lv_iload hx hb d_12_7_161 (lv_at hl 0 rfl) ?_
  obtain ⟨g31, hf⟩ := gif hf
  obtain ⟨g33, hf⟩ := gif hf
  refine zne (tgt := 197) hx hb g31 g33 d_12_7_163 (by decide) (fun h34 => ?_) (fun h34 => ?_)
  · replace hf := gneg hf h34
    exact b_Tokens_keepRun_197 X hf hZ hS (lv_sub hl [] rfl)
  · replace hf := gpos hf h34
    refine lv_iload hx hb d_12_7_166 (lv_at hl 0 rfl) ?_
    refine lv_bipush (v := iI 8) hx hb d_12_7_168 (by decide) ?_
    refine zgt (tgt := 197) hx hb g33 (by decide) d_12_7_170 (by decide) (fun h35 => ?_) (fun h35 => ?_)
    · replace hf := gpos hf h35
      exact b_Tokens_keepRun_197 X hf hZ hS (lv_sub hl [] rfl)
    · replace hf := gneg hf h35
      refine lv_aload_n hx hb d_12_7_173 rfl (lv_at hl 2 rfl) ?_
      obtain ⟨g36, hf⟩ := gif hf
      refine zget (ci := 10) (C := RX10) (T := TX10) (v := .ref (ad 10 l0 (5 + 1))) (k := 5) hx hb hts inW_10 hown hK hZ g36.1 g36.2 rfl (by decide) k_1_82 rfl d_12_7_174 ?_
      refine lv_iload_n hx hb d_12_7_177 rfl (lv_at hl 4 rfl) ?_
      refine lv_iconst (v := iI 4) hx hb d_12_7_178 rfl ?_
      obtain ⟨g37, hf⟩ := gif hf
      refine zast (ci := 10) (k := 5) hx hb hK rfl hZ hS g36.1 g36.2 rfl (Nat.le_of_ble_eq_true rfl) g37.1 g37.2 d_12_7_179 (fun H38 locs38 hZ38 hS38 => ?_)
      refine lv_aload_n hx hb d_12_7_180 rfl (lv_at hl 2 rfl) ?_
      refine zget (ci := 10) (C := RX10) (T := TX10) (v := .ref (ad 10 l0 (7 + 1))) (k := 7) hx hb hts inW_10 hown hK hZ38 g36.1 g36.2 rfl (by decide) k_1_84 rfl d_12_7_181 ?_
      refine lv_iload_n hx hb d_12_7_184 rfl (lv_at hl 4 rfl) ?_
      refine lv_aload_n hx hb d_12_7_185 rfl (lv_at hl 3 rfl) ?_
      refine lv_iload_n hx hb d_12_7_186 rfl (lv_at hl 5 rfl) ?_
      refine lv_iload hx hb d_12_7_187 (lv_at hl 0 rfl) ?_
      refine lv_sipush (v := iI 256) hx hb d_12_7_189 (by decide) ?_
      refine lv_iconst (v := iI 0) hx hb d_12_7_192 rfl ?_
      obtain ⟨r39, F39, B39, hc39, hf⟩ := gbind hf
      refine va_calll (va_runS (As := [.ref (ad 0 l1 0), .int (iI l3), .int (iI l7), .int (iI 256), .int (iI 0)]) (rest := [.int (iI l2), .ref (ad 10 l0 (7 + 1))]) ⟨hx, hb, hml, hown, hts⟩ (c_Tokens_joined (l := l) hc39) (va_cwS 5 hts (gdS k_3_63 k_3_64 k_1_5 k_3_65) rfl rfl rfl (by decide +kernel) ⟨Nat.le_of_ble_eq_true rfl, Nat.le_of_ble_eq_true rfl⟩) (zPS X hZ38 hS38 [.ref (ad 0 l1 0), .int (iI l3), .int (iI l7), .int (iI 256), .int (iI 0)]) rfl rfl hl.1 rfl (lv_room (Nat.le_of_ble_eq_true rfl)) d_12_7_193 ⟨Nat.le_of_ble_eq_true rfl, Nat.le_of_ble_eq_true rfl⟩) hS38 (fun q _ h => zAin X hS38 q h) (zAin X hS38) (fun p39 u39 t39 H39 locs39 ht39 hv39 hw39 hB39 hz39 hk39 hS39 => ?_)
      have hZ39 := zBack X ht39 hB39
      subst hw39
      refine zlast (ci := 10) (k := 7) hx hb hK rfl hZ39 hS39 g36.1 g36.2 rfl (Nat.le_of_ble_eq_true rfl) g37.1 g37.2 d_12_7_196 (fun H40 locs40 hZ40 hS40 => ?_)
      exact b_Tokens_keepRun_197 X hf hZ40 hS40 (lv_sub hl [] rfl)

noncomputable def f_Tokens_keepRun_57 (rec9 : Int → Int → Int → Int → Int → Int → Int → Int → zF → zB → zO) (K : zK) (l5 : Int) (l7 : Int) (l0 : Int) (l1 : Int) (l2 : Int) (l3 : Int) (l4 : Int) (s0 : Int) (s1 : Int) (F : zF) (B : zB) : zO := rec9 (l7 + 1) (s0 + s1) l5 l0 l1 l2 l3 l4 F B
set_option maxHeartbeats 4000000 in
set_option maxRecDepth 100000 in
theorem b_Tokens_keepRun_57 {D : va_G} {ca : Nat → ClassId} {ad : Nat → Int → Nat → Nat} {L : List Nat} {aS vS : Nat → Nat} {A : Nat → Prop} {p : Program} {l : Launch} {e : Env} {s : State} {m : MethodId} {args : Array Value} {below : List Frame} {meth : Method} {c : Code} {K : zK} {r : Int} {F9 : zF} {B9 : zB} (X : zX D ca L aS vS A p s m args meth c prog_12_method_7_code 8 (Option.none : Option Jvm.ClassFile.FieldType) "StaveHouse$Tokens") {rec9 : Int → Int → Int → Int → Int → Int → Int → Int → zF → zB → zO} (hrec9 : ∀ {l7 : Int} {l6 : Int} {l5 : Int} {l0 : Int} {l1 : Int} {l2 : Int} {l3 : Int} {l4 : Int} {F : zF} {B : zB} {H : Heap} {locs : List Loc} {ls : Array Slot}, rec9 l7 l6 l5 l0 l1 l2 l3 l4 F B = some (r, F9, B9) → zH D ca ad lnC K.2 L F B A H → va_S A s.heap H locs → lv_has ls 8 [(7, .int (iI l7)), (6, .int (iI l6)), (5, .int (iI l5)), (0, .ref (ad 10 l0 0)), (1, .ref (ad 0 l1 0)), (2, .int (iI l2)), (3, .int (iI l3)), (4, .int (iI l4))] → W p l e ({ frames := 2, cells := 0, slots := 0, locals := 48 } : Room) s m args below meth c H locs 0 0 (MQ below (Q_Tokens_keepRun K D ca ad L r F9 B9 A) args s 0 0 A) (F0 m 9 ls [])) {l5 : Int} {l7 : Int} {l0 : Int} {l1 : Int} {l2 : Int} {l3 : Int} {l4 : Int} {s0 : Int} {s1 : Int} {F : zF} {B : zB} {H : Heap} {locs : List Loc} {ls : Array Slot} (hf : f_Tokens_keepRun_57 rec9 K l5 l7 l0 l1 l2 l3 l4 s0 s1 F B = some (r, F9, B9)) (hZ : zH D ca ad lnC K.2 L F B A H) (hS : va_S A s.heap H locs) (hl : lv_has ls 8 [(5, .int (iI l5)), (7, .int (iI l7)), (0, .ref (ad 10 l0 0)), (1, .ref (ad 0 l1 0)), (2, .int (iI l2)), (3, .int (iI l3)), (4, .int (iI l4))]) : W p l e ({ frames := 2, cells := 0, slots := 0, locals := 48 } : Room) s m args below meth c H locs 0 0 (MQ below (Q_Tokens_keepRun K D ca ad L r F9 B9 A) args s 0 0 A) (F0 m 57 ls [.int (iI s1), .int (iI s0)]) := by
  obtain ⟨hx, hb, hr, hml, hown, hts, hlk, hK, hA, hL, hX⟩ := id X
  replace hf : (rec9 (l7 + 1) (s0 + s1) l5 l0 l1 l2 l3 l4 F B) = some (r, F9, B9) := hf
  refine zadd hx hb d_12_7_57 ?_
  refine lv_istore (lv' := [(6, .int (iI (s0 + s1))), (5, .int (iI l5)), (7, .int (iI l7)), (0, .ref (ad 10 l0 0)), (1, .ref (ad 0 l1 0)), (2, .int (iI l2)), (3, .int (iI l3)), (4, .int (iI l4))]) hx hb d_12_7_58 hl (by decide) rfl (fun ls hl => ?_)
  refine lv_iinc (v := iI (l7 + 1)) (lv' := [(7, .int (iI (l7 + 1))), (6, .int (iI (s0 + s1))), (5, .int (iI l5)), (0, .ref (ad 10 l0 0)), (1, .ref (ad 0 l1 0)), (2, .int (iI l2)), (3, .int (iI l3)), (4, .int (iI l4))]) hx hb d_12_7_60 hl (k := 2) rfl (iI_add _ 1) (by decide) rfl (fun ls hl => ?_)
  refine lv_goto (tgt := 9) hx hb d_12_7_63 (by decide) ?_
  exact hrec9 hf hZ hS (lv_sub hl [0, 1, 2, 3, 4, 5, 6, 7] rfl)

noncomputable def f_Tokens_keepRun_35 (rec9 : Int → Int → Int → Int → Int → Int → Int → Int → zF → zB → zO) (K : zK) (l7 : Int) (l6 : Int) (l0 : Int) (l1 : Int) (l2 : Int) (l3 : Int) (l4 : Int) (s0 : Int) (s1 : Int) (F : zF) (B : zB) : zO := if 0 ≤ l1 ∧ l1 < K.2 0 then zbind (f_ByteRow_at K l1 l7 F B) (fun r27 F27 B27 => zbind (f_Tokens_isDigit K r27 F27 B27) (fun r28 F28 B28 => if r32 r28 then (if r28 = 0 then f_Tokens_keepRun_57 rec9 K (s0 + s1) l7 l0 l1 l2 l3 l4 l6 0 F28 B28 else f_Tokens_keepRun_57 rec9 K (s0 + s1) l7 l0 l1 l2 l3 l4 l6 1 F28 B28) else none)) else none
set_option maxHeartbeats 4000000 in
set_option maxRecDepth 100000 in
theorem b_Tokens_keepRun_35 {D : va_G} {ca : Nat → ClassId} {ad : Nat → Int → Nat → Nat} {L : List Nat} {aS vS : Nat → Nat} {A : Nat → Prop} {p : Program} {l : Launch} {e : Env} {s : State} {m : MethodId} {args : Array Value} {below : List Frame} {meth : Method} {c : Code} {K : zK} {r : Int} {F9 : zF} {B9 : zB} (X : zX D ca L aS vS A p s m args meth c prog_12_method_7_code 8 (Option.none : Option Jvm.ClassFile.FieldType) "StaveHouse$Tokens") {rec9 : Int → Int → Int → Int → Int → Int → Int → Int → zF → zB → zO} (hrec9 : ∀ {l7 : Int} {l6 : Int} {l5 : Int} {l0 : Int} {l1 : Int} {l2 : Int} {l3 : Int} {l4 : Int} {F : zF} {B : zB} {H : Heap} {locs : List Loc} {ls : Array Slot}, rec9 l7 l6 l5 l0 l1 l2 l3 l4 F B = some (r, F9, B9) → zH D ca ad lnC K.2 L F B A H → va_S A s.heap H locs → lv_has ls 8 [(7, .int (iI l7)), (6, .int (iI l6)), (5, .int (iI l5)), (0, .ref (ad 10 l0 0)), (1, .ref (ad 0 l1 0)), (2, .int (iI l2)), (3, .int (iI l3)), (4, .int (iI l4))] → W p l e ({ frames := 2, cells := 0, slots := 0, locals := 48 } : Room) s m args below meth c H locs 0 0 (MQ below (Q_Tokens_keepRun K D ca ad L r F9 B9 A) args s 0 0 A) (F0 m 9 ls [])) {l7 : Int} {l6 : Int} {l0 : Int} {l1 : Int} {l2 : Int} {l3 : Int} {l4 : Int} {s0 : Int} {s1 : Int} {F : zF} {B : zB} {H : Heap} {locs : List Loc} {ls : Array Slot} (hf : f_Tokens_keepRun_35 rec9 K l7 l6 l0 l1 l2 l3 l4 s0 s1 F B = some (r, F9, B9)) (hZ : zH D ca ad lnC K.2 L F B A H) (hS : va_S A s.heap H locs) (hl : lv_has ls 8 [(7, .int (iI l7)), (6, .int (iI l6)), (0, .ref (ad 10 l0 0)), (1, .ref (ad 0 l1 0)), (2, .int (iI l2)), (3, .int (iI l3)), (4, .int (iI l4))]) : W p l e ({ frames := 2, cells := 0, slots := 0, locals := 48 } : Room) s m args below meth c H locs 0 0 (MQ below (Q_Tokens_keepRun K D ca ad L r F9 B9 A) args s 0 0 A) (F0 m 35 ls [.int (iI s1), .int (iI s0)]) := by
  obtain ⟨hx, hb, hr, hml, hown, hts, hlk, hK, hA, hL, hX⟩ := id X
  replace hf : (if 0 ≤ l1 ∧ l1 < K.2 0 then zbind (f_ByteRow_at K l1 l7 F B) (fun r27 F27 B27 => zbind (f_Tokens_isDigit K r27 F27 B27) (fun r28 F28 B28 => if r32 r28 then (if r28 = 0 then f_Tokens_keepRun_57 rec9 K (s0 + s1) l7 l0 l1 l2 l3 l4 l6 0 F28 B28 else f_Tokens_keepRun_57 rec9 K (s0 + s1) l7 l0 l1 l2 l3 l4 l6 1 F28 B28) else none)) else none) = some (r, F9, B9) := hf
  refine zadd hx hb d_12_7_35 ?_
  refine lv_istore (lv' := [(5, .int (iI (s0 + s1))), (7, .int (iI l7)), (6, .int (iI l6)), (0, .ref (ad 10 l0 0)), (1, .ref (ad 0 l1 0)), (2, .int (iI l2)), (3, .int (iI l3)), (4, .int (iI l4))]) hx hb d_12_7_36 hl (by decide) rfl (fun ls hl => ?_)
  refine lv_iload hx hb d_12_7_38 (lv_at hl 2 rfl) ?_
  refine lv_aload_n hx hb d_12_7_40 rfl (lv_at hl 4 rfl) ?_
  refine lv_iload hx hb d_12_7_41 (lv_at hl 1 rfl) ?_
  obtain ⟨g26, hf⟩ := gif hf
  obtain ⟨r27, F27, B27, hc27, hf⟩ := gbind hf
  refine va_calli (va_runV (As := [.int (iI l7)]) (rest := [.int (iI l6)]) ⟨hx, hb, hml, hown, hts⟩ (c_ByteRow_at (l := l) hc27) (cwV 1 hts (gdV k_3_34 k_3_35 k_3_36 k_1_2 k_3_37) rfl rfl rfl (by decide +kernel) ⟨Nat.le_of_ble_eq_true rfl, Nat.le_of_ble_eq_true rfl⟩) (zPV X hZ hS (ci := 0) g26.1 g26.2 (r := (RX0, TX0, 3)) rfl [.int (iI l7)]) rfl rfl hl.1 rfl (lv_room (Nat.le_of_ble_eq_true rfl)) d_12_7_43 ⟨Nat.le_of_ble_eq_true rfl, Nat.le_of_ble_eq_true rfl⟩) hS (fun q _ h => zAin X hS q h) (zAin X hS) (fun p27 u27 t27 H27 locs27 ht27 hv27 hw27 hB27 hz27 hk27 hS27 => ?_)
  have hZ27 := zBack X ht27 hB27
  subst hw27
  obtain ⟨r28, F28, B28, hc28, hf⟩ := gbind hf
  refine va_calli (va_runS (As := [.int (iI r27)]) (rest := [.int (iI l6)]) ⟨hx, hb, hml, hown, hts⟩ (c_Tokens_isDigit (l := l) hc28) (va_cwS 1 hts (gdS k_3_47 k_3_48 k_1_5 k_3_49) rfl rfl rfl (by decide +kernel) ⟨Nat.le_of_ble_eq_true rfl, Nat.le_of_ble_eq_true rfl⟩) (zPS X hZ27 hS27 [.int (iI r27)]) rfl rfl hl.1 rfl (lv_room (Nat.le_of_ble_eq_true rfl)) d_12_7_46 ⟨Nat.le_of_ble_eq_true rfl, Nat.le_of_ble_eq_true rfl⟩) hS27 (fun q _ h => zAin X hS27 q h) (zAin X hS27) (fun p28 u28 t28 H28 locs28 ht28 hv28 hw28 hB28 hz28 hk28 hS28 => ?_)
  have hZ28 := zBack X ht28 hB28
  subst hw28
  obtain ⟨g29, hf⟩ := gif hf
  refine z0eq (tgt := 56) hx hb g29 d_12_7_49 (by decide) (fun h30 => ?_) (fun h30 => ?_)
  · replace hf := gpos hf h30
    refine lv_iconst (v := iI 0) hx hb d_12_7_56 rfl ?_
    exact b_Tokens_keepRun_57 X hrec9 hf hZ28 hS28 (lv_sub hl [0, 1, 3, 4, 5, 6, 7] rfl)
  · replace hf := gneg hf h30
    refine lv_iconst (v := iI 1) hx hb d_12_7_52 rfl ?_
    refine lv_goto (tgt := 57) hx hb d_12_7_53 (by decide) ?_
    exact b_Tokens_keepRun_57 X hrec9 hf hZ28 hS28 (lv_sub hl [0, 1, 3, 4, 5, 6, 7] rfl)

noncomputable def f_Tokens_keepRun_9 (K : zK) : Nat → Int → Int → Int → Int → Int → Int → Int → Int → zF → zB → zO
  | 0, _, _, _, _, _, _, _, _, _, _ => none
  | n + 1, l7, l6, l5, l0, l1, l2, l3, l4, F, B => if r32 l7 then if r32 l4 then (if l4 ≤ l7 then if 0 ≤ l0 ∧ l0 < K.2 10 then if 0 ≤ l2 ∧ l2 < 3001 then zbind (f_Tokens_isPitch K l1 l3 (l4 - l3) F (zup4 (zup4 B 10 l0 5 l2 1) 10 l0 7 l2 0)) (fun r8 F8 B8 => if r32 r8 then (if r8 = 0 then if r32 l6 then if r32 (l4 - l3) then (if l6 = (l4 - l3) then (if 4 < (l4 - l3) then f_Tokens_keepRun_159 K (l4 - l3) l5 l0 l1 l2 l3 F8 B8 else zbind (f_Tokens_joined K l1 l3 (l4 - l3) 10 48 F8 (zup4 B8 10 l0 5 l2 3)) (fun r16 F16 B16 => f_Tokens_keepRun_197 K F16 (zup4 B16 10 l0 7 l2 r16))) else f_Tokens_keepRun_159 K (l4 - l3) l5 l0 l1 l2 l3 F8 B8) else none else none else zbind (f_Tokens_pitchValue K l1 l3 (l4 - l3) F8 (zup4 B8 10 l0 5 l2 2)) (fun r19 F19 B19 => f_Tokens_keepRun_197 K F19 (zup4 B19 10 l0 7 l2 r19))) else none) else none else none else if 0 ≤ l1 ∧ l1 < K.2 0 then zbind (f_ByteRow_at K l1 l7 F B) (fun r22 F22 B22 => zbind (f_Tokens_isLetter K r22 F22 B22) (fun r23 F23 B23 => if r32 r23 then (if r23 = 0 then f_Tokens_keepRun_35 (f_Tokens_keepRun_9 K n) K l7 l6 l0 l1 l2 l3 l4 l5 0 F23 B23 else f_Tokens_keepRun_35 (f_Tokens_keepRun_9 K n) K l7 l6 l0 l1 l2 l3 l4 l5 1 F23 B23) else none)) else none) else none else none
set_option maxHeartbeats 4000000 in
set_option maxRecDepth 100000 in
theorem b_Tokens_keepRun_9 {D : va_G} {ca : Nat → ClassId} {ad : Nat → Int → Nat → Nat} {L : List Nat} {aS vS : Nat → Nat} {A : Nat → Prop} {p : Program} {l : Launch} {e : Env} {s : State} {m : MethodId} {args : Array Value} {below : List Frame} {meth : Method} {c : Code} {K : zK} {r : Int} {F9 : zF} {B9 : zB} (X : zX D ca L aS vS A p s m args meth c prog_12_method_7_code 8 (Option.none : Option Jvm.ClassFile.FieldType) "StaveHouse$Tokens") : ∀ {n : Nat} {l7 : Int} {l6 : Int} {l5 : Int} {l0 : Int} {l1 : Int} {l2 : Int} {l3 : Int} {l4 : Int} {F : zF} {B : zB} {H : Heap} {locs : List Loc} {ls : Array Slot}, f_Tokens_keepRun_9 K n l7 l6 l5 l0 l1 l2 l3 l4 F B = some (r, F9, B9) → zH D ca ad lnC K.2 L F B A H → va_S A s.heap H locs → lv_has ls 8 [(7, .int (iI l7)), (6, .int (iI l6)), (5, .int (iI l5)), (0, .ref (ad 10 l0 0)), (1, .ref (ad 0 l1 0)), (2, .int (iI l2)), (3, .int (iI l3)), (4, .int (iI l4))] → W p l e ({ frames := 2, cells := 0, slots := 0, locals := 48 } : Room) s m args below meth c H locs 0 0 (MQ below (Q_Tokens_keepRun K D ca ad L r F9 B9 A) args s 0 0 A) (F0 m 9 ls []) := by
  obtain ⟨hx, hb, hr, hml, hown, hts, hlk, hK, hA, hL, hX⟩ := id X
  intro n
  induction n with
  | zero =>
    intros
    rename_i hf _ _ _
    cases hf
  | succ n ih =>
    intro l7 l6 l5 l0 l1 l2 l3 l4 F B H locs ls hf hZ hS hl
    replace hf : (if r32 l7 then if r32 l4 then (if l4 ≤ l7 then if 0 ≤ l0 ∧ l0 < K.2 10 then if 0 ≤ l2 ∧ l2 < 3001 then zbind (f_Tokens_isPitch K l1 l3 (l4 - l3) F (zup4 (zup4 B 10 l0 5 l2 1) 10 l0 7 l2 0)) (fun r8 F8 B8 => if r32 r8 then (if r8 = 0 then if r32 l6 then if r32 (l4 - l3) then (if l6 = (l4 - l3) then (if 4 < (l4 - l3) then f_Tokens_keepRun_159 K (l4 - l3) l5 l0 l1 l2 l3 F8 B8 else zbind (f_Tokens_joined K l1 l3 (l4 - l3) 10 48 F8 (zup4 B8 10 l0 5 l2 3)) (fun r16 F16 B16 => f_Tokens_keepRun_197 K F16 (zup4 B16 10 l0 7 l2 r16))) else f_Tokens_keepRun_159 K (l4 - l3) l5 l0 l1 l2 l3 F8 B8) else none else none else zbind (f_Tokens_pitchValue K l1 l3 (l4 - l3) F8 (zup4 B8 10 l0 5 l2 2)) (fun r19 F19 B19 => f_Tokens_keepRun_197 K F19 (zup4 B19 10 l0 7 l2 r19))) else none) else none else none else if 0 ≤ l1 ∧ l1 < K.2 0 then zbind (f_ByteRow_at K l1 l7 F B) (fun r22 F22 B22 => zbind (f_Tokens_isLetter K r22 F22 B22) (fun r23 F23 B23 => if r32 r23 then (if r23 = 0 then f_Tokens_keepRun_35 (f_Tokens_keepRun_9 K n) K l7 l6 l0 l1 l2 l3 l4 l5 0 F23 B23 else f_Tokens_keepRun_35 (f_Tokens_keepRun_9 K n) K l7 l6 l0 l1 l2 l3 l4 l5 1 F23 B23) else none)) else none) else none else none) = some (r, F9, B9) := hf
    refine lv_iload hx hb d_12_7_9 (lv_at hl 0 rfl) ?_
    refine lv_iload hx hb d_12_7_11 (lv_at hl 7 rfl) ?_
    obtain ⟨g1, hf⟩ := gif hf
    obtain ⟨g2, hf⟩ := gif hf
    refine zge (tgt := 66) hx hb g1 g2 d_12_7_13 (by decide) (fun h3 => ?_) (fun h3 => ?_)
    · replace hf := gpos hf h3
      refine lv_iload hx hb d_12_7_66 (lv_at hl 7 rfl) ?_
      refine lv_iload_n hx hb d_12_7_68 rfl (lv_at hl 6 rfl) ?_
      refine zsub hx hb d_12_7_69 ?_
      refine lv_istore (lv' := [(7, .int (iI (l4 - l3))), (6, .int (iI l6)), (5, .int (iI l5)), (0, .ref (ad 10 l0 0)), (1, .ref (ad 0 l1 0)), (2, .int (iI l2)), (3, .int (iI l3)), (4, .int (iI l4))]) hx hb d_12_7_70 hl (by decide) rfl (fun ls hl => ?_)
      refine lv_aload_n hx hb d_12_7_72 rfl (lv_at hl 3 rfl) ?_
      obtain ⟨g4, hf⟩ := gif hf
      refine zget (ci := 10) (C := RX10) (T := TX10) (v := .ref (ad 10 l0 (5 + 1))) (k := 5) hx hb hts inW_10 hown hK hZ g4.1 g4.2 rfl (by decide) k_1_82 rfl d_12_7_73 ?_
      refine lv_iload_n hx hb d_12_7_76 rfl (lv_at hl 5 rfl) ?_
      refine lv_iconst (v := iI 1) hx hb d_12_7_77 rfl ?_
      obtain ⟨g5, hf⟩ := gif hf
      refine zast (ci := 10) (k := 5) hx hb hK rfl hZ hS g4.1 g4.2 rfl (Nat.le_of_ble_eq_true rfl) g5.1 g5.2 d_12_7_78 (fun H6 locs6 hZ6 hS6 => ?_)
      refine lv_aload_n hx hb d_12_7_79 rfl (lv_at hl 3 rfl) ?_
      refine zget (ci := 10) (C := RX10) (T := TX10) (v := .ref (ad 10 l0 (7 + 1))) (k := 7) hx hb hts inW_10 hown hK hZ6 g4.1 g4.2 rfl (by decide) k_1_84 rfl d_12_7_80 ?_
      refine lv_iload_n hx hb d_12_7_83 rfl (lv_at hl 5 rfl) ?_
      refine lv_lconst (v := lI 0) hx hb d_12_7_84 (by decide) ?_
      refine zlast (ci := 10) (k := 7) hx hb hK rfl hZ6 hS6 g4.1 g4.2 rfl (Nat.le_of_ble_eq_true rfl) g5.1 g5.2 d_12_7_85 (fun H7 locs7 hZ7 hS7 => ?_)
      refine lv_aload_n hx hb d_12_7_86 rfl (lv_at hl 4 rfl) ?_
      refine lv_iload_n hx hb d_12_7_87 rfl (lv_at hl 6 rfl) ?_
      refine lv_iload hx hb d_12_7_88 (lv_at hl 0 rfl) ?_
      obtain ⟨r8, F8, B8, hc8, hf⟩ := gbind hf
      refine va_calli (va_runS (As := [.ref (ad 0 l1 0), .int (iI l3), .int (iI (l4 - l3))]) (rest := []) ⟨hx, hb, hml, hown, hts⟩ (c_Tokens_isPitch (l := l) hc8) (va_cwS 3 hts (gdS k_3_57 k_3_58 k_1_5 k_3_59) rfl rfl rfl (by decide +kernel) ⟨Nat.le_of_ble_eq_true rfl, Nat.le_of_ble_eq_true rfl⟩) (zPS X hZ7 hS7 [.ref (ad 0 l1 0), .int (iI l3), .int (iI (l4 - l3))]) rfl rfl hl.1 rfl (lv_room (Nat.le_of_ble_eq_true rfl)) d_12_7_90 ⟨Nat.le_of_ble_eq_true rfl, Nat.le_of_ble_eq_true rfl⟩) hS7 (fun q _ h => zAin X hS7 q h) (zAin X hS7) (fun p8 u8 t8 H8 locs8 ht8 hv8 hw8 hB8 hz8 hk8 hS8 => ?_)
      have hZ8 := zBack X ht8 hB8
      subst hw8
      obtain ⟨g9, hf⟩ := gif hf
      refine z0eq (tgt := 119) hx hb g9 d_12_7_93 (by decide) (fun h10 => ?_) (fun h10 => ?_)
      · replace hf := gpos hf h10
        refine lv_iload hx hb d_12_7_119 (lv_at hl 1 rfl) ?_
        refine lv_iload hx hb d_12_7_121 (lv_at hl 0 rfl) ?_
        obtain ⟨g11, hf⟩ := gif hf
        obtain ⟨g12, hf⟩ := gif hf
        refine zne (tgt := 159) hx hb g11 g12 d_12_7_123 (by decide) (fun h13 => ?_) (fun h13 => ?_)
        · replace hf := gneg hf h13
          exact b_Tokens_keepRun_159 X hf hZ8 hS8 (lv_sub hl [0, 2, 3, 4, 5, 6] rfl)
        · replace hf := gpos hf h13
          refine lv_iload hx hb d_12_7_126 (lv_at hl 0 rfl) ?_
          refine lv_iconst (v := iI 4) hx hb d_12_7_128 rfl ?_
          refine zgt (tgt := 159) hx hb g12 (by decide) d_12_7_129 (by decide) (fun h14 => ?_) (fun h14 => ?_)
          · replace hf := gpos hf h14
            exact b_Tokens_keepRun_159 X hf hZ8 hS8 (lv_sub hl [0, 2, 3, 4, 5, 6] rfl)
          · replace hf := gneg hf h14
            refine lv_aload_n hx hb d_12_7_132 rfl (lv_at hl 3 rfl) ?_
            refine zget (ci := 10) (C := RX10) (T := TX10) (v := .ref (ad 10 l0 (5 + 1))) (k := 5) hx hb hts inW_10 hown hK hZ8 g4.1 g4.2 rfl (by decide) k_1_82 rfl d_12_7_133 ?_
            refine lv_iload_n hx hb d_12_7_136 rfl (lv_at hl 5 rfl) ?_
            refine lv_iconst (v := iI 3) hx hb d_12_7_137 rfl ?_
            refine zast (ci := 10) (k := 5) hx hb hK rfl hZ8 hS8 g4.1 g4.2 rfl (Nat.le_of_ble_eq_true rfl) g5.1 g5.2 d_12_7_138 (fun H15 locs15 hZ15 hS15 => ?_)
            refine lv_aload_n hx hb d_12_7_139 rfl (lv_at hl 3 rfl) ?_
            refine zget (ci := 10) (C := RX10) (T := TX10) (v := .ref (ad 10 l0 (7 + 1))) (k := 7) hx hb hts inW_10 hown hK hZ15 g4.1 g4.2 rfl (by decide) k_1_84 rfl d_12_7_140 ?_
            refine lv_iload_n hx hb d_12_7_143 rfl (lv_at hl 5 rfl) ?_
            refine lv_aload_n hx hb d_12_7_144 rfl (lv_at hl 4 rfl) ?_
            refine lv_iload_n hx hb d_12_7_145 rfl (lv_at hl 6 rfl) ?_
            refine lv_iload hx hb d_12_7_146 (lv_at hl 0 rfl) ?_
            refine lv_bipush (v := iI 10) hx hb d_12_7_148 (by decide) ?_
            refine lv_bipush (v := iI 48) hx hb d_12_7_150 (by decide) ?_
            obtain ⟨r16, F16, B16, hc16, hf⟩ := gbind hf
            refine va_calll (va_runS (As := [.ref (ad 0 l1 0), .int (iI l3), .int (iI (l4 - l3)), .int (iI 10), .int (iI 48)]) (rest := [.int (iI l2), .ref (ad 10 l0 (7 + 1))]) ⟨hx, hb, hml, hown, hts⟩ (c_Tokens_joined (l := l) hc16) (va_cwS 5 hts (gdS k_3_63 k_3_64 k_1_5 k_3_65) rfl rfl rfl (by decide +kernel) ⟨Nat.le_of_ble_eq_true rfl, Nat.le_of_ble_eq_true rfl⟩) (zPS X hZ15 hS15 [.ref (ad 0 l1 0), .int (iI l3), .int (iI (l4 - l3)), .int (iI 10), .int (iI 48)]) rfl rfl hl.1 rfl (lv_room (Nat.le_of_ble_eq_true rfl)) d_12_7_152 ⟨Nat.le_of_ble_eq_true rfl, Nat.le_of_ble_eq_true rfl⟩) hS15 (fun q _ h => zAin X hS15 q h) (zAin X hS15) (fun p16 u16 t16 H16 locs16 ht16 hv16 hw16 hB16 hz16 hk16 hS16 => ?_)
            have hZ16 := zBack X ht16 hB16
            subst hw16
            refine zlast (ci := 10) (k := 7) hx hb hK rfl hZ16 hS16 g4.1 g4.2 rfl (Nat.le_of_ble_eq_true rfl) g5.1 g5.2 d_12_7_155 (fun H17 locs17 hZ17 hS17 => ?_)
            refine lv_goto (tgt := 197) hx hb d_12_7_156 (by decide) ?_
            exact b_Tokens_keepRun_197 X hf hZ17 hS17 (lv_sub hl [] rfl)
      · replace hf := gneg hf h10
        refine lv_aload_n hx hb d_12_7_96 rfl (lv_at hl 3 rfl) ?_
        refine zget (ci := 10) (C := RX10) (T := TX10) (v := .ref (ad 10 l0 (5 + 1))) (k := 5) hx hb hts inW_10 hown hK hZ8 g4.1 g4.2 rfl (by decide) k_1_82 rfl d_12_7_97 ?_
        refine lv_iload_n hx hb d_12_7_100 rfl (lv_at hl 5 rfl) ?_
        refine lv_iconst (v := iI 2) hx hb d_12_7_101 rfl ?_
        refine zast (ci := 10) (k := 5) hx hb hK rfl hZ8 hS8 g4.1 g4.2 rfl (Nat.le_of_ble_eq_true rfl) g5.1 g5.2 d_12_7_102 (fun H18 locs18 hZ18 hS18 => ?_)
        refine lv_aload_n hx hb d_12_7_103 rfl (lv_at hl 3 rfl) ?_
        refine zget (ci := 10) (C := RX10) (T := TX10) (v := .ref (ad 10 l0 (7 + 1))) (k := 7) hx hb hts inW_10 hown hK hZ18 g4.1 g4.2 rfl (by decide) k_1_84 rfl d_12_7_104 ?_
        refine lv_iload_n hx hb d_12_7_107 rfl (lv_at hl 5 rfl) ?_
        refine lv_aload_n hx hb d_12_7_108 rfl (lv_at hl 4 rfl) ?_
        refine lv_iload_n hx hb d_12_7_109 rfl (lv_at hl 6 rfl) ?_
        refine lv_iload hx hb d_12_7_110 (lv_at hl 0 rfl) ?_
        obtain ⟨r19, F19, B19, hc19, hf⟩ := gbind hf
        refine va_calll (va_runS (As := [.ref (ad 0 l1 0), .int (iI l3), .int (iI (l4 - l3))]) (rest := [.int (iI l2), .ref (ad 10 l0 (7 + 1))]) ⟨hx, hb, hml, hown, hts⟩ (c_Tokens_pitchValue (l := l) hc19) (va_cwS 3 hts (gdS k_3_60 k_3_61 k_1_5 k_3_62) rfl rfl rfl (by decide +kernel) ⟨Nat.le_of_ble_eq_true rfl, Nat.le_of_ble_eq_true rfl⟩) (zPS X hZ18 hS18 [.ref (ad 0 l1 0), .int (iI l3), .int (iI (l4 - l3))]) rfl rfl hl.1 rfl (lv_room (Nat.le_of_ble_eq_true rfl)) d_12_7_112 ⟨Nat.le_of_ble_eq_true rfl, Nat.le_of_ble_eq_true rfl⟩) hS18 (fun q _ h => zAin X hS18 q h) (zAin X hS18) (fun p19 u19 t19 H19 locs19 ht19 hv19 hw19 hB19 hz19 hk19 hS19 => ?_)
        have hZ19 := zBack X ht19 hB19
        subst hw19
        refine zlast (ci := 10) (k := 7) hx hb hK rfl hZ19 hS19 g4.1 g4.2 rfl (Nat.le_of_ble_eq_true rfl) g5.1 g5.2 d_12_7_115 (fun H20 locs20 hZ20 hS20 => ?_)
        refine lv_goto (tgt := 197) hx hb d_12_7_116 (by decide) ?_
        exact b_Tokens_keepRun_197 X hf hZ20 hS20 (lv_sub hl [] rfl)
    · replace hf := gneg hf h3
      refine lv_iload hx hb d_12_7_16 (lv_at hl 2 rfl) ?_
      refine lv_aload_n hx hb d_12_7_18 rfl (lv_at hl 4 rfl) ?_
      refine lv_iload hx hb d_12_7_19 (lv_at hl 0 rfl) ?_
      obtain ⟨g21, hf⟩ := gif hf
      obtain ⟨r22, F22, B22, hc22, hf⟩ := gbind hf
      refine va_calli (va_runV (As := [.int (iI l7)]) (rest := [.int (iI l5)]) ⟨hx, hb, hml, hown, hts⟩ (c_ByteRow_at (l := l) hc22) (cwV 1 hts (gdV k_3_34 k_3_35 k_3_36 k_1_2 k_3_37) rfl rfl rfl (by decide +kernel) ⟨Nat.le_of_ble_eq_true rfl, Nat.le_of_ble_eq_true rfl⟩) (zPV X hZ hS (ci := 0) g21.1 g21.2 (r := (RX0, TX0, 3)) rfl [.int (iI l7)]) rfl rfl hl.1 rfl (lv_room (Nat.le_of_ble_eq_true rfl)) d_12_7_21 ⟨Nat.le_of_ble_eq_true rfl, Nat.le_of_ble_eq_true rfl⟩) hS (fun q _ h => zAin X hS q h) (zAin X hS) (fun p22 u22 t22 H22 locs22 ht22 hv22 hw22 hB22 hz22 hk22 hS22 => ?_)
      have hZ22 := zBack X ht22 hB22
      subst hw22
      obtain ⟨r23, F23, B23, hc23, hf⟩ := gbind hf
      refine va_calli (va_runS (As := [.int (iI r22)]) (rest := [.int (iI l5)]) ⟨hx, hb, hml, hown, hts⟩ (c_Tokens_isLetter (l := l) hc23) (va_cwS 1 hts (gdS k_3_44 k_3_45 k_1_5 k_3_46) rfl rfl rfl (by decide +kernel) ⟨Nat.le_of_ble_eq_true rfl, Nat.le_of_ble_eq_true rfl⟩) (zPS X hZ22 hS22 [.int (iI r22)]) rfl rfl hl.1 rfl (lv_room (Nat.le_of_ble_eq_true rfl)) d_12_7_24 ⟨Nat.le_of_ble_eq_true rfl, Nat.le_of_ble_eq_true rfl⟩) hS22 (fun q _ h => zAin X hS22 q h) (zAin X hS22) (fun p23 u23 t23 H23 locs23 ht23 hv23 hw23 hB23 hz23 hk23 hS23 => ?_)
      have hZ23 := zBack X ht23 hB23
      subst hw23
      obtain ⟨g24, hf⟩ := gif hf
      refine z0eq (tgt := 34) hx hb g24 d_12_7_27 (by decide) (fun h25 => ?_) (fun h25 => ?_)
      · replace hf := gpos hf h25
        refine lv_iconst (v := iI 0) hx hb d_12_7_34 rfl ?_
        exact b_Tokens_keepRun_35 X ih hf hZ23 hS23 (lv_sub hl [0, 1, 3, 4, 5, 6, 7] rfl)
      · replace hf := gneg hf h25
        refine lv_iconst (v := iI 1) hx hb d_12_7_30 rfl ?_
        refine lv_goto (tgt := 35) hx hb d_12_7_31 (by decide) ?_
        exact b_Tokens_keepRun_35 X ih hf hZ23 hS23 (lv_sub hl [0, 1, 3, 4, 5, 6, 7] rfl)

noncomputable def f_Tokens_keepRun (K : zK) (l0 : Int) (l1 : Int) (l2 : Int) (l3 : Int) (l4 : Int) (F : zF) (B : zB) : zO := f_Tokens_keepRun_9 K K.1 l3 0 0 l0 l1 l2 l3 l4 F B
set_option maxHeartbeats 4000000 in
set_option maxRecDepth 100000 in
theorem c_Tokens_keepRun {l : Launch} {D : va_G} {ca : Nat → ClassId} {ad : Nat → Int → Nat → Nat} {L : List Nat} {aS vS : Nat → Nat} {sz : Nat} {K : zK}  {l0 : Int} {l1 : Int} {l2 : Int} {l3 : Int} {l4 : Int} {F F9 : zF} {B B9 : zB} {r : Int} (hf : f_Tokens_keepRun K l0 l1 l2 l3 l4 F B = some (r, F9, B9)) : Met l ({ cls := "StaveHouse$Tokens", name := "keepRun", desc := "(LStaveHouse$ByteRow;III)V" } : Jvm.MethodName) (Cond.code ({ cls := "StaveHouse$Tokens", name := "keepRun", desc := "(LStaveHouse$ByteRow;III)V" } : Jvm.MethodName) prog_12_method_7_code 8 (Option.none : Option Jvm.ClassFile.FieldType) :: wAll) ({ frames := 2, cells := 0, slots := 0, locals := 48 } : Room) (va_Pc [.ref (ad 10 l0 0), .ref (ad 0 l1 0), .int (iI l2), .int (iI l3), .int (iI l4)] (zPre D ca ad lnC K.2 L aS vS F B sz)) (Q_Tokens_keepRun K D ca ad L r F9 B9 (zA L sz)) 0 0 (zA L sz) := by
  refine zMet (Qc := Q_Tokens_keepRun K D ca ad L r F9 B9) (lv := [(0, .ref (ad 10 l0 0)), (1, .ref (ad 0 l1 0)), (2, .int (iI l2)), (3, .int (iI l3)), (4, .int (iI l4))]) (by decide) (Nat.le_of_ble_eq_true rfl) rfl (fun A p e s m below meth c ls X hZ hS hl => ?_)
  obtain ⟨hx, hb, hr, hml, hown, hts, hlk, hK, hA, hL, hX⟩ := id X
  replace hf : (f_Tokens_keepRun_9 K K.1 l3 0 0 l0 l1 l2 l3 l4 F B) = some (r, F9, B9) := hf
  refine lv_iconst (v := iI 0) hx hb d_12_7_0 rfl ?_
  refine lv_istore (lv' := [(5, .int (iI 0)), (0, .ref (ad 10 l0 0)), (1, .ref (ad 0 l1 0)), (2, .int (iI l2)), (3, .int (iI l3)), (4, .int (iI l4))]) hx hb d_12_7_1 hl (by decide) rfl (fun ls hl => ?_)
  refine lv_iconst (v := iI 0) hx hb d_12_7_3 rfl ?_
  refine lv_istore (lv' := [(6, .int (iI 0)), (5, .int (iI 0)), (0, .ref (ad 10 l0 0)), (1, .ref (ad 0 l1 0)), (2, .int (iI l2)), (3, .int (iI l3)), (4, .int (iI l4))]) hx hb d_12_7_4 hl (by decide) rfl (fun ls hl => ?_)
  refine lv_iload_n hx hb d_12_7_6 rfl (lv_at hl 5 rfl) ?_
  refine lv_istore (lv' := [(7, .int (iI l3)), (6, .int (iI 0)), (5, .int (iI 0)), (0, .ref (ad 10 l0 0)), (1, .ref (ad 0 l1 0)), (2, .int (iI l2)), (3, .int (iI l3)), (4, .int (iI l4))]) hx hb d_12_7_7 hl (by decide) rfl (fun ls hl => ?_)
  exact b_Tokens_keepRun_9 X hf hZ hS (lv_sub hl [0, 1, 2, 3, 4, 5, 6, 7] rfl)

noncomputable abbrev Q_CString_length (K : zK) (D : va_G) (ca : Nat → ClassId) (ad : Nat → Int → Nat → Nat) (L : List Nat) (r : Int) (F : zF) (B : zB) (A : Nat → Prop) : Array Value → State → Outcome → State → Prop := va_Qi (S := Unit) (fun p _ => p = iI r) (fun _ => zPo D ca ad lnC K.2 L F B A) A
noncomputable def f_CString_length (K : zK) (l0 : Nat) (F : zF) (B : zB) : zO := if l0 < strL.length then zbind (f_CString_coder K l0 F B) (fun r2 F2 B2 => some (zshr (zsl l0) r2, F2, B2)) else none
set_option maxHeartbeats 4000000 in
set_option maxRecDepth 100000 in
theorem c_CString_length {l : Launch} {D : va_G} {ca : Nat → ClassId} {ad : Nat → Int → Nat → Nat} {L : List Nat} {aS vS : Nat → Nat} {sz : Nat} {K : zK}  {l0 : Nat} {F F9 : zF} {B B9 : zB} {r : Int} (hf : f_CString_length K l0 F B = some (r, F9, B9)) : Met l ({ cls := "java/lang/String", name := "length", desc := "()I" } : Jvm.MethodName) (Cond.code ({ cls := "java/lang/String", name := "length", desc := "()I" } : Jvm.MethodName) prog_21_method_54_code 1 (Option.some Jvm.ClassFile.FieldType.int) :: wAll) ({ frames := 1, cells := 0, slots := 0, locals := 20 } : Room) (va_Pc [.ref (aS l0)] (zPre D ca ad lnC K.2 L aS vS F B sz)) (Q_CString_length K D ca ad L r F9 B9 (zA L sz)) 0 0 (zA L sz) := by
  refine zMet (Qc := Q_CString_length K D ca ad L r F9 B9) (lv := [(0, .ref (aS l0))]) (by decide) (Nat.le_of_ble_eq_true rfl) rfl (fun A p e s m below meth c ls X hZ hS hl => ?_)
  obtain ⟨hx, hb, hr, hml, hown, hts, hlk, hK, hA, hL, hX⟩ := id X
  replace hf : (if l0 < strL.length then zbind (f_CString_coder K l0 F B) (fun r2 F2 B2 => some (zshr (zsl l0) r2, F2, B2)) else none) = some (r, F9, B9) := hf
  refine lv_aload_n hx hb d_21_54_0 rfl (lv_at hl 0 rfl) ?_
  obtain ⟨g1, hf⟩ := gif hf
  refine vk_getf hx hb (zstr hX g1).2.1 hS hown (hts _ k_15_170) (fun _ h => h) d_21_54_1 ?_
  refine W.eq (g2 := F0 m 4 ls [.ref (vS l0)]) rfl ?_
  refine va_tlen (v := iI (zsl l0)) hx hb (zstr hX g1).2.2.1 hS (zsl_n _) d_21_54_4 ?_
  refine lv_aload_n hx hb d_21_54_5 rfl (lv_at hl 0 rfl) ?_
  obtain ⟨r2, F2, B2, hc2, hf⟩ := gbind hf
  refine va_calli (va_runV (As := []) (rest := [.int (iI (zsl l0))]) ⟨hx, hb, hml, hown, hts⟩ (c_CString_coder (l := l) hc2) (cwV 0 hts (gdV k_3_85 k_3_86 k_3_87 k_1_11 k_3_88) rfl rfl rfl (by decide +kernel) ⟨Nat.le_of_ble_eq_true rfl, Nat.le_of_ble_eq_true rfl⟩) ⟨zBlind, zsrecv hX g1 hS, zAt X hZ hS [.ref (aS l0)]⟩ rfl rfl hl.1 rfl (lv_room (Nat.le_of_ble_eq_true rfl)) d_21_54_6 ⟨Nat.le_of_ble_eq_true rfl, Nat.le_of_ble_eq_true rfl⟩) hS (fun q _ h => zAin X hS q h) (zAin X hS) (fun p2 u2 t2 H2 locs2 ht2 hv2 hw2 hB2 hz2 hk2 hS2 => ?_)
  have hZ2 := zBack X ht2 hB2
  subst hw2
  refine zshr_r hx hb d_21_54_9 ?_
  cases hf
  exact W.iret hx hb hr (fun t ht hW => ⟨⟨_, (), rfl, rfl, by rw [ht]; exact hZ2, va_K.moved hW.alike hK⟩, hS2.F ht⟩) hS2.2.2 d_21_54_10 hlk

noncomputable abbrev Q_CStringLatin1_indexOf (K : zK) (D : va_G) (ca : Nat → ClassId) (ad : Nat → Int → Nat → Nat) (L : List Nat) (r : Int) (F : zF) (B : zB) (A : Nat → Prop) : Array Value → State → Outcome → State → Prop := va_Qi (S := Unit) (fun p _ => p = iI r) (fun _ => zPo D ca ad lnC K.2 L F B A) A
