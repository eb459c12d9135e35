set_option maxHeartbeats 4000000 in
set_option maxRecDepth 100000 in
theorem c_Tokens_isBlank {l : Launch} {D : va_G} {ca : Nat → ClassId} {ad : Nat → Int → Nat → Nat} {L : List Nat} {aS vS : Nat → Nat} {sz : Nat} {K : zK}  {l0 : Int} {F F9 : zF} {B B9 : zB} {r : Int} (hf : f_Tokens_isBlank K l0 F B = some (r, F9, B9)) : Met l ({ cls := "StaveHouse$Tokens", name := "isBlank", desc := "(I)Z" } : Jvm.MethodName) (Cond.code ({ cls := "StaveHouse$Tokens", name := "isBlank", desc := "(I)Z" } : Jvm.MethodName) prog_12_method_11_code 1 (Option.some Jvm.ClassFile.FieldType.boolean) :: wAll) ({ frames := 0, cells := 0, slots := 0, locals := 0 } : Room) (va_Pc [.int (iI l0)] (zPre D ca ad lnC K.2 L aS vS F B sz)) (Q_Tokens_isBlank K D ca ad L r F9 B9 (zA L sz)) 0 0 (zA L sz) := by
  refine zMet (Qc := Q_Tokens_isBlank K D ca ad L r F9 B9) (lv := [(0, .int (iI l0))]) (by decide) (Nat.le_of_ble_eq_true rfl) rfl (fun A p e s m below meth c ls X hZ hS hl => ?_)
  obtain ⟨hx, hb, hr, hml, hown, hts, hlk, hK, hA, hL, hX⟩ := id X
  replace hf : (if r32 l0 then (if l0 = 9 then f_Tokens_isBlank_24 K F B else (if l0 = 10 then f_Tokens_isBlank_24 K F B else (if l0 = 13 then f_Tokens_isBlank_24 K F B else (if l0 = 32 then f_Tokens_isBlank_24 K F B else f_Tokens_isBlank_29 K 0 F B)))) else none) = some (r, F9, B9) := hf
  refine lv_iload_n hx hb d_12_11_0 rfl (lv_at hl 0 rfl) ?_
  refine lv_bipush (v := iI 9) hx hb d_12_11_1 (by decide) ?_
  obtain ⟨g1, hf⟩ := gif hf
  refine zeq (tgt := 24) hx hb g1 (by decide) d_12_11_3 (by decide) (fun h2 => ?_) (fun h2 => ?_)
  · replace hf := gpos hf h2
    exact b_Tokens_isBlank_24 X hf hZ hS (lv_sub hl [] rfl)
  · replace hf := gneg hf h2
    refine lv_iload_n hx hb d_12_11_6 rfl (lv_at hl 0 rfl) ?_
    refine lv_bipush (v := iI 10) hx hb d_12_11_7 (by decide) ?_
    refine zeq (tgt := 24) hx hb g1 (by decide) d_12_11_9 (by decide) (fun h3 => ?_) (fun h3 => ?_)
    · replace hf := gpos hf h3
      exact b_Tokens_isBlank_24 X hf hZ hS (lv_sub hl [] rfl)
    · replace hf := gneg hf h3
      refine lv_iload_n hx hb d_12_11_12 rfl (lv_at hl 0 rfl) ?_
      refine lv_bipush (v := iI 13) hx hb d_12_11_13 (by decide) ?_
      refine zeq (tgt := 24) hx hb g1 (by decide) d_12_11_15 (by decide) (fun h4 => ?_) (fun h4 => ?_)
      · replace hf := gpos hf h4
        exact b_Tokens_isBlank_24 X hf hZ hS (lv_sub hl [] rfl)
      · replace hf := gneg hf h4
        refine lv_iload_n hx hb d_12_11_18 rfl (lv_at hl 0 rfl) ?_
        refine lv_bipush (v := iI 32) hx hb d_12_11_19 (by decide) ?_
        refine zne (tgt := 28) hx hb g1 (by decide) d_12_11_21 (by decide) (fun h5 => ?_) (fun h5 => ?_)
        · replace hf := gneg hf h5
          refine lv_iconst (v := iI 0) hx hb d_12_11_28 rfl ?_
          exact b_Tokens_isBlank_29 X hf hZ hS (lv_sub hl [] rfl)
        · replace hf := gpos hf h5
          exact b_Tokens_isBlank_24 X hf hZ hS (lv_sub hl [] rfl)

noncomputable abbrev Q_Tokens_isLetter (K : zK) (D : va_G) (ca : Nat → ClassId) (ad : Nat → Int → Nat → Nat) (L : List Nat) (r : Int) (F : zF) (B : zB) (A : Nat → Prop) : Array Value → State → Outcome → State → Prop := va_Qi (S := Unit) (fun p _ => p = iI r) (fun _ => zPo D ca ad lnC K.2 L F B A) A
noncomputable def f_Tokens_isLetter_17 (K : zK) (s0 : Int) (F : zF) (B : zB) : zO := if (s0 = 0 ∨ s0 = 1) then some (s0, F, B) else none
set_option maxHeartbeats 4000000 in
set_option maxRecDepth 100000 in
theorem b_Tokens_isLetter_17 {D : va_G} {ca : Nat → ClassId} {ad : Nat → Int → Nat → Nat} {L : List Nat} {aS vS : Nat → Nat} {A : Nat → Prop} {p : Program} {l : Launch} {e : Env} {s : State} {m : MethodId} {args : Array Value} {below : List Frame} {meth : Method} {c : Code} {K : zK} {r : Int} {F9 : zF} {B9 : zB} (X : zX D ca L aS vS A p s m args meth c prog_12_method_12_code 1 (Option.some Jvm.ClassFile.FieldType.boolean) "StaveHouse$Tokens") {s0 : Int} {F : zF} {B : zB} {H : Heap} {locs : List Loc} {ls : Array Slot} (hf : f_Tokens_isLetter_17 K s0 F B = some (r, F9, B9)) (hZ : zH D ca ad lnC K.2 L F B A H) (hS : va_S A s.heap H locs) (hl : lv_has ls 1 []) : W p l e ({ frames := 0, cells := 0, slots := 0, locals := 0 } : Room) s m args below meth c H locs 0 0 (MQ below (Q_Tokens_isLetter K D ca ad L r F9 B9 A) args s 0 0 A) (F0 m 17 ls [.int (iI s0)]) := by
  obtain ⟨hx, hb, hr, hml, hown, hts, hlk, hK, hA, hL, hX⟩ := id X
  replace hf : (if (s0 = 0 ∨ s0 = 1) then some (s0, F, B) else none) = some (r, F9, B9) := hf
  obtain ⟨g4, hf⟩ := gif hf
  cases hf
  exact W.zret hx hb hr (zbool g4) (fun t ht hW => ⟨⟨_, (), rfl, rfl, by rw [ht]; exact hZ, va_K.moved hW.alike hK⟩, hS.F ht⟩) hS.2.2 d_12_12_17 hlk

noncomputable def f_Tokens_isLetter_16 (K : zK)  (F : zF) (B : zB) : zO := f_Tokens_isLetter_17 K 0 F B
set_option maxHeartbeats 4000000 in
set_option maxRecDepth 100000 in
theorem b_Tokens_isLetter_16 {D : va_G} {ca : Nat → ClassId} {ad : Nat → Int → Nat → Nat} {L : List Nat} {aS vS : Nat → Nat} {A : Nat → Prop} {p : Program} {l : Launch} {e : Env} {s : State} {m : MethodId} {args : Array Value} {below : List Frame} {meth : Method} {c : Code} {K : zK} {r : Int} {F9 : zF} {B9 : zB} (X : zX D ca L aS vS A p s m args meth c prog_12_method_12_code 1 (Option.some Jvm.ClassFile.FieldType.boolean) "StaveHouse$Tokens")  {F : zF} {B : zB} {H : Heap} {locs : List Loc} {ls : Array Slot} (hf : f_Tokens_isLetter_16 K  F B = some (r, F9, B9)) (hZ : zH D ca ad lnC K.2 L F B A H) (hS : va_S A s.heap H locs) (hl : lv_has ls 1 []) : W p l e ({ frames := 0, cells := 0, slots := 0, locals := 0 } : Room) s m args below meth c H locs 0 0 (MQ below (Q_Tokens_isLetter K D ca ad L r F9 B9 A) args s 0 0 A) (F0 m 16 ls []) := by
  obtain ⟨hx, hb, hr, hml, hown, hts, hlk, hK, hA, hL, hX⟩ := id X
  replace hf : (f_Tokens_isLetter_17 K 0 F B) = some (r, F9, B9) := hf
  refine lv_iconst (v := iI 0) hx hb d_12_12_16 rfl ?_
  exact b_Tokens_isLetter_17 X hf hZ hS (lv_sub hl [] rfl)

noncomputable def f_Tokens_isLetter (K : zK) (l0 : Int) (F : zF) (B : zB) : zO := if r32 l0 then (if l0 < 97 then f_Tokens_isLetter_16 K F B else (if 122 < l0 then f_Tokens_isLetter_16 K F B else f_Tokens_isLetter_17 K 1 F B)) else none
set_option maxHeartbeats 4000000 in
set_option maxRecDepth 100000 in
theorem c_Tokens_isLetter {l : Launch} {D : va_G} {ca : Nat → ClassId} {ad : Nat → Int → Nat → Nat} {L : List Nat} {aS vS : Nat → Nat} {sz : Nat} {K : zK}  {l0 : Int} {F F9 : zF} {B B9 : zB} {r : Int} (hf : f_Tokens_isLetter K l0 F B = some (r, F9, B9)) : Met l ({ cls := "StaveHouse$Tokens", name := "isLetter", desc := "(I)Z" } : Jvm.MethodName) (Cond.code ({ cls := "StaveHouse$Tokens", name := "isLetter", desc := "(I)Z" } : Jvm.MethodName) prog_12_method_12_code 1 (Option.some Jvm.ClassFile.FieldType.boolean) :: wAll) ({ frames := 0, cells := 0, slots := 0, locals := 0 } : Room) (va_Pc [.int (iI l0)] (zPre D ca ad lnC K.2 L aS vS F B sz)) (Q_Tokens_isLetter K D ca ad L r F9 B9 (zA L sz)) 0 0 (zA L sz) := by
  refine zMet (Qc := Q_Tokens_isLetter K D ca ad L r F9 B9) (lv := [(0, .int (iI l0))]) (by decide) (Nat.le_of_ble_eq_true rfl) rfl (fun A p e s m below meth c ls X hZ hS hl => ?_)
  obtain ⟨hx, hb, hr, hml, hown, hts, hlk, hK, hA, hL, hX⟩ := id X
  replace hf : (if r32 l0 then (if l0 < 97 then f_Tokens_isLetter_16 K F B else (if 122 < l0 then f_Tokens_isLetter_16 K F B else f_Tokens_isLetter_17 K 1 F B)) else none) = some (r, F9, B9) := hf
  refine lv_iload_n hx hb d_12_12_0 rfl (lv_at hl 0 rfl) ?_
  refine lv_bipush (v := iI 97) hx hb d_12_12_1 (by decide) ?_
  obtain ⟨g1, hf⟩ := gif hf
  refine zlt (tgt := 16) hx hb g1 (by decide) d_12_12_3 (by decide) (fun h2 => ?_) (fun h2 => ?_)
  · replace hf := gpos hf h2
    exact b_Tokens_isLetter_16 X hf hZ hS (lv_sub hl [] rfl)
  · replace hf := gneg hf h2
    refine lv_iload_n hx hb d_12_12_6 rfl (lv_at hl 0 rfl) ?_
    refine lv_bipush (v := iI 122) hx hb d_12_12_7 (by decide) ?_
    refine zgt (tgt := 16) hx hb g1 (by decide) d_12_12_9 (by decide) (fun h3 => ?_) (fun h3 => ?_)
    · replace hf := gpos hf h3
      exact b_Tokens_isLetter_16 X hf hZ hS (lv_sub hl [] rfl)
    · replace hf := gneg hf h3
      refine lv_iconst (v := iI 1) hx hb d_12_12_12 rfl ?_
      refine lv_goto (tgt := 17) hx hb d_12_12_13 (by decide) ?_
      exact b_Tokens_isLetter_17 X hf hZ hS (lv_sub hl [] rfl)

noncomputable abbrev Q_Tokens_isDigit (K : zK) (D : va_G) (ca : Nat → ClassId) (ad : Nat → Int → Nat → Nat) (L : List Nat) (r : Int) (F : zF) (B : zB) (A : Nat → Prop) : Array Value → State → Outcome → State → Prop := va_Qi (S := Unit) (fun p _ => p = iI r) (fun _ => zPo D ca ad lnC K.2 L F B A) A
noncomputable def f_Tokens_isDigit_17 (K : zK) (s0 : Int) (F : zF) (B : zB) : zO := if (s0 = 0 ∨ s0 = 1) then some (s0, F, B) else none
set_option maxHeartbeats 4000000 in
set_option maxRecDepth 100000 in
theorem b_Tokens_isDigit_17 {D : va_G} {ca : Nat → ClassId} {ad : Nat → Int → Nat → Nat} {L : List Nat} {aS vS : Nat → Nat} {A : Nat → Prop} {p : Program} {l : Launch} {e : Env} {s : State} {m : MethodId} {args : Array Value} {below : List Frame} {meth : Method} {c : Code} {K : zK} {r : Int} {F9 : zF} {B9 : zB} (X : zX D ca L aS vS A p s m args meth c prog_12_method_13_code 1 (Option.some Jvm.ClassFile.FieldType.boolean) "StaveHouse$Tokens") {s0 : Int} {F : zF} {B : zB} {H : Heap} {locs : List Loc} {ls : Array Slot} (hf : f_Tokens_isDigit_17 K s0 F B = some (r, F9, B9)) (hZ : zH D ca ad lnC K.2 L F B A H) (hS : va_S A s.heap H locs) (hl : lv_has ls 1 []) : W p l e ({ frames := 0, cells := 0, slots := 0, locals := 0 } : Room) s m args below meth c H locs 0 0 (MQ below (Q_Tokens_isDigit K D ca ad L r F9 B9 A) args s 0 0 A) (F0 m 17 ls [.int (iI s0)]) := by
  obtain ⟨hx, hb, hr, hml, hown, hts, hlk, hK, hA, hL, hX⟩ := id X
  replace hf : (if (s0 = 0 ∨ s0 = 1) then some (s0, F, B) else none) = some (r, F9, B9) := hf
  obtain ⟨g4, hf⟩ := gif hf
  cases hf
  exact W.zret hx hb hr (zbool g4) (fun t ht hW => ⟨⟨_, (), rfl, rfl, by rw [ht]; exact hZ, va_K.moved hW.alike hK⟩, hS.F ht⟩) hS.2.2 d_12_13_17 hlk

noncomputable def f_Tokens_isDigit_16 (K : zK)  (F : zF) (B : zB) : zO := f_Tokens_isDigit_17 K 0 F B
set_option maxHeartbeats 4000000 in
set_option maxRecDepth 100000 in
theorem b_Tokens_isDigit_16 {D : va_G} {ca : Nat → ClassId} {ad : Nat → Int → Nat → Nat} {L : List Nat} {aS vS : Nat → Nat} {A : Nat → Prop} {p : Program} {l : Launch} {e : Env} {s : State} {m : MethodId} {args : Array Value} {below : List Frame} {meth : Method} {c : Code} {K : zK} {r : Int} {F9 : zF} {B9 : zB} (X : zX D ca L aS vS A p s m args meth c prog_12_method_13_code 1 (Option.some Jvm.ClassFile.FieldType.boolean) "StaveHouse$Tokens")  {F : zF} {B : zB} {H : Heap} {locs : List Loc} {ls : Array Slot} (hf : f_Tokens_isDigit_16 K  F B = some (r, F9, B9)) (hZ : zH D ca ad lnC K.2 L F B A H) (hS : va_S A s.heap H locs) (hl : lv_has ls 1 []) : W p l e ({ frames := 0, cells := 0, slots := 0, locals := 0 } : Room) s m args below meth c H locs 0 0 (MQ below (Q_Tokens_isDigit K D ca ad L r F9 B9 A) args s 0 0 A) (F0 m 16 ls []) := by
  obtain ⟨hx, hb, hr, hml, hown, hts, hlk, hK, hA, hL, hX⟩ := id X
  replace hf : (f_Tokens_isDigit_17 K 0 F B) = some (r, F9, B9) := hf
  refine lv_iconst (v := iI 0) hx hb d_12_13_16 rfl ?_
  exact b_Tokens_isDigit_17 X hf hZ hS (lv_sub hl [] rfl)

noncomputable def f_Tokens_isDigit (K : zK) (l0 : Int) (F : zF) (B : zB) : zO := if r32 l0 then (if l0 < 48 then f_Tokens_isDigit_16 K F B else (if 57 < l0 then f_Tokens_isDigit_16 K F B else f_Tokens_isDigit_17 K 1 F B)) else none
set_option maxHeartbeats 4000000 in
set_option maxRecDepth 100000 in
theorem c_Tokens_isDigit {l : Launch} {D : va_G} {ca : Nat → ClassId} {ad : Nat → Int → Nat → Nat} {L : List Nat} {aS vS : Nat → Nat} {sz : Nat} {K : zK}  {l0 : Int} {F F9 : zF} {B B9 : zB} {r : Int} (hf : f_Tokens_isDigit K l0 F B = some (r, F9, B9)) : Met l ({ cls := "StaveHouse$Tokens", name := "isDigit", desc := "(I)Z" } : Jvm.MethodName) (Cond.code ({ cls := "StaveHouse$Tokens", name := "isDigit", desc := "(I)Z" } : Jvm.MethodName) prog_12_method_13_code 1 (Option.some Jvm.ClassFile.FieldType.boolean) :: wAll) ({ frames := 0, cells := 0, slots := 0, locals := 0 } : Room) (va_Pc [.int (iI l0)] (zPre D ca ad lnC K.2 L aS vS F B sz)) (Q_Tokens_isDigit K D ca ad L r F9 B9 (zA L sz)) 0 0 (zA L sz) := by
  refine zMet (Qc := Q_Tokens_isDigit K D ca ad L r F9 B9) (lv := [(0, .int (iI l0))]) (by decide) (Nat.le_of_ble_eq_true rfl) rfl (fun A p e s m below meth c ls X hZ hS hl => ?_)
  obtain ⟨hx, hb, hr, hml, hown, hts, hlk, hK, hA, hL, hX⟩ := id X
  replace hf : (if r32 l0 then (if l0 < 48 then f_Tokens_isDigit_16 K F B else (if 57 < l0 then f_Tokens_isDigit_16 K F B else f_Tokens_isDigit_17 K 1 F B)) else none) = some (r, F9, B9) := hf
  refine lv_iload_n hx hb d_12_13_0 rfl (lv_at hl 0 rfl) ?_
  refine lv_bipush (v := iI 48) hx hb d_12_13_1 (by decide) ?_
  obtain ⟨g1, hf⟩ := gif hf
  refine zlt (tgt := 16) hx hb g1 (by decide) d_12_13_3 (by decide) (fun h2 => ?_) (fun h2 => ?_)
  · replace hf := gpos hf h2
    exact b_Tokens_isDigit_16 X hf hZ hS (lv_sub hl [] rfl)
  · replace hf := gneg hf h2
    refine lv_iload_n hx hb d_12_13_6 rfl (lv_at hl 0 rfl) ?_
    refine lv_bipush (v := iI 57) hx hb d_12_13_7 (by decide) ?_
    refine zgt (tgt := 16) hx hb g1 (by decide) d_12_13_9 (by decide) (fun h3 => ?_) (fun h3 => ?_)
    · replace hf := gpos hf h3
      exact b_Tokens_isDigit_16 X hf hZ hS (lv_sub hl [] rfl)
    · replace hf := gneg hf h3
      refine lv_iconst (v := iI 1) hx hb d_12_13_12 rfl ?_
      refine lv_goto (tgt := 17) hx hb d_12_13_13 (by decide) ?_
      exact b_Tokens_isDigit_17 X hf hZ hS (lv_sub hl [] rfl)

noncomputable abbrev Q_Tokens_isPitch (K : zK) (D : va_G) (ca : Nat → ClassId) (ad : Nat → Int → Nat → Nat) (L : List Nat) (r : Int) (F : zF) (B : zB) (A : Nat → Prop) : Array Value → State → Outcome → State → Prop := va_Qi (S := Unit) (fun p _ => p = iI r) (fun _ => zPo D ca ad lnC K.2 L F B A) A
noncomputable def f_Tokens_isPitch_108 (rec67 : Int → Int → Int → Int → Int → zF → zB → zO) (K : zK) (l6 : Int) (l5 : Int) (l0 : Int) (l1 : Int) (l2 : Int) (F : zF) (B : zB) : zO := rec67 (l6 + 1) l5 l0 l1 l2 F B
set_option maxHeartbeats 4000000 in
set_option maxRecDepth 100000 in
theorem b_Tokens_isPitch_108 {D : va_G} {ca : Nat → ClassId} {ad : Nat → Int → Nat → Nat} {L : List Nat} {aS vS : Nat → Nat} {A : Nat → Prop} {p : Program} {l : Launch} {e : Env} {s : State} {m : MethodId} {args : Array Value} {below : List Frame} {meth : Method} {c : Code} {K : zK} {r : Int} {F9 : zF} {B9 : zB} (X : zX D ca L aS vS A p s m args meth c prog_12_method_9_code 8 (Option.some Jvm.ClassFile.FieldType.boolean) "StaveHouse$Tokens") {rec67 : Int → Int → Int → Int → Int → zF → zB → zO} (hrec67 : ∀ {l6 : Int} {l5 : Int} {l0 : Int} {l1 : Int} {l2 : Int} {F : zF} {B : zB} {H : Heap} {locs : List Loc} {ls : Array Slot}, rec67 l6 l5 l0 l1 l2 F B = some (r, F9, B9) → zH D ca ad lnC K.2 L F B A H → va_S A s.heap H locs → lv_has ls 8 [(6, .int (iI l6)), (5, .int (iI l5)), (0, .ref (ad 0 l0 0)), (1, .int (iI l1)), (2, .int (iI l2))] → W p l e ({ frames := 1, cells := 0, slots := 0, locals := 21 } : Room) s m args below meth c H locs 0 0 (MQ below (Q_Tokens_isPitch K D ca ad L r F9 B9 A) args s 0 0 A) (F0 m 67 ls [])) {l6 : Int} {l5 : Int} {l0 : Int} {l1 : Int} {l2 : Int} {F : zF} {B : zB} {H : Heap} {locs : List Loc} {ls : Array Slot} (hf : f_Tokens_isPitch_108 rec67 K l6 l5 l0 l1 l2 F B = some (r, F9, B9)) (hZ : zH D ca ad lnC K.2 L F B A H) (hS : va_S A s.heap H locs) (hl : lv_has ls 8 [(6, .int (iI l6)), (5, .int (iI l5)), (0, .ref (ad 0 l0 0)), (1, .int (iI l1)), (2, .int (iI l2))]) : W p l e ({ frames := 1, cells := 0, slots := 0, locals := 21 } : Room) s m args below meth c H locs 0 0 (MQ below (Q_Tokens_isPitch K D ca ad L r F9 B9 A) args s 0 0 A) (F0 m 108 ls []) := by
  obtain ⟨hx, hb, hr, hml, hown, hts, hlk, hK, hA, hL, hX⟩ := id X
  replace hf : (rec67 (l6 + 1) l5 l0 l1 l2 F B) = some (r, F9, B9) := hf
  refine lv_iinc (v := iI (l6 + 1)) (lv' := [(6, .int (iI (l6 + 1))), (5, .int (iI l5)), (0, .ref (ad 0 l0 0)), (1, .int (iI l1)), (2, .int (iI l2))]) hx hb d_12_9_108 hl (k := 0) rfl (iI_add _ 1) (by decide) rfl (fun ls hl => ?_)
  refine lv_goto (tgt := 67) hx hb d_12_9_111 (by decide) ?_
  exact hrec67 hf hZ hS (lv_sub hl [0, 1, 2, 3, 4] rfl)

noncomputable def f_Tokens_isPitch_106 (K : zK)  (F : zF) (B : zB) : zO := some (0, F, B)
set_option maxHeartbeats 4000000 in
set_option maxRecDepth 100000 in
theorem b_Tokens_isPitch_106 {D : va_G} {ca : Nat → ClassId} {ad : Nat → Int → Nat → Nat} {L : List Nat} {aS vS : Nat → Nat} {A : Nat → Prop} {p : Program} {l : Launch} {e : Env} {s : State} {m : MethodId} {args : Array Value} {below : List Frame} {meth : Method} {c : Code} {K : zK} {r : Int} {F9 : zF} {B9 : zB} (X : zX D ca L aS vS A p s m args meth c prog_12_method_9_code 8 (Option.some Jvm.ClassFile.FieldType.boolean) "StaveHouse$Tokens")  {F : zF} {B : zB} {H : Heap} {locs : List Loc} {ls : Array Slot} (hf : f_Tokens_isPitch_106 K  F B = some (r, F9, B9)) (hZ : zH D ca ad lnC K.2 L F B A H) (hS : va_S A s.heap H locs) (hl : lv_has ls 8 []) : W p l e ({ frames := 1, cells := 0, slots := 0, locals := 21 } : Room) s m args below meth c H locs 0 0 (MQ below (Q_Tokens_isPitch K D ca ad L r F9 B9 A) args s 0 0 A) (F0 m 106 ls []) := by
  obtain ⟨hx, hb, hr, hml, hown, hts, hlk, hK, hA, hL, hX⟩ := id X
  replace hf : (some (0, F, B)) = some (r, F9, B9) := hf
  refine lv_iconst (v := iI 0) hx hb d_12_9_106 rfl ?_
  cases hf
  exact W.zret hx hb hr rfl (fun t ht hW => ⟨⟨_, (), rfl, rfl, by rw [ht]; exact hZ, va_K.moved hW.alike hK⟩, hS.F ht⟩) hS.2.2 d_12_9_107 hlk

noncomputable def f_Tokens_isPitch_67 (K : zK) : Nat → Int → Int → Int → Int → Int → zF → zB → zO
  | 0, _, _, _, _, _, _, _ => none
  | n + 1, l6, l5, l0, l1, l2, F, B => if r32 l6 then if r32 (l2 - 1) then (if (l2 - 1) ≤ l6 then some (1, F, B) else if 0 ≤ l0 ∧ l0 < K.2 0 then zbind (f_ByteRow_at K l0 (l1 + l6) F B) (fun r18 F18 B18 => if r32 r18 then if r32 l5 then (if r18 = l5 then (if r18 = 35 then f_Tokens_isPitch_108 (f_Tokens_isPitch_67 K n) K l6 l5 l0 l1 l2 F18 B18 else (if r18 = 98 then f_Tokens_isPitch_108 (f_Tokens_isPitch_67 K n) K l6 l5 l0 l1 l2 F18 B18 else f_Tokens_isPitch_106 K F18 B18)) else f_Tokens_isPitch_106 K F18 B18) else none else none) else none) else none else none
set_option maxHeartbeats 4000000 in
set_option maxRecDepth 100000 in
theorem b_Tokens_isPitch_67 {D : va_G} {ca : Nat → ClassId} {ad : Nat → Int → Nat → Nat} {L : List Nat} {aS vS : Nat → Nat} {A : Nat → Prop} {p : Program} {l : Launch} {e : Env} {s : State} {m : MethodId} {args : Array Value} {below : List Frame} {meth : Method} {c : Code} {K : zK} {r : Int} {F9 : zF} {B9 : zB} (X : zX D ca L aS vS A p s m args meth c prog_12_method_9_code 8 (Option.some Jvm.ClassFile.FieldType.boolean) "StaveHouse$Tokens") : ∀ {n : Nat} {l6 : Int} {l5 : Int} {l0 : Int} {l1 : Int} {l2 : Int} {F : zF} {B : zB} {H : Heap} {locs : List Loc} {ls : Array Slot}, f_Tokens_isPitch_67 K n l6 l5 l0 l1 l2 F B = some (r, F9, B9) → zH D ca ad lnC K.2 L F B A H → va_S A s.heap H locs → lv_has ls 8 [(6, .int (iI l6)), (5, .int (iI l5)), (0, .ref (ad 0 l0 0)), (1, .int (iI l1)), (2, .int (iI l2))] → W p l e ({ frames := 1, cells := 0, slots := 0, locals := 21 } : Room) s m args below meth c H locs 0 0 (MQ below (Q_Tokens_isPitch K D ca ad L r F9 B9 A) args s 0 0 A) (F0 m 67 ls []) := by
  obtain ⟨hx, hb, hr, hml, hown, hts, hlk, hK, hA, hL, hX⟩ := id X
  intro n
  induction n with
  | zero =>
    intros
    rename_i hf _ _ _
    cases hf
  | succ n ih =>
    intro l6 l5 l0 l1 l2 F B H locs ls hf hZ hS hl
    replace hf : (if r32 l6 then if r32 (l2 - 1) then (if (l2 - 1) ≤ l6 then some (1, F, B) else if 0 ≤ l0 ∧ l0 < K.2 0 then zbind (f_ByteRow_at K l0 (l1 + l6) F B) (fun r18 F18 B18 => if r32 r18 then if r32 l5 then (if r18 = l5 then (if r18 = 35 then f_Tokens_isPitch_108 (f_Tokens_isPitch_67 K n) K l6 l5 l0 l1 l2 F18 B18 else (if r18 = 98 then f_Tokens_isPitch_108 (f_Tokens_isPitch_67 K n) K l6 l5 l0 l1 l2 F18 B18 else f_Tokens_isPitch_106 K F18 B18)) else f_Tokens_isPitch_106 K F18 B18) else none else none) else none) else none else none) = some (r, F9, B9) := hf
    refine lv_iload hx hb d_12_9_67 (lv_at hl 0 rfl) ?_
    refine lv_iload_n hx hb d_12_9_69 rfl (lv_at hl 4 rfl) ?_
    refine lv_iconst (v := iI 1) hx hb d_12_9_70 rfl ?_
    refine zsub hx hb d_12_9_71 ?_
    obtain ⟨g14, hf⟩ := gif hf
    obtain ⟨g15, hf⟩ := gif hf
    refine zge (tgt := 114) hx hb g14 g15 d_12_9_72 (by decide) (fun h16 => ?_) (fun h16 => ?_)
    · replace hf := gpos hf h16
      refine lv_iconst (v := iI 1) hx hb d_12_9_114 rfl ?_
      cases hf
      exact W.zret hx hb hr rfl (fun t ht hW => ⟨⟨_, (), rfl, rfl, by rw [ht]; exact hZ, va_K.moved hW.alike hK⟩, hS.F ht⟩) hS.2.2 d_12_9_115 hlk
    · replace hf := gneg hf h16
      refine lv_aload_n hx hb d_12_9_75 rfl (lv_at hl 2 rfl) ?_
      refine lv_iload_n hx hb d_12_9_76 rfl (lv_at hl 3 rfl) ?_
      refine lv_iload hx hb d_12_9_77 (lv_at hl 0 rfl) ?_
      refine zadd hx hb d_12_9_79 ?_
      obtain ⟨g17, hf⟩ := gif hf
      obtain ⟨r18, F18, B18, hc18, hf⟩ := gbind hf
      refine va_calli (va_runV (As := [.int (iI (l1 + l6))]) (rest := []) ⟨hx, hb, hml, hown, hts⟩ (c_ByteRow_at (l := l) hc18) (cwV 1 hts (gdV k_3_34 k_3_35 k_3_36 k_1_2 k_3_37) rfl rfl rfl (by decide +kernel) ⟨Nat.le_of_ble_eq_true rfl, Nat.le_of_ble_eq_true rfl⟩) (zPV X hZ hS (ci := 0) g17.1 g17.2 (r := (RX0, TX0, 3)) rfl [.int (iI (l1 + l6))]) rfl rfl hl.1 rfl (lv_room (Nat.le_of_ble_eq_true rfl)) d_12_9_80 ⟨Nat.le_of_ble_eq_true rfl, Nat.le_of_ble_eq_true rfl⟩) hS (fun q _ h => zAin X hS q h) (zAin X hS) (fun p18 u18 t18 H18 locs18 ht18 hv18 hw18 hB18 hz18 hk18 hS18 => ?_)
      have hZ18 := zBack X ht18 hB18
      subst hw18
      refine lv_istore (lv' := [(7, .int (iI r18)), (6, .int (iI l6)), (5, .int (iI l5)), (0, .ref (ad 0 l0 0)), (1, .int (iI l1)), (2, .int (iI l2))]) hx hb d_12_9_83 hl (by decide) rfl (fun ls hl => ?_)
      refine lv_iload hx hb d_12_9_85 (lv_at hl 0 rfl) ?_
      refine lv_iload hx hb d_12_9_87 (lv_at hl 2 rfl) ?_
      obtain ⟨g19, hf⟩ := gif hf
      obtain ⟨g20, hf⟩ := gif hf
      refine zne (tgt := 106) hx hb g19 g20 d_12_9_89 (by decide) (fun h21 => ?_) (fun h21 => ?_)
      · replace hf := gneg hf h21
        exact b_Tokens_isPitch_106 X hf hZ18 hS18 (lv_sub hl [] rfl)
      · replace hf := gpos hf h21
        refine lv_iload hx hb d_12_9_92 (lv_at hl 0 rfl) ?_
        refine lv_bipush (v := iI 35) hx hb d_12_9_94 (by decide) ?_
        refine zeq (tgt := 108) hx hb g19 (by decide) d_12_9_96 (by decide) (fun h22 => ?_) (fun h22 => ?_)
        · replace hf := gpos hf h22
          exact b_Tokens_isPitch_108 X ih hf hZ18 hS18 (lv_sub hl [1, 2, 3, 4, 5] rfl)
        · replace hf := gneg hf h22
          refine lv_iload hx hb d_12_9_99 (lv_at hl 0 rfl) ?_
          refine lv_bipush (v := iI 98) hx hb d_12_9_101 (by decide) ?_
          refine zeq (tgt := 108) hx hb g19 (by decide) d_12_9_103 (by decide) (fun h23 => ?_) (fun h23 => ?_)
          · replace hf := gpos hf h23
            exact b_Tokens_isPitch_108 X ih hf hZ18 hS18 (lv_sub hl [1, 2, 3, 4, 5] rfl)
          · replace hf := gneg hf h23
            exact b_Tokens_isPitch_106 X hf hZ18 hS18 (lv_sub hl [] rfl)

noncomputable def f_Tokens_isPitch_53 (K : zK)  (F : zF) (B : zB) : zO := some (0, F, B)
set_option maxHeartbeats 4000000 in
set_option maxRecDepth 100000 in
theorem b_Tokens_isPitch_53 {D : va_G} {ca : Nat → ClassId} {ad : Nat → Int → Nat → Nat} {L : List Nat} {aS vS : Nat → Nat} {A : Nat → Prop} {p : Program} {l : Launch} {e : Env} {s : State} {m : MethodId} {args : Array Value} {below : List Frame} {meth : Method} {c : Code} {K : zK} {r : Int} {F9 : zF} {B9 : zB} (X : zX D ca L aS vS A p s m args meth c prog_12_method_9_code 8 (Option.some Jvm.ClassFile.FieldType.boolean) "StaveHouse$Tokens")  {F : zF} {B : zB} {H : Heap} {locs : List Loc} {ls : Array Slot} (hf : f_Tokens_isPitch_53 K  F B = some (r, F9, B9)) (hZ : zH D ca ad lnC K.2 L F B A H) (hS : va_S A s.heap H locs) (hl : lv_has ls 8 []) : W p l e ({ frames := 1, cells := 0, slots := 0, locals := 21 } : Room) s m args below meth c H locs 0 0 (MQ below (Q_Tokens_isPitch K D ca ad L r F9 B9 A) args s 0 0 A) (F0 m 53 ls []) := by
  obtain ⟨hx, hb, hr, hml, hown, hts, hlk, hK, hA, hL, hX⟩ := id X
  replace hf : (some (0, F, B)) = some (r, F9, B9) := hf
  refine lv_iconst (v := iI 0) hx hb d_12_9_53 rfl ?_
  cases hf
  exact W.zret hx hb hr rfl (fun t ht hW => ⟨⟨_, (), rfl, rfl, by rw [ht]; exact hZ, va_K.moved hW.alike hK⟩, hS.F ht⟩) hS.2.2 d_12_9_54 hlk

noncomputable def f_Tokens_isPitch (K : zK) (l0 : Int) (l1 : Int) (l2 : Int) (F : zF) (B : zB) : zO := if 0 ≤ l0 ∧ l0 < K.2 0 then zbind (f_ByteRow_at K l0 l1 F B) (fun r2 F2 B2 => zbind (f_ByteRow_at K l0 ((l1 + l2) - 1) F2 B2) (fun r3 F3 B3 => if r32 l2 then (if l2 < 2 then f_Tokens_isPitch_53 K F3 B3 else (if 4 < l2 then f_Tokens_isPitch_53 K F3 B3 else if r32 r2 then (if r2 < 97 then f_Tokens_isPitch_53 K F3 B3 else (if 103 < r2 then f_Tokens_isPitch_53 K F3 B3 else if r32 r3 then (if r3 < 48 then f_Tokens_isPitch_53 K F3 B3 else (if r3 ≤ 56 then zbind (f_ByteRow_at K l0 (l1 + 1) F3 B3) (fun r13 F13 B13 => f_Tokens_isPitch_67 K K.1 1 r13 l0 l1 l2 F13 B13) else f_Tokens_isPitch_53 K F3 B3)) else none)) else none)) else none)) else none
set_option maxHeartbeats 4000000 in
set_option maxRecDepth 100000 in
theorem c_Tokens_isPitch {l : Launch} {D : va_G} {ca : Nat → ClassId} {ad : Nat → Int → Nat → Nat} {L : List Nat} {aS vS : Nat → Nat} {sz : Nat} {K : zK}  {l0 : Int} {l1 : Int} {l2 : Int} {F F9 : zF} {B B9 : zB} {r : Int} (hf : f_Tokens_isPitch K l0 l1 l2 F B = some (r, F9, B9)) : Met l ({ cls := "StaveHouse$Tokens", name := "isPitch", desc := "(LStaveHouse$ByteRow;II)Z" } : Jvm.MethodName) (Cond.code ({ cls := "StaveHouse$Tokens", name := "isPitch", desc := "(LStaveHouse$ByteRow;II)Z" } : Jvm.MethodName) prog_12_method_9_code 8 (Option.some Jvm.ClassFile.FieldType.boolean) :: wAll) ({ frames := 1, cells := 0, slots := 0, locals := 21 } : Room) (va_Pc [.ref (ad 0 l0 0), .int (iI l1), .int (iI l2)] (zPre D ca ad lnC K.2 L aS vS F B sz)) (Q_Tokens_isPitch K D ca ad L r F9 B9 (zA L sz)) 0 0 (zA L sz) := by
  refine zMet (Qc := Q_Tokens_isPitch K D ca ad L r F9 B9) (lv := [(0, .ref (ad 0 l0 0)), (1, .int (iI l1)), (2, .int (iI l2))]) (by decide) (Nat.le_of_ble_eq_true rfl) rfl (fun A p e s m below meth c ls X hZ hS hl => ?_)
  obtain ⟨hx, hb, hr, hml, hown, hts, hlk, hK, hA, hL, hX⟩ := id X
  replace hf : (if 0 ≤ l0 ∧ l0 < K.2 0 then zbind (f_ByteRow_at K l0 l1 F B) (fun r2 F2 B2 => zbind (f_ByteRow_at K l0 ((l1 + l2) - 1) F2 B2) (fun r3 F3 B3 => if r32 l2 then (if l2 < 2 then f_Tokens_isPitch_53 K F3 B3 else (if 4 < l2 then f_Tokens_isPitch_53 K F3 B3 else if r32 r2 then (if r2 < 97 then f_Tokens_isPitch_53 K F3 B3 else (if 103 < r2 then f_Tokens_isPitch_53 K F3 B3 else if r32 r3 then (if r3 < 48 then f_Tokens_isPitch_53 K F3 B3 else (if r3 ≤ 56 then zbind (f_ByteRow_at K l0 (l1 + 1) F3 B3) (fun r13 F13 B13 => f_Tokens_isPitch_67 K K.1 1 r13 l0 l1 l2 F13 B13) else f_Tokens_isPitch_53 K F3 B3)) else none)) else none)) else none)) else none) = some (r, F9, B9) := hf
  refine lv_aload_n hx hb d_12_9_0 rfl (lv_at hl 0 rfl) ?_
  refine lv_iload_n hx hb d_12_9_1 rfl (lv_at hl 1 rfl) ?_
  obtain ⟨g1, hf⟩ := gif hf
  obtain ⟨r2, F2, B2, hc2, hf⟩ := gbind hf
  refine va_calli (va_runV (As := [.int (iI l1)]) (rest := []) ⟨hx, hb, hml, hown, hts⟩ (c_ByteRow_at (l := l) hc2) (cwV 1 hts (gdV k_3_34 k_3_35 k_3_36 k_1_2 k_3_37) rfl rfl rfl (by decide +kernel) ⟨Nat.le_of_ble_eq_true rfl, Nat.le_of_ble_eq_true rfl⟩) (zPV X hZ hS (ci := 0) g1.1 g1.2 (r := (RX0, TX0, 3)) rfl [.int (iI l1)]) rfl rfl hl.1 rfl (lv_room (Nat.le_of_ble_eq_true rfl)) d_12_9_2 ⟨Nat.le_of_ble_eq_true rfl, Nat.le_of_ble_eq_true rfl⟩) hS (fun q _ h => zAin X hS q h) (zAin X hS) (fun p2 u2 t2 H2 locs2 ht2 hv2 hw2 hB2 hz2 hk2 hS2 => ?_)
  have hZ2 := zBack X ht2 hB2
  subst hw2
  refine lv_istore_n (lv' := [(3, .int (iI r2)), (0, .ref (ad 0 l0 0)), (1, .int (iI l1)), (2, .int (iI l2))]) hx hb d_12_9_5 rfl hl (by decide) rfl (fun ls hl => ?_)
  refine lv_aload_n hx hb d_12_9_6 rfl (lv_at hl 1 rfl) ?_
  refine lv_iload_n hx hb d_12_9_7 rfl (lv_at hl 2 rfl) ?_
  refine lv_iload_n hx hb d_12_9_8 rfl (lv_at hl 3 rfl) ?_
  refine zadd hx hb d_12_9_9 ?_
  refine lv_iconst (v := iI 1) hx hb d_12_9_10 rfl ?_
  refine zsub hx hb d_12_9_11 ?_
  obtain ⟨r3, F3, B3, hc3, hf⟩ := gbind hf
  refine va_calli (va_runV (As := [.int (iI ((l1 + l2) - 1))]) (rest := []) ⟨hx, hb, hml, hown, hts⟩ (c_ByteRow_at (l := l) hc3) (cwV 1 hts (gdV k_3_34 k_3_35 k_3_36 k_1_2 k_3_37) rfl rfl rfl (by decide +kernel) ⟨Nat.le_of_ble_eq_true rfl, Nat.le_of_ble_eq_true rfl⟩) (zPV X hZ2 hS2 (ci := 0) g1.1 g1.2 (r := (RX0, TX0, 3)) rfl [.int (iI ((l1 + l2) - 1))]) rfl rfl hl.1 rfl (lv_room (Nat.le_of_ble_eq_true rfl)) d_12_9_12 ⟨Nat.le_of_ble_eq_true rfl, Nat.le_of_ble_eq_true rfl⟩) hS2 (fun q _ h => zAin X hS2 q h) (zAin X hS2) (fun p3 u3 t3 H3 locs3 ht3 hv3 hw3 hB3 hz3 hk3 hS3 => ?_)
  have hZ3 := zBack X ht3 hB3
  subst hw3
  refine lv_istore (lv' := [(4, .int (iI r3)), (3, .int (iI r2)), (0, .ref (ad 0 l0 0)), (1, .int (iI l1)), (2, .int (iI l2))]) hx hb d_12_9_15 hl (by decide) rfl (fun ls hl => ?_)
  refine lv_iload_n hx hb d_12_9_17 rfl (lv_at hl 4 rfl) ?_
  refine lv_iconst (v := iI 2) hx hb d_12_9_18 rfl ?_
  obtain ⟨g4, hf⟩ := gif hf
  refine zlt (tgt := 53) hx hb g4 (by decide) d_12_9_19 (by decide) (fun h5 => ?_) (fun h5 => ?_)
  · replace hf := gpos hf h5
    exact b_Tokens_isPitch_53 X hf hZ3 hS3 (lv_sub hl [] rfl)
  · replace hf := gneg hf h5
    refine lv_iload_n hx hb d_12_9_22 rfl (lv_at hl 4 rfl) ?_
    refine lv_iconst (v := iI 4) hx hb d_12_9_23 rfl ?_
    refine zgt (tgt := 53) hx hb g4 (by decide) d_12_9_24 (by decide) (fun h6 => ?_) (fun h6 => ?_)
    · replace hf := gpos hf h6
      exact b_Tokens_isPitch_53 X hf hZ3 hS3 (lv_sub hl [] rfl)
    · replace hf := gneg hf h6
      refine lv_iload_n hx hb d_12_9_27 rfl (lv_at hl 1 rfl) ?_
      refine lv_bipush (v := iI 97) hx hb d_12_9_28 (by decide) ?_
      obtain ⟨g7, hf⟩ := gif hf
      refine zlt (tgt := 53) hx hb g7 (by decide) d_12_9_30 (by decide) (fun h8 => ?_) (fun h8 => ?_)
      · replace hf := gpos hf h8
        exact b_Tokens_isPitch_53 X hf hZ3 hS3 (lv_sub hl [] rfl)
      · replace hf := gneg hf h8
        refine lv_iload_n hx hb d_12_9_33 rfl (lv_at hl 1 rfl) ?_
        refine lv_bipush (v := iI 103) hx hb d_12_9_34 (by decide) ?_
        refine zgt (tgt := 53) hx hb g7 (by decide) d_12_9_36 (by decide) (fun h9 => ?_) (fun h9 => ?_)
        · replace hf := gpos hf h9
          exact b_Tokens_isPitch_53 X hf hZ3 hS3 (lv_sub hl [] rfl)
        · replace hf := gneg hf h9
          refine lv_iload hx hb d_12_9_39 (lv_at hl 0 rfl) ?_
          refine lv_bipush (v := iI 48) hx hb d_12_9_41 (by decide) ?_
          obtain ⟨g10, hf⟩ := gif hf
          refine zlt (tgt := 53) hx hb g10 (by decide) d_12_9_43 (by decide) (fun h11 => ?_) (fun h11 => ?_)
          · replace hf := gpos hf h11
            exact b_Tokens_isPitch_53 X hf hZ3 hS3 (lv_sub hl [] rfl)
          · replace hf := gneg hf h11
            refine lv_iload hx hb d_12_9_46 (lv_at hl 0 rfl) ?_
            refine lv_bipush (v := iI 56) hx hb d_12_9_48 (by decide) ?_
            refine zle (tgt := 55) hx hb g10 (by decide) d_12_9_50 (by decide) (fun h12 => ?_) (fun h12 => ?_)
            · replace hf := gpos hf h12
              refine lv_aload_n hx hb d_12_9_55 rfl (lv_at hl 2 rfl) ?_
              refine lv_iload_n hx hb d_12_9_56 rfl (lv_at hl 3 rfl) ?_
              refine lv_iconst (v := iI 1) hx hb d_12_9_57 rfl ?_
              refine zadd hx hb d_12_9_58 ?_
              obtain ⟨r13, F13, B13, hc13, hf⟩ := gbind hf
              refine va_calli (va_runV (As := [.int (iI (l1 + 1))]) (rest := []) ⟨hx, hb, hml, hown, hts⟩ (c_ByteRow_at (l := l) hc13) (cwV 1 hts (gdV k_3_34 k_3_35 k_3_36 k_1_2 k_3_37) rfl rfl rfl (by decide +kernel) ⟨Nat.le_of_ble_eq_true rfl, Nat.le_of_ble_eq_true rfl⟩) (zPV X hZ3 hS3 (ci := 0) g1.1 g1.2 (r := (RX0, TX0, 3)) rfl [.int (iI (l1 + 1))]) rfl rfl hl.1 rfl (lv_room (Nat.le_of_ble_eq_true rfl)) d_12_9_59 ⟨Nat.le_of_ble_eq_true rfl, Nat.le_of_ble_eq_true rfl⟩) hS3 (fun q _ h => zAin X hS3 q h) (zAin X hS3) (fun p13 u13 t13 H13 locs13 ht13 hv13 hw13 hB13 hz13 hk13 hS13 => ?_)
              have hZ13 := zBack X ht13 hB13
              subst hw13
              refine lv_istore (lv' := [(5, .int (iI r13)), (4, .int (iI r3)), (3, .int (iI r2)), (0, .ref (ad 0 l0 0)), (1, .int (iI l1)), (2, .int (iI l2))]) hx hb d_12_9_62 hl (by decide) rfl (fun ls hl => ?_)
              refine lv_iconst (v := iI 1) hx hb d_12_9_64 rfl ?_
              refine lv_istore (lv' := [(6, .int (iI 1)), (5, .int (iI r13)), (4, .int (iI r3)), (3, .int (iI r2)), (0, .ref (ad 0 l0 0)), (1, .int (iI l1)), (2, .int (iI l2))]) hx hb d_12_9_65 hl (by decide) rfl (fun ls hl => ?_)
              exact b_Tokens_isPitch_67 X hf hZ13 hS13 (lv_sub hl [0, 1, 4, 5, 6] rfl)
            · replace hf := gneg hf h12
              exact b_Tokens_isPitch_53 X hf hZ3 hS3 (lv_sub hl [] rfl)

noncomputable abbrev Q_Tokens_pitchValue (K : zK) (D : va_G) (ca : Nat → ClassId) (ad : Nat → Int → Nat → Nat) (L : List Nat) (r : Int) (F : zF) (B : zB) (A : Nat → Prop) : Array Value → State → Outcome → State → Prop := va_Ql (S := Unit) (fun p _ => p = lI r) (fun _ => zPo D ca ad lnC K.2 L F B A) A
noncomputable def f_Tokens_pitchValue_54 (K : zK) (l4 : Int) (s0 : Int) (F : zF) (B : zB) : zO := if r32 (((8 * l4) + s0) + 2) then some (((8 * l4) + s0) + 2, F, B) else none
set_option maxHeartbeats 4000000 in
set_option maxRecDepth 100000 in
theorem b_Tokens_pitchValue_54 {D : va_G} {ca : Nat → ClassId} {ad : Nat → Int → Nat → Nat} {L : List Nat} {aS vS : Nat → Nat} {A : Nat → Prop} {p : Program} {l : Launch} {e : Env} {s : State} {m : MethodId} {args : Array Value} {below : List Frame} {meth : Method} {c : Code} {K : zK} {r : Int} {F9 : zF} {B9 : zB} (X : zX D ca L aS vS A p s m args meth c prog_12_method_10_code 6 (Option.some Jvm.ClassFile.FieldType.long) "StaveHouse$Tokens") {l4 : Int} {s0 : Int} {F : zF} {B : zB} {H : Heap} {locs : List Loc} {ls : Array Slot} (hf : f_Tokens_pitchValue_54 K l4 s0 F B = some (r, F9, B9)) (hZ : zH D ca ad lnC K.2 L F B A H) (hS : va_S A s.heap H locs) (hl : lv_has ls 6 [(4, .int (iI l4))]) : W p l e ({ frames := 1, cells := 0, slots := 0, locals := 21 } : Room) s m args below meth c H locs 0 0 (MQ below (Q_Tokens_pitchValue K D ca ad L r F9 B9 A) args s 0 0 A) (F0 m 54 ls [.int (iI s0)]) := by
  obtain ⟨hx, hb, hr, hml, hown, hts, hlk, hK, hA, hL, hX⟩ := id X
  replace hf : (if r32 (((8 * l4) + s0) + 2) then some (((8 * l4) + s0) + 2, F, B) else none) = some (r, F9, B9) := hf
  refine lv_istore (lv' := [(5, .int (iI s0)), (4, .int (iI l4))]) hx hb d_12_10_54 hl (by decide) rfl (fun ls hl => ?_)
  refine lv_bipush (v := iI 8) hx hb d_12_10_56 (by decide) ?_
  refine lv_iload hx hb d_12_10_58 (lv_at hl 1 rfl) ?_
  refine zmul hx hb d_12_10_60 ?_
  refine lv_iload hx hb d_12_10_61 (lv_at hl 0 rfl) ?_
  refine zadd hx hb d_12_10_63 ?_
  refine lv_iconst (v := iI 2) hx hb d_12_10_64 rfl ?_
  refine zadd hx hb d_12_10_65 ?_
  obtain ⟨g7, hf⟩ := gif hf
  refine zi2l hx hb g7 d_12_10_66 ?_
  cases hf
  exact W.lret hx hb hr (fun t ht hW => ⟨⟨_, (), rfl, rfl, by rw [ht]; exact hZ, va_K.moved hW.alike hK⟩, hS.F ht⟩) hS.2.2 d_12_10_67 hlk

noncomputable def f_Tokens_pitchValue (K : zK) (l0 : Int) (l1 : Int) (l2 : Int) (F : zF) (B : zB) : zO := if 0 ≤ l0 ∧ l0 < K.2 0 then zbind (f_ByteRow_at K l0 l1 F B) (fun r2 F2 B2 => zbind (f_ByteRow_at K l0 ((l1 + l2) - 1) F2 B2) (fun r3 F3 B3 => zbind (f_ByteRow_at K l0 (l1 + 1) F3 B3) (fun r4 F4 B4 => if r32 r4 then (if r4 = 35 then f_Tokens_pitchValue_54 K ((7 * (r3 - 48)) + (zrm ((r2 - 97) + 5) 7)) (l2 - 2) F4 B4 else f_Tokens_pitchValue_54 K ((7 * (r3 - 48)) + (zrm ((r2 - 97) + 5) 7)) (2 - l2) F4 B4) else none))) else none
set_option maxHeartbeats 4000000 in
set_option maxRecDepth 100000 in
theorem c_Tokens_pitchValue {l : Launch} {D : va_G} {ca : Nat → ClassId} {ad : Nat → Int → Nat → Nat} {L : List Nat} {aS vS : Nat → Nat} {sz : Nat} {K : zK}  {l0 : Int} {l1 : Int} {l2 : Int} {F F9 : zF} {B B9 : zB} {r : Int} (hf : f_Tokens_pitchValue K l0 l1 l2 F B = some (r, F9, B9)) : Met l ({ cls := "StaveHouse$Tokens", name := "pitchValue", desc := "(LStaveHouse$ByteRow;II)J" } : Jvm.MethodName) (Cond.code ({ cls := "StaveHouse$Tokens", name := "pitchValue", desc := "(LStaveHouse$ByteRow;II)J" } : Jvm.MethodName) prog_12_method_10_code 6 (Option.some Jvm.ClassFile.FieldType.long) :: wAll) ({ frames := 1, cells := 0, slots := 0, locals := 21 } : Room) (va_Pc [.ref (ad 0 l0 0), .int (iI l1), .int (iI l2)] (zPre D ca ad lnC K.2 L aS vS F B sz)) (Q_Tokens_pitchValue K D ca ad L r F9 B9 (zA L sz)) 0 0 (zA L sz) := by
  refine zMet (Qc := Q_Tokens_pitchValue K D ca ad L r F9 B9) (lv := [(0, .ref (ad 0 l0 0)), (1, .int (iI l1)), (2, .int (iI l2))]) (by decide) (Nat.le_of_ble_eq_true rfl) rfl (fun A p e s m below meth c ls X hZ hS hl => ?_)
  obtain ⟨hx, hb, hr, hml, hown, hts, hlk, hK, hA, hL, hX⟩ := id X
  replace hf : (if 0 ≤ l0 ∧ l0 < K.2 0 then zbind (f_ByteRow_at K l0 l1 F B) (fun r2 F2 B2 => zbind (f_ByteRow_at K l0 ((l1 + l2) - 1) F2 B2) (fun r3 F3 B3 => zbind (f_ByteRow_at K l0 (l1 + 1) F3 B3) (fun r4 F4 B4 => if r32 r4 then (if r4 = 35 then f_Tokens_pitchValue_54 K ((7 * (r3 - 48)) + (zrm ((r2 - 97) + 5) 7)) (l2 - 2) F4 B4 else f_Tokens_pitchValue_54 K ((7 * (r3 - 48)) + (zrm ((r2 - 97) + 5) 7)) (2 - l2) F4 B4) else none))) else none) = some (r, F9, B9) := hf
  refine lv_aload_n hx hb d_12_10_0 rfl (lv_at hl 0 rfl) ?_
  refine lv_iload_n hx hb d_12_10_1 rfl (lv_at hl 1 rfl) ?_
  obtain ⟨g1, hf⟩ := gif hf
  obtain ⟨r2, F2, B2, hc2, hf⟩ := gbind hf
  refine va_calli (va_runV (As := [.int (iI l1)]) (rest := []) ⟨hx, hb, hml, hown, hts⟩ (c_ByteRow_at (l := l) hc2) (cwV 1 hts (gdV k_3_34 k_3_35 k_3_36 k_1_2 k_3_37) rfl rfl rfl (by decide +kernel) ⟨Nat.le_of_ble_eq_true rfl, Nat.le_of_ble_eq_true rfl⟩) (zPV X hZ hS (ci := 0) g1.1 g1.2 (r := (RX0, TX0, 3)) rfl [.int (iI l1)]) rfl rfl hl.1 rfl (lv_room (Nat.le_of_ble_eq_true rfl)) d_12_10_2 ⟨Nat.le_of_ble_eq_true rfl, Nat.le_of_ble_eq_true rfl⟩) hS (fun q _ h => zAin X hS q h) (zAin X hS) (fun p2 u2 t2 H2 locs2 ht2 hv2 hw2 hB2 hz2 hk2 hS2 => ?_)
  have hZ2 := zBack X ht2 hB2
  subst hw2
  refine lv_bipush (v := iI 97) hx hb d_12_10_5 (by decide) ?_
  refine zsub hx hb d_12_10_7 ?_
  refine lv_iconst (v := iI 5) hx hb d_12_10_8 rfl ?_
  refine zadd hx hb d_12_10_9 ?_
  refine lv_bipush (v := iI 7) hx hb d_12_10_10 (by decide) ?_
  refine zrm_r hx hb (by decide) d_12_10_12 ?_
  refine lv_istore_n (lv' := [(3, .int (iI (zrm ((r2 - 97) + 5) 7))), (0, .ref (ad 0 l0 0)), (1, .int (iI l1)), (2, .int (iI l2))]) hx hb d_12_10_13 rfl hl (by decide) rfl (fun ls hl => ?_)
  refine lv_bipush (v := iI 7) hx hb d_12_10_14 (by decide) ?_
  refine lv_aload_n hx hb d_12_10_16 rfl (lv_at hl 1 rfl) ?_
  refine lv_iload_n hx hb d_12_10_17 rfl (lv_at hl 2 rfl) ?_
  refine lv_iload_n hx hb d_12_10_18 rfl (lv_at hl 3 rfl) ?_
  refine zadd hx hb d_12_10_19 ?_
  refine lv_iconst (v := iI 1) hx hb d_12_10_20 rfl ?_
  refine zsub hx hb d_12_10_21 ?_
  obtain ⟨r3, F3, B3, hc3, hf⟩ := gbind hf
  refine va_calli (va_runV (As := [.int (iI ((l1 + l2) - 1))]) (rest := [.int (iI 7)]) ⟨hx, hb, hml, hown, hts⟩ (c_ByteRow_at (l := l) hc3) (cwV 1 hts (gdV k_3_34 k_3_35 k_3_36 k_1_2 k_3_37) rfl rfl rfl (by decide +kernel) ⟨Nat.le_of_ble_eq_true rfl, Nat.le_of_ble_eq_true rfl⟩) (zPV X hZ2 hS2 (ci := 0) g1.1 g1.2 (r := (RX0, TX0, 3)) rfl [.int (iI ((l1 + l2) - 1))]) rfl rfl hl.1 rfl (lv_room (Nat.le_of_ble_eq_true rfl)) d_12_10_22 ⟨Nat.le_of_ble_eq_true rfl, Nat.le_of_ble_eq_true rfl⟩) hS2 (fun q _ h => zAin X hS2 q h) (zAin X hS2) (fun p3 u3 t3 H3 locs3 ht3 hv3 hw3 hB3 hz3 hk3 hS3 => ?_)
  have hZ3 := zBack X ht3 hB3
  subst hw3
  refine lv_bipush (v := iI 48) hx hb d_12_10_25 (by decide) ?_
  refine zsub hx hb d_12_10_27 ?_
  refine zmul hx hb d_12_10_28 ?_
  refine lv_iload_n hx hb d_12_10_29 rfl (lv_at hl 0 rfl) ?_
  refine zadd hx hb d_12_10_30 ?_
  refine lv_istore (lv' := [(4, .int (iI ((7 * (r3 - 48)) + (zrm ((r2 - 97) + 5) 7)))), (3, .int (iI (zrm ((r2 - 97) + 5) 7))), (0, .ref (ad 0 l0 0)), (1, .int (iI l1)), (2, .int (iI l2))]) hx hb d_12_10_31 hl (by decide) rfl (fun ls hl => ?_)
  refine lv_aload_n hx hb d_12_10_33 rfl (lv_at hl 2 rfl) ?_
  refine lv_iload_n hx hb d_12_10_34 rfl (lv_at hl 3 rfl) ?_
  refine lv_iconst (v := iI 1) hx hb d_12_10_35 rfl ?_
  refine zadd hx hb d_12_10_36 ?_
  obtain ⟨r4, F4, B4, hc4, hf⟩ := gbind hf
  refine va_calli (va_runV (As := [.int (iI (l1 + 1))]) (rest := []) ⟨hx, hb, hml, hown, hts⟩ (c_ByteRow_at (l := l) hc4) (cwV 1 hts (gdV k_3_34 k_3_35 k_3_36 k_1_2 k_3_37) rfl rfl rfl (by decide +kernel) ⟨Nat.le_of_ble_eq_true rfl, Nat.le_of_ble_eq_true rfl⟩) (zPV X hZ3 hS3 (ci := 0) g1.1 g1.2 (r := (RX0, TX0, 3)) rfl [.int (iI (l1 + 1))]) rfl rfl hl.1 rfl (lv_room (Nat.le_of_ble_eq_true rfl)) d_12_10_37 ⟨Nat.le_of_ble_eq_true rfl, Nat.le_of_ble_eq_true rfl⟩) hS3 (fun q _ h => zAin X hS3 q h) (zAin X hS3) (fun p4 u4 t4 H4 locs4 ht4 hv4 hw4 hB4 hz4 hk4 hS4 => ?_)
  have hZ4 := zBack X ht4 hB4
  subst hw4
  refine lv_bipush (v := iI 35) hx hb d_12_10_40 (by decide) ?_
  obtain ⟨g5, hf⟩ := gif hf
  refine zne (tgt := 51) hx hb g5 (by decide) d_12_10_42 (by decide) (fun h6 => ?_) (fun h6 => ?_)
  · replace hf := gneg hf h6
    refine lv_iconst (v := iI 2) hx hb d_12_10_51 rfl ?_
    refine lv_iload_n hx hb d_12_10_52 rfl (lv_at hl 4 rfl) ?_
    refine zsub hx hb d_12_10_53 ?_
    exact b_Tokens_pitchValue_54 X hf hZ4 hS4 (lv_sub hl [0] rfl)
  · replace hf := gpos hf h6
    refine lv_iload_n hx hb d_12_10_45 rfl (lv_at hl 4 rfl) ?_
    refine lv_iconst (v := iI 2) hx hb d_12_10_46 rfl ?_
    refine zsub hx hb d_12_10_47 ?_
    refine lv_goto (tgt := 54) hx hb d_12_10_48 (by decide) ?_
    exact b_Tokens_pitchValue_54 X hf hZ4 hS4 (lv_sub hl [0] rfl)

noncomputable abbrev Q_Tokens_joined (K : zK) (D : va_G) (ca : Nat → ClassId) (ad : Nat → Int → Nat → Nat) (L : List Nat) (r : Int) (F : zF) (B : zB) (A : Nat → Prop) : Array Value → State → Outcome → State → Prop := va_Ql (S := Unit) (fun p _ => p = lI r) (fun _ => zPo D ca ad lnC K.2 L F B A) A
noncomputable def f_Tokens_joined_6 (K : zK) : Nat → Int → Int → Int → Int → Int → Int → Int → zF → zB → zO
  | 0, _, _, _, _, _, _, _, _, _ => none
  | n + 1, l7, l5, l0, l1, l2, l3, l4, F, B => if r32 l7 then if r32 l2 then (if l2 ≤ l7 then some (l5, F, B) else if r32 l3 then if 0 ≤ l0 ∧ l0 < K.2 0 then zbind (f_ByteRow_at K l0 (l1 + l7) F B) (fun r6 F6 B6 => if r32 r6 then if r32 l4 then f_Tokens_joined_6 K n (l7 + 1) (((l5 * l3) + r6) - l4) l0 l1 l2 l3 l4 F6 B6 else none else none) else none else none) else none else none
set_option maxHeartbeats 4000000 in
set_option maxRecDepth 100000 in
theorem b_Tokens_joined_6 {D : va_G} {ca : Nat → ClassId} {ad : Nat → Int → Nat → Nat} {L : List Nat} {aS vS : Nat → Nat} {A : Nat → Prop} {p : Program} {l : Launch} {e : Env} {s : State} {m : MethodId} {args : Array Value} {below : List Frame} {meth : Method} {c : Code} {K : zK} {r : Int} {F9 : zF} {B9 : zB} (X : zX D ca L aS vS A p s m args meth c prog_12_method_8_code 8 (Option.some Jvm.ClassFile.FieldType.long) "StaveHouse$Tokens") : ∀ {n : Nat} {l7 : Int} {l5 : Int} {l0 : Int} {l1 : Int} {l2 : Int} {l3 : Int} {l4 : Int} {F : zF} {B : zB} {H : Heap} {locs : List Loc} {ls : Array Slot}, f_Tokens_joined_6 K n l7 l5 l0 l1 l2 l3 l4 F B = some (r, F9, B9) → zH D ca ad lnC K.2 L F B A H → va_S A s.heap H locs → lv_has ls 8 [(7, .int (iI l7)), (5, .long (lI l5)), (0, .ref (ad 0 l0 0)), (1, .int (iI l1)), (2, .int (iI l2)), (3, .int (iI l3)), (4, .int (iI l4))] → W p l e ({ frames := 1, cells := 0, slots := 0, locals := 21 } : Room) s m args below meth c H locs 0 0 (MQ below (Q_Tokens_joined K D ca ad L r F9 B9 A) args s 0 0 A) (F0 m 6 ls []) := by
  obtain ⟨hx, hb, hr, hml, hown, hts, hlk, hK, hA, hL, hX⟩ := id X
  intro n
  induction n with
  | zero =>
    intros
    rename_i hf _ _ _
    cases hf
  | succ n ih =>
    intro l7 l5 l0 l1 l2 l3 l4 F B H locs ls hf hZ hS hl
    replace hf : (if r32 l7 then if r32 l2 then (if l2 ≤ l7 then some (l5, F, B) else if r32 l3 then if 0 ≤ l0 ∧ l0 < K.2 0 then zbind (f_ByteRow_at K l0 (l1 + l7) F B) (fun r6 F6 B6 => if r32 r6 then if r32 l4 then f_Tokens_joined_6 K n (l7 + 1) (((l5 * l3) + r6) - l4) l0 l1 l2 l3 l4 F6 B6 else none else none) else none else none) else none else none) = some (r, F9, B9) := hf
    refine lv_iload hx hb d_12_8_6 (lv_at hl 0 rfl) ?_
    refine lv_iload_n hx hb d_12_8_8 rfl (lv_at hl 4 rfl) ?_
    obtain ⟨g1, hf⟩ := gif hf
    obtain ⟨g2, hf⟩ := gif hf
    refine zge (tgt := 39) hx hb g1 g2 d_12_8_9 (by decide) (fun h3 => ?_) (fun h3 => ?_)
    · replace hf := gpos hf h3
      refine lv_lload hx hb d_12_8_39 (lv_at hl 1 rfl) ?_
      cases hf
      exact W.lret hx hb hr (fun t ht hW => ⟨⟨_, (), rfl, rfl, by rw [ht]; exact hZ, va_K.moved hW.alike hK⟩, hS.F ht⟩) hS.2.2 d_12_8_41 hlk
    · replace hf := gneg hf h3
      refine lv_lload hx hb d_12_8_12 (lv_at hl 1 rfl) ?_
      refine lv_iload_n hx hb d_12_8_14 rfl (lv_at hl 5 rfl) ?_
      obtain ⟨g4, hf⟩ := gif hf
      refine zi2l hx hb g4 d_12_8_15 ?_
      refine zlmul hx hb d_12_8_16 ?_
      refine lv_aload_n hx hb d_12_8_17 rfl (lv_at hl 2 rfl) ?_
      refine lv_iload_n hx hb d_12_8_18 rfl (lv_at hl 3 rfl) ?_
      refine lv_iload hx hb d_12_8_19 (lv_at hl 0 rfl) ?_
      refine zadd hx hb d_12_8_21 ?_
      obtain ⟨g5, hf⟩ := gif hf
      obtain ⟨r6, F6, B6, hc6, hf⟩ := gbind hf
      refine va_calli (va_runV (As := [.int (iI (l1 + l7))]) (rest := [.long (lI (l5 * l3))]) ⟨hx, hb, hml, hown, hts⟩ (c_ByteRow_at (l := l) hc6) (cwV 1 hts (gdV k_3_34 k_3_35 k_3_36 k_1_2 k_3_37) rfl rfl rfl (by decide +kernel) ⟨Nat.le_of_ble_eq_true rfl, Nat.le_of_ble_eq_true rfl⟩) (zPV X hZ hS (ci := 0) g5.1 g5.2 (r := (RX0, TX0, 3)) rfl [.int (iI (l1 + l7))]) rfl rfl hl.1 rfl (lv_room (Nat.le_of_ble_eq_true rfl)) d_12_8_22 ⟨Nat.le_of_ble_eq_true rfl, Nat.le_of_ble_eq_true rfl⟩) hS (fun q _ h => zAin X hS q h) (zAin X hS) (fun p6 u6 t6 H6 locs6 ht6 hv6 hw6 hB6 hz6 hk6 hS6 => ?_)
      have hZ6 := zBack X ht6 hB6
      subst hw6
      obtain ⟨g7, hf⟩ := gif hf
      refine zi2l hx hb g7 d_12_8_25 ?_
      refine zladd hx hb d_12_8_26 ?_
      refine lv_iload hx hb d_12_8_27 (lv_at hl 6 rfl) ?_
      obtain ⟨g8, hf⟩ := gif hf
      refine zi2l hx hb g8 d_12_8_29 ?_
      refine zlsub hx hb d_12_8_30 ?_
      refine lv_lstore (lv' := [(5, .long (lI (((l5 * l3) + r6) - l4))), (7, .int (iI l7)), (0, .ref (ad 0 l0 0)), (1, .int (iI l1)), (2, .int (iI l2)), (3, .int (iI l3)), (4, .int (iI l4))]) hx hb d_12_8_31 hl (by decide) rfl (fun ls hl => ?_)
      refine lv_iinc (v := iI (l7 + 1)) (lv' := [(7, .int (iI (l7 + 1))), (5, .long (lI (((l5 * l3) + r6) - l4))), (0, .ref (ad 0 l0 0)), (1, .int (iI l1)), (2, .int (iI l2)), (3, .int (iI l3)), (4, .int (iI l4))]) hx hb d_12_8_33 hl (k := 1) rfl (iI_add _ 1) (by decide) rfl (fun ls hl => ?_)
      refine lv_goto (tgt := 6) hx hb d_12_8_36 (by decide) ?_
      exact ih hf hZ6 hS6 (lv_sub hl [0, 1, 2, 3, 4, 5, 6] rfl)

noncomputable def f_Tokens_joined (K : zK) (l0 : Int) (l1 : Int) (l2 : Int) (l3 : Int) (l4 : Int) (F : zF) (B : zB) : zO := f_Tokens_joined_6 K K.1 0 0 l0 l1 l2 l3 l4 F B
set_option maxHeartbeats 4000000 in
set_option maxRecDepth 100000 in
theorem c_Tokens_joined {l : Launch} {D : va_G} {ca : Nat → ClassId} {ad : Nat → Int → Nat → Nat} {L : List Nat} {aS vS : Nat → Nat} {sz : Nat} {K : zK}  {l0 : Int} {l1 : Int} {l2 : Int} {l3 : Int} {l4 : Int} {F F9 : zF} {B B9 : zB} {r : Int} (hf : f_Tokens_joined K l0 l1 l2 l3 l4 F B = some (r, F9, B9)) : Met l ({ cls := "StaveHouse$Tokens", name := "joined", desc := "(LStaveHouse$ByteRow;IIII)J" } : Jvm.MethodName) (Cond.code ({ cls := "StaveHouse$Tokens", name := "joined", desc := "(LStaveHouse$ByteRow;IIII)J" } : Jvm.MethodName) prog_12_method_8_code 8 (Option.some Jvm.ClassFile.FieldType.long) :: wAll) ({ frames := 1, cells := 0, slots := 0, locals := 21 } : Room) (va_Pc [.ref (ad 0 l0 0), .int (iI l1), .int (iI l2), .int (iI l3), .int (iI l4)] (zPre D ca ad lnC K.2 L aS vS F B sz)) (Q_Tokens_joined K D ca ad L r F9 B9 (zA L sz)) 0 0 (zA L sz) := by
  refine zMet (Qc := Q_Tokens_joined K D ca ad L r F9 B9) (lv := [(0, .ref (ad 0 l0 0)), (1, .int (iI l1)), (2, .int (iI l2)), (3, .int (iI l3)), (4, .int (iI l4))]) (by decide) (Nat.le_of_ble_eq_true rfl) rfl (fun A p e s m below meth c ls X hZ hS hl => ?_)
  obtain ⟨hx, hb, hr, hml, hown, hts, hlk, hK, hA, hL, hX⟩ := id X
  replace hf : (f_Tokens_joined_6 K K.1 0 0 l0 l1 l2 l3 l4 F B) = some (r, F9, B9) := hf
  refine lv_lconst (v := lI 0) hx hb d_12_8_0 (by decide) ?_
  refine lv_lstore (lv' := [(5, .long (lI 0)), (0, .ref (ad 0 l0 0)), (1, .int (iI l1)), (2, .int (iI l2)), (3, .int (iI l3)), (4, .int (iI l4))]) hx hb d_12_8_1 hl (by decide) rfl (fun ls hl => ?_)
  refine lv_iconst (v := iI 0) hx hb d_12_8_3 rfl ?_
  refine lv_istore (lv' := [(7, .int (iI 0)), (5, .long (lI 0)), (0, .ref (ad 0 l0 0)), (1, .int (iI l1)), (2, .int (iI l2)), (3, .int (iI l3)), (4, .int (iI l4))]) hx hb d_12_8_4 hl (by decide) rfl (fun ls hl => ?_)
  exact b_Tokens_joined_6 X hf hZ hS (lv_sub hl [0, 1, 2, 3, 4, 5, 6] rfl)

noncomputable abbrev Q_CString_isLatin1 (K : zK) (D : va_G) (ca : Nat → ClassId) (ad : Nat → Int → Nat → Nat) (L : List Nat) (r : Int) (F : zF) (B : zB) (A : Nat → Prop) : Array Value → State → Outcome → State → Prop := va_Qi (S := Unit) (fun p _ => p = iI r) (fun _ => zPo D ca ad lnC K.2 L F B A) A
noncomputable def f_CString_isLatin1_18 (K : zK) (s0 : Int) (F : zF) (B : zB) : zO := if (s0 = 0 ∨ s0 = 1) then some (s0, F, B) else none
set_option maxHeartbeats 4000000 in
set_option maxRecDepth 100000 in
theorem b_CString_isLatin1_18 {D : va_G} {ca : Nat → ClassId} {ad : Nat → Int → Nat → Nat} {L : List Nat} {aS vS : Nat → Nat} {A : Nat → Prop} {p : Program} {l : Launch} {e : Env} {s : State} {m : MethodId} {args : Array Value} {below : List Frame} {meth : Method} {c : Code} {K : zK} {r : Int} {F9 : zF} {B9 : zB} (X : zX D ca L aS vS A p s m args meth c prog_21_method_154_code 1 (Option.some Jvm.ClassFile.FieldType.boolean) "java/lang/String") {s0 : Int} {F : zF} {B : zB} {H : Heap} {locs : List Loc} {ls : Array Slot} (hf : f_CString_isLatin1_18 K s0 F B = some (r, F9, B9)) (hZ : zH D ca ad lnC K.2 L F B A H) (hS : va_S A s.heap H locs) (hl : lv_has ls 1 []) : W p l e ({ frames := 0, cells := 0, slots := 0, locals := 0 } : Room) s m args below meth c H locs 0 0 (MQ below (Q_CString_isLatin1 K D ca ad L r F9 B9 A) args s 0 0 A) (F0 m 18 ls [.int (iI s0)]) := by
  obtain ⟨hx, hb, hr, hml, hown, hts, hlk, hK, hA, hL, hX⟩ := id X
  replace hf : (if (s0 = 0 ∨ s0 = 1) then some (s0, F, B) else none) = some (r, F9, B9) := hf
  obtain ⟨g4, hf⟩ := gif hf
  cases hf
  exact W.zret hx hb hr (zbool g4) (fun t ht hW => ⟨⟨_, (), rfl, rfl, by rw [ht]; exact hZ, va_K.moved hW.alike hK⟩, hS.F ht⟩) hS.2.2 d_21_154_18 hlk

noncomputable def f_CString_isLatin1_17 (K : zK)  (F : zF) (B : zB) : zO := f_CString_isLatin1_18 K 0 F B
set_option maxHeartbeats 4000000 in
set_option maxRecDepth 100000 in
theorem b_CString_isLatin1_17 {D : va_G} {ca : Nat → ClassId} {ad : Nat → Int → Nat → Nat} {L : List Nat} {aS vS : Nat → Nat} {A : Nat → Prop} {p : Program} {l : Launch} {e : Env} {s : State} {m : MethodId} {args : Array Value} {below : List Frame} {meth : Method} {c : Code} {K : zK} {r : Int} {F9 : zF} {B9 : zB} (X : zX D ca L aS vS A p s m args meth c prog_21_method_154_code 1 (Option.some Jvm.ClassFile.FieldType.boolean) "java/lang/String")  {F : zF} {B : zB} {H : Heap} {locs : List Loc} {ls : Array Slot} (hf : f_CString_isLatin1_17 K  F B = some (r, F9, B9)) (hZ : zH D ca ad lnC K.2 L F B A H) (hS : va_S A s.heap H locs) (hl : lv_has ls 1 []) : W p l e ({ frames := 0, cells := 0, slots := 0, locals := 0 } : Room) s m args below meth c H locs 0 0 (MQ below (Q_CString_isLatin1 K D ca ad L r F9 B9 A) args s 0 0 A) (F0 m 17 ls []) := by
  obtain ⟨hx, hb, hr, hml, hown, hts, hlk, hK, hA, hL, hX⟩ := id X
  replace hf : (f_CString_isLatin1_18 K 0 F B) = some (r, F9, B9) := hf
  refine lv_iconst (v := iI 0) hx hb d_21_154_17 rfl ?_
  exact b_CString_isLatin1_18 X hf hZ hS (lv_sub hl [] rfl)

noncomputable def f_CString_isLatin1 (K : zK) (l0 : Nat) (F : zF) (B : zB) : zO := (if (1 : Int) = 0 then f_CString_isLatin1_17 K F B else if l0 < strL.length then (if (0 : Int) = 0 then f_CString_isLatin1_18 K 1 F B else f_CString_isLatin1_17 K F B) else none)
set_option maxHeartbeats 4000000 in
set_option maxRecDepth 100000 in
theorem c_CString_isLatin1 {l : Launch} {D : va_G} {ca : Nat → ClassId} {ad : Nat → Int → Nat → Nat} {L : List Nat} {aS vS : Nat → Nat} {sz : Nat} {K : zK}  {l0 : Nat} {F F9 : zF} {B B9 : zB} {r : Int} (hf : f_CString_isLatin1 K l0 F B = some (r, F9, B9)) : Met l ({ cls := "java/lang/String", name := "isLatin1", desc := "()Z" } : Jvm.MethodName) (Cond.code ({ cls := "java/lang/String", name := "isLatin1", desc := "()Z" } : Jvm.MethodName) prog_21_method_154_code 1 (Option.some Jvm.ClassFile.FieldType.boolean) :: wAll) ({ frames := 0, cells := 0, slots := 0, locals := 0 } : Room) (va_Pc [.ref (aS l0)] (zPre D ca ad lnC K.2 L aS vS F B sz)) (Q_CString_isLatin1 K D ca ad L r F9 B9 (zA L sz)) 0 0 (zA L sz) := by
  refine zMet (Qc := Q_CString_isLatin1 K D ca ad L r F9 B9) (lv := [(0, .ref (aS l0))]) (by decide) (Nat.le_of_ble_eq_true rfl) rfl (fun A p e s m below meth c ls X hZ hS hl => ?_)
  obtain ⟨hx, hb, hr, hml, hown, hts, hlk, hK, hA, hL, hX⟩ := id X
  replace hf : ((if (1 : Int) = 0 then f_CString_isLatin1_17 K F B else if l0 < strL.length then (if (0 : Int) = 0 then f_CString_isLatin1_18 K 1 F B else f_CString_isLatin1_17 K F B) else none)) = some (r, F9, B9) := hf
  refine va_gets hx hb (hX.2.2.2.1 _ (List.mem_of_getElem? (i := 0) rfl)) hS hown (hts _ k_3_79) (fun _ h => h) d_21_154_0 ?_
  refine W.eq (g2 := F0 m 3 ls [.int (iI 1)]) rfl ?_
  refine z0eq (tgt := 17) hx hb (by decide) d_21_154_3 (by decide) (fun h1 => ?_) (fun h1 => ?_)
  · replace hf := gpos hf h1
    exact b_CString_isLatin1_17 X hf hZ hS (lv_sub hl [] rfl)
  · replace hf := gneg hf h1
    refine lv_aload_n hx hb d_21_154_6 rfl (lv_at hl 0 rfl) ?_
    obtain ⟨g2, hf⟩ := gif hf
    refine vk_getf hx hb (zstr hX g2).1 hS hown (hts _ k_15_171) (fun _ h => h) d_21_154_7 ?_
    refine W.eq (g2 := F0 m 10 ls [.int (iI 0)]) rfl ?_
    refine z0ne (tgt := 17) hx hb (by decide) d_21_154_10 (by decide) (fun h3 => ?_) (fun h3 => ?_)
    · replace hf := gneg hf h3
      exact b_CString_isLatin1_17 X hf hZ hS (lv_sub hl [] rfl)
    · replace hf := gpos hf h3
      refine lv_iconst (v := iI 1) hx hb d_21_154_13 rfl ?_
      refine lv_goto (tgt := 18) hx hb d_21_154_14 (by decide) ?_
      exact b_CString_isLatin1_18 X hf hZ hS (lv_sub hl [] rfl)

noncomputable abbrev Q_CString_coder (K : zK) (D : va_G) (ca : Nat → ClassId) (ad : Nat → Int → Nat → Nat) (L : List Nat) (r : Int) (F : zF) (B : zB) (A : Nat → Prop) : Array Value → State → Outcome → State → Prop := va_Qi (S := Unit) (fun p _ => p = iI r) (fun _ => zPo D ca ad lnC K.2 L F B A) A
noncomputable def f_CString_coder_14 (K : zK) (s0 : Int) (F : zF) (B : zB) : zO := if (-128) ≤ s0 ∧ s0 < 128 then some (s0, F, B) else none
set_option maxHeartbeats 4000000 in
set_option maxRecDepth 100000 in
theorem b_CString_coder_14 {D : va_G} {ca : Nat → ClassId} {ad : Nat → Int → Nat → Nat} {L : List Nat} {aS vS : Nat → Nat} {A : Nat → Prop} {p : Program} {l : Launch} {e : Env} {s : State} {m : MethodId} {args : Array Value} {below : List Frame} {meth : Method} {c : Code} {K : zK} {r : Int} {F9 : zF} {B9 : zB} (X : zX D ca L aS vS A p s m args meth c prog_21_method_152_code 1 (Option.some Jvm.ClassFile.FieldType.byte) "java/lang/String") {s0 : Int} {F : zF} {B : zB} {H : Heap} {locs : List Loc} {ls : Array Slot} (hf : f_CString_coder_14 K s0 F B = some (r, F9, B9)) (hZ : zH D ca ad lnC K.2 L F B A H) (hS : va_S A s.heap H locs) (hl : lv_has ls 1 []) : W p l e ({ frames := 0, cells := 0, slots := 0, locals := 0 } : Room) s m args below meth c H locs 0 0 (MQ below (Q_CString_coder K D ca ad L r F9 B9 A) args s 0 0 A) (F0 m 14 ls [.int (iI s0)]) := by
  obtain ⟨hx, hb, hr, hml, hown, hts, hlk, hK, hA, hL, hX⟩ := id X
  replace hf : (if (-128) ≤ s0 ∧ s0 < 128 then some (s0, F, B) else none) = some (r, F9, B9) := hf
  obtain ⟨g3, hf⟩ := gif hf
  cases hf
  exact W.zret hx hb hr (zbyte g3) (fun t ht hW => ⟨⟨_, (), rfl, rfl, by rw [ht]; exact hZ, va_K.moved hW.alike hK⟩, hS.F ht⟩) hS.2.2 d_21_152_14 hlk

noncomputable def f_CString_coder (K : zK) (l0 : Nat) (F : zF) (B : zB) : zO := (if (1 : Int) = 0 then f_CString_coder_14 K 1 F B else if l0 < strL.length then f_CString_coder_14 K 0 F B else none)
set_option maxHeartbeats 4000000 in
set_option maxRecDepth 100000 in
theorem c_CString_coder {l : Launch} {D : va_G} {ca : Nat → ClassId} {ad : Nat → Int → Nat → Nat} {L : List Nat} {aS vS : Nat → Nat} {sz : Nat} {K : zK}  {l0 : Nat} {F F9 : zF} {B B9 : zB} {r : Int} (hf : f_CString_coder K l0 F B = some (r, F9, B9)) : Met l ({ cls := "java/lang/String", name := "coder", desc := "()B" } : Jvm.MethodName) (Cond.code ({ cls := "java/lang/String", name := "coder", desc := "()B" } : Jvm.MethodName) prog_21_method_152_code 1 (Option.some Jvm.ClassFile.FieldType.byte) :: wAll) ({ frames := 0, cells := 0, slots := 0, locals := 0 } : Room) (va_Pc [.ref (aS l0)] (zPre D ca ad lnC K.2 L aS vS F B sz)) (Q_CString_coder K D ca ad L r F9 B9 (zA L sz)) 0 0 (zA L sz) := by
  refine zMet (Qc := Q_CString_coder K D ca ad L r F9 B9) (lv := [(0, .ref (aS l0))]) (by decide) (Nat.le_of_ble_eq_true rfl) rfl (fun A p e s m below meth c ls X hZ hS hl => ?_)
  obtain ⟨hx, hb, hr, hml, hown, hts, hlk, hK, hA, hL, hX⟩ := id X
  replace hf : ((if (1 : Int) = 0 then f_CString_coder_14 K 1 F B else if l0 < strL.length then f_CString_coder_14 K 0 F B else none)) = some (r, F9, B9) := hf
  refine va_gets hx hb (hX.2.2.2.1 _ (List.mem_of_getElem? (i := 0) rfl)) hS hown (hts _ k_3_79) (fun _ h => h) d_21_152_0 ?_
  refine W.eq (g2 := F0 m 3 ls [.int (iI 1)]) rfl ?_
  refine z0eq (tgt := 13) hx hb (by decide) d_21_152_3 (by decide) (fun h1 => ?_) (fun h1 => ?_)
  · replace hf := gpos hf h1
    refine lv_iconst (v := iI 1) hx hb d_21_152_13 rfl ?_
    exact b_CString_coder_14 X hf hZ hS (lv_sub hl [] rfl)
  · replace hf := gneg hf h1
    refine lv_aload_n hx hb d_21_152_6 rfl (lv_at hl 0 rfl) ?_
    obtain ⟨g2, hf⟩ := gif hf
    refine vk_getf hx hb (zstr hX g2).1 hS hown (hts _ k_15_171) (fun _ h => h) d_21_152_7 ?_
    refine W.eq (g2 := F0 m 10 ls [.int (iI 0)]) rfl ?_
    refine lv_goto (tgt := 14) hx hb d_21_152_10 (by decide) ?_
    exact b_CString_coder_14 X hf hZ hS (lv_sub hl [] rfl)

noncomputable abbrev Q_CStringLatin1_canEncode (K : zK) (D : va_G) (ca : Nat → ClassId) (ad : Nat → Int → Nat → Nat) (L : List Nat) (r : Int) (F : zF) (B : zB) (A : Nat → Prop) : Array Value → State → Outcome → State → Prop := va_Qi (S := Unit) (fun p _ => p = iI r) (fun _ => zPo D ca ad lnC K.2 L F B A) A
noncomputable def f_CStringLatin1_canEncode_16 (K : zK) (s0 : Int) (F : zF) (B : zB) : zO := if (s0 = 0 ∨ s0 = 1) then some (s0, F, B) else none
