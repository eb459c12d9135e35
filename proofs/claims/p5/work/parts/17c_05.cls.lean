noncomputable abbrev Q_S_partAt (K : zK) (D : va_G) (ca : Nat → ClassId) (ad : Nat → Int → Nat → Nat) (L : List Nat) (r : Int) (F : zF) (B : zB) (A : Nat → Prop) : Array Value → State → Outcome → State → Prop := va_Qq (S := Unit) (fun p _ => p = zrf ad 4 r) (fun _ => zPo D ca ad lnC K.2 L F B A) A
noncomputable def f_S_partAt_32 (K : zK) (s0 : Int) (F : zF) (B : zB) : zO := some (s0, F, B)
set_option maxHeartbeats 4000000 in
set_option maxRecDepth 100000 in
theorem b_S_partAt_32 {D : va_G} {ca : Nat → ClassId} {ad : Nat → Int → Nat → Nat} {L : List Nat} {aS vS : Nat → Nat} {A : Nat → Prop} {p : Program} {l : Launch} {e : Env} {s : State} {m : MethodId} {args : Array Value} {below : List Frame} {meth : Method} {c : Code} {K : zK} {r : Int} {F9 : zF} {B9 : zB} (X : zX D ca L aS vS A p s m args meth c prog_1_method_7_code 4 (Option.some (Jvm.ClassFile.FieldType.object "StaveHouse$Part")) "StaveHouse") {s0 : Int} {F : zF} {B : zB} {H : Heap} {locs : List Loc} {ls : Array Slot} (hf : f_S_partAt_32 K s0 F B = some (r, F9, B9)) (hZ : zH D ca ad lnC K.2 L F B A H) (hS : va_S A s.heap H locs) (hl : lv_has ls 4 []) : W p l e ({ frames := 1, cells := 0, slots := 0, locals := 21 } : Room) s m args below meth c H locs 0 0 (MQ below (Q_S_partAt K D ca ad L r F9 B9 A) args s 0 0 A) (F0 m 32 ls [va_rf (zrf ad 4 s0)]) := by
  obtain ⟨hx, hb, hr, hml, hown, hts, hlk, hK, hA, hL, hX⟩ := id X
  replace hf : (some (s0, F, B)) = some (r, F9, B9) := hf
  cases hf
  exact W.aret hx hb hr (Or.inl ⟨_, rfl⟩) (va_rf_or _) (fun t ht hW => ⟨⟨_, (), rfl, rfl, by rw [ht]; exact hZ, va_K.moved hW.alike hK⟩, hS.F ht⟩) hS.2.2 d_1_7_32 hlk

noncomputable def f_S_partAt_22 (K : zK)  (F : zF) (B : zB) : zO := f_S_partAt_32 K (-1) F B
set_option maxHeartbeats 4000000 in
set_option maxRecDepth 100000 in
theorem b_S_partAt_22 {D : va_G} {ca : Nat → ClassId} {ad : Nat → Int → Nat → Nat} {L : List Nat} {aS vS : Nat → Nat} {A : Nat → Prop} {p : Program} {l : Launch} {e : Env} {s : State} {m : MethodId} {args : Array Value} {below : List Frame} {meth : Method} {c : Code} {K : zK} {r : Int} {F9 : zF} {B9 : zB} (X : zX D ca L aS vS A p s m args meth c prog_1_method_7_code 4 (Option.some (Jvm.ClassFile.FieldType.object "StaveHouse$Part")) "StaveHouse")  {F : zF} {B : zB} {H : Heap} {locs : List Loc} {ls : Array Slot} (hf : f_S_partAt_22 K  F B = some (r, F9, B9)) (hZ : zH D ca ad lnC K.2 L F B A H) (hS : va_S A s.heap H locs) (hl : lv_has ls 4 []) : W p l e ({ frames := 1, cells := 0, slots := 0, locals := 21 } : Room) s m args below meth c H locs 0 0 (MQ below (Q_S_partAt K D ca ad L r F9 B9 A) args s 0 0 A) (F0 m 22 ls []) := by
  obtain ⟨hx, hb, hr, hml, hown, hts, hlk, hK, hA, hL, hX⟩ := id X
  replace hf : (f_S_partAt_32 K (-1) F B) = some (r, F9, B9) := hf
  refine lv_null hx hb d_1_7_22 ?_
  refine W.eq (g2 := F0 m 23 ls [va_rf (zrf ad 4 (-1))]) rfl ?_
  refine lv_goto (tgt := 32) hx hb d_1_7_23 (by decide) ?_
  exact b_S_partAt_32 X hf hZ hS (lv_sub hl [] rfl)

noncomputable def f_S_partAt (K : zK) (l0 : Int) (l1 : Int) (l2 : Int) (F : zF) (B : zB) : zO := if 0 ≤ l0 ∧ l0 < K.2 12 then zbind (f_S_pieceAt K l0 l1 F B) (fun r2 F2 B2 => (if r2 < 0 then f_S_partAt_22 K F2 B2 else if r32 l2 then (if l2 < 0 then f_S_partAt_22 K F2 B2 else if 0 ≤ r2 ∧ r2 < K.2 6 then if r32 (F2 6 r2 1) then (if l2 < (F2 6 r2 1) then if 0 ≤ l2 ∧ l2 < 4 then f_S_partAt_32 K (B2 6 r2 0 l2) F2 B2 else none else f_S_partAt_22 K F2 B2) else none else none) else none)) else none
set_option maxHeartbeats 4000000 in
set_option maxRecDepth 100000 in
theorem c_S_partAt {l : Launch} {D : va_G} {ca : Nat → ClassId} {ad : Nat → Int → Nat → Nat} {L : List Nat} {aS vS : Nat → Nat} {sz : Nat} {K : zK}  {l0 : Int} {l1 : Int} {l2 : Int} {F F9 : zF} {B B9 : zB} {r : Int} (hf : f_S_partAt K l0 l1 l2 F B = some (r, F9, B9)) : Met l ({ cls := "StaveHouse", name := "partAt", desc := "(II)LStaveHouse$Part;" } : Jvm.MethodName) (Cond.code ({ cls := "StaveHouse", name := "partAt", desc := "(II)LStaveHouse$Part;" } : Jvm.MethodName) prog_1_method_7_code 4 (Option.some (Jvm.ClassFile.FieldType.object "StaveHouse$Part")) :: wAll) ({ frames := 1, cells := 0, slots := 0, locals := 21 } : Room) (va_Pc [.ref (ad 12 l0 0), .int (iI l1), .int (iI l2)] (zPre D ca ad lnC K.2 L aS vS F B sz)) (Q_S_partAt K D ca ad L r F9 B9 (zA L sz)) 0 0 (zA L sz) := by
  refine zMet (Qc := Q_S_partAt K D ca ad L r F9 B9) (lv := [(0, .ref (ad 12 l0 0)), (1, .int (iI l1)), (2, .int (iI l2))]) (by decide) (Nat.le_of_ble_eq_true rfl) rfl (fun A p e s m below meth c ls X hZ hS hl => ?_)
  obtain ⟨hx, hb, hr, hml, hown, hts, hlk, hK, hA, hL, hX⟩ := id X
  replace hf : (if 0 ≤ l0 ∧ l0 < K.2 12 then zbind (f_S_pieceAt K l0 l1 F B) (fun r2 F2 B2 => (if r2 < 0 then f_S_partAt_22 K F2 B2 else if r32 l2 then (if l2 < 0 then f_S_partAt_22 K F2 B2 else if 0 ≤ r2 ∧ r2 < K.2 6 then if r32 (F2 6 r2 1) then (if l2 < (F2 6 r2 1) then if 0 ≤ l2 ∧ l2 < 4 then f_S_partAt_32 K (B2 6 r2 0 l2) F2 B2 else none else f_S_partAt_22 K F2 B2) else none else none) else none)) else none) = some (r, F9, B9) := hf
  refine lv_aload_n hx hb d_1_7_0 rfl (lv_at hl 0 rfl) ?_
  refine lv_iload_n hx hb d_1_7_1 rfl (lv_at hl 1 rfl) ?_
  obtain ⟨g1, hf⟩ := gif hf
  obtain ⟨r2, F2, B2, hc2, hf⟩ := gbind hf
  refine va_callq (va_runV (As := [.int (iI l1)]) (rest := []) ⟨hx, hb, hml, hown, hts⟩ (c_S_pieceAt (l := l) hc2) (cwV 1 hts (gdV k_5_182 k_5_184 ks_65 k_1_1 k_5_185) rfl rfl rfl (by decide +kernel) ⟨Nat.le_of_ble_eq_true rfl, Nat.le_of_ble_eq_true rfl⟩) (zPV X hZ hS (ci := 12) g1.1 g1.2 (r := (RX12, TX12, 10)) rfl [.int (iI l1)]) rfl rfl hl.1 rfl (lv_room (Nat.le_of_ble_eq_true rfl)) d_1_7_2 ⟨Nat.le_of_ble_eq_true rfl, Nat.le_of_ble_eq_true rfl⟩) hS (fun q _ h => zAin X hS q h) (zAin X hS) (fun p2 u2 t2 H2 locs2 ht2 hv2 hw2 hB2 hz2 hk2 hS2 => ?_)
  have hZ2 := zBack X ht2 hB2
  subst hw2
  refine zastore_n (lv' := [(0, .ref (ad 12 l0 0)), (1, .int (iI l1)), (2, .int (iI l2))]) hx hb d_1_7_5 rfl hl (by decide) (fun _ _ => rfl) (fun ls hl => ?_)
  refine zaload_n hx hb d_1_7_6 rfl (lv_at hl 0 rfl) ?_
  refine zifnull (tgt := 22) hx hb d_1_7_7 (by decide) (fun h3 => ?_) (fun h3 => ?_)
  · replace hf := gpos hf h3
    exact b_S_partAt_22 X hf hZ2 hS2 (lv_sub hl [] rfl)
  · replace hf := gneg hf h3
    refine lv_iload_n hx hb d_1_7_10 rfl (lv_at hl 3 rfl) ?_
    obtain ⟨g4, hf⟩ := gif hf
    refine z0lt (tgt := 22) hx hb g4 d_1_7_11 (by decide) (fun h5 => ?_) (fun h5 => ?_)
    · replace hf := gpos hf h5
      exact b_S_partAt_22 X hf hZ2 hS2 (lv_sub hl [] rfl)
    · replace hf := gneg hf h5
      refine lv_iload_n hx hb d_1_7_14 rfl (lv_at hl 3 rfl) ?_
      refine zaload_n hx hb d_1_7_15 rfl (lv_at hl 0 rfl) ?_
      obtain ⟨g6, hf⟩ := gif hf
      refine zunrf g6.1 ?_
      refine zget (ci := 6) (C := RX6) (T := TX6) (v := .int (iI (F2 6 r2 1))) (k := 1) hx hb hts inW_6 hown hK hZ2 g6.1 g6.2 rfl (by decide) k_2_194 rfl d_1_7_16 ?_
      obtain ⟨g7, hf⟩ := gif hf
      refine zlt (tgt := 26) hx hb g4 g7 d_1_7_19 (by decide) (fun h8 => ?_) (fun h8 => ?_)
      · replace hf := gpos hf h8
        refine zaload_n hx hb d_1_7_26 rfl (lv_at hl 0 rfl) ?_
        refine zunrf g6.1 ?_
        refine zget (ci := 6) (C := RX6) (T := TX6) (v := .ref (ad 6 r2 (0 + 1))) (k := 0) hx hb hts inW_6 hown hK hZ2 g6.1 g6.2 rfl (by decide) k_2_189 rfl d_1_7_27 ?_
        refine lv_iload_n hx hb d_1_7_30 rfl (lv_at hl 3 rfl) ?_
        obtain ⟨g9, hf⟩ := gif hf
        refine zaldR (t := 4) (x := 6) (ci := 6) (k := 0) hx hb hK rfl rfl hZ2 g6.1 g6.2 rfl (Nat.le_of_ble_eq_true rfl) g9.1 g9.2 d_1_7_31 ?_
        exact b_S_partAt_32 X hf hZ2 hS2 (lv_sub hl [] rfl)
      · replace hf := gneg hf h8
        exact b_S_partAt_22 X hf hZ2 hS2 (lv_sub hl [] rfl)

noncomputable abbrev Q_S_name (K : zK) (D : va_G) (ca : Nat → ClassId) (ad : Nat → Int → Nat → Nat) (L : List Nat) (r : Int) (F : zF) (B : zB) (A : Nat → Prop) : Array Value → State → Outcome → State → Prop := va_Ql (S := Unit) (fun p _ => p = lI r) (fun _ => zPo D ca ad lnC K.2 L F B A) A
noncomputable def f_S_name_19 (K : zK) (s0 : Int) (F : zF) (B : zB) : zO := some (s0, F, B)
set_option maxHeartbeats 4000000 in
set_option maxRecDepth 100000 in
theorem b_S_name_19 {D : va_G} {ca : Nat → ClassId} {ad : Nat → Int → Nat → Nat} {L : List Nat} {aS vS : Nat → Nat} {A : Nat → Prop} {p : Program} {l : Launch} {e : Env} {s : State} {m : MethodId} {args : Array Value} {below : List Frame} {meth : Method} {c : Code} {K : zK} {r : Int} {F9 : zF} {B9 : zB} (X : zX D ca L aS vS A p s m args meth c prog_1_method_12_code 4 (Option.some Jvm.ClassFile.FieldType.long) "StaveHouse") {s0 : Int} {F : zF} {B : zB} {H : Heap} {locs : List Loc} {ls : Array Slot} (hf : f_S_name_19 K s0 F B = some (r, F9, B9)) (hZ : zH D ca ad lnC K.2 L F B A H) (hS : va_S A s.heap H locs) (hl : lv_has ls 4 []) : W p l e ({ frames := 2, cells := 0, slots := 0, locals := 44 } : Room) s m args below meth c H locs 0 0 (MQ below (Q_S_name K D ca ad L r F9 B9 A) args s 0 0 A) (F0 m 19 ls [.long (lI s0)]) := by
  obtain ⟨hx, hb, hr, hml, hown, hts, hlk, hK, hA, hL, hX⟩ := id X
  replace hf : (some (s0, F, B)) = some (r, F9, B9) := hf
  cases hf
  exact W.lret hx hb hr (fun t ht hW => ⟨⟨_, (), rfl, rfl, by rw [ht]; exact hZ, va_K.moved hW.alike hK⟩, hS.F ht⟩) hS.2.2 d_1_12_19 hlk

noncomputable def f_S_name (K : zK) (l0 : Int) (l1 : Int) (l2 : Int) (F : zF) (B : zB) : zO := if 0 ≤ l0 ∧ l0 < K.2 12 then zbind (f_S_partAt K l0 l1 l2 F B) (fun r2 F2 B2 => (if r2 < 0 then f_S_name_19 K 0 F2 B2 else if 0 ≤ r2 ∧ r2 < K.2 4 then f_S_name_19 K (F2 4 r2 0) F2 B2 else none)) else none
set_option maxHeartbeats 4000000 in
set_option maxRecDepth 100000 in
theorem c_S_name {l : Launch} {D : va_G} {ca : Nat → ClassId} {ad : Nat → Int → Nat → Nat} {L : List Nat} {aS vS : Nat → Nat} {sz : Nat} {K : zK}  {l0 : Int} {l1 : Int} {l2 : Int} {F F9 : zF} {B B9 : zB} {r : Int} (hf : f_S_name K l0 l1 l2 F B = some (r, F9, B9)) : Met l ({ cls := "StaveHouse", name := "name", desc := "(II)J" } : Jvm.MethodName) (Cond.code ({ cls := "StaveHouse", name := "name", desc := "(II)J" } : Jvm.MethodName) prog_1_method_12_code 4 (Option.some Jvm.ClassFile.FieldType.long) :: wAll) ({ frames := 2, cells := 0, slots := 0, locals := 44 } : Room) (va_Pc [.ref (ad 12 l0 0), .int (iI l1), .int (iI l2)] (zPre D ca ad lnC K.2 L aS vS F B sz)) (Q_S_name K D ca ad L r F9 B9 (zA L sz)) 0 0 (zA L sz) := by
  refine zMet (Qc := Q_S_name K D ca ad L r F9 B9) (lv := [(0, .ref (ad 12 l0 0)), (1, .int (iI l1)), (2, .int (iI l2))]) (by decide) (Nat.le_of_ble_eq_true rfl) rfl (fun A p e s m below meth c ls X hZ hS hl => ?_)
  obtain ⟨hx, hb, hr, hml, hown, hts, hlk, hK, hA, hL, hX⟩ := id X
  replace hf : (if 0 ≤ l0 ∧ l0 < K.2 12 then zbind (f_S_partAt K l0 l1 l2 F B) (fun r2 F2 B2 => (if r2 < 0 then f_S_name_19 K 0 F2 B2 else if 0 ≤ r2 ∧ r2 < K.2 4 then f_S_name_19 K (F2 4 r2 0) F2 B2 else none)) else none) = some (r, F9, B9) := hf
  refine lv_aload_n hx hb d_1_12_0 rfl (lv_at hl 0 rfl) ?_
  refine lv_iload_n hx hb d_1_12_1 rfl (lv_at hl 1 rfl) ?_
  refine lv_iload_n hx hb d_1_12_2 rfl (lv_at hl 2 rfl) ?_
  obtain ⟨g1, hf⟩ := gif hf
  obtain ⟨r2, F2, B2, hc2, hf⟩ := gbind hf
  refine va_callq (va_runV (As := [.int (iI l1), .int (iI l2)]) (rest := []) ⟨hx, hb, hml, hown, hts⟩ (c_S_partAt (l := l) hc2) (cwV 2 hts (gdV k_6_168 k_6_170 ks_77 k_1_1 k_6_171) rfl rfl rfl (by decide +kernel) ⟨Nat.le_of_ble_eq_true rfl, Nat.le_of_ble_eq_true rfl⟩) (zPV X hZ hS (ci := 12) g1.1 g1.2 (r := (RX12, TX12, 10)) rfl [.int (iI l1), .int (iI l2)]) rfl rfl hl.1 rfl (lv_room (Nat.le_of_ble_eq_true rfl)) d_1_12_3 ⟨Nat.le_of_ble_eq_true rfl, Nat.le_of_ble_eq_true rfl⟩) hS (fun q _ h => zAin X hS q h) (zAin X hS) (fun p2 u2 t2 H2 locs2 ht2 hv2 hw2 hB2 hz2 hk2 hS2 => ?_)
  have hZ2 := zBack X ht2 hB2
  subst hw2
  refine zastore_n (lv' := [(0, .ref (ad 12 l0 0)), (1, .int (iI l1)), (2, .int (iI l2))]) hx hb d_1_12_6 rfl hl (by decide) (fun _ _ => rfl) (fun ls hl => ?_)
  refine zaload_n hx hb d_1_12_7 rfl (lv_at hl 0 rfl) ?_
  refine zifnonnull (tgt := 15) hx hb d_1_12_8 (by decide) (fun h3 => ?_) (fun h3 => ?_)
  · replace hf := gneg hf h3
    refine zaload_n hx hb d_1_12_15 rfl (lv_at hl 0 rfl) ?_
    obtain ⟨g4, hf⟩ := gif hf
    refine zunrf g4.1 ?_
    refine zget (ci := 4) (C := RX4) (T := TX4) (v := .long (lI (F2 4 r2 0))) (k := 0) hx hb hts inW_4 hown hK hZ2 g4.1 g4.2 rfl (by decide) k_4_117 rfl d_1_12_16 ?_
    exact b_S_name_19 X hf hZ2 hS2 (lv_sub hl [] rfl)
  · replace hf := gpos hf h3
    refine lv_lconst (v := lI 0) hx hb d_1_12_11 (by decide) ?_
    refine lv_goto (tgt := 19) hx hb d_1_12_12 (by decide) ?_
    exact b_S_name_19 X hf hZ2 hS2 (lv_sub hl [] rfl)

noncomputable abbrev Q_S_eventAt (K : zK) (D : va_G) (ca : Nat → ClassId) (ad : Nat → Int → Nat → Nat) (L : List Nat) (r : Int) (F : zF) (B : zB) (A : Nat → Prop) : Array Value → State → Outcome → State → Prop := va_Qq (S := Unit) (fun p _ => p = zrf ad 1 r) (fun _ => zPo D ca ad lnC K.2 L F B A) A
noncomputable def f_S_eventAt_37 (K : zK) (s0 : Int) (F : zF) (B : zB) : zO := some (s0, F, B)
set_option maxHeartbeats 4000000 in
set_option maxRecDepth 100000 in
theorem b_S_eventAt_37 {D : va_G} {ca : Nat → ClassId} {ad : Nat → Int → Nat → Nat} {L : List Nat} {aS vS : Nat → Nat} {A : Nat → Prop} {p : Program} {l : Launch} {e : Env} {s : State} {m : MethodId} {args : Array Value} {below : List Frame} {meth : Method} {c : Code} {K : zK} {r : Int} {F9 : zF} {B9 : zB} (X : zX D ca L aS vS A p s m args meth c prog_1_method_8_code 5 (Option.some (Jvm.ClassFile.FieldType.object "StaveHouse$Event")) "StaveHouse") {s0 : Int} {F : zF} {B : zB} {H : Heap} {locs : List Loc} {ls : Array Slot} (hf : f_S_eventAt_37 K s0 F B = some (r, F9, B9)) (hZ : zH D ca ad lnC K.2 L F B A H) (hS : va_S A s.heap H locs) (hl : lv_has ls 5 []) : W p l e ({ frames := 2, cells := 0, slots := 0, locals := 44 } : Room) s m args below meth c H locs 0 0 (MQ below (Q_S_eventAt K D ca ad L r F9 B9 A) args s 0 0 A) (F0 m 37 ls [va_rf (zrf ad 1 s0)]) := by
  obtain ⟨hx, hb, hr, hml, hown, hts, hlk, hK, hA, hL, hX⟩ := id X
  replace hf : (some (s0, F, B)) = some (r, F9, B9) := hf
  cases hf
  exact W.aret hx hb hr (Or.inl ⟨_, rfl⟩) (va_rf_or _) (fun t ht hW => ⟨⟨_, (), rfl, rfl, by rw [ht]; exact hZ, va_K.moved hW.alike hK⟩, hS.F ht⟩) hS.2.2 d_1_8_37 hlk

noncomputable def f_S_eventAt_26 (K : zK)  (F : zF) (B : zB) : zO := f_S_eventAt_37 K (-1) F B
set_option maxHeartbeats 4000000 in
set_option maxRecDepth 100000 in
theorem b_S_eventAt_26 {D : va_G} {ca : Nat → ClassId} {ad : Nat → Int → Nat → Nat} {L : List Nat} {aS vS : Nat → Nat} {A : Nat → Prop} {p : Program} {l : Launch} {e : Env} {s : State} {m : MethodId} {args : Array Value} {below : List Frame} {meth : Method} {c : Code} {K : zK} {r : Int} {F9 : zF} {B9 : zB} (X : zX D ca L aS vS A p s m args meth c prog_1_method_8_code 5 (Option.some (Jvm.ClassFile.FieldType.object "StaveHouse$Event")) "StaveHouse")  {F : zF} {B : zB} {H : Heap} {locs : List Loc} {ls : Array Slot} (hf : f_S_eventAt_26 K  F B = some (r, F9, B9)) (hZ : zH D ca ad lnC K.2 L F B A H) (hS : va_S A s.heap H locs) (hl : lv_has ls 5 []) : W p l e ({ frames := 2, cells := 0, slots := 0, locals := 44 } : Room) s m args below meth c H locs 0 0 (MQ below (Q_S_eventAt K D ca ad L r F9 B9 A) args s 0 0 A) (F0 m 26 ls []) := by
  obtain ⟨hx, hb, hr, hml, hown, hts, hlk, hK, hA, hL, hX⟩ := id X
  replace hf : (f_S_eventAt_37 K (-1) F B) = some (r, F9, B9) := hf
  refine lv_null hx hb d_1_8_26 ?_
  refine W.eq (g2 := F0 m 27 ls [va_rf (zrf ad 1 (-1))]) rfl ?_
  refine lv_goto (tgt := 37) hx hb d_1_8_27 (by decide) ?_
  exact b_S_eventAt_37 X hf hZ hS (lv_sub hl [] rfl)

noncomputable def f_S_eventAt (K : zK) (l0 : Int) (l1 : Int) (l2 : Int) (l3 : Int) (F : zF) (B : zB) : zO := if 0 ≤ l0 ∧ l0 < K.2 12 then zbind (f_S_partAt K l0 l1 l2 F B) (fun r2 F2 B2 => (if r2 < 0 then f_S_eventAt_26 K F2 B2 else if r32 l3 then (if l3 < 0 then f_S_eventAt_26 K F2 B2 else if 0 ≤ r2 ∧ r2 < K.2 4 then if r32 (F2 4 r2 6) then (if l3 < (F2 4 r2 6) then if 0 ≤ l3 ∧ l3 < 200 then f_S_eventAt_37 K (B2 4 r2 5 l3) F2 B2 else none else f_S_eventAt_26 K F2 B2) else none else none) else none)) else none
set_option maxHeartbeats 4000000 in
set_option maxRecDepth 100000 in
theorem c_S_eventAt {l : Launch} {D : va_G} {ca : Nat → ClassId} {ad : Nat → Int → Nat → Nat} {L : List Nat} {aS vS : Nat → Nat} {sz : Nat} {K : zK}  {l0 : Int} {l1 : Int} {l2 : Int} {l3 : Int} {F F9 : zF} {B B9 : zB} {r : Int} (hf : f_S_eventAt K l0 l1 l2 l3 F B = some (r, F9, B9)) : Met l ({ cls := "StaveHouse", name := "eventAt", desc := "(III)LStaveHouse$Event;" } : Jvm.MethodName) (Cond.code ({ cls := "StaveHouse", name := "eventAt", desc := "(III)LStaveHouse$Event;" } : Jvm.MethodName) prog_1_method_8_code 5 (Option.some (Jvm.ClassFile.FieldType.object "StaveHouse$Event")) :: wAll) ({ frames := 2, cells := 0, slots := 0, locals := 44 } : Room) (va_Pc [.ref (ad 12 l0 0), .int (iI l1), .int (iI l2), .int (iI l3)] (zPre D ca ad lnC K.2 L aS vS F B sz)) (Q_S_eventAt K D ca ad L r F9 B9 (zA L sz)) 0 0 (zA L sz) := by
  refine zMet (Qc := Q_S_eventAt K D ca ad L r F9 B9) (lv := [(0, .ref (ad 12 l0 0)), (1, .int (iI l1)), (2, .int (iI l2)), (3, .int (iI l3))]) (by decide) (Nat.le_of_ble_eq_true rfl) rfl (fun A p e s m below meth c ls X hZ hS hl => ?_)
  obtain ⟨hx, hb, hr, hml, hown, hts, hlk, hK, hA, hL, hX⟩ := id X
  replace hf : (if 0 ≤ l0 ∧ l0 < K.2 12 then zbind (f_S_partAt K l0 l1 l2 F B) (fun r2 F2 B2 => (if r2 < 0 then f_S_eventAt_26 K F2 B2 else if r32 l3 then (if l3 < 0 then f_S_eventAt_26 K F2 B2 else if 0 ≤ r2 ∧ r2 < K.2 4 then if r32 (F2 4 r2 6) then (if l3 < (F2 4 r2 6) then if 0 ≤ l3 ∧ l3 < 200 then f_S_eventAt_37 K (B2 4 r2 5 l3) F2 B2 else none else f_S_eventAt_26 K F2 B2) else none else none) else none)) else none) = some (r, F9, B9) := hf
  refine lv_aload_n hx hb d_1_8_0 rfl (lv_at hl 0 rfl) ?_
  refine lv_iload_n hx hb d_1_8_1 rfl (lv_at hl 1 rfl) ?_
  refine lv_iload_n hx hb d_1_8_2 rfl (lv_at hl 2 rfl) ?_
  obtain ⟨g1, hf⟩ := gif hf
  obtain ⟨r2, F2, B2, hc2, hf⟩ := gbind hf
  refine va_callq (va_runV (As := [.int (iI l1), .int (iI l2)]) (rest := []) ⟨hx, hb, hml, hown, hts⟩ (c_S_partAt (l := l) hc2) (cwV 2 hts (gdV k_6_168 k_6_170 ks_77 k_1_1 k_6_171) rfl rfl rfl (by decide +kernel) ⟨Nat.le_of_ble_eq_true rfl, Nat.le_of_ble_eq_true rfl⟩) (zPV X hZ hS (ci := 12) g1.1 g1.2 (r := (RX12, TX12, 10)) rfl [.int (iI l1), .int (iI l2)]) rfl rfl hl.1 rfl (lv_room (Nat.le_of_ble_eq_true rfl)) d_1_8_3 ⟨Nat.le_of_ble_eq_true rfl, Nat.le_of_ble_eq_true rfl⟩) hS (fun q _ h => zAin X hS q h) (zAin X hS) (fun p2 u2 t2 H2 locs2 ht2 hv2 hw2 hB2 hz2 hk2 hS2 => ?_)
  have hZ2 := zBack X ht2 hB2
  subst hw2
  refine zastore (lv' := [(0, .ref (ad 12 l0 0)), (1, .int (iI l1)), (2, .int (iI l2)), (3, .int (iI l3))]) hx hb d_1_8_6 hl (by decide) (fun _ _ => rfl) (fun ls hl => ?_)
  refine zaload hx hb d_1_8_8 (lv_at hl 0 rfl) ?_
  refine zifnull (tgt := 26) hx hb d_1_8_10 (by decide) (fun h3 => ?_) (fun h3 => ?_)
  · replace hf := gpos hf h3
    exact b_S_eventAt_26 X hf hZ2 hS2 (lv_sub hl [] rfl)
  · replace hf := gneg hf h3
    refine lv_iload_n hx hb d_1_8_13 rfl (lv_at hl 4 rfl) ?_
    obtain ⟨g4, hf⟩ := gif hf
    refine z0lt (tgt := 26) hx hb g4 d_1_8_14 (by decide) (fun h5 => ?_) (fun h5 => ?_)
    · replace hf := gpos hf h5
      exact b_S_eventAt_26 X hf hZ2 hS2 (lv_sub hl [] rfl)
    · replace hf := gneg hf h5
      refine lv_iload_n hx hb d_1_8_17 rfl (lv_at hl 4 rfl) ?_
      refine zaload hx hb d_1_8_18 (lv_at hl 0 rfl) ?_
      obtain ⟨g6, hf⟩ := gif hf
      refine zunrf g6.1 ?_
      refine zget (ci := 4) (C := RX4) (T := TX4) (v := .int (iI (F2 4 r2 6))) (k := 6) hx hb hts inW_4 hown hK hZ2 g6.1 g6.2 rfl (by decide) k_4_138 rfl d_1_8_20 ?_
      obtain ⟨g7, hf⟩ := gif hf
      refine zlt (tgt := 30) hx hb g4 g7 d_1_8_23 (by decide) (fun h8 => ?_) (fun h8 => ?_)
      · replace hf := gpos hf h8
        refine zaload hx hb d_1_8_30 (lv_at hl 0 rfl) ?_
        refine zunrf g6.1 ?_
        refine zget (ci := 4) (C := RX4) (T := TX4) (v := .ref (ad 4 r2 (5 + 1))) (k := 5) hx hb hts inW_4 hown hK hZ2 g6.1 g6.2 rfl (by decide) k_4_133 rfl d_1_8_32 ?_
        refine lv_iload_n hx hb d_1_8_35 rfl (lv_at hl 4 rfl) ?_
        obtain ⟨g9, hf⟩ := gif hf
        refine zaldR (t := 1) (x := 7) (ci := 4) (k := 5) hx hb hK rfl rfl hZ2 g6.1 g6.2 rfl (Nat.le_of_ble_eq_true rfl) g9.1 g9.2 d_1_8_36 ?_
        exact b_S_eventAt_37 X hf hZ2 hS2 (lv_sub hl [] rfl)
      · replace hf := gneg hf h8
        exact b_S_eventAt_26 X hf hZ2 hS2 (lv_sub hl [] rfl)

noncomputable abbrev Q_S_gcd (K : zK) (D : va_G) (ca : Nat → ClassId) (ad : Nat → Int → Nat → Nat) (L : List Nat) (r : Int) (F : zF) (B : zB) (A : Nat → Prop) : Array Value → State → Outcome → State → Prop := va_Ql (S := Unit) (fun p _ => p = lI r) (fun _ => zPo D ca ad lnC K.2 L F B A) A
noncomputable def f_S_gcd_45 (K : zK) (l4 : Int) (F : zF) (B : zB) : zO := some (l4, F, B)
set_option maxHeartbeats 4000000 in
set_option maxRecDepth 100000 in
theorem b_S_gcd_45 {D : va_G} {ca : Nat → ClassId} {ad : Nat → Int → Nat → Nat} {L : List Nat} {aS vS : Nat → Nat} {A : Nat → Prop} {p : Program} {l : Launch} {e : Env} {s : State} {m : MethodId} {args : Array Value} {below : List Frame} {meth : Method} {c : Code} {K : zK} {r : Int} {F9 : zF} {B9 : zB} (X : zX D ca L aS vS A p s m args meth c prog_1_method_34_code 11 (Option.some Jvm.ClassFile.FieldType.long) "StaveHouse") {l4 : Int} {F : zF} {B : zB} {H : Heap} {locs : List Loc} {ls : Array Slot} (hf : f_S_gcd_45 K l4 F B = some (r, F9, B9)) (hZ : zH D ca ad lnC K.2 L F B A H) (hS : va_S A s.heap H locs) (hl : lv_has ls 11 [(4, .long (lI l4))]) : W p l e ({ frames := 0, cells := 0, slots := 0, locals := 0 } : Room) s m args below meth c H locs 0 0 (MQ below (Q_S_gcd K D ca ad L r F9 B9 A) args s 0 0 A) (F0 m 45 ls []) := by
  obtain ⟨hx, hb, hr, hml, hown, hts, hlk, hK, hA, hL, hX⟩ := id X
  replace hf : (some (l4, F, B)) = some (r, F9, B9) := hf
  refine lv_lload hx hb d_1_34_45 (lv_at hl 0 rfl) ?_
  cases hf
  exact W.lret hx hb hr (fun t ht hW => ⟨⟨_, (), rfl, rfl, by rw [ht]; exact hZ, va_K.moved hW.alike hK⟩, hS.F ht⟩) hS.2.2 d_1_34_47 hlk

noncomputable def f_S_gcd_9 (K : zK) : Nat → Int → Int → Int → zF → zB → zO
  | 0, _, _, _, _, _ => none
  | n + 1, l8, l6, l4, F, B => if r32 l8 then (if 200 ≤ l8 then f_S_gcd_45 K l4 F B else if r64 l6 then (if (zcmp l6 0) = 0 then f_S_gcd_45 K l4 F B else if ¬ lI l6 = 0 then f_S_gcd_9 K n (l8 + 1) (zlrm l4 l6) l6 F B else none) else none) else none
set_option maxHeartbeats 4000000 in
set_option maxRecDepth 100000 in
theorem b_S_gcd_9 {D : va_G} {ca : Nat → ClassId} {ad : Nat → Int → Nat → Nat} {L : List Nat} {aS vS : Nat → Nat} {A : Nat → Prop} {p : Program} {l : Launch} {e : Env} {s : State} {m : MethodId} {args : Array Value} {below : List Frame} {meth : Method} {c : Code} {K : zK} {r : Int} {F9 : zF} {B9 : zB} (X : zX D ca L aS vS A p s m args meth c prog_1_method_34_code 11 (Option.some Jvm.ClassFile.FieldType.long) "StaveHouse") : ∀ {n : Nat} {l8 : Int} {l6 : Int} {l4 : Int} {F : zF} {B : zB} {H : Heap} {locs : List Loc} {ls : Array Slot}, f_S_gcd_9 K n l8 l6 l4 F B = some (r, F9, B9) → zH D ca ad lnC K.2 L F B A H → va_S A s.heap H locs → lv_has ls 11 [(8, .int (iI l8)), (6, .long (lI l6)), (4, .long (lI l4))] → W p l e ({ frames := 0, cells := 0, slots := 0, locals := 0 } : Room) s m args below meth c H locs 0 0 (MQ below (Q_S_gcd K D ca ad L r F9 B9 A) args s 0 0 A) (F0 m 9 ls []) := by
  obtain ⟨hx, hb, hr, hml, hown, hts, hlk, hK, hA, hL, hX⟩ := id X
  intro n
  induction n with
  | zero =>
    intros
    rename_i hf _ _ _
    cases hf
  | succ n ih =>
    intro l8 l6 l4 F B H locs ls hf hZ hS hl
    replace hf : (if r32 l8 then (if 200 ≤ l8 then f_S_gcd_45 K l4 F B else if r64 l6 then (if (zcmp l6 0) = 0 then f_S_gcd_45 K l4 F B else if ¬ lI l6 = 0 then f_S_gcd_9 K n (l8 + 1) (zlrm l4 l6) l6 F B else none) else none) else none) = some (r, F9, B9) := hf
    refine lv_iload hx hb d_1_34_9 (lv_at hl 0 rfl) ?_
    refine lv_sipush (v := iI 200) hx hb d_1_34_11 (by decide) ?_
    obtain ⟨g1, hf⟩ := gif hf
    refine zge (tgt := 45) hx hb g1 (by decide) d_1_34_14 (by decide) (fun h2 => ?_) (fun h2 => ?_)
    · replace hf := gpos hf h2
      exact b_S_gcd_45 X hf hZ hS (lv_sub hl [2] rfl)
    · replace hf := gneg hf h2
      refine lv_lload hx hb d_1_34_17 (lv_at hl 1 rfl) ?_
      refine lv_lconst (v := lI 0) hx hb d_1_34_19 (by decide) ?_
      obtain ⟨g3, hf⟩ := gif hf
      refine zcmp_r hx hb g3 (by decide) d_1_34_20 ?_
      refine z0eq (tgt := 45) hx hb zcmp_32 d_1_34_21 (by decide) (fun h4 => ?_) (fun h4 => ?_)
      · replace hf := gpos hf h4
        exact b_S_gcd_45 X hf hZ hS (lv_sub hl [2] rfl)
      · replace hf := gneg hf h4
        refine lv_lload hx hb d_1_34_24 (lv_at hl 2 rfl) ?_
        refine lv_lload hx hb d_1_34_26 (lv_at hl 1 rfl) ?_
        obtain ⟨g5, hf⟩ := gif hf
        refine zlrm_r hx hb g5 d_1_34_28 ?_
        refine lv_lstore (lv' := [(9, .long (lI (zlrm l4 l6))), (8, .int (iI l8)), (6, .long (lI l6)), (4, .long (lI l4))]) hx hb d_1_34_29 hl (by decide) rfl (fun ls hl => ?_)
        refine lv_lload hx hb d_1_34_31 (lv_at hl 2 rfl) ?_
        refine lv_lstore (lv' := [(4, .long (lI l6)), (9, .long (lI (zlrm l4 l6))), (8, .int (iI l8)), (6, .long (lI l6))]) hx hb d_1_34_33 hl (by decide) rfl (fun ls hl => ?_)
        refine lv_lload hx hb d_1_34_35 (lv_at hl 1 rfl) ?_
        refine lv_lstore (lv' := [(6, .long (lI (zlrm l4 l6))), (4, .long (lI l6)), (9, .long (lI (zlrm l4 l6))), (8, .int (iI l8))]) hx hb d_1_34_37 hl (by decide) rfl (fun ls hl => ?_)
        refine lv_iinc (v := iI (l8 + 1)) (lv' := [(8, .int (iI (l8 + 1))), (6, .long (lI (zlrm l4 l6))), (4, .long (lI l6)), (9, .long (lI (zlrm l4 l6)))]) hx hb d_1_34_39 hl (k := 3) rfl (iI_add _ 1) (by decide) rfl (fun ls hl => ?_)
        refine lv_goto (tgt := 9) hx hb d_1_34_42 (by decide) ?_
        exact ih hf hZ hS (lv_sub hl [0, 1, 2] rfl)

noncomputable def f_S_gcd (K : zK) (l0 : Int) (l2 : Int) (F : zF) (B : zB) : zO := f_S_gcd_9 K K.1 0 l2 l0 F B
set_option maxHeartbeats 4000000 in
set_option maxRecDepth 100000 in
theorem c_S_gcd {l : Launch} {D : va_G} {ca : Nat → ClassId} {ad : Nat → Int → Nat → Nat} {L : List Nat} {aS vS : Nat → Nat} {sz : Nat} {K : zK}  {l0 : Int} {l2 : Int} {F F9 : zF} {B B9 : zB} {r : Int} (hf : f_S_gcd K l0 l2 F B = some (r, F9, B9)) : Met l ({ cls := "StaveHouse", name := "gcd", desc := "(JJ)J" } : Jvm.MethodName) (Cond.code ({ cls := "StaveHouse", name := "gcd", desc := "(JJ)J" } : Jvm.MethodName) prog_1_method_34_code 11 (Option.some Jvm.ClassFile.FieldType.long) :: wAll) ({ frames := 0, cells := 0, slots := 0, locals := 0 } : Room) (va_Pc [.long (lI l0), .long (lI l2)] (zPre D ca ad lnC K.2 L aS vS F B sz)) (Q_S_gcd K D ca ad L r F9 B9 (zA L sz)) 0 0 (zA L sz) := by
  refine zMet (Qc := Q_S_gcd K D ca ad L r F9 B9) (lv := [(0, .long (lI l0)), (2, .long (lI l2))]) (by decide) (Nat.le_of_ble_eq_true rfl) rfl (fun A p e s m below meth c ls X hZ hS hl => ?_)
  obtain ⟨hx, hb, hr, hml, hown, hts, hlk, hK, hA, hL, hX⟩ := id X
  replace hf : (f_S_gcd_9 K K.1 0 l2 l0 F B) = some (r, F9, B9) := hf
  refine lv_lload_n hx hb d_1_34_0 rfl (lv_at hl 0 rfl) ?_
  refine lv_lstore (lv' := [(4, .long (lI l0)), (0, .long (lI l0)), (2, .long (lI l2))]) hx hb d_1_34_1 hl (by decide) rfl (fun ls hl => ?_)
  refine lv_lload_n hx hb d_1_34_3 rfl (lv_at hl 2 rfl) ?_
  refine lv_lstore (lv' := [(6, .long (lI l2)), (4, .long (lI l0)), (0, .long (lI l0)), (2, .long (lI l2))]) hx hb d_1_34_4 hl (by decide) rfl (fun ls hl => ?_)
  refine lv_iconst (v := iI 0) hx hb d_1_34_6 rfl ?_
  refine lv_istore (lv' := [(8, .int (iI 0)), (6, .long (lI l2)), (4, .long (lI l0)), (0, .long (lI l0)), (2, .long (lI l2))]) hx hb d_1_34_7 hl (by decide) rfl (fun ls hl => ?_)
  exact b_S_gcd_9 X hf hZ hS (lv_sub hl [0, 1, 2] rfl)

noncomputable abbrev Q_S_below (K : zK) (D : va_G) (ca : Nat → ClassId) (ad : Nat → Int → Nat → Nat) (L : List Nat) (r : Int) (F : zF) (B : zB) (A : Nat → Prop) : Array Value → State → Outcome → State → Prop := va_Ql (S := Unit) (fun p _ => p = lI r) (fun _ => zPo D ca ad lnC K.2 L F B A) A
noncomputable def f_S_below_25 (K : zK) (s0 : Int) (F : zF) (B : zB) : zO := some (s0, F, B)
set_option maxHeartbeats 4000000 in
set_option maxRecDepth 100000 in
theorem b_S_below_25 {D : va_G} {ca : Nat → ClassId} {ad : Nat → Int → Nat → Nat} {L : List Nat} {aS vS : Nat → Nat} {A : Nat → Prop} {p : Program} {l : Launch} {e : Env} {s : State} {m : MethodId} {args : Array Value} {below : List Frame} {meth : Method} {c : Code} {K : zK} {r : Int} {F9 : zF} {B9 : zB} (X : zX D ca L aS vS A p s m args meth c prog_1_method_36_code 4 (Option.some Jvm.ClassFile.FieldType.long) "StaveHouse") {s0 : Int} {F : zF} {B : zB} {H : Heap} {locs : List Loc} {ls : Array Slot} (hf : f_S_below_25 K s0 F B = some (r, F9, B9)) (hZ : zH D ca ad lnC K.2 L F B A H) (hS : va_S A s.heap H locs) (hl : lv_has ls 4 []) : W p l e ({ frames := 1, cells := 0, slots := 0, locals := 30 } : Room) s m args below meth c H locs 0 0 (MQ below (Q_S_below K D ca ad L r F9 B9 A) args s 0 0 A) (F0 m 25 ls [.long (lI s0)]) := by
  obtain ⟨hx, hb, hr, hml, hown, hts, hlk, hK, hA, hL, hX⟩ := id X
  replace hf : (some (s0, F, B)) = some (r, F9, B9) := hf
  cases hf
  exact W.lret hx hb hr (fun t ht hW => ⟨⟨_, (), rfl, rfl, by rw [ht]; exact hZ, va_K.moved hW.alike hK⟩, hS.F ht⟩) hS.2.2 d_1_36_25 hlk

noncomputable def f_S_below (K : zK) (l0 : Int) (F : zF) (B : zB) : zO := zbind (f_S_gcd K l0 812851200 F B) (fun r1 F1 B1 => if r64 r1 then (if (zcmp r1 0) = 0 then f_S_below_25 K 812851200 F1 B1 else if ¬ lI r1 = 0 then f_S_below_25 K (zldv 812851200 r1) F1 B1 else none) else none)
set_option maxHeartbeats 4000000 in
set_option maxRecDepth 100000 in
theorem c_S_below {l : Launch} {D : va_G} {ca : Nat → ClassId} {ad : Nat → Int → Nat → Nat} {L : List Nat} {aS vS : Nat → Nat} {sz : Nat} {K : zK}  {l0 : Int} {F F9 : zF} {B B9 : zB} {r : Int} (hf : f_S_below K l0 F B = some (r, F9, B9)) : Met l ({ cls := "StaveHouse", name := "below", desc := "(J)J" } : Jvm.MethodName) (Cond.code ({ cls := "StaveHouse", name := "below", desc := "(J)J" } : Jvm.MethodName) prog_1_method_36_code 4 (Option.some Jvm.ClassFile.FieldType.long) :: wAll) ({ frames := 1, cells := 0, slots := 0, locals := 30 } : Room) (va_Pc [.long (lI l0)] (zPre D ca ad lnC K.2 L aS vS F B sz)) (Q_S_below K D ca ad L r F9 B9 (zA L sz)) 0 0 (zA L sz) := by
  refine zMet (Qc := Q_S_below K D ca ad L r F9 B9) (lv := [(0, .long (lI l0))]) (by decide) (Nat.le_of_ble_eq_true rfl) rfl (fun A p e s m below meth c ls X hZ hS hl => ?_)
  obtain ⟨hx, hb, hr, hml, hown, hts, hlk, hK, hA, hL, hX⟩ := id X
  replace hf : (zbind (f_S_gcd K l0 812851200 F B) (fun r1 F1 B1 => if r64 r1 then (if (zcmp r1 0) = 0 then f_S_below_25 K 812851200 F1 B1 else if ¬ lI r1 = 0 then f_S_below_25 K (zldv 812851200 r1) F1 B1 else none) else none)) = some (r, F9, B9) := hf
  refine lv_lload_n hx hb d_1_36_0 rfl (lv_at hl 0 rfl) ?_
  refine lv_ldc2 hx hb hown (hts _ k_6_188) d_1_36_1 ?_
  refine W.eq (g2 := F0 m 4 ls [.long (lI 812851200), .long (lI l0)]) rfl ?_
  obtain ⟨r1, F1, B1, hc1, hf⟩ := gbind hf
  refine va_calll (va_runS (As := [.long (lI l0), .long (lI 812851200)]) (rest := []) ⟨hx, hb, hml, hown, hts⟩ (c_S_gcd (l := l) hc1) (va_cwS 2 hts (gdS k_6_189 k_6_190 k_1_1 k_6_191) rfl rfl rfl (by decide +kernel) ⟨Nat.le_of_ble_eq_true rfl, Nat.le_of_ble_eq_true rfl⟩) (zPS X hZ hS [.long (lI l0), .long (lI 812851200)]) rfl rfl hl.1 rfl (lv_room (Nat.le_of_ble_eq_true rfl)) d_1_36_4 ⟨Nat.le_of_ble_eq_true rfl, Nat.le_of_ble_eq_true rfl⟩) hS (fun q _ h => zAin X hS q h) (zAin X hS) (fun p1 u1 t1 H1 locs1 ht1 hv1 hw1 hB1 hz1 hk1 hS1 => ?_)
  have hZ1 := zBack X ht1 hB1
  subst hw1
  refine lv_lstore_n (lv' := [(2, .long (lI r1)), (0, .long (lI l0))]) hx hb d_1_36_7 rfl hl (by decide) rfl (fun ls hl => ?_)
  refine lv_lload_n hx hb d_1_36_8 rfl (lv_at hl 0 rfl) ?_
  refine lv_lconst (v := lI 0) hx hb d_1_36_9 (by decide) ?_
  obtain ⟨g2, hf⟩ := gif hf
  refine zcmp_r hx hb g2 (by decide) d_1_36_10 ?_
  refine z0ne (tgt := 20) hx hb zcmp_32 d_1_36_11 (by decide) (fun h3 => ?_) (fun h3 => ?_)
  · replace hf := gneg hf h3
    refine lv_ldc2 hx hb hown (hts _ k_6_188) d_1_36_20 ?_
    refine W.eq (g2 := F0 m 23 ls [.long (lI 812851200)]) rfl ?_
    refine lv_lload_n hx hb d_1_36_23 rfl (lv_at hl 0 rfl) ?_
    obtain ⟨g4, hf⟩ := gif hf
    refine zldv_r hx hb g4 d_1_36_24 ?_
    exact b_S_below_25 X hf hZ1 hS1 (lv_sub hl [] rfl)
  · replace hf := gpos hf h3
    refine lv_ldc2 hx hb hown (hts _ k_6_188) d_1_36_14 ?_
    refine W.eq (g2 := F0 m 17 ls [.long (lI 812851200)]) rfl ?_
    refine lv_goto (tgt := 25) hx hb d_1_36_17 (by decide) ?_
    exact b_S_below_25 X hf hZ1 hS1 (lv_sub hl [] rfl)

noncomputable abbrev Q_Layout_beginsIn (K : zK) (D : va_G) (ca : Nat → ClassId) (ad : Nat → Int → Nat → Nat) (L : List Nat) (r : Int) (F : zF) (B : zB) (A : Nat → Prop) : Array Value → State → Outcome → State → Prop := va_Qi (S := Unit) (fun p _ => p = iI r) (fun _ => zPo D ca ad lnC K.2 L F B A) A
noncomputable def f_Layout_beginsIn_25 (K : zK) (s0 : Int) (F : zF) (B : zB) : zO := if (s0 = 0 ∨ s0 = 1) then some (s0, F, B) else none
set_option maxHeartbeats 4000000 in
set_option maxRecDepth 100000 in
theorem b_Layout_beginsIn_25 {D : va_G} {ca : Nat → ClassId} {ad : Nat → Int → Nat → Nat} {L : List Nat} {aS vS : Nat → Nat} {A : Nat → Prop} {p : Program} {l : Launch} {e : Env} {s : State} {m : MethodId} {args : Array Value} {below : List Frame} {meth : Method} {c : Code} {K : zK} {r : Int} {F9 : zF} {B9 : zB} (X : zX D ca L aS vS A p s m args meth c prog_4_method_6_code 3 (Option.some Jvm.ClassFile.FieldType.boolean) "StaveHouse$Layout") {s0 : Int} {F : zF} {B : zB} {H : Heap} {locs : List Loc} {ls : Array Slot} (hf : f_Layout_beginsIn_25 K s0 F B = some (r, F9, B9)) (hZ : zH D ca ad lnC K.2 L F B A H) (hS : va_S A s.heap H locs) (hl : lv_has ls 3 []) : W p l e ({ frames := 0, cells := 0, slots := 0, locals := 0 } : Room) s m args below meth c H locs 0 0 (MQ below (Q_Layout_beginsIn K D ca ad L r F9 B9 A) args s 0 0 A) (F0 m 25 ls [.int (iI s0)]) := by
  obtain ⟨hx, hb, hr, hml, hown, hts, hlk, hK, hA, hL, hX⟩ := id X
  replace hf : (if (s0 = 0 ∨ s0 = 1) then some (s0, F, B) else none) = some (r, F9, B9) := hf
  obtain ⟨g9, hf⟩ := gif hf
  cases hf
  exact W.zret hx hb hr (zbool g9) (fun t ht hW => ⟨⟨_, (), rfl, rfl, by rw [ht]; exact hZ, va_K.moved hW.alike hK⟩, hS.F ht⟩) hS.2.2 d_4_6_25 hlk

noncomputable def f_Layout_beginsIn_24 (K : zK)  (F : zF) (B : zB) : zO := f_Layout_beginsIn_25 K 0 F B
set_option maxHeartbeats 4000000 in
set_option maxRecDepth 100000 in
theorem b_Layout_beginsIn_24 {D : va_G} {ca : Nat → ClassId} {ad : Nat → Int → Nat → Nat} {L : List Nat} {aS vS : Nat → Nat} {A : Nat → Prop} {p : Program} {l : Launch} {e : Env} {s : State} {m : MethodId} {args : Array Value} {below : List Frame} {meth : Method} {c : Code} {K : zK} {r : Int} {F9 : zF} {B9 : zB} (X : zX D ca L aS vS A p s m args meth c prog_4_method_6_code 3 (Option.some Jvm.ClassFile.FieldType.boolean) "StaveHouse$Layout")  {F : zF} {B : zB} {H : Heap} {locs : List Loc} {ls : Array Slot} (hf : f_Layout_beginsIn_24 K  F B = some (r, F9, B9)) (hZ : zH D ca ad lnC K.2 L F B A H) (hS : va_S A s.heap H locs) (hl : lv_has ls 3 []) : W p l e ({ frames := 0, cells := 0, slots := 0, locals := 0 } : Room) s m args below meth c H locs 0 0 (MQ below (Q_Layout_beginsIn K D ca ad L r F9 B9 A) args s 0 0 A) (F0 m 24 ls []) := by
  obtain ⟨hx, hb, hr, hml, hown, hts, hlk, hK, hA, hL, hX⟩ := id X
  replace hf : (f_Layout_beginsIn_25 K 0 F B) = some (r, F9, B9) := hf
  refine lv_iconst (v := iI 0) hx hb d_4_6_24 rfl ?_
  exact b_Layout_beginsIn_25 X hf hZ hS (lv_sub hl [] rfl)

noncomputable def f_Layout_beginsIn (K : zK) (l0 : Int) (l1 : Int) (l2 : Int) (F : zF) (B : zB) : zO := if 0 ≤ l0 ∧ l0 < K.2 4 then if r32 l1 then if r32 (F 4 l0 10) then (if (F 4 l0 10) ≤ l1 then f_Layout_beginsIn_24 K F B else if 0 ≤ l1 ∧ l1 < 800 then if r32 (B 4 l0 361 l1) then if r32 l2 then (if (B 4 l0 361 l1) = l2 then f_Layout_beginsIn_25 K 1 F B else f_Layout_beginsIn_24 K F B) else none else none else none) else none else none else none
set_option maxHeartbeats 4000000 in
set_option maxRecDepth 100000 in
theorem c_Layout_beginsIn {l : Launch} {D : va_G} {ca : Nat → ClassId} {ad : Nat → Int → Nat → Nat} {L : List Nat} {aS vS : Nat → Nat} {sz : Nat} {K : zK}  {l0 : Int} {l1 : Int} {l2 : Int} {F F9 : zF} {B B9 : zB} {r : Int} (hf : f_Layout_beginsIn K l0 l1 l2 F B = some (r, F9, B9)) : Met l ({ cls := "StaveHouse$Layout", name := "beginsIn", desc := "(LStaveHouse$Part;II)Z" } : Jvm.MethodName) (Cond.code ({ cls := "StaveHouse$Layout", name := "beginsIn", desc := "(LStaveHouse$Part;II)Z" } : Jvm.MethodName) prog_4_method_6_code 3 (Option.some Jvm.ClassFile.FieldType.boolean) :: wAll) ({ frames := 0, cells := 0, slots := 0, locals := 0 } : Room) (va_Pc [.ref (ad 4 l0 0), .int (iI l1), .int (iI l2)] (zPre D ca ad lnC K.2 L aS vS F B sz)) (Q_Layout_beginsIn K D ca ad L r F9 B9 (zA L sz)) 0 0 (zA L sz) := by
  refine zMet (Qc := Q_Layout_beginsIn K D ca ad L r F9 B9) (lv := [(0, .ref (ad 4 l0 0)), (1, .int (iI l1)), (2, .int (iI l2))]) (by decide) (Nat.le_of_ble_eq_true rfl) rfl (fun A p e s m below meth c ls X hZ hS hl => ?_)
  obtain ⟨hx, hb, hr, hml, hown, hts, hlk, hK, hA, hL, hX⟩ := id X
  replace hf : (if 0 ≤ l0 ∧ l0 < K.2 4 then if r32 l1 then if r32 (F 4 l0 10) then (if (F 4 l0 10) ≤ l1 then f_Layout_beginsIn_24 K F B else if 0 ≤ l1 ∧ l1 < 800 then if r32 (B 4 l0 361 l1) then if r32 l2 then (if (B 4 l0 361 l1) = l2 then f_Layout_beginsIn_25 K 1 F B else f_Layout_beginsIn_24 K F B) else none else none else none) else none else none else none) = some (r, F9, B9) := hf
  refine lv_iload_n hx hb d_4_6_0 rfl (lv_at hl 1 rfl) ?_
  refine lv_aload_n hx hb d_4_6_1 rfl (lv_at hl 0 rfl) ?_
  obtain ⟨g1, hf⟩ := gif hf
  refine zget (ci := 4) (C := RX4) (T := TX4) (v := .int (iI (F 4 l0 10))) (k := 10) hx hb hts inW_4 hown hK hZ g1.1 g1.2 rfl (by decide) k_4_149 rfl d_4_6_2 ?_
  obtain ⟨g2, hf⟩ := gif hf
  obtain ⟨g3, hf⟩ := gif hf
  refine zge (tgt := 24) hx hb g2 g3 d_4_6_5 (by decide) (fun h4 => ?_) (fun h4 => ?_)
  · replace hf := gpos hf h4
    exact b_Layout_beginsIn_24 X hf hZ hS (lv_sub hl [] rfl)
  · replace hf := gneg hf h4
    refine lv_aload_n hx hb d_4_6_8 rfl (lv_at hl 0 rfl) ?_
    refine zget (ci := 4) (C := RX4) (T := TX4) (v := .ref (ad 4 l0 (8 + 1))) (k := 8) hx hb hts inW_4 hown hK hZ g1.1 g1.2 rfl (by decide) k_4_143 rfl d_4_6_9 ?_
    refine lv_iconst (v := iI 1) hx hb d_4_6_12 rfl ?_
    refine zaldQ (t := 0) (ci := 4) (k := 8) hx hb hK rfl hZ g1.1 g1.2 rfl (Nat.le_of_ble_eq_true rfl) (by decide) (by decide) d_4_6_13 ?_
    refine W.eq (g2 := F0 m 14 ls [.ref (ad 4 l0 (361 + 1))]) rfl ?_
    refine lv_iload_n hx hb d_4_6_14 rfl (lv_at hl 1 rfl) ?_
    obtain ⟨g5, hf⟩ := gif hf
    refine zald (ci := 4) (k := 361) hx hb hK rfl hZ g1.1 g1.2 rfl (Nat.le_of_ble_eq_true rfl) g5.1 g5.2 d_4_6_15 ?_
    refine lv_iload_n hx hb d_4_6_16 rfl (lv_at hl 2 rfl) ?_
    obtain ⟨g6, hf⟩ := gif hf
    obtain ⟨g7, hf⟩ := gif hf
    refine zne (tgt := 24) hx hb g6 g7 d_4_6_17 (by decide) (fun h8 => ?_) (fun h8 => ?_)
    · replace hf := gneg hf h8
      exact b_Layout_beginsIn_24 X hf hZ hS (lv_sub hl [] rfl)
    · replace hf := gpos hf h8
      refine lv_iconst (v := iI 1) hx hb d_4_6_20 rfl ?_
      refine lv_goto (tgt := 25) hx hb d_4_6_21 (by decide) ?_
      exact b_Layout_beginsIn_25 X hf hZ hS (lv_sub hl [] rfl)

noncomputable abbrev Q_Layout_widen (K : zK) (D : va_G) (ca : Nat → ClassId) (ad : Nat → Int → Nat → Nat) (L : List Nat) (r : Int) (F : zF) (B : zB) (A : Nat → Prop) : Array Value → State → Outcome → State → Prop := va_Qv (S := Unit) (fun _ => True) (fun _ => zPo D ca ad lnC K.2 L F B A) A
noncomputable def f_Layout_widen_98 (rec3 : Int → Int → Int → zF → zB → zO) (K : zK) (l4 : Int) (l0 : Int) (l2 : Int) (F : zF) (B : zB) : zO := rec3 (l4 + 1) l0 l2 F B
set_option maxHeartbeats 4000000 in
set_option maxRecDepth 100000 in
theorem b_Layout_widen_98 {D : va_G} {ca : Nat → ClassId} {ad : Nat → Int → Nat → Nat} {L : List Nat} {aS vS : Nat → Nat} {A : Nat → Prop} {p : Program} {l : Launch} {e : Env} {s : State} {m : MethodId} {args : Array Value} {below : List Frame} {meth : Method} {c : Code} {K : zK} {r : Int} {F9 : zF} {B9 : zB} (X : zX D ca L aS vS A p s m args meth c prog_4_method_7_code 10 (Option.none : Option Jvm.ClassFile.FieldType) "StaveHouse$Layout") {rec3 : Int → Int → Int → zF → zB → zO} (hrec3 : ∀ {l4 : Int} {l0 : Int} {l2 : Int} {F : zF} {B : zB} {H : Heap} {locs : List Loc} {ls : Array Slot}, rec3 l4 l0 l2 F B = some (r, F9, B9) → zH D ca ad lnC K.2 L F B A H → va_S A s.heap H locs → lv_has ls 10 [(4, .int (iI l4)), (0, .ref (ad 2 l0 0)), (2, .long (lI l2))] → W p l e ({ frames := 0, cells := 0, slots := 0, locals := 0 } : Room) s m args below meth c H locs 0 0 (MQ below (Q_Layout_widen K D ca ad L r F9 B9 A) args s 0 0 A) (F0 m 3 ls [])) {l4 : Int} {l0 : Int} {l2 : Int} {F : zF} {B : zB} {H : Heap} {locs : List Loc} {ls : Array Slot} (hf : f_Layout_widen_98 rec3 K l4 l0 l2 F B = some (r, F9, B9)) (hZ : zH D ca ad lnC K.2 L F B A H) (hS : va_S A s.heap H locs) (hl : lv_has ls 10 [(4, .int (iI l4)), (0, .ref (ad 2 l0 0)), (2, .long (lI l2))]) : W p l e ({ frames := 0, cells := 0, slots := 0, locals := 0 } : Room) s m args below meth c H locs 0 0 (MQ below (Q_Layout_widen K D ca ad L r F9 B9 A) args s 0 0 A) (F0 m 98 ls []) := by
  obtain ⟨hx, hb, hr, hml, hown, hts, hlk, hK, hA, hL, hX⟩ := id X
  replace hf : (rec3 (l4 + 1) l0 l2 F B) = some (r, F9, B9) := hf
  refine lv_iinc (v := iI (l4 + 1)) (lv' := [(4, .int (iI (l4 + 1))), (0, .ref (ad 2 l0 0)), (2, .long (lI l2))]) hx hb d_4_7_98 hl (k := 0) rfl (iI_add _ 1) (by decide) rfl (fun ls hl => ?_)
  refine lv_goto (tgt := 3) hx hb d_4_7_101 (by decide) ?_
  exact hrec3 hf hZ hS (lv_sub hl [0, 1, 2] rfl)

noncomputable def f_Layout_widen_57 (rec3 : Int → Int → Int → zF → zB → zO) (K : zK) : Nat → Int → Int → Int → Int → Int → zF → zB → zO
  | 0, _, _, _, _, _, _, _ => none
  | n + 1, l9, l7, l4, l0, l2, F, B => if r32 l9 then (if 40 ≤ l9 then f_Layout_widen_98 rec3 K l4 l0 l2 F B else if r64 l7 then (if (zcmp l7 2) < 0 then f_Layout_widen_98 rec3 K l4 l0 l2 F B else if 0 ≤ l0 ∧ l0 < K.2 2 then if 0 ≤ l4 ∧ l4 < 3200 then f_Layout_widen_57 rec3 K n (l9 + 1) (zldv l7 2) l4 l0 l2 F (zup4 B 2 l0 2 l4 ((B 2 l0 2 l4) + 4)) else none else none) else none) else none
set_option maxHeartbeats 4000000 in
set_option maxRecDepth 100000 in
theorem b_Layout_widen_57 {D : va_G} {ca : Nat → ClassId} {ad : Nat → Int → Nat → Nat} {L : List Nat} {aS vS : Nat → Nat} {A : Nat → Prop} {p : Program} {l : Launch} {e : Env} {s : State} {m : MethodId} {args : Array Value} {below : List Frame} {meth : Method} {c : Code} {K : zK} {r : Int} {F9 : zF} {B9 : zB} (X : zX D ca L aS vS A p s m args meth c prog_4_method_7_code 10 (Option.none : Option Jvm.ClassFile.FieldType) "StaveHouse$Layout") {rec3 : Int → Int → Int → zF → zB → zO} (hrec3 : ∀ {l4 : Int} {l0 : Int} {l2 : Int} {F : zF} {B : zB} {H : Heap} {locs : List Loc} {ls : Array Slot}, rec3 l4 l0 l2 F B = some (r, F9, B9) → zH D ca ad lnC K.2 L F B A H → va_S A s.heap H locs → lv_has ls 10 [(4, .int (iI l4)), (0, .ref (ad 2 l0 0)), (2, .long (lI l2))] → W p l e ({ frames := 0, cells := 0, slots := 0, locals := 0 } : Room) s m args below meth c H locs 0 0 (MQ below (Q_Layout_widen K D ca ad L r F9 B9 A) args s 0 0 A) (F0 m 3 ls [])) : ∀ {n : Nat} {l9 : Int} {l7 : Int} {l4 : Int} {l0 : Int} {l2 : Int} {F : zF} {B : zB} {H : Heap} {locs : List Loc} {ls : Array Slot}, f_Layout_widen_57 rec3 K n l9 l7 l4 l0 l2 F B = some (r, F9, B9) → zH D ca ad lnC K.2 L F B A H → va_S A s.heap H locs → lv_has ls 10 [(9, .int (iI l9)), (7, .long (lI l7)), (4, .int (iI l4)), (0, .ref (ad 2 l0 0)), (2, .long (lI l2))] → W p l e ({ frames := 0, cells := 0, slots := 0, locals := 0 } : Room) s m args below meth c H locs 0 0 (MQ below (Q_Layout_widen K D ca ad L r F9 B9 A) args s 0 0 A) (F0 m 57 ls []) := by
  obtain ⟨hx, hb, hr, hml, hown, hts, hlk, hK, hA, hL, hX⟩ := id X
  intro n
  induction n with
  | zero =>
    intros
    rename_i hf _ _ _
    cases hf
  | succ n ih =>
    intro l9 l7 l4 l0 l2 F B H locs ls hf hZ hS hl
    replace hf : (if r32 l9 then (if 40 ≤ l9 then f_Layout_widen_98 rec3 K l4 l0 l2 F B else if r64 l7 then (if (zcmp l7 2) < 0 then f_Layout_widen_98 rec3 K l4 l0 l2 F B else if 0 ≤ l0 ∧ l0 < K.2 2 then if 0 ≤ l4 ∧ l4 < 3200 then f_Layout_widen_57 rec3 K n (l9 + 1) (zldv l7 2) l4 l0 l2 F (zup4 B 2 l0 2 l4 ((B 2 l0 2 l4) + 4)) else none else none) else none) else none) = some (r, F9, B9) := hf
    refine lv_iload hx hb d_4_7_57 (lv_at hl 0 rfl) ?_
    refine lv_bipush (v := iI 40) hx hb d_4_7_59 (by decide) ?_
    obtain ⟨g10, hf⟩ := gif hf
    refine zge (tgt := 98) hx hb g10 (by decide) d_4_7_61 (by decide) (fun h11 => ?_) (fun h11 => ?_)
    · replace hf := gpos hf h11
      exact b_Layout_widen_98 X hrec3 hf hZ hS (lv_sub hl [2, 3, 4] rfl)
    · replace hf := gneg hf h11
      refine lv_lload hx hb d_4_7_64 (lv_at hl 1 rfl) ?_
      refine lv_ldc2 hx hb hown (hts _ k_7_45) d_4_7_66 ?_
      refine W.eq (g2 := F0 m 69 ls [.long (lI 2), .long (lI l7)]) rfl ?_
      obtain ⟨g12, hf⟩ := gif hf
      refine zcmp_r hx hb g12 (by decide) d_4_7_69 ?_
      refine z0lt (tgt := 98) hx hb zcmp_32 d_4_7_70 (by decide) (fun h13 => ?_) (fun h13 => ?_)
      · replace hf := gpos hf h13
        exact b_Layout_widen_98 X hrec3 hf hZ hS (lv_sub hl [2, 3, 4] rfl)
      · replace hf := gneg hf h13
        refine lv_aload_n hx hb d_4_7_73 rfl (lv_at hl 3 rfl) ?_
        obtain ⟨g14, hf⟩ := gif hf
        refine zget (ci := 2) (C := RX2) (T := TX2) (v := .ref (ad 2 l0 (2 + 1))) (k := 2) hx hb hts inW_2 hown hK hZ g14.1 g14.2 rfl (by decide) k_6_219 rfl d_4_7_74 ?_
        refine lv_iload hx hb d_4_7_77 (lv_at hl 2 rfl) ?_
        refine lv_dup2_11 hx hb d_4_7_79 rfl rfl ?_
        obtain ⟨g15, hf⟩ := gif hf
        refine zald (ci := 2) (k := 2) hx hb hK rfl hZ g14.1 g14.2 rfl (Nat.le_of_ble_eq_true rfl) g15.1 g15.2 d_4_7_80 ?_
        refine lv_iconst (v := iI 4) hx hb d_4_7_81 rfl ?_
        refine zadd hx hb d_4_7_82 ?_
        refine zast (ci := 2) (k := 2) hx hb hK rfl hZ hS g14.1 g14.2 rfl (Nat.le_of_ble_eq_true rfl) g15.1 g15.2 d_4_7_83 (fun H16 locs16 hZ16 hS16 => ?_)
        refine lv_lload hx hb d_4_7_84 (lv_at hl 1 rfl) ?_
        refine lv_ldc2 hx hb hown (hts _ k_7_45) d_4_7_86 ?_
        refine W.eq (g2 := F0 m 89 ls [.long (lI 2), .long (lI l7)]) rfl ?_
        refine zldv_r hx hb (by decide) d_4_7_89 ?_
        refine lv_lstore (lv' := [(7, .long (lI (zldv l7 2))), (9, .int (iI l9)), (4, .int (iI l4)), (0, .ref (ad 2 l0 0)), (2, .long (lI l2))]) hx hb d_4_7_90 hl (by decide) rfl (fun ls hl => ?_)
        refine lv_iinc (v := iI (l9 + 1)) (lv' := [(9, .int (iI (l9 + 1))), (7, .long (lI (zldv l7 2))), (4, .int (iI l4)), (0, .ref (ad 2 l0 0)), (2, .long (lI l2))]) hx hb d_4_7_92 hl (k := 1) rfl (iI_add _ 1) (by decide) rfl (fun ls hl => ?_)
        refine lv_goto (tgt := 57) hx hb d_4_7_95 (by decide) ?_
        exact ih hf hZ16 hS16 (lv_sub hl [0, 1, 2, 3, 4] rfl)

noncomputable def f_Layout_widen_36 (rec3 : Int → Int → Int → zF → zB → zO) (K : zK) (l4 : Int) (l0 : Int) (l2 : Int) (s0 : Int) (F : zF) (B : zB) : zO := if 0 ≤ l0 ∧ l0 < K.2 2 then if 0 ≤ l4 ∧ l4 < 3200 then f_Layout_widen_57 rec3 K K.1 0 (zldv (s0 - (B 2 l0 1 l4)) 6350400) l4 l0 l2 F B else none else none
set_option maxHeartbeats 4000000 in
set_option maxRecDepth 100000 in
theorem b_Layout_widen_36 {D : va_G} {ca : Nat → ClassId} {ad : Nat → Int → Nat → Nat} {L : List Nat} {aS vS : Nat → Nat} {A : Nat → Prop} {p : Program} {l : Launch} {e : Env} {s : State} {m : MethodId} {args : Array Value} {below : List Frame} {meth : Method} {c : Code} {K : zK} {r : Int} {F9 : zF} {B9 : zB} (X : zX D ca L aS vS A p s m args meth c prog_4_method_7_code 10 (Option.none : Option Jvm.ClassFile.FieldType) "StaveHouse$Layout") {rec3 : Int → Int → Int → zF → zB → zO} (hrec3 : ∀ {l4 : Int} {l0 : Int} {l2 : Int} {F : zF} {B : zB} {H : Heap} {locs : List Loc} {ls : Array Slot}, rec3 l4 l0 l2 F B = some (r, F9, B9) → zH D ca ad lnC K.2 L F B A H → va_S A s.heap H locs → lv_has ls 10 [(4, .int (iI l4)), (0, .ref (ad 2 l0 0)), (2, .long (lI l2))] → W p l e ({ frames := 0, cells := 0, slots := 0, locals := 0 } : Room) s m args below meth c H locs 0 0 (MQ below (Q_Layout_widen K D ca ad L r F9 B9 A) args s 0 0 A) (F0 m 3 ls [])) {l4 : Int} {l0 : Int} {l2 : Int} {s0 : Int} {F : zF} {B : zB} {H : Heap} {locs : List Loc} {ls : Array Slot} (hf : f_Layout_widen_36 rec3 K l4 l0 l2 s0 F B = some (r, F9, B9)) (hZ : zH D ca ad lnC K.2 L F B A H) (hS : va_S A s.heap H locs) (hl : lv_has ls 10 [(4, .int (iI l4)), (0, .ref (ad 2 l0 0)), (2, .long (lI l2))]) : W p l e ({ frames := 0, cells := 0, slots := 0, locals := 0 } : Room) s m args below meth c H locs 0 0 (MQ below (Q_Layout_widen K D ca ad L r F9 B9 A) args s 0 0 A) (F0 m 36 ls [.long (lI s0)]) := by
  obtain ⟨hx, hb, hr, hml, hown, hts, hlk, hK, hA, hL, hX⟩ := id X
  replace hf : (if 0 ≤ l0 ∧ l0 < K.2 2 then if 0 ≤ l4 ∧ l4 < 3200 then f_Layout_widen_57 rec3 K K.1 0 (zldv (s0 - (B 2 l0 1 l4)) 6350400) l4 l0 l2 F B else none else none) = some (r, F9, B9) := hf
  refine lv_lstore (lv' := [(5, .long (lI s0)), (4, .int (iI l4)), (0, .ref (ad 2 l0 0)), (2, .long (lI l2))]) hx hb d_4_7_36 hl (by decide) rfl (fun ls hl => ?_)
  refine lv_lload hx hb d_4_7_38 (lv_at hl 0 rfl) ?_
  refine lv_aload_n hx hb d_4_7_40 rfl (lv_at hl 2 rfl) ?_
  obtain ⟨g8, hf⟩ := gif hf
  refine zget (ci := 2) (C := RX2) (T := TX2) (v := .ref (ad 2 l0 (1 + 1))) (k := 1) hx hb hts inW_2 hown hK hZ g8.1 g8.2 rfl (by decide) k_6_218 rfl d_4_7_41 ?_
  refine lv_iload hx hb d_4_7_44 (lv_at hl 1 rfl) ?_
  obtain ⟨g9, hf⟩ := gif hf
  refine zlald (ci := 2) (k := 1) hx hb hK rfl hZ g8.1 g8.2 rfl (Nat.le_of_ble_eq_true rfl) g9.1 g9.2 d_4_7_46 ?_
  refine zlsub hx hb d_4_7_47 ?_
  refine lv_ldc2 hx hb hown (hts _ k_7_44) d_4_7_48 ?_
  refine W.eq (g2 := F0 m 51 ls [.long (lI 6350400), .long (lI (s0 - (B 2 l0 1 l4)))]) rfl ?_
  refine zldv_r hx hb (by decide) d_4_7_51 ?_
  refine lv_lstore (lv' := [(7, .long (lI (zldv (s0 - (B 2 l0 1 l4)) 6350400))), (5, .long (lI s0)), (4, .int (iI l4)), (0, .ref (ad 2 l0 0)), (2, .long (lI l2))]) hx hb d_4_7_52 hl (by decide) rfl (fun ls hl => ?_)
  refine lv_iconst (v := iI 0) hx hb d_4_7_54 rfl ?_
  refine lv_istore (lv' := [(9, .int (iI 0)), (7, .long (lI (zldv (s0 - (B 2 l0 1 l4)) 6350400))), (5, .long (lI s0)), (4, .int (iI l4)), (0, .ref (ad 2 l0 0)), (2, .long (lI l2))]) hx hb d_4_7_55 hl (by decide) rfl (fun ls hl => ?_)
  exact b_Layout_widen_57 X hrec3 hf hZ hS (lv_sub hl [0, 1, 3, 4, 5] rfl)

noncomputable def f_Layout_widen_3 (K : zK) : Nat → Int → Int → Int → zF → zB → zO
  | 0, _, _, _, _, _ => none
  | n + 1, l4, l0, l2, F, B => if 0 ≤ l0 ∧ l0 < K.2 2 then if r32 l4 then if r32 (F 2 l0 4) then (if (F 2 l0 4) ≤ l4 then some (0, F, B) else if r32 (l4 + 1) then (if (F 2 l0 4) ≤ (l4 + 1) then f_Layout_widen_36 (f_Layout_widen_3 K n) K l4 l0 l2 l2 F B else if 0 ≤ (l4 + 1) ∧ (l4 + 1) < 3200 then f_Layout_widen_36 (f_Layout_widen_3 K n) K l4 l0 l2 (B 2 l0 1 (l4 + 1)) F B else none) else none) else none else none else none
set_option maxHeartbeats 4000000 in
set_option maxRecDepth 100000 in
theorem b_Layout_widen_3 {D : va_G} {ca : Nat → ClassId} {ad : Nat → Int → Nat → Nat} {L : List Nat} {aS vS : Nat → Nat} {A : Nat → Prop} {p : Program} {l : Launch} {e : Env} {s : State} {m : MethodId} {args : Array Value} {below : List Frame} {meth : Method} {c : Code} {K : zK} {r : Int} {F9 : zF} {B9 : zB} (X : zX D ca L aS vS A p s m args meth c prog_4_method_7_code 10 (Option.none : Option Jvm.ClassFile.FieldType) "StaveHouse$Layout") : ∀ {n : Nat} {l4 : Int} {l0 : Int} {l2 : Int} {F : zF} {B : zB} {H : Heap} {locs : List Loc} {ls : Array Slot}, f_Layout_widen_3 K n l4 l0 l2 F B = some (r, F9, B9) → zH D ca ad lnC K.2 L F B A H → va_S A s.heap H locs → lv_has ls 10 [(4, .int (iI l4)), (0, .ref (ad 2 l0 0)), (2, .long (lI l2))] → W p l e ({ frames := 0, cells := 0, slots := 0, locals := 0 } : Room) s m args below meth c H locs 0 0 (MQ below (Q_Layout_widen K D ca ad L r F9 B9 A) args s 0 0 A) (F0 m 3 ls []) := by
  obtain ⟨hx, hb, hr, hml, hown, hts, hlk, hK, hA, hL, hX⟩ := id X
  intro n
  induction n with
  | zero =>
    intros
    rename_i hf _ _ _
    cases hf
  | succ n ih =>
    intro l4 l0 l2 F B H locs ls hf hZ hS hl
    replace hf : (if 0 ≤ l0 ∧ l0 < K.2 2 then if r32 l4 then if r32 (F 2 l0 4) then (if (F 2 l0 4) ≤ l4 then some (0, F, B) else if r32 (l4 + 1) then (if (F 2 l0 4) ≤ (l4 + 1) then f_Layout_widen_36 (f_Layout_widen_3 K n) K l4 l0 l2 l2 F B else if 0 ≤ (l4 + 1) ∧ (l4 + 1) < 3200 then f_Layout_widen_36 (f_Layout_widen_3 K n) K l4 l0 l2 (B 2 l0 1 (l4 + 1)) F B else none) else none) else none else none else none) = some (r, F9, B9) := hf
    refine lv_iload hx hb d_4_7_3 (lv_at hl 0 rfl) ?_
    refine lv_aload_n hx hb d_4_7_5 rfl (lv_at hl 1 rfl) ?_
    obtain ⟨g1, hf⟩ := gif hf
    refine zget (ci := 2) (C := RX2) (T := TX2) (v := .int (iI (F 2 l0 4))) (k := 4) hx hb hts inW_2 hown hK hZ g1.1 g1.2 rfl (by decide) k_6_221 rfl d_4_7_6 ?_
    obtain ⟨g2, hf⟩ := gif hf
    obtain ⟨g3, hf⟩ := gif hf
    refine zge (tgt := 104) hx hb g2 g3 d_4_7_9 (by decide) (fun h4 => ?_) (fun h4 => ?_)
    · replace hf := gpos hf h4
      cases hf
      exact W.vret hx hb hr (fun t ht hW => ⟨⟨(), rfl, trivial, by rw [ht]; exact hZ, va_K.moved hW.alike hK⟩, hS.F ht⟩) hS.2.2 d_4_7_104 hlk
    · replace hf := gneg hf h4
      refine lv_iload hx hb d_4_7_12 (lv_at hl 0 rfl) ?_
      refine lv_iconst (v := iI 1) hx hb d_4_7_14 rfl ?_
      refine zadd hx hb d_4_7_15 ?_
      refine lv_aload_n hx hb d_4_7_16 rfl (lv_at hl 1 rfl) ?_
      refine zget (ci := 2) (C := RX2) (T := TX2) (v := .int (iI (F 2 l0 4))) (k := 4) hx hb hts inW_2 hown hK hZ g1.1 g1.2 rfl (by decide) k_6_221 rfl d_4_7_17 ?_
      obtain ⟨g5, hf⟩ := gif hf
      refine zge (tgt := 35) hx hb g5 g3 d_4_7_20 (by decide) (fun h6 => ?_) (fun h6 => ?_)
      · replace hf := gpos hf h6
        refine lv_lload_n hx hb d_4_7_35 rfl (lv_at hl 2 rfl) ?_
        exact b_Layout_widen_36 X ih hf hZ hS (lv_sub hl [0, 1, 2] rfl)
      · replace hf := gneg hf h6
        refine lv_aload_n hx hb d_4_7_23 rfl (lv_at hl 1 rfl) ?_
        refine zget (ci := 2) (C := RX2) (T := TX2) (v := .ref (ad 2 l0 (1 + 1))) (k := 1) hx hb hts inW_2 hown hK hZ g1.1 g1.2 rfl (by decide) k_6_218 rfl d_4_7_24 ?_
        refine lv_iload hx hb d_4_7_27 (lv_at hl 0 rfl) ?_
        refine lv_iconst (v := iI 1) hx hb d_4_7_29 rfl ?_
        refine zadd hx hb d_4_7_30 ?_
        obtain ⟨g7, hf⟩ := gif hf
        refine zlald (ci := 2) (k := 1) hx hb hK rfl hZ g1.1 g1.2 rfl (Nat.le_of_ble_eq_true rfl) g7.1 g7.2 d_4_7_31 ?_
        refine lv_goto (tgt := 36) hx hb d_4_7_32 (by decide) ?_
        exact b_Layout_widen_36 X ih hf hZ hS (lv_sub hl [0, 1, 2] rfl)

noncomputable def f_Layout_widen (K : zK) (l0 : Int) (l1 : Int) (l2 : Int) (F : zF) (B : zB) : zO := f_Layout_widen_3 K K.1 l1 l0 l2 F B
set_option maxHeartbeats 4000000 in
set_option maxRecDepth 100000 in
theorem c_Layout_widen {l : Launch} {D : va_G} {ca : Nat → ClassId} {ad : Nat → Int → Nat → Nat} {L : List Nat} {aS vS : Nat → Nat} {sz : Nat} {K : zK}  {l0 : Int} {l1 : Int} {l2 : Int} {F F9 : zF} {B B9 : zB} {r : Int} (hf : f_Layout_widen K l0 l1 l2 F B = some (r, F9, B9)) : Met l ({ cls := "StaveHouse$Layout", name := "widen", desc := "(IJ)V" } : Jvm.MethodName) (Cond.code ({ cls := "StaveHouse$Layout", name := "widen", desc := "(IJ)V" } : Jvm.MethodName) prog_4_method_7_code 10 (Option.none : Option Jvm.ClassFile.FieldType) :: wAll) ({ frames := 0, cells := 0, slots := 0, locals := 0 } : Room) (va_Pc [.ref (ad 2 l0 0), .int (iI l1), .long (lI l2)] (zPre D ca ad lnC K.2 L aS vS F B sz)) (Q_Layout_widen K D ca ad L r F9 B9 (zA L sz)) 0 0 (zA L sz) := by
  refine zMet (Qc := Q_Layout_widen K D ca ad L r F9 B9) (lv := [(0, .ref (ad 2 l0 0)), (1, .int (iI l1)), (2, .long (lI l2))]) (by decide) (Nat.le_of_ble_eq_true rfl) rfl (fun A p e s m below meth c ls X hZ hS hl => ?_)
  obtain ⟨hx, hb, hr, hml, hown, hts, hlk, hK, hA, hL, hX⟩ := id X
  replace hf : (f_Layout_widen_3 K K.1 l1 l0 l2 F B) = some (r, F9, B9) := hf
  refine lv_iload_n hx hb d_4_7_0 rfl (lv_at hl 1 rfl) ?_
  refine lv_istore (lv' := [(4, .int (iI l1)), (0, .ref (ad 2 l0 0)), (1, .int (iI l1)), (2, .long (lI l2))]) hx hb d_4_7_1 hl (by decide) rfl (fun ls hl => ?_)
  exact b_Layout_widen_3 X hf hZ hS (lv_sub hl [0, 1, 3] rfl)

noncomputable abbrev Q_Layout_lead (K : zK) (D : va_G) (ca : Nat → ClassId) (ad : Nat → Int → Nat → Nat) (L : List Nat) (r : Int) (F : zF) (B : zB) (A : Nat → Prop) : Array Value → State → Outcome → State → Prop := va_Qi (S := Unit) (fun p _ => p = iI r) (fun _ => zPo D ca ad lnC K.2 L F B A) A
noncomputable def f_Layout_lead_22 (K : zK) (s0 : Int) (s1 : Int) (F : zF) (B : zB) : zO := some (s0 + s1, F, B)
set_option maxHeartbeats 4000000 in
set_option maxRecDepth 100000 in
theorem b_Layout_lead_22 {D : va_G} {ca : Nat → ClassId} {ad : Nat → Int → Nat → Nat} {L : List Nat} {aS vS : Nat → Nat} {A : Nat → Prop} {p : Program} {l : Launch} {e : Env} {s : State} {m : MethodId} {args : Array Value} {below : List Frame} {meth : Method} {c : Code} {K : zK} {r : Int} {F9 : zF} {B9 : zB} (X : zX D ca L aS vS A p s m args meth c prog_4_method_8_code 2 (Option.some Jvm.ClassFile.FieldType.int) "StaveHouse$Layout") {s0 : Int} {s1 : Int} {F : zF} {B : zB} {H : Heap} {locs : List Loc} {ls : Array Slot} (hf : f_Layout_lead_22 K s0 s1 F B = some (r, F9, B9)) (hZ : zH D ca ad lnC K.2 L F B A H) (hS : va_S A s.heap H locs) (hl : lv_has ls 2 []) : W p l e ({ frames := 1, cells := 0, slots := 0, locals := 15 } : Room) s m args below meth c H locs 0 0 (MQ below (Q_Layout_lead K D ca ad L r F9 B9 A) args s 0 0 A) (F0 m 22 ls [.int (iI s1), .int (iI s0)]) := by
  obtain ⟨hx, hb, hr, hml, hown, hts, hlk, hK, hA, hL, hX⟩ := id X
  replace hf : (some (s0 + s1, F, B)) = some (r, F9, B9) := hf
  refine zadd hx hb d_4_8_22 ?_
  cases hf
  exact W.iret hx hb hr (fun t ht hW => ⟨⟨_, (), rfl, rfl, by rw [ht]; exact hZ, va_K.moved hW.alike hK⟩, hS.F ht⟩) hS.2.2 d_4_8_23 hlk

noncomputable def f_Layout_lead (K : zK) (l0 : Int) (l1 : Int) (F : zF) (B : zB) : zO := if 0 ≤ l0 ∧ l0 < K.2 6 then if r32 (F 6 l0 2) then if r32 l1 then (if l1 = 0 then f_Layout_lead_22 K (24 + (5 * (zabs (F 6 l0 2)))) 12 F B else f_Layout_lead_22 K (24 + (5 * (zabs (F 6 l0 2)))) 0 F B) else none else none else none
