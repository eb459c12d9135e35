set_option maxHeartbeats 4000000 in
set_option maxRecDepth 100000 in
theorem c_Piece_beatLength {l : Launch} {D : va_G} {ca : Nat → ClassId} {ad : Nat → Int → Nat → Nat} {L : List Nat} {aS vS : Nat → Nat} {sz : Nat} {K : zK}  {l0 : Int} {F F9 : zF} {B B9 : zB} {r : Int} (hf : f_Piece_beatLength K l0 F B = some (r, F9, B9)) : Met l ({ cls := "StaveHouse$Piece", name := "beatLength", desc := "()J" } : Jvm.MethodName) (Cond.code ({ cls := "StaveHouse$Piece", name := "beatLength", desc := "()J" } : Jvm.MethodName) prog_8_method_6_code 1 (Option.some Jvm.ClassFile.FieldType.long) :: wAll) ({ frames := 1, cells := 0, slots := 0, locals := 21 } : Room) (va_Pc [.ref (ad 6 l0 0)] (zPre D ca ad lnC K.2 L aS vS F B sz)) (Q_Piece_beatLength K D ca ad L r F9 B9 (zA L sz)) 0 0 (zA L sz) := by
  refine zMet (Qc := Q_Piece_beatLength K D ca ad L r F9 B9) (lv := [(0, .ref (ad 6 l0 0))]) (by decide) (Nat.le_of_ble_eq_true rfl) rfl (fun A p e s m below meth c ls X hZ hS hl => ?_)
  obtain ⟨hx, hb, hr, hml, hown, hts, hlk, hK, hA, hL, hX⟩ := id X
  replace hf : (if 0 ≤ l0 ∧ l0 < K.2 6 then if r32 (F 6 l0 5) then if r32 (zmax (F 6 l0 5) 1) then if ¬ lI (zmax (F 6 l0 5) 1) = 0 then zbind (f_S_beatCount K (F 6 l0 4) (F 6 l0 5) F B) (fun r5 F5 B5 => if r32 r5 then some ((zldv 812851200 (zmax (F 6 l0 5) 1)) * r5, F5, B5) else none) else none else none else none else none) = some (r, F9, B9) := hf
  refine lv_ldc2 hx hb hown (hts _ k_4_193) d_8_6_0 ?_
  refine W.eq (g2 := F0 m 3 ls [.long (lI 812851200)]) rfl ?_
  refine lv_aload_n hx hb d_8_6_3 rfl (lv_at hl 0 rfl) ?_
  obtain ⟨g1, hf⟩ := gif hf
  refine zget (ci := 6) (C := RX6) (T := TX6) (v := .int (iI (F 6 l0 5))) (k := 5) hx hb hts inW_6 hown hK hZ g1.1 g1.2 rfl (by decide) k_2_212 rfl d_8_6_4 ?_
  refine lv_iconst (v := iI 1) hx hb d_8_6_7 rfl ?_
  obtain ⟨g2, hf⟩ := gif hf
  refine va_mmax hx hb (by rw [hml]; exact hl.1.symm) hown (hts _ k_4_194) (hts _ k_1_39) (hts _ k_1_3) (hts _ k_1_40) (Nat.le_of_ble_eq_true rfl) (Nat.le_of_ble_eq_true rfl) (Nat.le_of_ble_eq_true rfl) (Nat.le_of_ble_eq_true rfl) d_8_6_8 ?_
  rw [zmax_e g2 (by decide)]
  obtain ⟨g3, hf⟩ := gif hf
  refine zi2l hx hb g3 d_8_6_11 ?_
  obtain ⟨g4, hf⟩ := gif hf
  refine zldv_r hx hb g4 d_8_6_12 ?_
  refine lv_aload_n hx hb d_8_6_13 rfl (lv_at hl 0 rfl) ?_
  refine zget (ci := 6) (C := RX6) (T := TX6) (v := .int (iI (F 6 l0 4))) (k := 4) hx hb hts inW_6 hown hK hZ g1.1 g1.2 rfl (by decide) k_2_207 rfl d_8_6_14 ?_
  refine lv_aload_n hx hb d_8_6_17 rfl (lv_at hl 0 rfl) ?_
  refine zget (ci := 6) (C := RX6) (T := TX6) (v := .int (iI (F 6 l0 5))) (k := 5) hx hb hts inW_6 hown hK hZ g1.1 g1.2 rfl (by decide) k_2_212 rfl d_8_6_18 ?_
  obtain ⟨r5, F5, B5, hc5, hf⟩ := gbind hf
  refine va_calli (va_runSN (As := [.int (iI (F 6 l0 4)), .int (iI (F 6 l0 5))]) (rest := [.long (lI (zldv 812851200 (zmax (F 6 l0 5) 1)))]) ⟨hx, hb, hml, hown, hts⟩ (c_S_beatCount (l := l) hc5) ⟨va_cnB 2 hts (gdC k_5_92) rfl rfl rfl (hX.1 _ (List.mem_of_getElem? (i := 18) rfl)) (hts _ k_1_1) (by decide +kernel) ⟨Nat.le_of_ble_eq_true rfl, Nat.le_of_ble_eq_true rfl⟩, hts _ k_5_91, trivial⟩ (zPS X hZ hS [.int (iI (F 6 l0 4)), .int (iI (F 6 l0 5))]) rfl rfl hl.1 rfl (lv_room (Nat.le_of_ble_eq_true rfl)) d_8_6_21 ⟨Nat.le_of_ble_eq_true rfl, Nat.le_of_ble_eq_true rfl⟩) hS (fun q _ h => zAin X hS q h) (zAin X hS) (fun p5 u5 t5 H5 locs5 ht5 hv5 hw5 hB5 hz5 hk5 hS5 => ?_)
  have hZ5 := zBack X ht5 hB5
  subst hw5
  obtain ⟨g6, hf⟩ := gif hf
  refine zi2l hx hb g6 d_8_6_24 ?_
  refine zlmul hx hb d_8_6_25 ?_
  cases hf
  exact W.lret hx hb hr (fun t ht hW => ⟨⟨_, (), rfl, rfl, by rw [ht]; exact hZ5, va_K.moved hW.alike hK⟩, hS5.F ht⟩) hS5.2.2 d_8_6_26 hlk

noncomputable abbrev Q_Part_isBeamed (K : zK) (D : va_G) (ca : Nat → ClassId) (ad : Nat → Int → Nat → Nat) (L : List Nat) (r : Int) (F : zF) (B : zB) (A : Nat → Prop) : Array Value → State → Outcome → State → Prop := va_Qi (S := Unit) (fun p _ => p = iI r) (fun _ => zPo D ca ad lnC K.2 L F B A) A
noncomputable def f_Part_isBeamed_25 (K : zK) (s0 : Int) (F : zF) (B : zB) : zO := if (s0 = 0 ∨ s0 = 1) then some (s0, F, B) else none
set_option maxHeartbeats 4000000 in
set_option maxRecDepth 100000 in
theorem b_Part_isBeamed_25 {D : va_G} {ca : Nat → ClassId} {ad : Nat → Int → Nat → Nat} {L : List Nat} {aS vS : Nat → Nat} {A : Nat → Prop} {p : Program} {l : Launch} {e : Env} {s : State} {m : MethodId} {args : Array Value} {below : List Frame} {meth : Method} {c : Code} {K : zK} {r : Int} {F9 : zF} {B9 : zB} (X : zX D ca L aS vS A p s m args meth c prog_6_method_22_code 2 (Option.some Jvm.ClassFile.FieldType.boolean) "StaveHouse$Part") {s0 : Int} {F : zF} {B : zB} {H : Heap} {locs : List Loc} {ls : Array Slot} (hf : f_Part_isBeamed_25 K s0 F B = some (r, F9, B9)) (hZ : zH D ca ad lnC K.2 L F B A H) (hS : va_S A s.heap H locs) (hl : lv_has ls 2 []) : W p l e ({ frames := 1, cells := 0, slots := 0, locals := 22 } : Room) s m args below meth c H locs 0 0 (MQ below (Q_Part_isBeamed K D ca ad L r F9 B9 A) args s 0 0 A) (F0 m 25 ls [.int (iI s0)]) := by
  obtain ⟨hx, hb, hr, hml, hown, hts, hlk, hK, hA, hL, hX⟩ := id X
  replace hf : (if (s0 = 0 ∨ s0 = 1) then some (s0, F, B) else none) = some (r, F9, B9) := hf
  obtain ⟨g8, hf⟩ := gif hf
  cases hf
  exact W.zret hx hb hr (zbool g8) (fun t ht hW => ⟨⟨_, (), rfl, rfl, by rw [ht]; exact hZ, va_K.moved hW.alike hK⟩, hS.F ht⟩) hS.2.2 d_6_22_25 hlk

noncomputable def f_Part_isBeamed_24 (K : zK)  (F : zF) (B : zB) : zO := f_Part_isBeamed_25 K 0 F B
set_option maxHeartbeats 4000000 in
set_option maxRecDepth 100000 in
theorem b_Part_isBeamed_24 {D : va_G} {ca : Nat → ClassId} {ad : Nat → Int → Nat → Nat} {L : List Nat} {aS vS : Nat → Nat} {A : Nat → Prop} {p : Program} {l : Launch} {e : Env} {s : State} {m : MethodId} {args : Array Value} {below : List Frame} {meth : Method} {c : Code} {K : zK} {r : Int} {F9 : zF} {B9 : zB} (X : zX D ca L aS vS A p s m args meth c prog_6_method_22_code 2 (Option.some Jvm.ClassFile.FieldType.boolean) "StaveHouse$Part")  {F : zF} {B : zB} {H : Heap} {locs : List Loc} {ls : Array Slot} (hf : f_Part_isBeamed_24 K  F B = some (r, F9, B9)) (hZ : zH D ca ad lnC K.2 L F B A H) (hS : va_S A s.heap H locs) (hl : lv_has ls 2 []) : W p l e ({ frames := 1, cells := 0, slots := 0, locals := 22 } : Room) s m args below meth c H locs 0 0 (MQ below (Q_Part_isBeamed K D ca ad L r F9 B9 A) args s 0 0 A) (F0 m 24 ls []) := by
  obtain ⟨hx, hb, hr, hml, hown, hts, hlk, hK, hA, hL, hX⟩ := id X
  replace hf : (f_Part_isBeamed_25 K 0 F B) = some (r, F9, B9) := hf
  refine lv_iconst (v := iI 0) hx hb d_6_22_24 rfl ?_
  exact b_Part_isBeamed_25 X hf hZ hS (lv_sub hl [] rfl)

noncomputable def f_Part_isBeamed (K : zK) (l0 : Int) (l1 : Int) (F : zF) (B : zB) : zO := if 0 ≤ l0 ∧ l0 < K.2 4 then zbind (f_Part_isRestNote K l0 l1 F B) (fun r2 F2 B2 => if r32 r2 then (if r2 = 0 then if 0 ≤ l1 ∧ l1 < 800 then if r32 (B2 4 l0 364 l1) then (if (B2 4 l0 364 l1) < 3 then f_Part_isBeamed_24 K F2 B2 else f_Part_isBeamed_25 K 1 F2 B2) else none else none else f_Part_isBeamed_24 K F2 B2) else none) else none
set_option maxHeartbeats 4000000 in
set_option maxRecDepth 100000 in
theorem c_Part_isBeamed {l : Launch} {D : va_G} {ca : Nat → ClassId} {ad : Nat → Int → Nat → Nat} {L : List Nat} {aS vS : Nat → Nat} {sz : Nat} {K : zK}  {l0 : Int} {l1 : Int} {F F9 : zF} {B B9 : zB} {r : Int} (hf : f_Part_isBeamed K l0 l1 F B = some (r, F9, B9)) : Met l ({ cls := "StaveHouse$Part", name := "isBeamed", desc := "(I)Z" } : Jvm.MethodName) (Cond.code ({ cls := "StaveHouse$Part", name := "isBeamed", desc := "(I)Z" } : Jvm.MethodName) prog_6_method_22_code 2 (Option.some Jvm.ClassFile.FieldType.boolean) :: wAll) ({ frames := 1, cells := 0, slots := 0, locals := 22 } : Room) (va_Pc [.ref (ad 4 l0 0), .int (iI l1)] (zPre D ca ad lnC K.2 L aS vS F B sz)) (Q_Part_isBeamed K D ca ad L r F9 B9 (zA L sz)) 0 0 (zA L sz) := by
  refine zMet (Qc := Q_Part_isBeamed K D ca ad L r F9 B9) (lv := [(0, .ref (ad 4 l0 0)), (1, .int (iI l1))]) (by decide) (Nat.le_of_ble_eq_true rfl) rfl (fun A p e s m below meth c ls X hZ hS hl => ?_)
  obtain ⟨hx, hb, hr, hml, hown, hts, hlk, hK, hA, hL, hX⟩ := id X
  replace hf : (if 0 ≤ l0 ∧ l0 < K.2 4 then zbind (f_Part_isRestNote K l0 l1 F B) (fun r2 F2 B2 => if r32 r2 then (if r2 = 0 then if 0 ≤ l1 ∧ l1 < 800 then if r32 (B2 4 l0 364 l1) then (if (B2 4 l0 364 l1) < 3 then f_Part_isBeamed_24 K F2 B2 else f_Part_isBeamed_25 K 1 F2 B2) else none else none else f_Part_isBeamed_24 K F2 B2) else none) else none) = some (r, F9, B9) := hf
  refine lv_aload_n hx hb d_6_22_0 rfl (lv_at hl 0 rfl) ?_
  refine lv_iload_n hx hb d_6_22_1 rfl (lv_at hl 1 rfl) ?_
  obtain ⟨g1, hf⟩ := gif hf
  obtain ⟨r2, F2, B2, hc2, hf⟩ := gbind hf
  refine va_calli (va_runV (As := [.int (iI l1)]) (rest := []) ⟨hx, hb, hml, hown, hts⟩ (c_Part_isRestNote (l := l) hc2) (cwV 1 hts (gdV k_5_104 k_5_106 ks_54 k_1_18 k_5_107) rfl rfl rfl (by decide +kernel) ⟨Nat.le_of_ble_eq_true rfl, Nat.le_of_ble_eq_true rfl⟩) (zPV X hZ hS (ci := 4) g1.1 g1.2 (r := (RX4, TX4, 13)) rfl [.int (iI l1)]) rfl rfl hl.1 rfl (lv_room (Nat.le_of_ble_eq_true rfl)) d_6_22_2 ⟨Nat.le_of_ble_eq_true rfl, Nat.le_of_ble_eq_true rfl⟩) hS (fun q _ h => zAin X hS q h) (zAin X hS) (fun p2 u2 t2 H2 locs2 ht2 hv2 hw2 hB2 hz2 hk2 hS2 => ?_)
  have hZ2 := zBack X ht2 hB2
  subst hw2
  obtain ⟨g3, hf⟩ := gif hf
  refine z0ne (tgt := 24) hx hb g3 d_6_22_5 (by decide) (fun h4 => ?_) (fun h4 => ?_)
  · replace hf := gneg hf h4
    exact b_Part_isBeamed_24 X hf hZ2 hS2 (lv_sub hl [] rfl)
  · replace hf := gpos hf h4
    refine lv_aload_n hx hb d_6_22_8 rfl (lv_at hl 0 rfl) ?_
    refine zget (ci := 4) (C := RX4) (T := TX4) (v := .ref (ad 4 l0 (8 + 1))) (k := 8) hx hb hts inW_4 hown hK hZ2 g1.1 g1.2 rfl (by decide) k_4_142 rfl d_6_22_9 ?_
    refine lv_iconst (v := iI 4) hx hb d_6_22_12 rfl ?_
    refine zaldQ (t := 0) (ci := 4) (k := 8) hx hb hK rfl hZ2 g1.1 g1.2 rfl (Nat.le_of_ble_eq_true rfl) (by decide) (by decide) d_6_22_13 ?_
    refine W.eq (g2 := F0 m 14 ls [.ref (ad 4 l0 (364 + 1))]) rfl ?_
    refine lv_iload_n hx hb d_6_22_14 rfl (lv_at hl 1 rfl) ?_
    obtain ⟨g5, hf⟩ := gif hf
    refine zald (ci := 4) (k := 364) hx hb hK rfl hZ2 g1.1 g1.2 rfl (Nat.le_of_ble_eq_true rfl) g5.1 g5.2 d_6_22_15 ?_
    refine lv_iconst (v := iI 3) hx hb d_6_22_16 rfl ?_
    obtain ⟨g6, hf⟩ := gif hf
    refine zlt (tgt := 24) hx hb g6 (by decide) d_6_22_17 (by decide) (fun h7 => ?_) (fun h7 => ?_)
    · replace hf := gpos hf h7
      exact b_Part_isBeamed_24 X hf hZ2 hS2 (lv_sub hl [] rfl)
    · replace hf := gneg hf h7
      refine lv_iconst (v := iI 1) hx hb d_6_22_20 rfl ?_
      refine lv_goto (tgt := 25) hx hb d_6_22_21 (by decide) ?_
      exact b_Part_isBeamed_25 X hf hZ2 hS2 (lv_sub hl [] rfl)

noncomputable abbrev Q_Part_beamsWith (K : zK) (D : va_G) (ca : Nat → ClassId) (ad : Nat → Int → Nat → Nat) (L : List Nat) (r : Int) (F : zF) (B : zB) (A : Nat → Prop) : Array Value → State → Outcome → State → Prop := va_Qi (S := Unit) (fun p _ => p = iI r) (fun _ => zPo D ca ad lnC K.2 L F B A) A
noncomputable def f_Part_beamsWith_60 (K : zK) (s0 : Int) (F : zF) (B : zB) : zO := if (s0 = 0 ∨ s0 = 1) then some (s0, F, B) else none
set_option maxHeartbeats 4000000 in
set_option maxRecDepth 100000 in
theorem b_Part_beamsWith_60 {D : va_G} {ca : Nat → ClassId} {ad : Nat → Int → Nat → Nat} {L : List Nat} {aS vS : Nat → Nat} {A : Nat → Prop} {p : Program} {l : Launch} {e : Env} {s : State} {m : MethodId} {args : Array Value} {below : List Frame} {meth : Method} {c : Code} {K : zK} {r : Int} {F9 : zF} {B9 : zB} (X : zX D ca L aS vS A p s m args meth c prog_6_method_23_code 5 (Option.some Jvm.ClassFile.FieldType.boolean) "StaveHouse$Part") {s0 : Int} {F : zF} {B : zB} {H : Heap} {locs : List Loc} {ls : Array Slot} (hf : f_Part_beamsWith_60 K s0 F B = some (r, F9, B9)) (hZ : zH D ca ad lnC K.2 L F B A H) (hS : va_S A s.heap H locs) (hl : lv_has ls 5 []) : W p l e ({ frames := 2, cells := 0, slots := 0, locals := 43 } : Room) s m args below meth c H locs 0 0 (MQ below (Q_Part_beamsWith K D ca ad L r F9 B9 A) args s 0 0 A) (F0 m 60 ls [.int (iI s0)]) := by
  obtain ⟨hx, hb, hr, hml, hown, hts, hlk, hK, hA, hL, hX⟩ := id X
  replace hf : (if (s0 = 0 ∨ s0 = 1) then some (s0, F, B) else none) = some (r, F9, B9) := hf
  obtain ⟨g17, hf⟩ := gif hf
  cases hf
  exact W.zret hx hb hr (zbool g17) (fun t ht hW => ⟨⟨_, (), rfl, rfl, by rw [ht]; exact hZ, va_K.moved hW.alike hK⟩, hS.F ht⟩) hS.2.2 d_6_23_60 hlk

noncomputable def f_Part_beamsWith_59 (K : zK)  (F : zF) (B : zB) : zO := f_Part_beamsWith_60 K 0 F B
set_option maxHeartbeats 4000000 in
set_option maxRecDepth 100000 in
theorem b_Part_beamsWith_59 {D : va_G} {ca : Nat → ClassId} {ad : Nat → Int → Nat → Nat} {L : List Nat} {aS vS : Nat → Nat} {A : Nat → Prop} {p : Program} {l : Launch} {e : Env} {s : State} {m : MethodId} {args : Array Value} {below : List Frame} {meth : Method} {c : Code} {K : zK} {r : Int} {F9 : zF} {B9 : zB} (X : zX D ca L aS vS A p s m args meth c prog_6_method_23_code 5 (Option.some Jvm.ClassFile.FieldType.boolean) "StaveHouse$Part")  {F : zF} {B : zB} {H : Heap} {locs : List Loc} {ls : Array Slot} (hf : f_Part_beamsWith_59 K  F B = some (r, F9, B9)) (hZ : zH D ca ad lnC K.2 L F B A H) (hS : va_S A s.heap H locs) (hl : lv_has ls 5 []) : W p l e ({ frames := 2, cells := 0, slots := 0, locals := 43 } : Room) s m args below meth c H locs 0 0 (MQ below (Q_Part_beamsWith K D ca ad L r F9 B9 A) args s 0 0 A) (F0 m 59 ls []) := by
  obtain ⟨hx, hb, hr, hml, hown, hts, hlk, hK, hA, hL, hX⟩ := id X
  replace hf : (f_Part_beamsWith_60 K 0 F B) = some (r, F9, B9) := hf
  refine lv_iconst (v := iI 0) hx hb d_6_23_59 rfl ?_
  exact b_Part_beamsWith_60 X hf hZ hS (lv_sub hl [] rfl)

noncomputable def f_Part_beamsWith (K : zK) (l0 : Int) (l1 : Int) (l2 : Int) (l3 : Int) (F : zF) (B : zB) : zO := if 0 ≤ l0 ∧ l0 < K.2 4 then if r32 l2 then if r32 (F 4 l0 10) then (if (F 4 l0 10) ≤ l2 then f_Part_beamsWith_59 K F B else zbind (f_Part_isBeamed K l0 l2 F B) (fun r5 F5 B5 => if r32 r5 then (if r5 = 0 then f_Part_beamsWith_59 K F5 B5 else if 0 ≤ l1 ∧ l1 < 800 then if 0 ≤ l2 ∧ l2 < 800 then if r32 (B5 4 l0 361 l1) then if r32 (B5 4 l0 361 l2) then (if (B5 4 l0 361 l1) = (B5 4 l0 361 l2) then if ¬ lI l3 = 0 then if r64 (zldv (B5 4 l0 9 l1) l3) then if r64 (zldv (B5 4 l0 9 l2) l3) then (if (zcmp (zldv (B5 4 l0 9 l1) l3) (zldv (B5 4 l0 9 l2) l3)) = 0 then f_Part_beamsWith_60 K 1 F5 B5 else f_Part_beamsWith_59 K F5 B5) else none else none else none else f_Part_beamsWith_59 K F5 B5) else none else none else none else none) else none)) else none else none else none
set_option maxHeartbeats 4000000 in
set_option maxRecDepth 100000 in
theorem c_Part_beamsWith {l : Launch} {D : va_G} {ca : Nat → ClassId} {ad : Nat → Int → Nat → Nat} {L : List Nat} {aS vS : Nat → Nat} {sz : Nat} {K : zK}  {l0 : Int} {l1 : Int} {l2 : Int} {l3 : Int} {F F9 : zF} {B B9 : zB} {r : Int} (hf : f_Part_beamsWith K l0 l1 l2 l3 F B = some (r, F9, B9)) : Met l ({ cls := "StaveHouse$Part", name := "beamsWith", desc := "(IIJ)Z" } : Jvm.MethodName) (Cond.code ({ cls := "StaveHouse$Part", name := "beamsWith", desc := "(IIJ)Z" } : Jvm.MethodName) prog_6_method_23_code 5 (Option.some Jvm.ClassFile.FieldType.boolean) :: wAll) ({ frames := 2, cells := 0, slots := 0, locals := 43 } : Room) (va_Pc [.ref (ad 4 l0 0), .int (iI l1), .int (iI l2), .long (lI l3)] (zPre D ca ad lnC K.2 L aS vS F B sz)) (Q_Part_beamsWith K D ca ad L r F9 B9 (zA L sz)) 0 0 (zA L sz) := by
  refine zMet (Qc := Q_Part_beamsWith K D ca ad L r F9 B9) (lv := [(0, .ref (ad 4 l0 0)), (1, .int (iI l1)), (2, .int (iI l2)), (3, .long (lI l3))]) (by decide) (Nat.le_of_ble_eq_true rfl) rfl (fun A p e s m below meth c ls X hZ hS hl => ?_)
  obtain ⟨hx, hb, hr, hml, hown, hts, hlk, hK, hA, hL, hX⟩ := id X
  replace hf : (if 0 ≤ l0 ∧ l0 < K.2 4 then if r32 l2 then if r32 (F 4 l0 10) then (if (F 4 l0 10) ≤ l2 then f_Part_beamsWith_59 K F B else zbind (f_Part_isBeamed K l0 l2 F B) (fun r5 F5 B5 => if r32 r5 then (if r5 = 0 then f_Part_beamsWith_59 K F5 B5 else if 0 ≤ l1 ∧ l1 < 800 then if 0 ≤ l2 ∧ l2 < 800 then if r32 (B5 4 l0 361 l1) then if r32 (B5 4 l0 361 l2) then (if (B5 4 l0 361 l1) = (B5 4 l0 361 l2) then if ¬ lI l3 = 0 then if r64 (zldv (B5 4 l0 9 l1) l3) then if r64 (zldv (B5 4 l0 9 l2) l3) then (if (zcmp (zldv (B5 4 l0 9 l1) l3) (zldv (B5 4 l0 9 l2) l3)) = 0 then f_Part_beamsWith_60 K 1 F5 B5 else f_Part_beamsWith_59 K F5 B5) else none else none else none else f_Part_beamsWith_59 K F5 B5) else none else none else none else none) else none)) else none else none else none) = some (r, F9, B9) := hf
  refine lv_iload_n hx hb d_6_23_0 rfl (lv_at hl 2 rfl) ?_
  refine lv_aload_n hx hb d_6_23_1 rfl (lv_at hl 0 rfl) ?_
  obtain ⟨g1, hf⟩ := gif hf
  refine zget (ci := 4) (C := RX4) (T := TX4) (v := .int (iI (F 4 l0 10))) (k := 10) hx hb hts inW_4 hown hK hZ g1.1 g1.2 rfl (by decide) k_4_148 rfl d_6_23_2 ?_
  obtain ⟨g2, hf⟩ := gif hf
  obtain ⟨g3, hf⟩ := gif hf
  refine zge (tgt := 59) hx hb g2 g3 d_6_23_5 (by decide) (fun h4 => ?_) (fun h4 => ?_)
  · replace hf := gpos hf h4
    exact b_Part_beamsWith_59 X hf hZ hS (lv_sub hl [] rfl)
  · replace hf := gneg hf h4
    refine lv_aload_n hx hb d_6_23_8 rfl (lv_at hl 0 rfl) ?_
    refine lv_iload_n hx hb d_6_23_9 rfl (lv_at hl 2 rfl) ?_
    obtain ⟨r5, F5, B5, hc5, hf⟩ := gbind hf
    refine va_calli (va_runV (As := [.int (iI l2)]) (rest := []) ⟨hx, hb, hml, hown, hts⟩ (c_Part_isBeamed (l := l) hc5) (cwV 1 hts (gdV k_5_153 k_5_155 ks_62 k_1_18 k_5_156) rfl rfl rfl (by decide +kernel) ⟨Nat.le_of_ble_eq_true rfl, Nat.le_of_ble_eq_true rfl⟩) (zPV X hZ hS (ci := 4) g1.1 g1.2 (r := (RX4, TX4, 13)) rfl [.int (iI l2)]) rfl rfl hl.1 rfl (lv_room (Nat.le_of_ble_eq_true rfl)) d_6_23_10 ⟨Nat.le_of_ble_eq_true rfl, Nat.le_of_ble_eq_true rfl⟩) hS (fun q _ h => zAin X hS q h) (zAin X hS) (fun p5 u5 t5 H5 locs5 ht5 hv5 hw5 hB5 hz5 hk5 hS5 => ?_)
    have hZ5 := zBack X ht5 hB5
    subst hw5
    obtain ⟨g6, hf⟩ := gif hf
    refine z0eq (tgt := 59) hx hb g6 d_6_23_13 (by decide) (fun h7 => ?_) (fun h7 => ?_)
    · replace hf := gpos hf h7
      exact b_Part_beamsWith_59 X hf hZ5 hS5 (lv_sub hl [] rfl)
    · replace hf := gneg hf h7
      refine lv_aload_n hx hb d_6_23_16 rfl (lv_at hl 0 rfl) ?_
      refine zget (ci := 4) (C := RX4) (T := TX4) (v := .ref (ad 4 l0 (8 + 1))) (k := 8) hx hb hts inW_4 hown hK hZ5 g1.1 g1.2 rfl (by decide) k_4_142 rfl d_6_23_17 ?_
      refine lv_iconst (v := iI 1) hx hb d_6_23_20 rfl ?_
      refine zaldQ (t := 0) (ci := 4) (k := 8) hx hb hK rfl hZ5 g1.1 g1.2 rfl (Nat.le_of_ble_eq_true rfl) (by decide) (by decide) d_6_23_21 ?_
      refine W.eq (g2 := F0 m 22 ls [.ref (ad 4 l0 (361 + 1))]) rfl ?_
      refine lv_iload_n hx hb d_6_23_22 rfl (lv_at hl 1 rfl) ?_
      obtain ⟨g8, hf⟩ := gif hf
      refine zald (ci := 4) (k := 361) hx hb hK rfl hZ5 g1.1 g1.2 rfl (Nat.le_of_ble_eq_true rfl) g8.1 g8.2 d_6_23_23 ?_
      refine lv_aload_n hx hb d_6_23_24 rfl (lv_at hl 0 rfl) ?_
      refine zget (ci := 4) (C := RX4) (T := TX4) (v := .ref (ad 4 l0 (8 + 1))) (k := 8) hx hb hts inW_4 hown hK hZ5 g1.1 g1.2 rfl (by decide) k_4_142 rfl d_6_23_25 ?_
      refine lv_iconst (v := iI 1) hx hb d_6_23_28 rfl ?_
      refine zaldQ (t := 0) (ci := 4) (k := 8) hx hb hK rfl hZ5 g1.1 g1.2 rfl (Nat.le_of_ble_eq_true rfl) (by decide) (by decide) d_6_23_29 ?_
      refine W.eq (g2 := F0 m 30 ls [.ref (ad 4 l0 (361 + 1)), .int (iI (B5 4 l0 361 l1))]) rfl ?_
      refine lv_iload_n hx hb d_6_23_30 rfl (lv_at hl 2 rfl) ?_
      obtain ⟨g9, hf⟩ := gif hf
      refine zald (ci := 4) (k := 361) hx hb hK rfl hZ5 g1.1 g1.2 rfl (Nat.le_of_ble_eq_true rfl) g9.1 g9.2 d_6_23_31 ?_
      obtain ⟨g10, hf⟩ := gif hf
      obtain ⟨g11, hf⟩ := gif hf
      refine zne (tgt := 59) hx hb g10 g11 d_6_23_32 (by decide) (fun h12 => ?_) (fun h12 => ?_)
      · replace hf := gneg hf h12
        exact b_Part_beamsWith_59 X hf hZ5 hS5 (lv_sub hl [] rfl)
      · replace hf := gpos hf h12
        refine lv_aload_n hx hb d_6_23_35 rfl (lv_at hl 0 rfl) ?_
        refine zget (ci := 4) (C := RX4) (T := TX4) (v := .ref (ad 4 l0 (9 + 1))) (k := 9) hx hb hts inW_4 hown hK hZ5 g1.1 g1.2 rfl (by decide) k_4_145 rfl d_6_23_36 ?_
        refine lv_iload_n hx hb d_6_23_39 rfl (lv_at hl 1 rfl) ?_
        refine zlald (ci := 4) (k := 9) hx hb hK rfl hZ5 g1.1 g1.2 rfl (Nat.le_of_ble_eq_true rfl) g8.1 g8.2 d_6_23_40 ?_
        refine lv_lload_n hx hb d_6_23_41 rfl (lv_at hl 3 rfl) ?_
        obtain ⟨g13, hf⟩ := gif hf
        refine zldv_r hx hb g13 d_6_23_42 ?_
        refine lv_aload_n hx hb d_6_23_43 rfl (lv_at hl 0 rfl) ?_
        refine zget (ci := 4) (C := RX4) (T := TX4) (v := .ref (ad 4 l0 (9 + 1))) (k := 9) hx hb hts inW_4 hown hK hZ5 g1.1 g1.2 rfl (by decide) k_4_145 rfl d_6_23_44 ?_
        refine lv_iload_n hx hb d_6_23_47 rfl (lv_at hl 2 rfl) ?_
        refine zlald (ci := 4) (k := 9) hx hb hK rfl hZ5 g1.1 g1.2 rfl (Nat.le_of_ble_eq_true rfl) g9.1 g9.2 d_6_23_48 ?_
        refine lv_lload_n hx hb d_6_23_49 rfl (lv_at hl 3 rfl) ?_
        refine zldv_r hx hb g13 d_6_23_50 ?_
        obtain ⟨g14, hf⟩ := gif hf
        obtain ⟨g15, hf⟩ := gif hf
        refine zcmp_r hx hb g14 g15 d_6_23_51 ?_
        refine z0ne (tgt := 59) hx hb zcmp_32 d_6_23_52 (by decide) (fun h16 => ?_) (fun h16 => ?_)
        · replace hf := gneg hf h16
          exact b_Part_beamsWith_59 X hf hZ5 hS5 (lv_sub hl [] rfl)
        · replace hf := gpos hf h16
          refine lv_iconst (v := iI 1) hx hb d_6_23_55 rfl ?_
          refine lv_goto (tgt := 60) hx hb d_6_23_56 (by decide) ?_
          exact b_Part_beamsWith_60 X hf hZ5 hS5 (lv_sub hl [] rfl)

noncomputable abbrev Q_Part_setStems (K : zK) (D : va_G) (ca : Nat → ClassId) (ad : Nat → Int → Nat → Nat) (L : List Nat) (r : Int) (F : zF) (B : zB) (A : Nat → Prop) : Array Value → State → Outcome → State → Prop := va_Qv (S := Unit) (fun _ => True) (fun _ => zPo D ca ad lnC K.2 L F B A) A
noncomputable def f_Part_setStems_211 (K : zK)  (F : zF) (B : zB) : zO := some (0, F, B)
set_option maxHeartbeats 4000000 in
set_option maxRecDepth 100000 in
theorem b_Part_setStems_211 {D : va_G} {ca : Nat → ClassId} {ad : Nat → Int → Nat → Nat} {L : List Nat} {aS vS : Nat → Nat} {A : Nat → Prop} {p : Program} {l : Launch} {e : Env} {s : State} {m : MethodId} {args : Array Value} {below : List Frame} {meth : Method} {c : Code} {K : zK} {r : Int} {F9 : zF} {B9 : zB} (X : zX D ca L aS vS A p s m args meth c prog_6_method_25_code 7 (Option.none : Option Jvm.ClassFile.FieldType) "StaveHouse$Part")  {F : zF} {B : zB} {H : Heap} {locs : List Loc} {ls : Array Slot} (hf : f_Part_setStems_211 K  F B = some (r, F9, B9)) (hZ : zH D ca ad lnC K.2 L F B A H) (hS : va_S A s.heap H locs) (hl : lv_has ls 7 []) : W p l e ({ frames := 2, cells := 0, slots := 0, locals := 36 } : Room) s m args below meth c H locs 0 0 (MQ below (Q_Part_setStems K D ca ad L r F9 B9 A) args s 0 0 A) (F0 m 211 ls []) := by
  obtain ⟨hx, hb, hr, hml, hown, hts, hlk, hK, hA, hL, hX⟩ := id X
  replace hf : (some (0, F, B)) = some (r, F9, B9) := hf
  cases hf
  exact W.vret hx hb hr (fun t ht hW => ⟨⟨(), rfl, trivial, by rw [ht]; exact hZ, va_K.moved hW.alike hK⟩, hS.F ht⟩) hS.2.2 d_6_25_211 hlk

noncomputable def f_Part_setStems_194 (rec4 : Int → Int → Int → zF → zB → zO) (rec130 : Int → Int → Int → Int → Int → Int → zF → zB → zO) (K : zK) (l5 : Int) (l4 : Int) (l3 : Int) (l2 : Int) (l1 : Int) (l0 : Int) (s0 : Int) (s1 : Int) (s2 : Int) (F : zF) (B : zB) : zO := if 0 ≤ s0 ∧ s0 < K.2 4 then if 0 ≤ s1 ∧ s1 < 800 then rec130 (l5 + 1) l4 l3 l2 l1 l0 F (zup4 B 4 s0 371 s1 s2) else none else none
set_option maxHeartbeats 4000000 in
set_option maxRecDepth 100000 in
theorem b_Part_setStems_194 {D : va_G} {ca : Nat → ClassId} {ad : Nat → Int → Nat → Nat} {L : List Nat} {aS vS : Nat → Nat} {A : Nat → Prop} {p : Program} {l : Launch} {e : Env} {s : State} {m : MethodId} {args : Array Value} {below : List Frame} {meth : Method} {c : Code} {K : zK} {r : Int} {F9 : zF} {B9 : zB} (X : zX D ca L aS vS A p s m args meth c prog_6_method_25_code 7 (Option.none : Option Jvm.ClassFile.FieldType) "StaveHouse$Part") {rec4 : Int → Int → Int → zF → zB → zO} {rec130 : Int → Int → Int → Int → Int → Int → zF → zB → zO} (hrec4 : ∀ {l2 : Int} {l1 : Int} {l0 : Int} {F : zF} {B : zB} {H : Heap} {locs : List Loc} {ls : Array Slot}, rec4 l2 l1 l0 F B = some (r, F9, B9) → zH D ca ad lnC K.2 L F B A H → va_S A s.heap H locs → lv_has ls 7 [(2, .int (iI l2)), (1, .int (iI l1)), (0, .ref (ad 4 l0 0))] → W p l e ({ frames := 2, cells := 0, slots := 0, locals := 36 } : Room) s m args below meth c H locs 0 0 (MQ below (Q_Part_setStems K D ca ad L r F9 B9 A) args s 0 0 A) (F0 m 4 ls [])) (hrec130 : ∀ {l5 : Int} {l4 : Int} {l3 : Int} {l2 : Int} {l1 : Int} {l0 : Int} {F : zF} {B : zB} {H : Heap} {locs : List Loc} {ls : Array Slot}, rec130 l5 l4 l3 l2 l1 l0 F B = some (r, F9, B9) → zH D ca ad lnC K.2 L F B A H → va_S A s.heap H locs → lv_has ls 7 [(5, .int (iI l5)), (4, .int (iI l4)), (3, .int (iI l3)), (2, .int (iI l2)), (1, .int (iI l1)), (0, .ref (ad 4 l0 0))] → W p l e ({ frames := 2, cells := 0, slots := 0, locals := 36 } : Room) s m args below meth c H locs 0 0 (MQ below (Q_Part_setStems K D ca ad L r F9 B9 A) args s 0 0 A) (F0 m 130 ls [])) {l5 : Int} {l4 : Int} {l3 : Int} {l2 : Int} {l1 : Int} {l0 : Int} {s0 : Int} {s1 : Int} {s2 : Int} {F : zF} {B : zB} {H : Heap} {locs : List Loc} {ls : Array Slot} (hf : f_Part_setStems_194 rec4 rec130 K l5 l4 l3 l2 l1 l0 s0 s1 s2 F B = some (r, F9, B9)) (hZ : zH D ca ad lnC K.2 L F B A H) (hS : va_S A s.heap H locs) (hl : lv_has ls 7 [(5, .int (iI l5)), (4, .int (iI l4)), (3, .int (iI l3)), (2, .int (iI l2)), (1, .int (iI l1)), (0, .ref (ad 4 l0 0))]) : W p l e ({ frames := 2, cells := 0, slots := 0, locals := 36 } : Room) s m args below meth c H locs 0 0 (MQ below (Q_Part_setStems K D ca ad L r F9 B9 A) args s 0 0 A) (F0 m 194 ls [.int (iI s2), .int (iI s1), .ref (ad 4 s0 (371 + 1))]) := by
  obtain ⟨hx, hb, hr, hml, hown, hts, hlk, hK, hA, hL, hX⟩ := id X
  replace hf : (if 0 ≤ s0 ∧ s0 < K.2 4 then if 0 ≤ s1 ∧ s1 < 800 then rec130 (l5 + 1) l4 l3 l2 l1 l0 F (zup4 B 4 s0 371 s1 s2) else none else none) = some (r, F9, B9) := hf
  obtain ⟨g42, hf⟩ := gif hf
  obtain ⟨g43, hf⟩ := gif hf
  refine zast (ci := 4) (k := 371) hx hb hK rfl hZ hS g42.1 g42.2 rfl (Nat.le_of_ble_eq_true rfl) g43.1 g43.2 d_6_25_194 (fun H44 locs44 hZ44 hS44 => ?_)
  refine lv_iinc (v := iI (l5 + 1)) (lv' := [(5, .int (iI (l5 + 1))), (4, .int (iI l4)), (3, .int (iI l3)), (2, .int (iI l2)), (1, .int (iI l1)), (0, .ref (ad 4 l0 0))]) hx hb d_6_25_195 hl (k := 0) rfl (iI_add _ 1) (by decide) rfl (fun ls hl => ?_)
  refine lv_goto (tgt := 130) hx hb d_6_25_198 (by decide) ?_
  exact hrec130 hf hZ44 hS44 (lv_sub hl [0, 1, 2, 3, 4, 5] rfl)

noncomputable def f_Part_setStems_164 (rec4 : Int → Int → Int → zF → zB → zO) (rec130 : Int → Int → Int → Int → Int → Int → zF → zB → zO) (K : zK) (l5 : Int) (l4 : Int) (l3 : Int) (l2 : Int) (l1 : Int) (l0 : Int) (s0 : Int) (F : zF) (B : zB) : zO := if 0 ≤ l0 ∧ l0 < K.2 4 then if r32 s0 then (if s0 = 0 then if r32 l4 then (if 0 ≤ l4 then f_Part_setStems_194 rec4 rec130 K l5 l4 l3 l2 l1 l0 l0 l5 2 F B else f_Part_setStems_194 rec4 rec130 K l5 l4 l3 l2 l1 l0 l0 l5 1 F B) else none else f_Part_setStems_194 rec4 rec130 K l5 l4 l3 l2 l1 l0 l0 l5 0 F B) else none else none
set_option maxHeartbeats 4000000 in
set_option maxRecDepth 100000 in
theorem b_Part_setStems_164 {D : va_G} {ca : Nat → ClassId} {ad : Nat → Int → Nat → Nat} {L : List Nat} {aS vS : Nat → Nat} {A : Nat → Prop} {p : Program} {l : Launch} {e : Env} {s : State} {m : MethodId} {args : Array Value} {below : List Frame} {meth : Method} {c : Code} {K : zK} {r : Int} {F9 : zF} {B9 : zB} (X : zX D ca L aS vS A p s m args meth c prog_6_method_25_code 7 (Option.none : Option Jvm.ClassFile.FieldType) "StaveHouse$Part") {rec4 : Int → Int → Int → zF → zB → zO} {rec130 : Int → Int → Int → Int → Int → Int → zF → zB → zO} (hrec4 : ∀ {l2 : Int} {l1 : Int} {l0 : Int} {F : zF} {B : zB} {H : Heap} {locs : List Loc} {ls : Array Slot}, rec4 l2 l1 l0 F B = some (r, F9, B9) → zH D ca ad lnC K.2 L F B A H → va_S A s.heap H locs → lv_has ls 7 [(2, .int (iI l2)), (1, .int (iI l1)), (0, .ref (ad 4 l0 0))] → W p l e ({ frames := 2, cells := 0, slots := 0, locals := 36 } : Room) s m args below meth c H locs 0 0 (MQ below (Q_Part_setStems K D ca ad L r F9 B9 A) args s 0 0 A) (F0 m 4 ls [])) (hrec130 : ∀ {l5 : Int} {l4 : Int} {l3 : Int} {l2 : Int} {l1 : Int} {l0 : Int} {F : zF} {B : zB} {H : Heap} {locs : List Loc} {ls : Array Slot}, rec130 l5 l4 l3 l2 l1 l0 F B = some (r, F9, B9) → zH D ca ad lnC K.2 L F B A H → va_S A s.heap H locs → lv_has ls 7 [(5, .int (iI l5)), (4, .int (iI l4)), (3, .int (iI l3)), (2, .int (iI l2)), (1, .int (iI l1)), (0, .ref (ad 4 l0 0))] → W p l e ({ frames := 2, cells := 0, slots := 0, locals := 36 } : Room) s m args below meth c H locs 0 0 (MQ below (Q_Part_setStems K D ca ad L r F9 B9 A) args s 0 0 A) (F0 m 130 ls [])) {l5 : Int} {l4 : Int} {l3 : Int} {l2 : Int} {l1 : Int} {l0 : Int} {s0 : Int} {F : zF} {B : zB} {H : Heap} {locs : List Loc} {ls : Array Slot} (hf : f_Part_setStems_164 rec4 rec130 K l5 l4 l3 l2 l1 l0 s0 F B = some (r, F9, B9)) (hZ : zH D ca ad lnC K.2 L F B A H) (hS : va_S A s.heap H locs) (hl : lv_has ls 7 [(5, .int (iI l5)), (4, .int (iI l4)), (3, .int (iI l3)), (2, .int (iI l2)), (1, .int (iI l1)), (0, .ref (ad 4 l0 0))]) : W p l e ({ frames := 2, cells := 0, slots := 0, locals := 36 } : Room) s m args below meth c H locs 0 0 (MQ below (Q_Part_setStems K D ca ad L r F9 B9 A) args s 0 0 A) (F0 m 164 ls [.int (iI s0)]) := by
  obtain ⟨hx, hb, hr, hml, hown, hts, hlk, hK, hA, hL, hX⟩ := id X
  replace hf : (if 0 ≤ l0 ∧ l0 < K.2 4 then if r32 s0 then (if s0 = 0 then if r32 l4 then (if 0 ≤ l4 then f_Part_setStems_194 rec4 rec130 K l5 l4 l3 l2 l1 l0 l0 l5 2 F B else f_Part_setStems_194 rec4 rec130 K l5 l4 l3 l2 l1 l0 l0 l5 1 F B) else none else f_Part_setStems_194 rec4 rec130 K l5 l4 l3 l2 l1 l0 l0 l5 0 F B) else none else none) = some (r, F9, B9) := hf
  refine lv_istore (lv' := [(6, .int (iI s0)), (5, .int (iI l5)), (4, .int (iI l4)), (3, .int (iI l3)), (2, .int (iI l2)), (1, .int (iI l1)), (0, .ref (ad 4 l0 0))]) hx hb d_6_25_164 hl (by decide) rfl (fun ls hl => ?_)
  refine lv_aload_n hx hb d_6_25_166 rfl (lv_at hl 6 rfl) ?_
  obtain ⟨g37, hf⟩ := gif hf
  refine zget (ci := 4) (C := RX4) (T := TX4) (v := .ref (ad 4 l0 (8 + 1))) (k := 8) hx hb hts inW_4 hown hK hZ g37.1 g37.2 rfl (by decide) k_4_142 rfl d_6_25_167 ?_
  refine lv_bipush (v := iI 11) hx hb d_6_25_170 (by decide) ?_
  refine zaldQ (t := 0) (ci := 4) (k := 8) hx hb hK rfl hZ g37.1 g37.2 rfl (Nat.le_of_ble_eq_true rfl) (by decide) (by decide) d_6_25_172 ?_
  refine W.eq (g2 := F0 m 173 ls [.ref (ad 4 l0 (371 + 1))]) rfl ?_
  refine lv_iload hx hb d_6_25_173 (lv_at hl 1 rfl) ?_
  refine lv_iload hx hb d_6_25_175 (lv_at hl 0 rfl) ?_
  obtain ⟨g38, hf⟩ := gif hf
  refine z0eq (tgt := 184) hx hb g38 d_6_25_177 (by decide) (fun h39 => ?_) (fun h39 => ?_)
  · replace hf := gpos hf h39
    refine lv_iload hx hb d_6_25_184 (lv_at hl 2 rfl) ?_
    obtain ⟨g40, hf⟩ := gif hf
    refine z0ge (tgt := 193) hx hb g40 d_6_25_186 (by decide) (fun h41 => ?_) (fun h41 => ?_)
    · replace hf := gpos hf h41
      refine lv_iconst (v := iI 2) hx hb d_6_25_193 rfl ?_
      exact b_Part_setStems_194 X hrec4 hrec130 hf hZ hS (lv_sub hl [1, 2, 3, 4, 5, 6] rfl)
    · replace hf := gneg hf h41
      refine lv_iconst (v := iI 1) hx hb d_6_25_189 rfl ?_
      refine lv_goto (tgt := 194) hx hb d_6_25_190 (by decide) ?_
      exact b_Part_setStems_194 X hrec4 hrec130 hf hZ hS (lv_sub hl [1, 2, 3, 4, 5, 6] rfl)
  · replace hf := gneg hf h39
    refine lv_iconst (v := iI 0) hx hb d_6_25_180 rfl ?_
    refine lv_goto (tgt := 194) hx hb d_6_25_181 (by decide) ?_
    exact b_Part_setStems_194 X hrec4 hrec130 hf hZ hS (lv_sub hl [1, 2, 3, 4, 5, 6] rfl)

noncomputable def f_Part_setStems_159 (rec4 : Int → Int → Int → zF → zB → zO) (rec130 : Int → Int → Int → Int → Int → Int → zF → zB → zO) (K : zK) (l5 : Int) (l4 : Int) (l3 : Int) (l2 : Int) (l1 : Int) (l0 : Int) (F : zF) (B : zB) : zO := f_Part_setStems_164 rec4 rec130 K l5 l4 l3 l2 l1 l0 1 F B
set_option maxHeartbeats 4000000 in
set_option maxRecDepth 100000 in
theorem b_Part_setStems_159 {D : va_G} {ca : Nat → ClassId} {ad : Nat → Int → Nat → Nat} {L : List Nat} {aS vS : Nat → Nat} {A : Nat → Prop} {p : Program} {l : Launch} {e : Env} {s : State} {m : MethodId} {args : Array Value} {below : List Frame} {meth : Method} {c : Code} {K : zK} {r : Int} {F9 : zF} {B9 : zB} (X : zX D ca L aS vS A p s m args meth c prog_6_method_25_code 7 (Option.none : Option Jvm.ClassFile.FieldType) "StaveHouse$Part") {rec4 : Int → Int → Int → zF → zB → zO} {rec130 : Int → Int → Int → Int → Int → Int → zF → zB → zO} (hrec4 : ∀ {l2 : Int} {l1 : Int} {l0 : Int} {F : zF} {B : zB} {H : Heap} {locs : List Loc} {ls : Array Slot}, rec4 l2 l1 l0 F B = some (r, F9, B9) → zH D ca ad lnC K.2 L F B A H → va_S A s.heap H locs → lv_has ls 7 [(2, .int (iI l2)), (1, .int (iI l1)), (0, .ref (ad 4 l0 0))] → W p l e ({ frames := 2, cells := 0, slots := 0, locals := 36 } : Room) s m args below meth c H locs 0 0 (MQ below (Q_Part_setStems K D ca ad L r F9 B9 A) args s 0 0 A) (F0 m 4 ls [])) (hrec130 : ∀ {l5 : Int} {l4 : Int} {l3 : Int} {l2 : Int} {l1 : Int} {l0 : Int} {F : zF} {B : zB} {H : Heap} {locs : List Loc} {ls : Array Slot}, rec130 l5 l4 l3 l2 l1 l0 F B = some (r, F9, B9) → zH D ca ad lnC K.2 L F B A H → va_S A s.heap H locs → lv_has ls 7 [(5, .int (iI l5)), (4, .int (iI l4)), (3, .int (iI l3)), (2, .int (iI l2)), (1, .int (iI l1)), (0, .ref (ad 4 l0 0))] → W p l e ({ frames := 2, cells := 0, slots := 0, locals := 36 } : Room) s m args below meth c H locs 0 0 (MQ below (Q_Part_setStems K D ca ad L r F9 B9 A) args s 0 0 A) (F0 m 130 ls [])) {l5 : Int} {l4 : Int} {l3 : Int} {l2 : Int} {l1 : Int} {l0 : Int} {F : zF} {B : zB} {H : Heap} {locs : List Loc} {ls : Array Slot} (hf : f_Part_setStems_159 rec4 rec130 K l5 l4 l3 l2 l1 l0 F B = some (r, F9, B9)) (hZ : zH D ca ad lnC K.2 L F B A H) (hS : va_S A s.heap H locs) (hl : lv_has ls 7 [(5, .int (iI l5)), (4, .int (iI l4)), (3, .int (iI l3)), (2, .int (iI l2)), (1, .int (iI l1)), (0, .ref (ad 4 l0 0))]) : W p l e ({ frames := 2, cells := 0, slots := 0, locals := 36 } : Room) s m args below meth c H locs 0 0 (MQ below (Q_Part_setStems K D ca ad L r F9 B9 A) args s 0 0 A) (F0 m 159 ls []) := by
  obtain ⟨hx, hb, hr, hml, hown, hts, hlk, hK, hA, hL, hX⟩ := id X
  replace hf : (f_Part_setStems_164 rec4 rec130 K l5 l4 l3 l2 l1 l0 1 F B) = some (r, F9, B9) := hf
  refine lv_iconst (v := iI 1) hx hb d_6_25_159 rfl ?_
  refine lv_goto (tgt := 164) hx hb d_6_25_160 (by decide) ?_
  exact b_Part_setStems_164 X hrec4 hrec130 hf hZ hS (lv_sub hl [0, 1, 2, 3, 4, 5] rfl)

noncomputable def f_Part_setStems_130 (rec4 : Int → Int → Int → zF → zB → zO) (K : zK) : Nat → Int → Int → Int → Int → Int → Int → zF → zB → zO
  | 0, _, _, _, _, _, _, _, _ => none
  | n + 1, l5, l4, l3, l2, l1, l0, F, B => if r32 l5 then if r32 (l1 + l3) then (if (l1 + l3) ≤ l5 then rec4 (l2 + 1) (l1 + l3) l0 F B else if 0 ≤ l0 ∧ l0 < K.2 4 then zbind (f_Part_isRestNote K l0 l5 F B) (fun r30 F30 B30 => if r32 r30 then (if r30 = 0 then if 0 ≤ l5 ∧ l5 < 800 then if r32 (B30 4 l0 364 l5) then (if (B30 4 l0 364 l5) = 0 then f_Part_setStems_159 rec4 (f_Part_setStems_130 rec4 K n) K l5 l4 l3 l2 l1 l0 F30 B30 else f_Part_setStems_164 rec4 (f_Part_setStems_130 rec4 K n) K l5 l4 l3 l2 l1 l0 0 F30 B30) else none else none else f_Part_setStems_159 rec4 (f_Part_setStems_130 rec4 K n) K l5 l4 l3 l2 l1 l0 F30 B30) else none) else none) else none else none
set_option maxHeartbeats 4000000 in
set_option maxRecDepth 100000 in
theorem b_Part_setStems_130 {D : va_G} {ca : Nat → ClassId} {ad : Nat → Int → Nat → Nat} {L : List Nat} {aS vS : Nat → Nat} {A : Nat → Prop} {p : Program} {l : Launch} {e : Env} {s : State} {m : MethodId} {args : Array Value} {below : List Frame} {meth : Method} {c : Code} {K : zK} {r : Int} {F9 : zF} {B9 : zB} (X : zX D ca L aS vS A p s m args meth c prog_6_method_25_code 7 (Option.none : Option Jvm.ClassFile.FieldType) "StaveHouse$Part") {rec4 : Int → Int → Int → zF → zB → zO} (hrec4 : ∀ {l2 : Int} {l1 : Int} {l0 : Int} {F : zF} {B : zB} {H : Heap} {locs : List Loc} {ls : Array Slot}, rec4 l2 l1 l0 F B = some (r, F9, B9) → zH D ca ad lnC K.2 L F B A H → va_S A s.heap H locs → lv_has ls 7 [(2, .int (iI l2)), (1, .int (iI l1)), (0, .ref (ad 4 l0 0))] → W p l e ({ frames := 2, cells := 0, slots := 0, locals := 36 } : Room) s m args below meth c H locs 0 0 (MQ below (Q_Part_setStems K D ca ad L r F9 B9 A) args s 0 0 A) (F0 m 4 ls [])) : ∀ {n : Nat} {l5 : Int} {l4 : Int} {l3 : Int} {l2 : Int} {l1 : Int} {l0 : Int} {F : zF} {B : zB} {H : Heap} {locs : List Loc} {ls : Array Slot}, f_Part_setStems_130 rec4 K n l5 l4 l3 l2 l1 l0 F B = some (r, F9, B9) → zH D ca ad lnC K.2 L F B A H → va_S A s.heap H locs → lv_has ls 7 [(5, .int (iI l5)), (4, .int (iI l4)), (3, .int (iI l3)), (2, .int (iI l2)), (1, .int (iI l1)), (0, .ref (ad 4 l0 0))] → W p l e ({ frames := 2, cells := 0, slots := 0, locals := 36 } : Room) s m args below meth c H locs 0 0 (MQ below (Q_Part_setStems K D ca ad L r F9 B9 A) args s 0 0 A) (F0 m 130 ls []) := by
  obtain ⟨hx, hb, hr, hml, hown, hts, hlk, hK, hA, hL, hX⟩ := id X
  intro n
  induction n with
  | zero =>
    intros
    rename_i hf _ _ _
    cases hf
  | succ n ih =>
    intro l5 l4 l3 l2 l1 l0 F B H locs ls hf hZ hS hl
    replace hf : (if r32 l5 then if r32 (l1 + l3) then (if (l1 + l3) ≤ l5 then rec4 (l2 + 1) (l1 + l3) l0 F B else if 0 ≤ l0 ∧ l0 < K.2 4 then zbind (f_Part_isRestNote K l0 l5 F B) (fun r30 F30 B30 => if r32 r30 then (if r30 = 0 then if 0 ≤ l5 ∧ l5 < 800 then if r32 (B30 4 l0 364 l5) then (if (B30 4 l0 364 l5) = 0 then f_Part_setStems_159 rec4 (f_Part_setStems_130 rec4 K n) K l5 l4 l3 l2 l1 l0 F30 B30 else f_Part_setStems_164 rec4 (f_Part_setStems_130 rec4 K n) K l5 l4 l3 l2 l1 l0 0 F30 B30) else none else none else f_Part_setStems_159 rec4 (f_Part_setStems_130 rec4 K n) K l5 l4 l3 l2 l1 l0 F30 B30) else none) else none) else none else none) = some (r, F9, B9) := hf
    refine lv_iload hx hb d_6_25_130 (lv_at hl 0 rfl) ?_
    refine lv_iload_n hx hb d_6_25_132 rfl (lv_at hl 4 rfl) ?_
    refine lv_iload_n hx hb d_6_25_133 rfl (lv_at hl 2 rfl) ?_
    refine zadd hx hb d_6_25_134 ?_
    obtain ⟨g26, hf⟩ := gif hf
    obtain ⟨g27, hf⟩ := gif hf
    refine zge (tgt := 201) hx hb g26 g27 d_6_25_135 (by decide) (fun h28 => ?_) (fun h28 => ?_)
    · replace hf := gpos hf h28
      refine lv_iload_n hx hb d_6_25_201 rfl (lv_at hl 4 rfl) ?_
      refine lv_iload_n hx hb d_6_25_202 rfl (lv_at hl 2 rfl) ?_
      refine zadd hx hb d_6_25_203 ?_
      refine lv_istore_n (lv' := [(1, .int (iI (l1 + l3))), (5, .int (iI l5)), (4, .int (iI l4)), (3, .int (iI l3)), (2, .int (iI l2)), (0, .ref (ad 4 l0 0))]) hx hb d_6_25_204 rfl hl (by decide) rfl (fun ls hl => ?_)
      refine lv_iinc (v := iI (l2 + 1)) (lv' := [(2, .int (iI (l2 + 1))), (1, .int (iI (l1 + l3))), (5, .int (iI l5)), (4, .int (iI l4)), (3, .int (iI l3)), (0, .ref (ad 4 l0 0))]) hx hb d_6_25_205 hl (k := 4) rfl (iI_add _ 1) (by decide) rfl (fun ls hl => ?_)
      refine lv_goto (tgt := 4) hx hb d_6_25_208 (by decide) ?_
      exact hrec4 hf hZ hS (lv_sub hl [0, 1, 5] rfl)
    · replace hf := gneg hf h28
      refine lv_aload_n hx hb d_6_25_138 rfl (lv_at hl 5 rfl) ?_
      refine lv_iload hx hb d_6_25_139 (lv_at hl 0 rfl) ?_
      obtain ⟨g29, hf⟩ := gif hf
      obtain ⟨r30, F30, B30, hc30, hf⟩ := gbind hf
      refine va_calli (va_runV (As := [.int (iI l5)]) (rest := []) ⟨hx, hb, hml, hown, hts⟩ (c_Part_isRestNote (l := l) hc30) (cwV 1 hts (gdV k_5_104 k_5_106 ks_54 k_1_18 k_5_107) rfl rfl rfl (by decide +kernel) ⟨Nat.le_of_ble_eq_true rfl, Nat.le_of_ble_eq_true rfl⟩) (zPV X hZ hS (ci := 4) g29.1 g29.2 (r := (RX4, TX4, 13)) rfl [.int (iI l5)]) rfl rfl hl.1 rfl (lv_room (Nat.le_of_ble_eq_true rfl)) d_6_25_141 ⟨Nat.le_of_ble_eq_true rfl, Nat.le_of_ble_eq_true rfl⟩) hS (fun q _ h => zAin X hS q h) (zAin X hS) (fun p30 u30 t30 H30 locs30 ht30 hv30 hw30 hB30 hz30 hk30 hS30 => ?_)
      have hZ30 := zBack X ht30 hB30
      subst hw30
      obtain ⟨g31, hf⟩ := gif hf
      refine z0ne (tgt := 159) hx hb g31 d_6_25_144 (by decide) (fun h33 => ?_) (fun h33 => ?_)
      · replace hf := gneg hf h33
        exact b_Part_setStems_159 X hrec4 ih hf hZ30 hS30 (lv_sub hl [0, 1, 2, 3, 4, 5] rfl)
      · replace hf := gpos hf h33
        refine lv_aload_n hx hb d_6_25_147 rfl (lv_at hl 5 rfl) ?_
        refine zget (ci := 4) (C := RX4) (T := TX4) (v := .ref (ad 4 l0 (8 + 1))) (k := 8) hx hb hts inW_4 hown hK hZ30 g29.1 g29.2 rfl (by decide) k_4_142 rfl d_6_25_148 ?_
        refine lv_iconst (v := iI 4) hx hb d_6_25_151 rfl ?_
        refine zaldQ (t := 0) (ci := 4) (k := 8) hx hb hK rfl hZ30 g29.1 g29.2 rfl (Nat.le_of_ble_eq_true rfl) (by decide) (by decide) d_6_25_152 ?_
        refine W.eq (g2 := F0 m 153 ls [.ref (ad 4 l0 (364 + 1))]) rfl ?_
        refine lv_iload hx hb d_6_25_153 (lv_at hl 0 rfl) ?_
        obtain ⟨g34, hf⟩ := gif hf
        refine zald (ci := 4) (k := 364) hx hb hK rfl hZ30 g29.1 g29.2 rfl (Nat.le_of_ble_eq_true rfl) g34.1 g34.2 d_6_25_155 ?_
        obtain ⟨g35, hf⟩ := gif hf
        refine z0ne (tgt := 163) hx hb g35 d_6_25_156 (by decide) (fun h36 => ?_) (fun h36 => ?_)
        · replace hf := gneg hf h36
          refine lv_iconst (v := iI 0) hx hb d_6_25_163 rfl ?_
          exact b_Part_setStems_164 X hrec4 ih hf hZ30 hS30 (lv_sub hl [0, 1, 2, 3, 4, 5] rfl)
        · replace hf := gpos hf h36
          exact b_Part_setStems_159 X hrec4 ih hf hZ30 hS30 (lv_sub hl [0, 1, 2, 3, 4, 5] rfl)

noncomputable def f_Part_setStems_118 (rec4 : Int → Int → Int → zF → zB → zO) (rec79 : Int → Int → Int → Int → Int → Int → zF → zB → zO) (K : zK) (l5 : Int) (l3 : Int) (l2 : Int) (l1 : Int) (l0 : Int) (s0 : Int) (s1 : Int) (F : zF) (B : zB) : zO := rec79 (l5 + 1) (s0 + s1) l3 l2 l1 l0 F B
set_option maxHeartbeats 4000000 in
set_option maxRecDepth 100000 in
theorem b_Part_setStems_118 {D : va_G} {ca : Nat → ClassId} {ad : Nat → Int → Nat → Nat} {L : List Nat} {aS vS : Nat → Nat} {A : Nat → Prop} {p : Program} {l : Launch} {e : Env} {s : State} {m : MethodId} {args : Array Value} {below : List Frame} {meth : Method} {c : Code} {K : zK} {r : Int} {F9 : zF} {B9 : zB} (X : zX D ca L aS vS A p s m args meth c prog_6_method_25_code 7 (Option.none : Option Jvm.ClassFile.FieldType) "StaveHouse$Part") {rec4 : Int → Int → Int → zF → zB → zO} {rec79 : Int → Int → Int → Int → Int → Int → zF → zB → zO} (hrec4 : ∀ {l2 : Int} {l1 : Int} {l0 : Int} {F : zF} {B : zB} {H : Heap} {locs : List Loc} {ls : Array Slot}, rec4 l2 l1 l0 F B = some (r, F9, B9) → zH D ca ad lnC K.2 L F B A H → va_S A s.heap H locs → lv_has ls 7 [(2, .int (iI l2)), (1, .int (iI l1)), (0, .ref (ad 4 l0 0))] → W p l e ({ frames := 2, cells := 0, slots := 0, locals := 36 } : Room) s m args below meth c H locs 0 0 (MQ below (Q_Part_setStems K D ca ad L r F9 B9 A) args s 0 0 A) (F0 m 4 ls [])) (hrec79 : ∀ {l5 : Int} {l4 : Int} {l3 : Int} {l2 : Int} {l1 : Int} {l0 : Int} {F : zF} {B : zB} {H : Heap} {locs : List Loc} {ls : Array Slot}, rec79 l5 l4 l3 l2 l1 l0 F B = some (r, F9, B9) → zH D ca ad lnC K.2 L F B A H → va_S A s.heap H locs → lv_has ls 7 [(5, .int (iI l5)), (4, .int (iI l4)), (3, .int (iI l3)), (2, .int (iI l2)), (1, .int (iI l1)), (0, .ref (ad 4 l0 0))] → W p l e ({ frames := 2, cells := 0, slots := 0, locals := 36 } : Room) s m args below meth c H locs 0 0 (MQ below (Q_Part_setStems K D ca ad L r F9 B9 A) args s 0 0 A) (F0 m 79 ls [])) {l5 : Int} {l3 : Int} {l2 : Int} {l1 : Int} {l0 : Int} {s0 : Int} {s1 : Int} {F : zF} {B : zB} {H : Heap} {locs : List Loc} {ls : Array Slot} (hf : f_Part_setStems_118 rec4 rec79 K l5 l3 l2 l1 l0 s0 s1 F B = some (r, F9, B9)) (hZ : zH D ca ad lnC K.2 L F B A H) (hS : va_S A s.heap H locs) (hl : lv_has ls 7 [(5, .int (iI l5)), (3, .int (iI l3)), (2, .int (iI l2)), (1, .int (iI l1)), (0, .ref (ad 4 l0 0))]) : W p l e ({ frames := 2, cells := 0, slots := 0, locals := 36 } : Room) s m args below meth c H locs 0 0 (MQ below (Q_Part_setStems K D ca ad L r F9 B9 A) args s 0 0 A) (F0 m 118 ls [.int (iI s1), .int (iI s0)]) := by
  obtain ⟨hx, hb, hr, hml, hown, hts, hlk, hK, hA, hL, hX⟩ := id X
  replace hf : (rec79 (l5 + 1) (s0 + s1) l3 l2 l1 l0 F B) = some (r, F9, B9) := hf
  refine zadd hx hb d_6_25_118 ?_
  refine lv_istore (lv' := [(4, .int (iI (s0 + s1))), (5, .int (iI l5)), (3, .int (iI l3)), (2, .int (iI l2)), (1, .int (iI l1)), (0, .ref (ad 4 l0 0))]) hx hb d_6_25_119 hl (by decide) rfl (fun ls hl => ?_)
  refine lv_iinc (v := iI (l5 + 1)) (lv' := [(5, .int (iI (l5 + 1))), (4, .int (iI (s0 + s1))), (3, .int (iI l3)), (2, .int (iI l2)), (1, .int (iI l1)), (0, .ref (ad 4 l0 0))]) hx hb d_6_25_121 hl (k := 1) rfl (iI_add _ 1) (by decide) rfl (fun ls hl => ?_)
  refine lv_goto (tgt := 79) hx hb d_6_25_124 (by decide) ?_
  exact hrec79 hf hZ hS (lv_sub hl [0, 1, 2, 3, 4, 5] rfl)

noncomputable def f_Part_setStems_79 (rec4 : Int → Int → Int → zF → zB → zO) (K : zK) : Nat → Int → Int → Int → Int → Int → Int → zF → zB → zO
  | 0, _, _, _, _, _, _, _, _ => none
  | n + 1, l5, l4, l3, l2, l1, l0, F, B => if r32 l5 then if r32 (l1 + l3) then (if (l1 + l3) ≤ l5 then f_Part_setStems_130 rec4 K K.1 l1 l4 l3 l2 l1 l0 F B else if 0 ≤ l0 ∧ l0 < K.2 4 then zbind (f_Part_isRestNote K l0 l5 F B) (fun r21 F21 B21 => if r32 r21 then (if r21 = 0 then zbind (f_Part_leastHeight K l0 l5 F21 B21) (fun r24 F24 B24 => zbind (f_Part_greatestHeight K l0 l5 F24 B24) (fun r25 F25 B25 => f_Part_setStems_118 rec4 (f_Part_setStems_79 rec4 K n) K l5 l3 l2 l1 l0 l4 ((r24 + r25) - 8) F25 B25)) else f_Part_setStems_118 rec4 (f_Part_setStems_79 rec4 K n) K l5 l3 l2 l1 l0 l4 0 F21 B21) else none) else none) else none else none
set_option maxHeartbeats 4000000 in
set_option maxRecDepth 100000 in
theorem b_Part_setStems_79 {D : va_G} {ca : Nat → ClassId} {ad : Nat → Int → Nat → Nat} {L : List Nat} {aS vS : Nat → Nat} {A : Nat → Prop} {p : Program} {l : Launch} {e : Env} {s : State} {m : MethodId} {args : Array Value} {below : List Frame} {meth : Method} {c : Code} {K : zK} {r : Int} {F9 : zF} {B9 : zB} (X : zX D ca L aS vS A p s m args meth c prog_6_method_25_code 7 (Option.none : Option Jvm.ClassFile.FieldType) "StaveHouse$Part") {rec4 : Int → Int → Int → zF → zB → zO} (hrec4 : ∀ {l2 : Int} {l1 : Int} {l0 : Int} {F : zF} {B : zB} {H : Heap} {locs : List Loc} {ls : Array Slot}, rec4 l2 l1 l0 F B = some (r, F9, B9) → zH D ca ad lnC K.2 L F B A H → va_S A s.heap H locs → lv_has ls 7 [(2, .int (iI l2)), (1, .int (iI l1)), (0, .ref (ad 4 l0 0))] → W p l e ({ frames := 2, cells := 0, slots := 0, locals := 36 } : Room) s m args below meth c H locs 0 0 (MQ below (Q_Part_setStems K D ca ad L r F9 B9 A) args s 0 0 A) (F0 m 4 ls [])) : ∀ {n : Nat} {l5 : Int} {l4 : Int} {l3 : Int} {l2 : Int} {l1 : Int} {l0 : Int} {F : zF} {B : zB} {H : Heap} {locs : List Loc} {ls : Array Slot}, f_Part_setStems_79 rec4 K n l5 l4 l3 l2 l1 l0 F B = some (r, F9, B9) → zH D ca ad lnC K.2 L F B A H → va_S A s.heap H locs → lv_has ls 7 [(5, .int (iI l5)), (4, .int (iI l4)), (3, .int (iI l3)), (2, .int (iI l2)), (1, .int (iI l1)), (0, .ref (ad 4 l0 0))] → W p l e ({ frames := 2, cells := 0, slots := 0, locals := 36 } : Room) s m args below meth c H locs 0 0 (MQ below (Q_Part_setStems K D ca ad L r F9 B9 A) args s 0 0 A) (F0 m 79 ls []) := by
  obtain ⟨hx, hb, hr, hml, hown, hts, hlk, hK, hA, hL, hX⟩ := id X
  intro n
  induction n with
  | zero =>
    intros
    rename_i hf _ _ _
    cases hf
  | succ n ih =>
    intro l5 l4 l3 l2 l1 l0 F B H locs ls hf hZ hS hl
    replace hf : (if r32 l5 then if r32 (l1 + l3) then (if (l1 + l3) ≤ l5 then f_Part_setStems_130 rec4 K K.1 l1 l4 l3 l2 l1 l0 F B else if 0 ≤ l0 ∧ l0 < K.2 4 then zbind (f_Part_isRestNote K l0 l5 F B) (fun r21 F21 B21 => if r32 r21 then (if r21 = 0 then zbind (f_Part_leastHeight K l0 l5 F21 B21) (fun r24 F24 B24 => zbind (f_Part_greatestHeight K l0 l5 F24 B24) (fun r25 F25 B25 => f_Part_setStems_118 rec4 (f_Part_setStems_79 rec4 K n) K l5 l3 l2 l1 l0 l4 ((r24 + r25) - 8) F25 B25)) else f_Part_setStems_118 rec4 (f_Part_setStems_79 rec4 K n) K l5 l3 l2 l1 l0 l4 0 F21 B21) else none) else none) else none else none) = some (r, F9, B9) := hf
    refine lv_iload hx hb d_6_25_79 (lv_at hl 0 rfl) ?_
    refine lv_iload_n hx hb d_6_25_81 rfl (lv_at hl 4 rfl) ?_
    refine lv_iload_n hx hb d_6_25_82 rfl (lv_at hl 2 rfl) ?_
    refine zadd hx hb d_6_25_83 ?_
    obtain ⟨g17, hf⟩ := gif hf
    obtain ⟨g18, hf⟩ := gif hf
    refine zge (tgt := 127) hx hb g17 g18 d_6_25_84 (by decide) (fun h19 => ?_) (fun h19 => ?_)
    · replace hf := gpos hf h19
      refine lv_iload_n hx hb d_6_25_127 rfl (lv_at hl 4 rfl) ?_
      refine lv_istore (lv' := [(5, .int (iI l1)), (4, .int (iI l4)), (3, .int (iI l3)), (2, .int (iI l2)), (1, .int (iI l1)), (0, .ref (ad 4 l0 0))]) hx hb d_6_25_128 hl (by decide) rfl (fun ls hl => ?_)
      exact b_Part_setStems_130 X hrec4 hf hZ hS (lv_sub hl [0, 1, 2, 3, 4, 5] rfl)
    · replace hf := gneg hf h19
      refine lv_iload hx hb d_6_25_87 (lv_at hl 1 rfl) ?_
      refine lv_aload_n hx hb d_6_25_89 rfl (lv_at hl 5 rfl) ?_
      refine lv_iload hx hb d_6_25_90 (lv_at hl 0 rfl) ?_
      obtain ⟨g20, hf⟩ := gif hf
      obtain ⟨r21, F21, B21, hc21, hf⟩ := gbind hf
      refine va_calli (va_runV (As := [.int (iI l5)]) (rest := [.int (iI l4)]) ⟨hx, hb, hml, hown, hts⟩ (c_Part_isRestNote (l := l) hc21) (cwV 1 hts (gdV k_5_104 k_5_106 ks_54 k_1_18 k_5_107) rfl rfl rfl (by decide +kernel) ⟨Nat.le_of_ble_eq_true rfl, Nat.le_of_ble_eq_true rfl⟩) (zPV X hZ hS (ci := 4) g20.1 g20.2 (r := (RX4, TX4, 13)) rfl [.int (iI l5)]) rfl rfl hl.1 rfl (lv_room (Nat.le_of_ble_eq_true rfl)) d_6_25_92 ⟨Nat.le_of_ble_eq_true rfl, Nat.le_of_ble_eq_true rfl⟩) hS (fun q _ h => zAin X hS q h) (zAin X hS) (fun p21 u21 t21 H21 locs21 ht21 hv21 hw21 hB21 hz21 hk21 hS21 => ?_)
      have hZ21 := zBack X ht21 hB21
      subst hw21
      obtain ⟨g22, hf⟩ := gif hf
      refine z0eq (tgt := 102) hx hb g22 d_6_25_95 (by decide) (fun h23 => ?_) (fun h23 => ?_)
      · replace hf := gpos hf h23
        refine lv_aload_n hx hb d_6_25_102 rfl (lv_at hl 5 rfl) ?_
        refine lv_iload hx hb d_6_25_103 (lv_at hl 0 rfl) ?_
        obtain ⟨r24, F24, B24, hc24, hf⟩ := gbind hf
        refine va_calli (va_runV (As := [.int (iI l5)]) (rest := [.int (iI l4)]) ⟨hx, hb, hml, hown, hts⟩ (c_Part_leastHeight (l := l) hc24) (cwV 1 hts (gdV k_5_140 k_5_142 ks_60 k_1_18 k_5_143) rfl rfl rfl (by decide +kernel) ⟨Nat.le_of_ble_eq_true rfl, Nat.le_of_ble_eq_true rfl⟩) (zPV X hZ21 hS21 (ci := 4) g20.1 g20.2 (r := (RX4, TX4, 13)) rfl [.int (iI l5)]) rfl rfl hl.1 rfl (lv_room (Nat.le_of_ble_eq_true rfl)) d_6_25_105 ⟨Nat.le_of_ble_eq_true rfl, Nat.le_of_ble_eq_true rfl⟩) hS21 (fun q _ h => zAin X hS21 q h) (zAin X hS21) (fun p24 u24 t24 H24 locs24 ht24 hv24 hw24 hB24 hz24 hk24 hS24 => ?_)
        have hZ24 := zBack X ht24 hB24
        subst hw24
        refine lv_aload_n hx hb d_6_25_108 rfl (lv_at hl 5 rfl) ?_
        refine lv_iload hx hb d_6_25_109 (lv_at hl 0 rfl) ?_
        obtain ⟨r25, F25, B25, hc25, hf⟩ := gbind hf
        refine va_calli (va_runV (As := [.int (iI l5)]) (rest := [.int (iI r24), .int (iI l4)]) ⟨hx, hb, hml, hown, hts⟩ (c_Part_greatestHeight (l := l) hc25) (cwV 1 hts (gdV k_5_134 k_5_136 ks_59 k_1_18 k_5_137) rfl rfl rfl (by decide +kernel) ⟨Nat.le_of_ble_eq_true rfl, Nat.le_of_ble_eq_true rfl⟩) (zPV X hZ24 hS24 (ci := 4) g20.1 g20.2 (r := (RX4, TX4, 13)) rfl [.int (iI l5)]) rfl rfl hl.1 rfl (lv_room (Nat.le_of_ble_eq_true rfl)) d_6_25_111 ⟨Nat.le_of_ble_eq_true rfl, Nat.le_of_ble_eq_true rfl⟩) hS24 (fun q _ h => zAin X hS24 q h) (zAin X hS24) (fun p25 u25 t25 H25 locs25 ht25 hv25 hw25 hB25 hz25 hk25 hS25 => ?_)
        have hZ25 := zBack X ht25 hB25
        subst hw25
        refine zadd hx hb d_6_25_114 ?_
        refine lv_bipush (v := iI 8) hx hb d_6_25_115 (by decide) ?_
        refine zsub hx hb d_6_25_117 ?_
        exact b_Part_setStems_118 X hrec4 ih hf hZ25 hS25 (lv_sub hl [0, 2, 3, 4, 5] rfl)
      · replace hf := gneg hf h23
        refine lv_iconst (v := iI 0) hx hb d_6_25_98 rfl ?_
        refine lv_goto (tgt := 118) hx hb d_6_25_99 (by decide) ?_
        exact b_Part_setStems_118 X hrec4 ih hf hZ21 hS21 (lv_sub hl [0, 2, 3, 4, 5] rfl)

noncomputable def f_Part_setStems_73 (rec4 : Int → Int → Int → zF → zB → zO) (K : zK) (l3 : Int) (l2 : Int) (l1 : Int) (l0 : Int) (F : zF) (B : zB) : zO := f_Part_setStems_79 rec4 K K.1 l1 0 l3 l2 l1 l0 F B
set_option maxHeartbeats 4000000 in
set_option maxRecDepth 100000 in
theorem b_Part_setStems_73 {D : va_G} {ca : Nat → ClassId} {ad : Nat → Int → Nat → Nat} {L : List Nat} {aS vS : Nat → Nat} {A : Nat → Prop} {p : Program} {l : Launch} {e : Env} {s : State} {m : MethodId} {args : Array Value} {below : List Frame} {meth : Method} {c : Code} {K : zK} {r : Int} {F9 : zF} {B9 : zB} (X : zX D ca L aS vS A p s m args meth c prog_6_method_25_code 7 (Option.none : Option Jvm.ClassFile.FieldType) "StaveHouse$Part") {rec4 : Int → Int → Int → zF → zB → zO} (hrec4 : ∀ {l2 : Int} {l1 : Int} {l0 : Int} {F : zF} {B : zB} {H : Heap} {locs : List Loc} {ls : Array Slot}, rec4 l2 l1 l0 F B = some (r, F9, B9) → zH D ca ad lnC K.2 L F B A H → va_S A s.heap H locs → lv_has ls 7 [(2, .int (iI l2)), (1, .int (iI l1)), (0, .ref (ad 4 l0 0))] → W p l e ({ frames := 2, cells := 0, slots := 0, locals := 36 } : Room) s m args below meth c H locs 0 0 (MQ below (Q_Part_setStems K D ca ad L r F9 B9 A) args s 0 0 A) (F0 m 4 ls [])) {l3 : Int} {l2 : Int} {l1 : Int} {l0 : Int} {F : zF} {B : zB} {H : Heap} {locs : List Loc} {ls : Array Slot} (hf : f_Part_setStems_73 rec4 K l3 l2 l1 l0 F B = some (r, F9, B9)) (hZ : zH D ca ad lnC K.2 L F B A H) (hS : va_S A s.heap H locs) (hl : lv_has ls 7 [(3, .int (iI l3)), (2, .int (iI l2)), (1, .int (iI l1)), (0, .ref (ad 4 l0 0))]) : W p l e ({ frames := 2, cells := 0, slots := 0, locals := 36 } : Room) s m args below meth c H locs 0 0 (MQ below (Q_Part_setStems K D ca ad L r F9 B9 A) args s 0 0 A) (F0 m 73 ls []) := by
  obtain ⟨hx, hb, hr, hml, hown, hts, hlk, hK, hA, hL, hX⟩ := id X
  replace hf : (f_Part_setStems_79 rec4 K K.1 l1 0 l3 l2 l1 l0 F B) = some (r, F9, B9) := hf
  refine lv_iconst (v := iI 0) hx hb d_6_25_73 rfl ?_
  refine lv_istore (lv' := [(4, .int (iI 0)), (3, .int (iI l3)), (2, .int (iI l2)), (1, .int (iI l1)), (0, .ref (ad 4 l0 0))]) hx hb d_6_25_74 hl (by decide) rfl (fun ls hl => ?_)
  refine lv_iload_n hx hb d_6_25_76 rfl (lv_at hl 3 rfl) ?_
  refine lv_istore (lv' := [(5, .int (iI l1)), (4, .int (iI 0)), (3, .int (iI l3)), (2, .int (iI l2)), (1, .int (iI l1)), (0, .ref (ad 4 l0 0))]) hx hb d_6_25_77 hl (by decide) rfl (fun ls hl => ?_)
  exact b_Part_setStems_79 X hrec4 hf hZ hS (lv_sub hl [0, 1, 2, 3, 4, 5] rfl)

noncomputable def f_Part_setStems_21 (rec4 : Int → Int → Int → zF → zB → zO) (K : zK) : Nat → Int → Int → Int → Int → zF → zB → zO
  | 0, _, _, _, _, _, _ => none
  | n + 1, l3, l2, l1, l0, F, B => if 0 ≤ l0 ∧ l0 < K.2 4 then if 0 ≤ l1 ∧ l1 < 800 then if r32 (B 4 l0 369 l1) then (if (B 4 l0 369 l1) = (-1) then f_Part_setStems_73 rec4 K l3 l2 l1 l0 F B else if r32 (l1 + l3) then if r32 (F 4 l0 10) then (if (F 4 l0 10) ≤ (l1 + l3) then f_Part_setStems_73 rec4 K l3 l2 l1 l0 F B else if 0 ≤ (l1 + l3) ∧ (l1 + l3) < 800 then if r32 (B 4 l0 369 (l1 + l3)) then (if (B 4 l0 369 (l1 + l3)) = (B 4 l0 369 l1) then f_Part_setStems_21 rec4 K n (l3 + 1) l2 l1 l0 F B else f_Part_setStems_73 rec4 K l3 l2 l1 l0 F B) else none else none) else none else none) else none else none else none
