set_option maxHeartbeats 4000000 in
set_option maxRecDepth 100000 in
theorem b_Performance_merge_9 {D : va_G} {ca : Nat → ClassId} {ad : Nat → Int → Nat → Nat} {L : List Nat} {aS vS : Nat → Nat} {A : Nat → Prop} {p : Program} {l : Launch} {e : Env} {s : State} {m : MethodId} {args : Array Value} {below : List Frame} {meth : Method} {c : Code} {K : zK} {r : Int} {F9 : zF} {B9 : zB} (X : zX D ca L aS vS A p s m args meth c prog_7_method_14_code 8 (Option.none : Option Jvm.ClassFile.FieldType) "StaveHouse$Performance") : ∀ {n : Nat} {l6 : Int} {l5 : Int} {l4 : Int} {l0 : Int} {l2 : Int} {l3 : Int} {F : zF} {B : zB} {H : Heap} {locs : List Loc} {ls : Array Slot}, f_Performance_merge_9 K n l6 l5 l4 l0 l2 l3 F B = some (r, F9, B9) → zH D ca ad lnC K.2 L F B A H → va_S A s.heap H locs → lv_has ls 8 [(6, .int (iI l6)), (5, .int (iI l5)), (4, .int (iI l4)), (0, .ref (ad 5 l0 0)), (2, .int (iI l2)), (3, .int (iI l3))] → W p l e ({ frames := 0, cells := 0, slots := 0, locals := 0 } : Room) s m args below meth c H locs 0 0 (MQ below (Q_Performance_merge K D ca ad L r F9 B9 A) args s 0 0 A) (F0 m 9 ls []) := by
  obtain ⟨hx, hb, hr, hml, hown, hts, hlk, hK, hA, hL, hX⟩ := id X
  intro n
  induction n with
  | zero =>
    intros
    rename_i hf _ _ _
    cases hf
  | succ n ih =>
    intro l6 l5 l4 l0 l2 l3 F B H locs ls hf hZ hS hl
    replace hf : (if r32 l6 then if r32 l3 then (if l3 ≤ l6 then some (0, F, B) else if r32 l4 then if r32 l2 then (if l2 ≤ l4 then f_Performance_merge_49 (f_Performance_merge_9 K n) K l6 l5 l4 l0 l2 l3 F B else if r32 l5 then (if l3 ≤ l5 then f_Performance_merge_45 (f_Performance_merge_9 K n) K l6 l5 l4 l0 l2 l3 F B else if 0 ≤ l0 ∧ l0 < K.2 5 then if 0 ≤ l4 ∧ l4 < (lnC 5 l0 (F 5 l0 8).toNat : Int) then if zk 5 (F 5 l0 8).toNat = (3, 1) then if lnC 5 l0 (F 5 l0 8).toNat ≤ 2147483647 then if 0 ≤ l5 ∧ l5 < (lnC 5 l0 (F 5 l0 8).toNat : Int) then if r64 (B 5 l0 (F 5 l0 8).toNat l4) then if r64 (B 5 l0 (F 5 l0 8).toNat l5) then (if 0 < (zcmp (B 5 l0 (F 5 l0 8).toNat l4) (B 5 l0 (F 5 l0 8).toNat l5)) then f_Performance_merge_49 (f_Performance_merge_9 K n) K l6 l5 l4 l0 l2 l3 F B else f_Performance_merge_45 (f_Performance_merge_9 K n) K l6 l5 l4 l0 l2 l3 F B) else none else none else none else none else none else none else none) else none) else none else none) else none else none) = some (r, F9, B9) := hf
    refine lv_iload hx hb d_7_14_9 (lv_at hl 0 rfl) ?_
    refine lv_iload_n hx hb d_7_14_11 rfl (lv_at hl 5 rfl) ?_
    obtain ⟨g1, hf⟩ := gif hf
    obtain ⟨g2, hf⟩ := gif hf
    refine zge (tgt := 117) hx hb g1 g2 d_7_14_12 (by decide) (fun h3 => ?_) (fun h3 => ?_)
    · replace hf := gpos hf h3
      cases hf
      exact W.vret hx hb hr (fun t ht hW => ⟨⟨(), rfl, trivial, by rw [ht]; exact hZ, va_K.moved hW.alike hK⟩, hS.F ht⟩) hS.2.2 d_7_14_117 hlk
    · replace hf := gneg hf h3
      refine lv_iload hx hb d_7_14_15 (lv_at hl 2 rfl) ?_
      refine lv_iload_n hx hb d_7_14_17 rfl (lv_at hl 4 rfl) ?_
      obtain ⟨g4, hf⟩ := gif hf
      obtain ⟨g5, hf⟩ := gif hf
      refine zge (tgt := 49) hx hb g4 g5 d_7_14_18 (by decide) (fun h6 => ?_) (fun h6 => ?_)
      · replace hf := gpos hf h6
        exact b_Performance_merge_49 X ih hf hZ hS (lv_sub hl [0, 1, 2, 3, 4, 5] rfl)
      · replace hf := gneg hf h6
        refine lv_iload hx hb d_7_14_21 (lv_at hl 1 rfl) ?_
        refine lv_iload_n hx hb d_7_14_23 rfl (lv_at hl 5 rfl) ?_
        obtain ⟨g7, hf⟩ := gif hf
        refine zge (tgt := 45) hx hb g7 g2 d_7_14_24 (by decide) (fun h8 => ?_) (fun h8 => ?_)
        · replace hf := gpos hf h8
          exact b_Performance_merge_45 X ih hf hZ hS (lv_sub hl [0, 1, 2, 3, 4, 5] rfl)
        · replace hf := gneg hf h8
          refine lv_aload_n hx hb d_7_14_27 rfl (lv_at hl 3 rfl) ?_
          obtain ⟨g9, hf⟩ := gif hf
          refine zget (ci := 5) (C := RX5) (T := TX5) (v := .ref (ad 5 l0 ((F 5 l0 8).toNat + 1))) (k := 8) hx hb hts inW_5 hown hK hZ g9.1 g9.2 rfl (by decide) k_6_77 rfl d_7_14_28 ?_
          refine lv_iload hx hb d_7_14_31 (lv_at hl 2 rfl) ?_
          obtain ⟨g10, hf⟩ := gif hf
          obtain ⟨g11, hf⟩ := gif hf
          obtain ⟨g12, hf⟩ := gif hf
          refine zlald (ci := 5) (k := (F 5 l0 8).toNat) hx hb hK rfl hZ g9.1 g9.2 g11 g12 g10.1 g10.2 d_7_14_33 ?_
          refine lv_aload_n hx hb d_7_14_34 rfl (lv_at hl 3 rfl) ?_
          refine zget (ci := 5) (C := RX5) (T := TX5) (v := .ref (ad 5 l0 ((F 5 l0 8).toNat + 1))) (k := 8) hx hb hts inW_5 hown hK hZ g9.1 g9.2 rfl (by decide) k_6_77 rfl d_7_14_35 ?_
          refine lv_iload hx hb d_7_14_38 (lv_at hl 1 rfl) ?_
          obtain ⟨g13, hf⟩ := gif hf
          refine zlald (ci := 5) (k := (F 5 l0 8).toNat) hx hb hK rfl hZ g9.1 g9.2 g11 g12 g13.1 g13.2 d_7_14_40 ?_
          obtain ⟨g14, hf⟩ := gif hf
          obtain ⟨g15, hf⟩ := gif hf
          refine zcmp_r hx hb g14 g15 d_7_14_41 ?_
          refine z0gt (tgt := 49) hx hb zcmp_32 d_7_14_42 (by decide) (fun h16 => ?_) (fun h16 => ?_)
          · replace hf := gpos hf h16
            exact b_Performance_merge_49 X ih hf hZ hS (lv_sub hl [0, 1, 2, 3, 4, 5] rfl)
          · replace hf := gneg hf h16
            exact b_Performance_merge_45 X ih hf hZ hS (lv_sub hl [0, 1, 2, 3, 4, 5] rfl)

noncomputable def f_Performance_merge (K : zK) (l0 : Int) (l1 : Int) (l2 : Int) (l3 : Int) (F : zF) (B : zB) : zO := f_Performance_merge_9 K K.1 l1 l2 l1 l0 l2 l3 F B
set_option maxHeartbeats 4000000 in
set_option maxRecDepth 100000 in
theorem c_Performance_merge {l : Launch} {D : va_G} {ca : Nat → ClassId} {ad : Nat → Int → Nat → Nat} {L : List Nat} {aS vS : Nat → Nat} {sz : Nat} {K : zK}  {l0 : Int} {l1 : Int} {l2 : Int} {l3 : Int} {F F9 : zF} {B B9 : zB} {r : Int} (hf : f_Performance_merge K l0 l1 l2 l3 F B = some (r, F9, B9)) : Met l ({ cls := "StaveHouse$Performance", name := "merge", desc := "(III)V" } : Jvm.MethodName) (Cond.code ({ cls := "StaveHouse$Performance", name := "merge", desc := "(III)V" } : Jvm.MethodName) prog_7_method_14_code 8 (Option.none : Option Jvm.ClassFile.FieldType) :: wAll) ({ frames := 0, cells := 0, slots := 0, locals := 0 } : Room) (va_Pc [.ref (ad 5 l0 0), .int (iI l1), .int (iI l2), .int (iI l3)] (zPre D ca ad lnC K.2 L aS vS F B sz)) (Q_Performance_merge K D ca ad L r F9 B9 (zA L sz)) 0 0 (zA L sz) := by
  refine zMet (Qc := Q_Performance_merge K D ca ad L r F9 B9) (lv := [(0, .ref (ad 5 l0 0)), (1, .int (iI l1)), (2, .int (iI l2)), (3, .int (iI l3))]) (by decide) (Nat.le_of_ble_eq_true rfl) rfl (fun A p e s m below meth c ls X hZ hS hl => ?_)
  obtain ⟨hx, hb, hr, hml, hown, hts, hlk, hK, hA, hL, hX⟩ := id X
  replace hf : (f_Performance_merge_9 K K.1 l1 l2 l1 l0 l2 l3 F B) = some (r, F9, B9) := hf
  refine lv_iload_n hx hb d_7_14_0 rfl (lv_at hl 1 rfl) ?_
  refine lv_istore (lv' := [(4, .int (iI l1)), (0, .ref (ad 5 l0 0)), (1, .int (iI l1)), (2, .int (iI l2)), (3, .int (iI l3))]) hx hb d_7_14_1 hl (by decide) rfl (fun ls hl => ?_)
  refine lv_iload_n hx hb d_7_14_3 rfl (lv_at hl 3 rfl) ?_
  refine lv_istore (lv' := [(5, .int (iI l2)), (4, .int (iI l1)), (0, .ref (ad 5 l0 0)), (1, .int (iI l1)), (2, .int (iI l2)), (3, .int (iI l3))]) hx hb d_7_14_4 hl (by decide) rfl (fun ls hl => ?_)
  refine lv_iload_n hx hb d_7_14_6 rfl (lv_at hl 3 rfl) ?_
  refine lv_istore (lv' := [(6, .int (iI l1)), (5, .int (iI l2)), (4, .int (iI l1)), (0, .ref (ad 5 l0 0)), (1, .int (iI l1)), (2, .int (iI l2)), (3, .int (iI l3))]) hx hb d_7_14_7 hl (by decide) rfl (fun ls hl => ?_)
  exact b_Performance_merge_9 X hf hZ hS (lv_sub hl [0, 1, 2, 3, 5, 6] rfl)

noncomputable abbrev Q_S_performanceOf (K : zK) (D : va_G) (ca : Nat → ClassId) (ad : Nat → Int → Nat → Nat) (L : List Nat) (r : Int) (F : zF) (B : zB) (A : Nat → Prop) : Array Value → State → Outcome → State → Prop := va_Qq (S := Unit) (fun p _ => p = zrf ad 5 r) (fun _ => zPo D ca ad lnC K.2 L F B A) A
noncomputable def f_S_performanceOf_25 (K : zK) (s0 : Int) (F : zF) (B : zB) : zO := some (s0, F, B)
set_option maxHeartbeats 4000000 in
set_option maxRecDepth 100000 in
theorem b_S_performanceOf_25 {D : va_G} {ca : Nat → ClassId} {ad : Nat → Int → Nat → Nat} {L : List Nat} {aS vS : Nat → Nat} {A : Nat → Prop} {p : Program} {l : Launch} {e : Env} {s : State} {m : MethodId} {args : Array Value} {below : List Frame} {meth : Method} {c : Code} {K : zK} {r : Int} {F9 : zF} {B9 : zB} (X : zX D ca L aS vS A p s m args meth c prog_1_method_9_code 3 (Option.some (Jvm.ClassFile.FieldType.object "StaveHouse$Performance")) "StaveHouse") {s0 : Int} {F : zF} {B : zB} {H : Heap} {locs : List Loc} {ls : Array Slot} (hf : f_S_performanceOf_25 K s0 F B = some (r, F9, B9)) (hZ : zH D ca ad lnC K.2 L F B A H) (hS : va_S A s.heap H locs) (hl : lv_has ls 3 []) : W p l e ({ frames := 1, cells := 0, slots := 0, locals := 21 } : Room) s m args below meth c H locs 0 0 (MQ below (Q_S_performanceOf K D ca ad L r F9 B9 A) args s 0 0 A) (F0 m 25 ls [va_rf (zrf ad 5 s0)]) := by
  obtain ⟨hx, hb, hr, hml, hown, hts, hlk, hK, hA, hL, hX⟩ := id X
  replace hf : (some (s0, F, B)) = some (r, F9, B9) := hf
  cases hf
  exact W.aret hx hb hr (Or.inl ⟨_, rfl⟩) (va_rf_or _) (fun t ht hW => ⟨⟨_, (), rfl, rfl, by rw [ht]; exact hZ, va_K.moved hW.alike hK⟩, hS.F ht⟩) hS.2.2 d_1_9_25 hlk

noncomputable def f_S_performanceOf_17 (K : zK)  (F : zF) (B : zB) : zO := f_S_performanceOf_25 K (-1) F B
set_option maxHeartbeats 4000000 in
set_option maxRecDepth 100000 in
theorem b_S_performanceOf_17 {D : va_G} {ca : Nat → ClassId} {ad : Nat → Int → Nat → Nat} {L : List Nat} {aS vS : Nat → Nat} {A : Nat → Prop} {p : Program} {l : Launch} {e : Env} {s : State} {m : MethodId} {args : Array Value} {below : List Frame} {meth : Method} {c : Code} {K : zK} {r : Int} {F9 : zF} {B9 : zB} (X : zX D ca L aS vS A p s m args meth c prog_1_method_9_code 3 (Option.some (Jvm.ClassFile.FieldType.object "StaveHouse$Performance")) "StaveHouse")  {F : zF} {B : zB} {H : Heap} {locs : List Loc} {ls : Array Slot} (hf : f_S_performanceOf_17 K  F B = some (r, F9, B9)) (hZ : zH D ca ad lnC K.2 L F B A H) (hS : va_S A s.heap H locs) (hl : lv_has ls 3 []) : W p l e ({ frames := 1, cells := 0, slots := 0, locals := 21 } : Room) s m args below meth c H locs 0 0 (MQ below (Q_S_performanceOf K D ca ad L r F9 B9 A) args s 0 0 A) (F0 m 17 ls []) := by
  obtain ⟨hx, hb, hr, hml, hown, hts, hlk, hK, hA, hL, hX⟩ := id X
  replace hf : (f_S_performanceOf_25 K (-1) F B) = some (r, F9, B9) := hf
  refine lv_null hx hb d_1_9_17 ?_
  refine W.eq (g2 := F0 m 18 ls [va_rf (zrf ad 5 (-1))]) rfl ?_
  refine lv_goto (tgt := 25) hx hb d_1_9_18 (by decide) ?_
  exact b_S_performanceOf_25 X hf hZ hS (lv_sub hl [] rfl)

noncomputable def f_S_performanceOf (K : zK) (l0 : Int) (l1 : Int) (F : zF) (B : zB) : zO := if 0 ≤ l0 ∧ l0 < K.2 12 then zbind (f_S_pieceAt K l0 l1 F B) (fun r2 F2 B2 => (if r2 < 0 then f_S_performanceOf_17 K F2 B2 else if 0 ≤ r2 ∧ r2 < K.2 6 then if r32 (F2 6 r2 10) then (if (F2 6 r2 10) = 0 then f_S_performanceOf_17 K F2 B2 else f_S_performanceOf_25 K (F2 6 r2 9) F2 B2) else none else none)) else none
set_option maxHeartbeats 4000000 in
set_option maxRecDepth 100000 in
theorem c_S_performanceOf {l : Launch} {D : va_G} {ca : Nat → ClassId} {ad : Nat → Int → Nat → Nat} {L : List Nat} {aS vS : Nat → Nat} {sz : Nat} {K : zK}  {l0 : Int} {l1 : Int} {F F9 : zF} {B B9 : zB} {r : Int} (hf : f_S_performanceOf K l0 l1 F B = some (r, F9, B9)) : Met l ({ cls := "StaveHouse", name := "performanceOf", desc := "(I)LStaveHouse$Performance;" } : Jvm.MethodName) (Cond.code ({ cls := "StaveHouse", name := "performanceOf", desc := "(I)LStaveHouse$Performance;" } : Jvm.MethodName) prog_1_method_9_code 3 (Option.some (Jvm.ClassFile.FieldType.object "StaveHouse$Performance")) :: wAll) ({ frames := 1, cells := 0, slots := 0, locals := 21 } : Room) (va_Pc [.ref (ad 12 l0 0), .int (iI l1)] (zPre D ca ad lnC K.2 L aS vS F B sz)) (Q_S_performanceOf K D ca ad L r F9 B9 (zA L sz)) 0 0 (zA L sz) := by
  refine zMet (Qc := Q_S_performanceOf K D ca ad L r F9 B9) (lv := [(0, .ref (ad 12 l0 0)), (1, .int (iI l1))]) (by decide) (Nat.le_of_ble_eq_true rfl) rfl (fun A p e s m below meth c ls X hZ hS hl => ?_)
  obtain ⟨hx, hb, hr, hml, hown, hts, hlk, hK, hA, hL, hX⟩ := id X
  replace hf : (if 0 ≤ l0 ∧ l0 < K.2 12 then zbind (f_S_pieceAt K l0 l1 F B) (fun r2 F2 B2 => (if r2 < 0 then f_S_performanceOf_17 K F2 B2 else if 0 ≤ r2 ∧ r2 < K.2 6 then if r32 (F2 6 r2 10) then (if (F2 6 r2 10) = 0 then f_S_performanceOf_17 K F2 B2 else f_S_performanceOf_25 K (F2 6 r2 9) F2 B2) else none else none)) else none) = some (r, F9, B9) := hf
  refine lv_aload_n hx hb d_1_9_0 rfl (lv_at hl 0 rfl) ?_
  refine lv_iload_n hx hb d_1_9_1 rfl (lv_at hl 1 rfl) ?_
  obtain ⟨g1, hf⟩ := gif hf
  obtain ⟨r2, F2, B2, hc2, hf⟩ := gbind hf
  refine va_callq (va_runV (As := [.int (iI l1)]) (rest := []) ⟨hx, hb, hml, hown, hts⟩ (c_S_pieceAt (l := l) hc2) (cwV 1 hts (gdV k_5_182 k_5_184 ks_65 k_1_1 k_5_185) rfl rfl rfl (by decide +kernel) ⟨Nat.le_of_ble_eq_true rfl, Nat.le_of_ble_eq_true rfl⟩) (zPV X hZ hS (ci := 12) g1.1 g1.2 (r := (RX12, TX12, 10)) rfl [.int (iI l1)]) rfl rfl hl.1 rfl (lv_room (Nat.le_of_ble_eq_true rfl)) d_1_9_2 ⟨Nat.le_of_ble_eq_true rfl, Nat.le_of_ble_eq_true rfl⟩) hS (fun q _ h => zAin X hS q h) (zAin X hS) (fun p2 u2 t2 H2 locs2 ht2 hv2 hw2 hB2 hz2 hk2 hS2 => ?_)
  have hZ2 := zBack X ht2 hB2
  subst hw2
  refine zastore_n (lv' := [(0, .ref (ad 12 l0 0)), (1, .int (iI l1))]) hx hb d_1_9_5 rfl hl (by decide) (fun _ _ => rfl) (fun ls hl => ?_)
  refine zaload_n hx hb d_1_9_6 rfl (lv_at hl 0 rfl) ?_
  refine zifnull (tgt := 17) hx hb d_1_9_7 (by decide) (fun h3 => ?_) (fun h3 => ?_)
  · replace hf := gpos hf h3
    exact b_S_performanceOf_17 X hf hZ2 hS2 (lv_sub hl [] rfl)
  · replace hf := gneg hf h3
    refine zaload_n hx hb d_1_9_10 rfl (lv_at hl 0 rfl) ?_
    obtain ⟨g4, hf⟩ := gif hf
    refine zunrf g4.1 ?_
    refine zget (ci := 6) (C := RX6) (T := TX6) (v := .int (iI (F2 6 r2 10))) (k := 10) hx hb hts inW_6 hown hK hZ2 g4.1 g4.2 rfl (by decide) k_2_229 rfl d_1_9_11 ?_
    obtain ⟨g5, hf⟩ := gif hf
    refine z0ne (tgt := 21) hx hb g5 d_1_9_14 (by decide) (fun h6 => ?_) (fun h6 => ?_)
    · replace hf := gneg hf h6
      refine zaload_n hx hb d_1_9_21 rfl (lv_at hl 0 rfl) ?_
      refine zunrf g4.1 ?_
      refine zget (ci := 6) (C := RX6) (T := TX6) (v := va_rf (zrf ad 5 (F2 6 r2 9))) (k := 9) hx hb hts inW_6 hown hK hZ2 g4.1 g4.2 rfl (by decide) k_2_227 rfl d_1_9_22 ?_
      exact b_S_performanceOf_25 X hf hZ2 hS2 (lv_sub hl [] rfl)
    · replace hf := gpos hf h6
      exact b_S_performanceOf_17 X hf hZ2 hS2 (lv_sub hl [] rfl)

noncomputable abbrev Q_Performance_strokeTold (K : zK) (D : va_G) (ca : Nat → ClassId) (ad : Nat → Int → Nat → Nat) (L : List Nat) (r : Int) (F : zF) (B : zB) (A : Nat → Prop) : Array Value → State → Outcome → State → Prop := va_Qi (S := Unit) (fun p _ => p = iI r) (fun _ => zPo D ca ad lnC K.2 L F B A) A
noncomputable def f_Performance_strokeTold_110 (K : zK) (s0 : Int) (F : zF) (B : zB) : zO := some (s0, F, B)
set_option maxHeartbeats 4000000 in
set_option maxRecDepth 100000 in
theorem b_Performance_strokeTold_110 {D : va_G} {ca : Nat → ClassId} {ad : Nat → Int → Nat → Nat} {L : List Nat} {aS vS : Nat → Nat} {A : Nat → Prop} {p : Program} {l : Launch} {e : Env} {s : State} {m : MethodId} {args : Array Value} {below : List Frame} {meth : Method} {c : Code} {K : zK} {r : Int} {F9 : zF} {B9 : zB} (X : zX D ca L aS vS A p s m args meth c prog_7_method_15_code 5 (Option.some Jvm.ClassFile.FieldType.int) "StaveHouse$Performance") {s0 : Int} {F : zF} {B : zB} {H : Heap} {locs : List Loc} {ls : Array Slot} (hf : f_Performance_strokeTold_110 K s0 F B = some (r, F9, B9)) (hZ : zH D ca ad lnC K.2 L F B A H) (hS : va_S A s.heap H locs) (hl : lv_has ls 5 []) : W p l e ({ frames := 0, cells := 0, slots := 0, locals := 0 } : Room) s m args below meth c H locs 0 0 (MQ below (Q_Performance_strokeTold K D ca ad L r F9 B9 A) args s 0 0 A) (F0 m 110 ls [.int (iI s0)]) := by
  obtain ⟨hx, hb, hr, hml, hown, hts, hlk, hK, hA, hL, hX⟩ := id X
  replace hf : (some (s0, F, B)) = some (r, F9, B9) := hf
  cases hf
  exact W.iret hx hb hr (fun t ht hW => ⟨⟨_, (), rfl, rfl, by rw [ht]; exact hZ, va_K.moved hW.alike hK⟩, hS.F ht⟩) hS.2.2 d_7_15_110 hlk

noncomputable def f_Performance_strokeTold_14 (K : zK)  (F : zF) (B : zB) : zO := some ((-1), F, B)
set_option maxHeartbeats 4000000 in
set_option maxRecDepth 100000 in
theorem b_Performance_strokeTold_14 {D : va_G} {ca : Nat → ClassId} {ad : Nat → Int → Nat → Nat} {L : List Nat} {aS vS : Nat → Nat} {A : Nat → Prop} {p : Program} {l : Launch} {e : Env} {s : State} {m : MethodId} {args : Array Value} {below : List Frame} {meth : Method} {c : Code} {K : zK} {r : Int} {F9 : zF} {B9 : zB} (X : zX D ca L aS vS A p s m args meth c prog_7_method_15_code 5 (Option.some Jvm.ClassFile.FieldType.int) "StaveHouse$Performance")  {F : zF} {B : zB} {H : Heap} {locs : List Loc} {ls : Array Slot} (hf : f_Performance_strokeTold_14 K  F B = some (r, F9, B9)) (hZ : zH D ca ad lnC K.2 L F B A H) (hS : va_S A s.heap H locs) (hl : lv_has ls 5 []) : W p l e ({ frames := 0, cells := 0, slots := 0, locals := 0 } : Room) s m args below meth c H locs 0 0 (MQ below (Q_Performance_strokeTold K D ca ad L r F9 B9 A) args s 0 0 A) (F0 m 14 ls []) := by
  obtain ⟨hx, hb, hr, hml, hown, hts, hlk, hK, hA, hL, hX⟩ := id X
  replace hf : (some ((-1), F, B)) = some (r, F9, B9) := hf
  refine lv_iconst (v := iI (-1)) hx hb d_7_15_14 rfl ?_
  cases hf
  exact W.iret hx hb hr (fun t ht hW => ⟨⟨_, (), rfl, rfl, by rw [ht]; exact hZ, va_K.moved hW.alike hK⟩, hS.F ht⟩) hS.2.2 d_7_15_15 hlk

noncomputable def f_Performance_strokeTold (K : zK) (l0 : Int) (l1 : Int) (l2 : Int) (F : zF) (B : zB) : zO := if r32 l1 then (if l1 < 0 then f_Performance_strokeTold_14 K F B else if 0 ≤ l0 ∧ l0 < K.2 5 then if r32 (2 * (F 5 l0 0)) then (if l1 < (2 * (F 5 l0 0)) then if 0 ≤ l1 ∧ l1 < (lnC 5 l0 (F 5 l0 8).toNat : Int) then if zk 5 (F 5 l0 8).toNat = (3, 1) then if lnC 5 l0 (F 5 l0 8).toNat ≤ 2147483647 then if r32 l2 then (if l2 = 0 then some (zlushr (B 5 l0 (F 5 l0 8).toNat l1) 29, F, B) else (if l2 = 1 then some (zland (zlushr (B 5 l0 (F 5 l0 8).toNat l1) 26) 3, F, B) else (if l2 = 2 then some (zland (zlushr (B 5 l0 (F 5 l0 8).toNat l1) 19) 127, F, B) else (if l2 = 3 then if r64 (zland (zlushr (B 5 l0 (F 5 l0 8).toNat l1) 28) 1) then (if (zcmp (zland (zlushr (B 5 l0 (F 5 l0 8).toNat l1) 28) 1) 0) = 0 then f_Performance_strokeTold_110 K 0 F B else if 0 ≤ (zland (B 5 l0 (F 5 l0 8).toNat l1) 2047) ∧ (zland (B 5 l0 (F 5 l0 8).toNat l1) 2047) < 2000 then f_Performance_strokeTold_110 K (B 5 l0 343 (zland (B 5 l0 (F 5 l0 8).toNat l1) 2047)) F B else none) else none else some ((-1), F, B))))) else none else none else none else none else f_Performance_strokeTold_14 K F B) else none else none) else none
set_option maxHeartbeats 4000000 in
set_option maxRecDepth 100000 in
theorem c_Performance_strokeTold {l : Launch} {D : va_G} {ca : Nat → ClassId} {ad : Nat → Int → Nat → Nat} {L : List Nat} {aS vS : Nat → Nat} {sz : Nat} {K : zK}  {l0 : Int} {l1 : Int} {l2 : Int} {F F9 : zF} {B B9 : zB} {r : Int} (hf : f_Performance_strokeTold K l0 l1 l2 F B = some (r, F9, B9)) : Met l ({ cls := "StaveHouse$Performance", name := "strokeTold", desc := "(II)I" } : Jvm.MethodName) (Cond.code ({ cls := "StaveHouse$Performance", name := "strokeTold", desc := "(II)I" } : Jvm.MethodName) prog_7_method_15_code 5 (Option.some Jvm.ClassFile.FieldType.int) :: wAll) ({ frames := 0, cells := 0, slots := 0, locals := 0 } : Room) (va_Pc [.ref (ad 5 l0 0), .int (iI l1), .int (iI l2)] (zPre D ca ad lnC K.2 L aS vS F B sz)) (Q_Performance_strokeTold K D ca ad L r F9 B9 (zA L sz)) 0 0 (zA L sz) := by
  refine zMet (Qc := Q_Performance_strokeTold K D ca ad L r F9 B9) (lv := [(0, .ref (ad 5 l0 0)), (1, .int (iI l1)), (2, .int (iI l2))]) (by decide) (Nat.le_of_ble_eq_true rfl) rfl (fun A p e s m below meth c ls X hZ hS hl => ?_)
  obtain ⟨hx, hb, hr, hml, hown, hts, hlk, hK, hA, hL, hX⟩ := id X
  replace hf : (if r32 l1 then (if l1 < 0 then f_Performance_strokeTold_14 K F B else if 0 ≤ l0 ∧ l0 < K.2 5 then if r32 (2 * (F 5 l0 0)) then (if l1 < (2 * (F 5 l0 0)) then if 0 ≤ l1 ∧ l1 < (lnC 5 l0 (F 5 l0 8).toNat : Int) then if zk 5 (F 5 l0 8).toNat = (3, 1) then if lnC 5 l0 (F 5 l0 8).toNat ≤ 2147483647 then if r32 l2 then (if l2 = 0 then some (zlushr (B 5 l0 (F 5 l0 8).toNat l1) 29, F, B) else (if l2 = 1 then some (zland (zlushr (B 5 l0 (F 5 l0 8).toNat l1) 26) 3, F, B) else (if l2 = 2 then some (zland (zlushr (B 5 l0 (F 5 l0 8).toNat l1) 19) 127, F, B) else (if l2 = 3 then if r64 (zland (zlushr (B 5 l0 (F 5 l0 8).toNat l1) 28) 1) then (if (zcmp (zland (zlushr (B 5 l0 (F 5 l0 8).toNat l1) 28) 1) 0) = 0 then f_Performance_strokeTold_110 K 0 F B else if 0 ≤ (zland (B 5 l0 (F 5 l0 8).toNat l1) 2047) ∧ (zland (B 5 l0 (F 5 l0 8).toNat l1) 2047) < 2000 then f_Performance_strokeTold_110 K (B 5 l0 343 (zland (B 5 l0 (F 5 l0 8).toNat l1) 2047)) F B else none) else none else some ((-1), F, B))))) else none else none else none else none else f_Performance_strokeTold_14 K F B) else none else none) else none) = some (r, F9, B9) := hf
  refine lv_iload_n hx hb d_7_15_0 rfl (lv_at hl 1 rfl) ?_
  obtain ⟨g1, hf⟩ := gif hf
  refine z0lt (tgt := 14) hx hb g1 d_7_15_1 (by decide) (fun h2 => ?_) (fun h2 => ?_)
  · replace hf := gpos hf h2
    exact b_Performance_strokeTold_14 X hf hZ hS (lv_sub hl [] rfl)
  · replace hf := gneg hf h2
    refine lv_iload_n hx hb d_7_15_4 rfl (lv_at hl 1 rfl) ?_
    refine lv_iconst (v := iI 2) hx hb d_7_15_5 rfl ?_
    refine lv_aload_n hx hb d_7_15_6 rfl (lv_at hl 0 rfl) ?_
    obtain ⟨g3, hf⟩ := gif hf
    refine zget (ci := 5) (C := RX5) (T := TX5) (v := .int (iI (F 5 l0 0))) (k := 0) hx hb hts inW_5 hown hK hZ g3.1 g3.2 rfl (by decide) k_6_63 rfl d_7_15_7 ?_
    refine zmul hx hb d_7_15_10 ?_
    obtain ⟨g4, hf⟩ := gif hf
    refine zlt (tgt := 16) hx hb g1 g4 d_7_15_11 (by decide) (fun h5 => ?_) (fun h5 => ?_)
    · replace hf := gpos hf h5
      refine lv_aload_n hx hb d_7_15_16 rfl (lv_at hl 0 rfl) ?_
      refine zget (ci := 5) (C := RX5) (T := TX5) (v := .ref (ad 5 l0 ((F 5 l0 8).toNat + 1))) (k := 8) hx hb hts inW_5 hown hK hZ g3.1 g3.2 rfl (by decide) k_6_77 rfl d_7_15_17 ?_
      refine lv_iload_n hx hb d_7_15_20 rfl (lv_at hl 1 rfl) ?_
      obtain ⟨g6, hf⟩ := gif hf
      obtain ⟨g7, hf⟩ := gif hf
      obtain ⟨g8, hf⟩ := gif hf
      refine zlald (ci := 5) (k := (F 5 l0 8).toNat) hx hb hK rfl hZ g3.1 g3.2 g7 g8 g6.1 g6.2 d_7_15_21 ?_
      refine lv_lstore_n (lv' := [(3, .long (lI (B 5 l0 (F 5 l0 8).toNat l1))), (0, .ref (ad 5 l0 0)), (1, .int (iI l1)), (2, .int (iI l2))]) hx hb d_7_15_22 rfl hl (by decide) rfl (fun ls hl => ?_)
      refine lv_iload_n hx hb d_7_15_23 rfl (lv_at hl 3 rfl) ?_
      obtain ⟨g9, hf⟩ := gif hf
      by_cases h10 : l2 = 0
      · replace hf := gpos hf h10
        refine lv_tableIn (off := 32) (tgt := 56) hx hb d_7_15_24 (by rw [iI_to g9, h10]; decide) (by rw [iI_to g9, h10]; decide) (by rw [iI_to g9, h10]; rfl) (by decide) ?_
        refine lv_lload_n hx hb d_7_15_56 rfl (lv_at hl 0 rfl) ?_
        refine lv_bipush (v := iI 29) hx hb d_7_15_57 (by decide) ?_
        refine zlushr_r hx hb d_7_15_59 ?_
        refine zl2iw hx hb d_7_15_60 ?_
        cases hf
        exact W.iret hx hb hr (fun t ht hW => ⟨⟨_, (), rfl, rfl, by rw [ht]; exact hZ, va_K.moved hW.alike hK⟩, hS.F ht⟩) hS.2.2 d_7_15_61 hlk
      replace hf := gneg hf h10
      by_cases h11 : l2 = 1
      · replace hf := gpos hf h11
        refine lv_tableIn (off := 38) (tgt := 62) hx hb d_7_15_24 (by rw [iI_to g9, h11]; decide) (by rw [iI_to g9, h11]; decide) (by rw [iI_to g9, h11]; rfl) (by decide) ?_
        refine lv_lload_n hx hb d_7_15_62 rfl (lv_at hl 0 rfl) ?_
        refine lv_bipush (v := iI 26) hx hb d_7_15_63 (by decide) ?_
        refine zlushr_r hx hb d_7_15_65 ?_
        refine lv_ldc2 hx hb hown (hts _ k_7_116) d_7_15_66 ?_
        refine W.eq (g2 := F0 m 69 ls [.long (lI 3), .long (lI (zlushr (B 5 l0 (F 5 l0 8).toNat l1) 26))]) rfl ?_
        refine zland_r hx hb d_7_15_69 ?_
        refine zl2iw hx hb d_7_15_70 ?_
        cases hf
        exact W.iret hx hb hr (fun t ht hW => ⟨⟨_, (), rfl, rfl, by rw [ht]; exact hZ, va_K.moved hW.alike hK⟩, hS.F ht⟩) hS.2.2 d_7_15_71 hlk
      replace hf := gneg hf h11
      by_cases h12 : l2 = 2
      · replace hf := gpos hf h12
        refine lv_tableIn (off := 48) (tgt := 72) hx hb d_7_15_24 (by rw [iI_to g9, h12]; decide) (by rw [iI_to g9, h12]; decide) (by rw [iI_to g9, h12]; rfl) (by decide) ?_
        refine lv_lload_n hx hb d_7_15_72 rfl (lv_at hl 0 rfl) ?_
        refine lv_bipush (v := iI 19) hx hb d_7_15_73 (by decide) ?_
        refine zlushr_r hx hb d_7_15_75 ?_
        refine lv_ldc2 hx hb hown (hts _ k_7_117) d_7_15_76 ?_
        refine W.eq (g2 := F0 m 79 ls [.long (lI 127), .long (lI (zlushr (B 5 l0 (F 5 l0 8).toNat l1) 19))]) rfl ?_
        refine zland_r hx hb d_7_15_79 ?_
        refine zl2iw hx hb d_7_15_80 ?_
        cases hf
        exact W.iret hx hb hr (fun t ht hW => ⟨⟨_, (), rfl, rfl, by rw [ht]; exact hZ, va_K.moved hW.alike hK⟩, hS.F ht⟩) hS.2.2 d_7_15_81 hlk
      replace hf := gneg hf h12
      by_cases h13 : l2 = 3
      · replace hf := gpos hf h13
        refine lv_tableIn (off := 58) (tgt := 82) hx hb d_7_15_24 (by rw [iI_to g9, h13]; decide) (by rw [iI_to g9, h13]; decide) (by rw [iI_to g9, h13]; rfl) (by decide) ?_
        refine lv_lload_n hx hb d_7_15_82 rfl (lv_at hl 0 rfl) ?_
        refine lv_bipush (v := iI 28) hx hb d_7_15_83 (by decide) ?_
        refine zlushr_r hx hb d_7_15_85 ?_
        refine lv_lconst (v := lI 1) hx hb d_7_15_86 (by decide) ?_
        refine zland_r hx hb d_7_15_87 ?_
        refine lv_lconst (v := lI 0) hx hb d_7_15_88 (by decide) ?_
        obtain ⟨g14, hf⟩ := gif hf
        refine zcmp_r hx hb g14 (by decide) d_7_15_89 ?_
        refine z0ne (tgt := 97) hx hb zcmp_32 d_7_15_90 (by decide) (fun h15 => ?_) (fun h15 => ?_)
        · replace hf := gneg hf h15
          refine lv_aload_n hx hb d_7_15_97 rfl (lv_at hl 1 rfl) ?_
          refine zget (ci := 5) (C := RX5) (T := TX5) (v := .ref (ad 5 l0 (7 + 1))) (k := 7) hx hb hts inW_5 hown hK hZ g3.1 g3.2 rfl (by decide) k_6_76 rfl d_7_15_98 ?_
          refine lv_iconst (v := iI 3) hx hb d_7_15_101 rfl ?_
          refine zaldQ (t := 0) (ci := 5) (k := 7) hx hb hK rfl hZ g3.1 g3.2 rfl (Nat.le_of_ble_eq_true rfl) (by decide) (by decide) d_7_15_102 ?_
          refine W.eq (g2 := F0 m 103 ls [.ref (ad 5 l0 (343 + 1))]) rfl ?_
          refine lv_lload_n hx hb d_7_15_103 rfl (lv_at hl 0 rfl) ?_
          refine lv_ldc2 hx hb hown (hts _ k_7_118) d_7_15_104 ?_
          refine W.eq (g2 := F0 m 107 ls [.long (lI 2047), .long (lI (B 5 l0 (F 5 l0 8).toNat l1)), .ref (ad 5 l0 (343 + 1))]) rfl ?_
          refine zland_r hx hb d_7_15_107 ?_
          refine zl2iw hx hb d_7_15_108 ?_
          obtain ⟨g16, hf⟩ := gif hf
          refine zald (ci := 5) (k := 343) hx hb hK rfl hZ g3.1 g3.2 rfl (Nat.le_of_ble_eq_true rfl) g16.1 g16.2 d_7_15_109 ?_
          exact b_Performance_strokeTold_110 X hf hZ hS (lv_sub hl [] rfl)
        · replace hf := gpos hf h15
          refine lv_iconst (v := iI 0) hx hb d_7_15_93 rfl ?_
          refine lv_goto (tgt := 110) hx hb d_7_15_94 (by decide) ?_
          exact b_Performance_strokeTold_110 X hf hZ hS (lv_sub hl [] rfl)
      replace hf := gneg hf h13
      refine lv_tableOut (tgt := 111) hx hb d_7_15_24 (by rw [iI_to g9]; omega) (by decide) ?_
      refine lv_iconst (v := iI (-1)) hx hb d_7_15_111 rfl ?_
      cases hf
      exact W.iret hx hb hr (fun t ht hW => ⟨⟨_, (), rfl, rfl, by rw [ht]; exact hZ, va_K.moved hW.alike hK⟩, hS.F ht⟩) hS.2.2 d_7_15_112 hlk
    · replace hf := gneg hf h5
      exact b_Performance_strokeTold_14 X hf hZ hS (lv_sub hl [] rfl)

noncomputable abbrev Q_CString_checkIndex (K : zK) (D : va_G) (ca : Nat → ClassId) (ad : Nat → Int → Nat → Nat) (L : List Nat) (r : Int) (F : zF) (B : zB) (A : Nat → Prop) : Array Value → State → Outcome → State → Prop := va_Qv (S := Unit) (fun _ => True) (fun _ => zPo D ca ad lnC K.2 L F B A) A
noncomputable def f_CString_checkIndex (K : zK) (l0 : Int) (l1 : Int) (F : zF) (B : zB) : zO := zbind (f_CPreconditions_checkIndex K l0 l1 F B) (fun r2 F2 B2 => some (0, F2, B2))
set_option maxHeartbeats 4000000 in
set_option maxRecDepth 100000 in
theorem c_CString_checkIndex {l : Launch} {D : va_G} {ca : Nat → ClassId} {ad : Nat → Int → Nat → Nat} {L : List Nat} {aS vS : Nat → Nat} {sz : Nat} {K : zK}  {l0 : Int} {l1 : Int} {F F9 : zF} {B B9 : zB} {r : Int} (hf : f_CString_checkIndex K l0 l1 F B = some (r, F9, B9)) : Met l ({ cls := "java/lang/String", name := "checkIndex", desc := "(II)V" } : Jvm.MethodName) (Cond.code ({ cls := "java/lang/String", name := "checkIndex", desc := "(II)V" } : Jvm.MethodName) prog_21_method_155_code 2 (Option.none : Option Jvm.ClassFile.FieldType) :: wAll) ({ frames := 1, cells := 0, slots := 0, locals := 22 } : Room) (va_Pc [.int (iI l0), .int (iI l1)] (zPre D ca ad lnC K.2 L aS vS F B sz)) (Q_CString_checkIndex K D ca ad L r F9 B9 (zA L sz)) 0 0 (zA L sz) := by
  refine zMet (Qc := Q_CString_checkIndex K D ca ad L r F9 B9) (lv := [(0, .int (iI l0)), (1, .int (iI l1))]) (by decide) (Nat.le_of_ble_eq_true rfl) rfl (fun A p e s m below meth c ls X hZ hS hl => ?_)
  obtain ⟨hx, hb, hr, hml, hown, hts, hlk, hK, hA, hL, hX⟩ := id X
  replace hf : (zbind (f_CPreconditions_checkIndex K l0 l1 F B) (fun r2 F2 B2 => some (0, F2, B2))) = some (r, F9, B9) := hf
  refine lv_iload_n hx hb d_21_155_0 rfl (lv_at hl 0 rfl) ?_
  refine lv_iload_n hx hb d_21_155_1 rfl (lv_at hl 1 rfl) ?_
  obtain ⟨o1, ho1⟩ := zfmt hX
  refine va_gets hx hb ho1 hS hown (hts _ k_3_120) (fun _ h => h) d_21_155_2 ?_
  obtain ⟨r2, F2, B2, hc2, hf⟩ := gbind hf
  refine va_calli (va_runS (As := [.int (iI l0), .int (iI l1), va_rf o1]) (rest := []) ⟨hx, hb, hml, hown, hts⟩ (c_CPreconditions_checkIndex (l := l) hc2) (va_cwS 3 hts (gdS k_7_143 k_7_144 k_1_13 k_7_145) rfl rfl rfl (by decide +kernel) ⟨Nat.le_of_ble_eq_true rfl, Nat.le_of_ble_eq_true rfl⟩) (zPS X hZ hS [.int (iI l0), .int (iI l1), va_rf o1]) rfl rfl hl.1 rfl (lv_room (Nat.le_of_ble_eq_true rfl)) d_21_155_5 ⟨Nat.le_of_ble_eq_true rfl, Nat.le_of_ble_eq_true rfl⟩) hS (fun q _ h => zAin X hS q h) (zAin X hS) (fun p2 u2 t2 H2 locs2 ht2 hv2 hw2 hB2 hz2 hk2 hS2 => ?_)
  have hZ2 := zBack X ht2 hB2
  subst hw2
  refine lv_pop hx hb d_21_155_8 rfl ?_
  cases hf
  exact W.vret hx hb hr (fun t ht hW => ⟨⟨(), rfl, trivial, by rw [ht]; exact hZ2, va_K.moved hW.alike hK⟩, hS2.F ht⟩) hS2.2.2 d_21_155_9 hlk

noncomputable abbrev Q_ByteRow_putWide (K : zK) (D : va_G) (ca : Nat → ClassId) (ad : Nat → Int → Nat → Nat) (L : List Nat) (r : Int) (F : zF) (B : zB) (A : Nat → Prop) : Array Value → State → Outcome → State → Prop := va_Qv (S := Unit) (fun _ => True) (fun _ => zPo D ca ad lnC K.2 L F B A) A
noncomputable def f_ByteRow_putWide_4 (K : zK) : Nat → Int → Int → Int → zF → zB → zO
  | 0, _, _, _, _, _ => none
  | n + 1, l3, l0, l1, F, B => if r32 l3 then (if l3 < 0 then some (0, F, B) else if 0 ≤ l0 ∧ l0 < K.2 0 then zbind (f_ByteRow_put K l0 (zushr l1 (8 * l3)) F B) (fun r4 F4 B4 => f_ByteRow_putWide_4 K n (l3 - 1) l0 l1 F4 B4) else none) else none
set_option maxHeartbeats 4000000 in
set_option maxRecDepth 100000 in
theorem b_ByteRow_putWide_4 {D : va_G} {ca : Nat → ClassId} {ad : Nat → Int → Nat → Nat} {L : List Nat} {aS vS : Nat → Nat} {A : Nat → Prop} {p : Program} {l : Launch} {e : Env} {s : State} {m : MethodId} {args : Array Value} {below : List Frame} {meth : Method} {c : Code} {K : zK} {r : Int} {F9 : zF} {B9 : zB} (X : zX D ca L aS vS A p s m args meth c prog_2_method_7_code 4 (Option.none : Option Jvm.ClassFile.FieldType) "StaveHouse$ByteRow") : ∀ {n : Nat} {l3 : Int} {l0 : Int} {l1 : Int} {F : zF} {B : zB} {H : Heap} {locs : List Loc} {ls : Array Slot}, f_ByteRow_putWide_4 K n l3 l0 l1 F B = some (r, F9, B9) → zH D ca ad lnC K.2 L F B A H → va_S A s.heap H locs → lv_has ls 4 [(3, .int (iI l3)), (0, .ref (ad 0 l0 0)), (1, .int (iI l1))] → W p l e ({ frames := 1, cells := 0, slots := 0, locals := 21 } : Room) s m args below meth c H locs 0 0 (MQ below (Q_ByteRow_putWide K D ca ad L r F9 B9 A) args s 0 0 A) (F0 m 4 ls []) := by
  obtain ⟨hx, hb, hr, hml, hown, hts, hlk, hK, hA, hL, hX⟩ := id X
  intro n
  induction n with
  | zero =>
    intros
    rename_i hf _ _ _
    cases hf
  | succ n ih =>
    intro l3 l0 l1 F B H locs ls hf hZ hS hl
    replace hf : (if r32 l3 then (if l3 < 0 then some (0, F, B) else if 0 ≤ l0 ∧ l0 < K.2 0 then zbind (f_ByteRow_put K l0 (zushr l1 (8 * l3)) F B) (fun r4 F4 B4 => f_ByteRow_putWide_4 K n (l3 - 1) l0 l1 F4 B4) else none) else none) = some (r, F9, B9) := hf
    refine lv_iload_n hx hb d_2_7_4 rfl (lv_at hl 0 rfl) ?_
    obtain ⟨g1, hf⟩ := gif hf
    refine z0lt (tgt := 24) hx hb g1 d_2_7_5 (by decide) (fun h2 => ?_) (fun h2 => ?_)
    · replace hf := gpos hf h2
      cases hf
      exact W.vret hx hb hr (fun t ht hW => ⟨⟨(), rfl, trivial, by rw [ht]; exact hZ, va_K.moved hW.alike hK⟩, hS.F ht⟩) hS.2.2 d_2_7_24 hlk
    · replace hf := gneg hf h2
      refine lv_aload_n hx hb d_2_7_8 rfl (lv_at hl 1 rfl) ?_
      refine lv_iload_n hx hb d_2_7_9 rfl (lv_at hl 2 rfl) ?_
      refine lv_bipush (v := iI 8) hx hb d_2_7_10 (by decide) ?_
      refine lv_iload_n hx hb d_2_7_12 rfl (lv_at hl 0 rfl) ?_
      refine zmul hx hb d_2_7_13 ?_
      refine zushr_r hx hb d_2_7_14 ?_
      obtain ⟨g3, hf⟩ := gif hf
      obtain ⟨r4, F4, B4, hc4, hf⟩ := gbind hf
      refine va_callv (va_runV (As := [.int (iI (zushr l1 (8 * l3)))]) (rest := []) ⟨hx, hb, hml, hown, hts⟩ (c_ByteRow_put (l := l) hc4) (cwV 1 hts (gdV k_7_153 k_2_171 k_2_172 k_1_2 k_2_173) rfl rfl rfl (by decide +kernel) ⟨Nat.le_of_ble_eq_true rfl, Nat.le_of_ble_eq_true rfl⟩) (zPV X hZ hS (ci := 0) g3.1 g3.2 (r := (RX0, TX0, 3)) rfl [.int (iI (zushr l1 (8 * l3)))]) rfl rfl hl.1 rfl (lv_room (Nat.le_of_ble_eq_true rfl)) d_2_7_15 ⟨Nat.le_of_ble_eq_true rfl, Nat.le_of_ble_eq_true rfl⟩) hS (fun q _ h => zAin X hS q h) (zAin X hS) (fun u4 t4 H4 locs4 ht4 hv4 hw4 hB4 hz4 hk4 hS4 => ?_)
      have hZ4 := zBack X ht4 hB4
      refine lv_iinc (v := iI (l3 - 1)) (lv' := [(3, .int (iI (l3 - 1))), (0, .ref (ad 0 l0 0)), (1, .int (iI l1))]) hx hb d_2_7_18 hl (k := 0) rfl (by rw [show Int32.ofInt (-1) = iI (-1) from rfl, iI_add]; congr 1) (by decide) rfl (fun ls hl => ?_)
      refine lv_goto (tgt := 4) hx hb d_2_7_21 (by decide) ?_
      exact ih hf hZ4 hS4 (lv_sub hl [0, 1, 2] rfl)

noncomputable def f_ByteRow_putWide (K : zK) (l0 : Int) (l1 : Int) (l2 : Int) (F : zF) (B : zB) : zO := f_ByteRow_putWide_4 K K.1 (l2 - 1) l0 l1 F B
set_option maxHeartbeats 4000000 in
set_option maxRecDepth 100000 in
theorem c_ByteRow_putWide {l : Launch} {D : va_G} {ca : Nat → ClassId} {ad : Nat → Int → Nat → Nat} {L : List Nat} {aS vS : Nat → Nat} {sz : Nat} {K : zK}  {l0 : Int} {l1 : Int} {l2 : Int} {F F9 : zF} {B B9 : zB} {r : Int} (hf : f_ByteRow_putWide K l0 l1 l2 F B = some (r, F9, B9)) : Met l ({ cls := "StaveHouse$ByteRow", name := "putWide", desc := "(II)V" } : Jvm.MethodName) (Cond.code ({ cls := "StaveHouse$ByteRow", name := "putWide", desc := "(II)V" } : Jvm.MethodName) prog_2_method_7_code 4 (Option.none : Option Jvm.ClassFile.FieldType) :: wAll) ({ frames := 1, cells := 0, slots := 0, locals := 21 } : Room) (va_Pc [.ref (ad 0 l0 0), .int (iI l1), .int (iI l2)] (zPre D ca ad lnC K.2 L aS vS F B sz)) (Q_ByteRow_putWide K D ca ad L r F9 B9 (zA L sz)) 0 0 (zA L sz) := by
  refine zMet (Qc := Q_ByteRow_putWide K D ca ad L r F9 B9) (lv := [(0, .ref (ad 0 l0 0)), (1, .int (iI l1)), (2, .int (iI l2))]) (by decide) (Nat.le_of_ble_eq_true rfl) rfl (fun A p e s m below meth c ls X hZ hS hl => ?_)
  obtain ⟨hx, hb, hr, hml, hown, hts, hlk, hK, hA, hL, hX⟩ := id X
  replace hf : (f_ByteRow_putWide_4 K K.1 (l2 - 1) l0 l1 F B) = some (r, F9, B9) := hf
  refine lv_iload_n hx hb d_2_7_0 rfl (lv_at hl 2 rfl) ?_
  refine lv_iconst (v := iI 1) hx hb d_2_7_1 rfl ?_
  refine zsub hx hb d_2_7_2 ?_
  refine lv_istore_n (lv' := [(3, .int (iI (l2 - 1))), (0, .ref (ad 0 l0 0)), (1, .int (iI l1)), (2, .int (iI l2))]) hx hb d_2_7_3 rfl hl (by decide) rfl (fun ls hl => ?_)
  exact b_ByteRow_putWide_4 X hf hZ hS (lv_sub hl [0, 1, 2] rfl)

noncomputable abbrev Q_Performance_putMeta (K : zK) (D : va_G) (ca : Nat → ClassId) (ad : Nat → Int → Nat → Nat) (L : List Nat) (r : Int) (F : zF) (B : zB) (A : Nat → Prop) : Array Value → State → Outcome → State → Prop := va_Qv (S := Unit) (fun _ => True) (fun _ => zPo D ca ad lnC K.2 L F B A) A
noncomputable def f_Performance_putMeta (K : zK) (l0 : Int) (l1 : Int) (l2 : Int) (F : zF) (B : zB) : zO := if 0 ≤ l0 ∧ l0 < K.2 0 then zbind (f_ByteRow_put K l0 0 F B) (fun r2 F2 B2 => zbind (f_ByteRow_put K l0 255 F2 B2) (fun r3 F3 B3 => zbind (f_ByteRow_put K l0 l1 F3 B3) (fun r4 F4 B4 => zbind (f_ByteRow_put K l0 l2 F4 B4) (fun r5 F5 B5 => some (0, F5, B5))))) else none
set_option maxHeartbeats 4000000 in
set_option maxRecDepth 100000 in
theorem c_Performance_putMeta {l : Launch} {D : va_G} {ca : Nat → ClassId} {ad : Nat → Int → Nat → Nat} {L : List Nat} {aS vS : Nat → Nat} {sz : Nat} {K : zK}  {l0 : Int} {l1 : Int} {l2 : Int} {F F9 : zF} {B B9 : zB} {r : Int} (hf : f_Performance_putMeta K l0 l1 l2 F B = some (r, F9, B9)) : Met l ({ cls := "StaveHouse$Performance", name := "putMeta", desc := "(LStaveHouse$ByteRow;II)V" } : Jvm.MethodName) (Cond.code ({ cls := "StaveHouse$Performance", name := "putMeta", desc := "(LStaveHouse$ByteRow;II)V" } : Jvm.MethodName) prog_7_method_20_code 3 (Option.none : Option Jvm.ClassFile.FieldType) :: wAll) ({ frames := 1, cells := 0, slots := 0, locals := 21 } : Room) (va_Pc [.ref (ad 0 l0 0), .int (iI l1), .int (iI l2)] (zPre D ca ad lnC K.2 L aS vS F B sz)) (Q_Performance_putMeta K D ca ad L r F9 B9 (zA L sz)) 0 0 (zA L sz) := by
  refine zMet (Qc := Q_Performance_putMeta K D ca ad L r F9 B9) (lv := [(0, .ref (ad 0 l0 0)), (1, .int (iI l1)), (2, .int (iI l2))]) (by decide) (Nat.le_of_ble_eq_true rfl) rfl (fun A p e s m below meth c ls X hZ hS hl => ?_)
  obtain ⟨hx, hb, hr, hml, hown, hts, hlk, hK, hA, hL, hX⟩ := id X
  replace hf : (if 0 ≤ l0 ∧ l0 < K.2 0 then zbind (f_ByteRow_put K l0 0 F B) (fun r2 F2 B2 => zbind (f_ByteRow_put K l0 255 F2 B2) (fun r3 F3 B3 => zbind (f_ByteRow_put K l0 l1 F3 B3) (fun r4 F4 B4 => zbind (f_ByteRow_put K l0 l2 F4 B4) (fun r5 F5 B5 => some (0, F5, B5))))) else none) = some (r, F9, B9) := hf
  refine lv_aload_n hx hb d_7_20_0 rfl (lv_at hl 0 rfl) ?_
  refine lv_iconst (v := iI 0) hx hb d_7_20_1 rfl ?_
  obtain ⟨g1, hf⟩ := gif hf
  obtain ⟨r2, F2, B2, hc2, hf⟩ := gbind hf
  refine va_callv (va_runV (As := [.int (iI 0)]) (rest := []) ⟨hx, hb, hml, hown, hts⟩ (c_ByteRow_put (l := l) hc2) (cwV 1 hts (gdV k_7_168 k_2_171 k_2_172 k_1_2 k_2_173) rfl rfl rfl (by decide +kernel) ⟨Nat.le_of_ble_eq_true rfl, Nat.le_of_ble_eq_true rfl⟩) (zPV X hZ hS (ci := 0) g1.1 g1.2 (r := (RX0, TX0, 3)) rfl [.int (iI 0)]) rfl rfl hl.1 rfl (lv_room (Nat.le_of_ble_eq_true rfl)) d_7_20_2 ⟨Nat.le_of_ble_eq_true rfl, Nat.le_of_ble_eq_true rfl⟩) hS (fun q _ h => zAin X hS q h) (zAin X hS) (fun u2 t2 H2 locs2 ht2 hv2 hw2 hB2 hz2 hk2 hS2 => ?_)
  have hZ2 := zBack X ht2 hB2
  refine lv_aload_n hx hb d_7_20_5 rfl (lv_at hl 0 rfl) ?_
  refine lv_sipush (v := iI 255) hx hb d_7_20_6 (by decide) ?_
  obtain ⟨r3, F3, B3, hc3, hf⟩ := gbind hf
  refine va_callv (va_runV (As := [.int (iI 255)]) (rest := []) ⟨hx, hb, hml, hown, hts⟩ (c_ByteRow_put (l := l) hc3) (cwV 1 hts (gdV k_7_168 k_2_171 k_2_172 k_1_2 k_2_173) rfl rfl rfl (by decide +kernel) ⟨Nat.le_of_ble_eq_true rfl, Nat.le_of_ble_eq_true rfl⟩) (zPV X hZ2 hS2 (ci := 0) g1.1 g1.2 (r := (RX0, TX0, 3)) rfl [.int (iI 255)]) rfl rfl hl.1 rfl (lv_room (Nat.le_of_ble_eq_true rfl)) d_7_20_9 ⟨Nat.le_of_ble_eq_true rfl, Nat.le_of_ble_eq_true rfl⟩) hS2 (fun q _ h => zAin X hS2 q h) (zAin X hS2) (fun u3 t3 H3 locs3 ht3 hv3 hw3 hB3 hz3 hk3 hS3 => ?_)
  have hZ3 := zBack X ht3 hB3
  refine lv_aload_n hx hb d_7_20_12 rfl (lv_at hl 0 rfl) ?_
  refine lv_iload_n hx hb d_7_20_13 rfl (lv_at hl 1 rfl) ?_
  obtain ⟨r4, F4, B4, hc4, hf⟩ := gbind hf
  refine va_callv (va_runV (As := [.int (iI l1)]) (rest := []) ⟨hx, hb, hml, hown, hts⟩ (c_ByteRow_put (l := l) hc4) (cwV 1 hts (gdV k_7_168 k_2_171 k_2_172 k_1_2 k_2_173) rfl rfl rfl (by decide +kernel) ⟨Nat.le_of_ble_eq_true rfl, Nat.le_of_ble_eq_true rfl⟩) (zPV X hZ3 hS3 (ci := 0) g1.1 g1.2 (r := (RX0, TX0, 3)) rfl [.int (iI l1)]) rfl rfl hl.1 rfl (lv_room (Nat.le_of_ble_eq_true rfl)) d_7_20_14 ⟨Nat.le_of_ble_eq_true rfl, Nat.le_of_ble_eq_true rfl⟩) hS3 (fun q _ h => zAin X hS3 q h) (zAin X hS3) (fun u4 t4 H4 locs4 ht4 hv4 hw4 hB4 hz4 hk4 hS4 => ?_)
  have hZ4 := zBack X ht4 hB4
  refine lv_aload_n hx hb d_7_20_17 rfl (lv_at hl 0 rfl) ?_
  refine lv_iload_n hx hb d_7_20_18 rfl (lv_at hl 2 rfl) ?_
  obtain ⟨r5, F5, B5, hc5, hf⟩ := gbind hf
  refine va_callv (va_runV (As := [.int (iI l2)]) (rest := []) ⟨hx, hb, hml, hown, hts⟩ (c_ByteRow_put (l := l) hc5) (cwV 1 hts (gdV k_7_168 k_2_171 k_2_172 k_1_2 k_2_173) rfl rfl rfl (by decide +kernel) ⟨Nat.le_of_ble_eq_true rfl, Nat.le_of_ble_eq_true rfl⟩) (zPV X hZ4 hS4 (ci := 0) g1.1 g1.2 (r := (RX0, TX0, 3)) rfl [.int (iI l2)]) rfl rfl hl.1 rfl (lv_room (Nat.le_of_ble_eq_true rfl)) d_7_20_19 ⟨Nat.le_of_ble_eq_true rfl, Nat.le_of_ble_eq_true rfl⟩) hS4 (fun q _ h => zAin X hS4 q h) (zAin X hS4) (fun u5 t5 H5 locs5 ht5 hv5 hw5 hB5 hz5 hk5 hS5 => ?_)
  have hZ5 := zBack X ht5 hB5
  cases hf
  exact W.vret hx hb hr (fun t ht hW => ⟨⟨(), rfl, trivial, by rw [ht]; exact hZ5, va_K.moved hW.alike hK⟩, hS5.F ht⟩) hS5.2.2 d_7_20_22 hlk

noncomputable abbrev Q_Integer_bitCount (K : zK) (D : va_G) (ca : Nat → ClassId) (ad : Nat → Int → Nat → Nat) (L : List Nat) (r : Int) (F : zF) (B : zB) (A : Nat → Prop) : Array Value → State → Outcome → State → Prop := va_Qi (S := Unit) (fun p _ => p = iI r) (fun _ => zPo D ca ad lnC K.2 L F B A) A
noncomputable def f_Integer_bitCount (K : zK) (l0 : Int) (F : zF) (B : zB) : zO := some (zand (((zand (((zand (l0 - (zand (zushr l0 1) 1431655765)) 858993459) + (zand (zushr (l0 - (zand (zushr l0 1) 1431655765)) 2) 858993459)) + (zushr ((zand (l0 - (zand (zushr l0 1) 1431655765)) 858993459) + (zand (zushr (l0 - (zand (zushr l0 1) 1431655765)) 2) 858993459)) 4)) 252645135) + (zushr (zand (((zand (l0 - (zand (zushr l0 1) 1431655765)) 858993459) + (zand (zushr (l0 - (zand (zushr l0 1) 1431655765)) 2) 858993459)) + (zushr ((zand (l0 - (zand (zushr l0 1) 1431655765)) 858993459) + (zand (zushr (l0 - (zand (zushr l0 1) 1431655765)) 2) 858993459)) 4)) 252645135) 8)) + (zushr ((zand (((zand (l0 - (zand (zushr l0 1) 1431655765)) 858993459) + (zand (zushr (l0 - (zand (zushr l0 1) 1431655765)) 2) 858993459)) + (zushr ((zand (l0 - (zand (zushr l0 1) 1431655765)) 858993459) + (zand (zushr (l0 - (zand (zushr l0 1) 1431655765)) 2) 858993459)) 4)) 252645135) + (zushr (zand (((zand (l0 - (zand (zushr l0 1) 1431655765)) 858993459) + (zand (zushr (l0 - (zand (zushr l0 1) 1431655765)) 2) 858993459)) + (zushr ((zand (l0 - (zand (zushr l0 1) 1431655765)) 858993459) + (zand (zushr (l0 - (zand (zushr l0 1) 1431655765)) 2) 858993459)) 4)) 252645135) 8)) 16)) 63, F, B)
set_option maxHeartbeats 4000000 in
set_option maxRecDepth 100000 in
theorem c_Integer_bitCount {l : Launch} {D : va_G} {ca : Nat → ClassId} {ad : Nat → Int → Nat → Nat} {L : List Nat} {aS vS : Nat → Nat} {sz : Nat} {K : zK}  {l0 : Int} {F F9 : zF} {B B9 : zB} {r : Int} (hf : f_Integer_bitCount K l0 F B = some (r, F9, B9)) : Met l ({ cls := "java/lang/Integer", name := "bitCount", desc := "(I)I" } : Jvm.MethodName) (Cond.code ({ cls := "java/lang/Integer", name := "bitCount", desc := "(I)I" } : Jvm.MethodName) prog_18_method_49_code 1 (Option.some Jvm.ClassFile.FieldType.int) :: wAll) ({ frames := 0, cells := 0, slots := 0, locals := 0 } : Room) (va_Pc [.int (iI l0)] (zPre D ca ad lnC K.2 L aS vS F B sz)) (Q_Integer_bitCount K D ca ad L r F9 B9 (zA L sz)) 0 0 (zA L sz) := by
  refine zMet (Qc := Q_Integer_bitCount K D ca ad L r F9 B9) (lv := [(0, .int (iI l0))]) (by decide) (Nat.le_of_ble_eq_true rfl) rfl (fun A p e s m below meth c ls X hZ hS hl => ?_)
  obtain ⟨hx, hb, hr, hml, hown, hts, hlk, hK, hA, hL, hX⟩ := id X
  replace hf : (some (zand (((zand (((zand (l0 - (zand (zushr l0 1) 1431655765)) 858993459) + (zand (zushr (l0 - (zand (zushr l0 1) 1431655765)) 2) 858993459)) + (zushr ((zand (l0 - (zand (zushr l0 1) 1431655765)) 858993459) + (zand (zushr (l0 - (zand (zushr l0 1) 1431655765)) 2) 858993459)) 4)) 252645135) + (zushr (zand (((zand (l0 - (zand (zushr l0 1) 1431655765)) 858993459) + (zand (zushr (l0 - (zand (zushr l0 1) 1431655765)) 2) 858993459)) + (zushr ((zand (l0 - (zand (zushr l0 1) 1431655765)) 858993459) + (zand (zushr (l0 - (zand (zushr l0 1) 1431655765)) 2) 858993459)) 4)) 252645135) 8)) + (zushr ((zand (((zand (l0 - (zand (zushr l0 1) 1431655765)) 858993459) + (zand (zushr (l0 - (zand (zushr l0 1) 1431655765)) 2) 858993459)) + (zushr ((zand (l0 - (zand (zushr l0 1) 1431655765)) 858993459) + (zand (zushr (l0 - (zand (zushr l0 1) 1431655765)) 2) 858993459)) 4)) 252645135) + (zushr (zand (((zand (l0 - (zand (zushr l0 1) 1431655765)) 858993459) + (zand (zushr (l0 - (zand (zushr l0 1) 1431655765)) 2) 858993459)) + (zushr ((zand (l0 - (zand (zushr l0 1) 1431655765)) 858993459) + (zand (zushr (l0 - (zand (zushr l0 1) 1431655765)) 2) 858993459)) 4)) 252645135) 8)) 16)) 63, F, B)) = some (r, F9, B9) := hf
  refine lv_iload_n hx hb d_18_49_0 rfl (lv_at hl 0 rfl) ?_
  refine lv_iload_n hx hb d_18_49_1 rfl (lv_at hl 0 rfl) ?_
  refine lv_iconst (v := iI 1) hx hb d_18_49_2 rfl ?_
  refine zushr_r hx hb d_18_49_3 ?_
  refine lv_ldcw hx hb hown (hts _ k_7_172) d_18_49_4 ?_
  refine W.eq (g2 := F0 m 7 ls [.int (iI 1431655765), .int (iI (zushr l0 1)), .int (iI l0)]) rfl ?_
  refine zand_r hx hb d_18_49_7 ?_
  refine zsub hx hb d_18_49_8 ?_
  refine lv_istore_n (lv' := [(0, .int (iI (l0 - (zand (zushr l0 1) 1431655765))))]) hx hb d_18_49_9 rfl hl (by decide) rfl (fun ls hl => ?_)
  refine lv_iload_n hx hb d_18_49_10 rfl (lv_at hl 0 rfl) ?_
  refine lv_ldcw hx hb hown (hts _ k_7_173) d_18_49_11 ?_
  refine W.eq (g2 := F0 m 14 ls [.int (iI 858993459), .int (iI (l0 - (zand (zushr l0 1) 1431655765)))]) rfl ?_
  refine zand_r hx hb d_18_49_14 ?_
  refine lv_iload_n hx hb d_18_49_15 rfl (lv_at hl 0 rfl) ?_
  refine lv_iconst (v := iI 2) hx hb d_18_49_16 rfl ?_
  refine zushr_r hx hb d_18_49_17 ?_
  refine lv_ldcw hx hb hown (hts _ k_7_173) d_18_49_18 ?_
  refine W.eq (g2 := F0 m 21 ls [.int (iI 858993459), .int (iI (zushr (l0 - (zand (zushr l0 1) 1431655765)) 2)), .int (iI (zand (l0 - (zand (zushr l0 1) 1431655765)) 858993459))]) rfl ?_
  refine zand_r hx hb d_18_49_21 ?_
  refine zadd hx hb d_18_49_22 ?_
  refine lv_istore_n (lv' := [(0, .int (iI ((zand (l0 - (zand (zushr l0 1) 1431655765)) 858993459) + (zand (zushr (l0 - (zand (zushr l0 1) 1431655765)) 2) 858993459))))]) hx hb d_18_49_23 rfl hl (by decide) rfl (fun ls hl => ?_)
  refine lv_iload_n hx hb d_18_49_24 rfl (lv_at hl 0 rfl) ?_
  refine lv_iload_n hx hb d_18_49_25 rfl (lv_at hl 0 rfl) ?_
  refine lv_iconst (v := iI 4) hx hb d_18_49_26 rfl ?_
  refine zushr_r hx hb d_18_49_27 ?_
  refine zadd hx hb d_18_49_28 ?_
  refine lv_ldcw hx hb hown (hts _ k_7_174) d_18_49_29 ?_
  refine W.eq (g2 := F0 m 32 ls [.int (iI 252645135), .int (iI (((zand (l0 - (zand (zushr l0 1) 1431655765)) 858993459) + (zand (zushr (l0 - (zand (zushr l0 1) 1431655765)) 2) 858993459)) + (zushr ((zand (l0 - (zand (zushr l0 1) 1431655765)) 858993459) + (zand (zushr (l0 - (zand (zushr l0 1) 1431655765)) 2) 858993459)) 4)))]) rfl ?_
  refine zand_r hx hb d_18_49_32 ?_
  refine lv_istore_n (lv' := [(0, .int (iI (zand (((zand (l0 - (zand (zushr l0 1) 1431655765)) 858993459) + (zand (zushr (l0 - (zand (zushr l0 1) 1431655765)) 2) 858993459)) + (zushr ((zand (l0 - (zand (zushr l0 1) 1431655765)) 858993459) + (zand (zushr (l0 - (zand (zushr l0 1) 1431655765)) 2) 858993459)) 4)) 252645135)))]) hx hb d_18_49_33 rfl hl (by decide) rfl (fun ls hl => ?_)
  refine lv_iload_n hx hb d_18_49_34 rfl (lv_at hl 0 rfl) ?_
  refine lv_iload_n hx hb d_18_49_35 rfl (lv_at hl 0 rfl) ?_
  refine lv_bipush (v := iI 8) hx hb d_18_49_36 (by decide) ?_
  refine zushr_r hx hb d_18_49_38 ?_
  refine zadd hx hb d_18_49_39 ?_
  refine lv_istore_n (lv' := [(0, .int (iI ((zand (((zand (l0 - (zand (zushr l0 1) 1431655765)) 858993459) + (zand (zushr (l0 - (zand (zushr l0 1) 1431655765)) 2) 858993459)) + (zushr ((zand (l0 - (zand (zushr l0 1) 1431655765)) 858993459) + (zand (zushr (l0 - (zand (zushr l0 1) 1431655765)) 2) 858993459)) 4)) 252645135) + (zushr (zand (((zand (l0 - (zand (zushr l0 1) 1431655765)) 858993459) + (zand (zushr (l0 - (zand (zushr l0 1) 1431655765)) 2) 858993459)) + (zushr ((zand (l0 - (zand (zushr l0 1) 1431655765)) 858993459) + (zand (zushr (l0 - (zand (zushr l0 1) 1431655765)) 2) 858993459)) 4)) 252645135) 8))))]) hx hb d_18_49_40 rfl hl (by decide) rfl (fun ls hl => ?_)
  refine lv_iload_n hx hb d_18_49_41 rfl (lv_at hl 0 rfl) ?_
  refine lv_iload_n hx hb d_18_49_42 rfl (lv_at hl 0 rfl) ?_
  refine lv_bipush (v := iI 16) hx hb d_18_49_43 (by decide) ?_
  refine zushr_r hx hb d_18_49_45 ?_
  refine zadd hx hb d_18_49_46 ?_
  refine lv_istore_n (lv' := [(0, .int (iI (((zand (((zand (l0 - (zand (zushr l0 1) 1431655765)) 858993459) + (zand (zushr (l0 - (zand (zushr l0 1) 1431655765)) 2) 858993459)) + (zushr ((zand (l0 - (zand (zushr l0 1) 1431655765)) 858993459) + (zand (zushr (l0 - (zand (zushr l0 1) 1431655765)) 2) 858993459)) 4)) 252645135) + (zushr (zand (((zand (l0 - (zand (zushr l0 1) 1431655765)) 858993459) + (zand (zushr (l0 - (zand (zushr l0 1) 1431655765)) 2) 858993459)) + (zushr ((zand (l0 - (zand (zushr l0 1) 1431655765)) 858993459) + (zand (zushr (l0 - (zand (zushr l0 1) 1431655765)) 2) 858993459)) 4)) 252645135) 8)) + (zushr ((zand (((zand (l0 - (zand (zushr l0 1) 1431655765)) 858993459) + (zand (zushr (l0 - (zand (zushr l0 1) 1431655765)) 2) 858993459)) + (zushr ((zand (l0 - (zand (zushr l0 1) 1431655765)) 858993459) + (zand (zushr (l0 - (zand (zushr l0 1) 1431655765)) 2) 858993459)) 4)) 252645135) + (zushr (zand (((zand (l0 - (zand (zushr l0 1) 1431655765)) 858993459) + (zand (zushr (l0 - (zand (zushr l0 1) 1431655765)) 2) 858993459)) + (zushr ((zand (l0 - (zand (zushr l0 1) 1431655765)) 858993459) + (zand (zushr (l0 - (zand (zushr l0 1) 1431655765)) 2) 858993459)) 4)) 252645135) 8)) 16))))]) hx hb d_18_49_47 rfl hl (by decide) rfl (fun ls hl => ?_)
  refine lv_iload_n hx hb d_18_49_48 rfl (lv_at hl 0 rfl) ?_
  refine lv_bipush (v := iI 63) hx hb d_18_49_49 (by decide) ?_
  refine zand_r hx hb d_18_49_51 ?_
  cases hf
  exact W.iret hx hb hr (fun t ht hW => ⟨⟨_, (), rfl, rfl, by rw [ht]; exact hZ, va_K.moved hW.alike hK⟩, hS.F ht⟩) hS.2.2 d_18_49_52 hlk

noncomputable abbrev Q_ByteRow_setWide (K : zK) (D : va_G) (ca : Nat → ClassId) (ad : Nat → Int → Nat → Nat) (L : List Nat) (r : Int) (F : zF) (B : zB) (A : Nat → Prop) : Array Value → State → Outcome → State → Prop := va_Qv (S := Unit) (fun _ => True) (fun _ => zPo D ca ad lnC K.2 L F B A) A
noncomputable def f_ByteRow_setWide_44 (rec2 : Int → Int → Int → Int → zF → zB → zO) (K : zK) (l3 : Int) (l0 : Int) (l1 : Int) (l2 : Int) (F : zF) (B : zB) : zO := rec2 (l3 + 1) l0 l1 l2 F B
set_option maxHeartbeats 4000000 in
set_option maxRecDepth 100000 in
theorem b_ByteRow_setWide_44 {D : va_G} {ca : Nat → ClassId} {ad : Nat → Int → Nat → Nat} {L : List Nat} {aS vS : Nat → Nat} {A : Nat → Prop} {p : Program} {l : Launch} {e : Env} {s : State} {m : MethodId} {args : Array Value} {below : List Frame} {meth : Method} {c : Code} {K : zK} {r : Int} {F9 : zF} {B9 : zB} (X : zX D ca L aS vS A p s m args meth c prog_2_method_9_code 4 (Option.none : Option Jvm.ClassFile.FieldType) "StaveHouse$ByteRow") {rec2 : Int → Int → Int → Int → zF → zB → zO} (hrec2 : ∀ {l3 : Int} {l0 : Int} {l1 : Int} {l2 : Int} {F : zF} {B : zB} {H : Heap} {locs : List Loc} {ls : Array Slot}, rec2 l3 l0 l1 l2 F B = some (r, F9, B9) → zH D ca ad lnC K.2 L F B A H → va_S A s.heap H locs → lv_has ls 4 [(3, .int (iI l3)), (0, .ref (ad 0 l0 0)), (1, .int (iI l1)), (2, .int (iI l2))] → W p l e ({ frames := 0, cells := 0, slots := 0, locals := 0 } : Room) s m args below meth c H locs 0 0 (MQ below (Q_ByteRow_setWide K D ca ad L r F9 B9 A) args s 0 0 A) (F0 m 2 ls [])) {l3 : Int} {l0 : Int} {l1 : Int} {l2 : Int} {F : zF} {B : zB} {H : Heap} {locs : List Loc} {ls : Array Slot} (hf : f_ByteRow_setWide_44 rec2 K l3 l0 l1 l2 F B = some (r, F9, B9)) (hZ : zH D ca ad lnC K.2 L F B A H) (hS : va_S A s.heap H locs) (hl : lv_has ls 4 [(3, .int (iI l3)), (0, .ref (ad 0 l0 0)), (1, .int (iI l1)), (2, .int (iI l2))]) : W p l e ({ frames := 0, cells := 0, slots := 0, locals := 0 } : Room) s m args below meth c H locs 0 0 (MQ below (Q_ByteRow_setWide K D ca ad L r F9 B9 A) args s 0 0 A) (F0 m 44 ls []) := by
  obtain ⟨hx, hb, hr, hml, hown, hts, hlk, hK, hA, hL, hX⟩ := id X
  replace hf : (rec2 (l3 + 1) l0 l1 l2 F B) = some (r, F9, B9) := hf
  refine lv_iinc (v := iI (l3 + 1)) (lv' := [(3, .int (iI (l3 + 1))), (0, .ref (ad 0 l0 0)), (1, .int (iI l1)), (2, .int (iI l2))]) hx hb d_2_9_44 hl (k := 0) rfl (iI_add _ 1) (by decide) rfl (fun ls hl => ?_)
  refine lv_goto (tgt := 2) hx hb d_2_9_47 (by decide) ?_
  exact hrec2 hf hZ hS (lv_sub hl [0, 1, 2, 3] rfl)

noncomputable def f_ByteRow_setWide_2 (K : zK) : Nat → Int → Int → Int → Int → zF → zB → zO
  | 0, _, _, _, _, _, _ => none
  | n + 1, l3, l0, l1, l2, F, B => if r32 l3 then (if 4 ≤ l3 then some (0, F, B) else if r32 (l1 + l3) then (if (l1 + l3) < 0 then f_ByteRow_setWide_44 (f_ByteRow_setWide_2 K n) K l3 l0 l1 l2 F B else if 0 ≤ l0 ∧ l0 < K.2 0 then if r32 (F 0 l0 1) then (if (F 0 l0 1) ≤ (l1 + l3) then f_ByteRow_setWide_44 (f_ByteRow_setWide_2 K n) K l3 l0 l1 l2 F B else if 0 ≤ (l1 + l3) ∧ (l1 + l3) < (lnC 0 l0 0 : Int) then f_ByteRow_setWide_44 (f_ByteRow_setWide_2 K n) K l3 l0 l1 l2 F (zup4 B 0 l0 0 (l1 + l3) (zand (zushr l2 (24 - (8 * l3))) 255)) else none) else none else none) else none) else none
set_option maxHeartbeats 4000000 in
set_option maxRecDepth 100000 in
theorem b_ByteRow_setWide_2 {D : va_G} {ca : Nat → ClassId} {ad : Nat → Int → Nat → Nat} {L : List Nat} {aS vS : Nat → Nat} {A : Nat → Prop} {p : Program} {l : Launch} {e : Env} {s : State} {m : MethodId} {args : Array Value} {below : List Frame} {meth : Method} {c : Code} {K : zK} {r : Int} {F9 : zF} {B9 : zB} (X : zX D ca L aS vS A p s m args meth c prog_2_method_9_code 4 (Option.none : Option Jvm.ClassFile.FieldType) "StaveHouse$ByteRow") : ∀ {n : Nat} {l3 : Int} {l0 : Int} {l1 : Int} {l2 : Int} {F : zF} {B : zB} {H : Heap} {locs : List Loc} {ls : Array Slot}, f_ByteRow_setWide_2 K n l3 l0 l1 l2 F B = some (r, F9, B9) → zH D ca ad lnC K.2 L F B A H → va_S A s.heap H locs → lv_has ls 4 [(3, .int (iI l3)), (0, .ref (ad 0 l0 0)), (1, .int (iI l1)), (2, .int (iI l2))] → W p l e ({ frames := 0, cells := 0, slots := 0, locals := 0 } : Room) s m args below meth c H locs 0 0 (MQ below (Q_ByteRow_setWide K D ca ad L r F9 B9 A) args s 0 0 A) (F0 m 2 ls []) := by
  obtain ⟨hx, hb, hr, hml, hown, hts, hlk, hK, hA, hL, hX⟩ := id X
  intro n
  induction n with
  | zero =>
    intros
    rename_i hf _ _ _
    cases hf
  | succ n ih =>
    intro l3 l0 l1 l2 F B H locs ls hf hZ hS hl
    replace hf : (if r32 l3 then (if 4 ≤ l3 then some (0, F, B) else if r32 (l1 + l3) then (if (l1 + l3) < 0 then f_ByteRow_setWide_44 (f_ByteRow_setWide_2 K n) K l3 l0 l1 l2 F B else if 0 ≤ l0 ∧ l0 < K.2 0 then if r32 (F 0 l0 1) then (if (F 0 l0 1) ≤ (l1 + l3) then f_ByteRow_setWide_44 (f_ByteRow_setWide_2 K n) K l3 l0 l1 l2 F B else if 0 ≤ (l1 + l3) ∧ (l1 + l3) < (lnC 0 l0 0 : Int) then f_ByteRow_setWide_44 (f_ByteRow_setWide_2 K n) K l3 l0 l1 l2 F (zup4 B 0 l0 0 (l1 + l3) (zand (zushr l2 (24 - (8 * l3))) 255)) else none) else none else none) else none) else none) = some (r, F9, B9) := hf
    refine lv_iload_n hx hb d_2_9_2 rfl (lv_at hl 0 rfl) ?_
    refine lv_iconst (v := iI 4) hx hb d_2_9_3 rfl ?_
    obtain ⟨g1, hf⟩ := gif hf
    refine zge (tgt := 50) hx hb g1 (by decide) d_2_9_4 (by decide) (fun h2 => ?_) (fun h2 => ?_)
    · replace hf := gpos hf h2
      cases hf
      exact W.vret hx hb hr (fun t ht hW => ⟨⟨(), rfl, trivial, by rw [ht]; exact hZ, va_K.moved hW.alike hK⟩, hS.F ht⟩) hS.2.2 d_2_9_50 hlk
    · replace hf := gneg hf h2
      refine lv_iload_n hx hb d_2_9_7 rfl (lv_at hl 2 rfl) ?_
      refine lv_iload_n hx hb d_2_9_8 rfl (lv_at hl 0 rfl) ?_
      refine zadd hx hb d_2_9_9 ?_
      obtain ⟨g3, hf⟩ := gif hf
      refine z0lt (tgt := 44) hx hb g3 d_2_9_10 (by decide) (fun h4 => ?_) (fun h4 => ?_)
      · replace hf := gpos hf h4
        exact b_ByteRow_setWide_44 X ih hf hZ hS (lv_sub hl [0, 1, 2, 3] rfl)
      · replace hf := gneg hf h4
        refine lv_iload_n hx hb d_2_9_13 rfl (lv_at hl 2 rfl) ?_
        refine lv_iload_n hx hb d_2_9_14 rfl (lv_at hl 0 rfl) ?_
        refine zadd hx hb d_2_9_15 ?_
        refine lv_aload_n hx hb d_2_9_16 rfl (lv_at hl 1 rfl) ?_
        obtain ⟨g5, hf⟩ := gif hf
        refine zget (ci := 0) (C := RX0) (T := TX0) (v := .int (iI (F 0 l0 1))) (k := 1) hx hb hts inW_0 hown hK hZ g5.1 g5.2 rfl (by decide) k_1_42 rfl d_2_9_17 ?_
        obtain ⟨g6, hf⟩ := gif hf
        refine zge (tgt := 44) hx hb g3 g6 d_2_9_20 (by decide) (fun h7 => ?_) (fun h7 => ?_)
        · replace hf := gpos hf h7
          exact b_ByteRow_setWide_44 X ih hf hZ hS (lv_sub hl [0, 1, 2, 3] rfl)
        · replace hf := gneg hf h7
          refine lv_aload_n hx hb d_2_9_23 rfl (lv_at hl 1 rfl) ?_
          refine zget (ci := 0) (C := RX0) (T := TX0) (v := .ref (ad 0 l0 (0 + 1))) (k := 0) hx hb hts inW_0 hown hK hZ g5.1 g5.2 rfl (by decide) k_1_41 rfl d_2_9_24 ?_
          refine lv_iload_n hx hb d_2_9_27 rfl (lv_at hl 2 rfl) ?_
          refine lv_iload_n hx hb d_2_9_28 rfl (lv_at hl 0 rfl) ?_
          refine zadd hx hb d_2_9_29 ?_
          refine lv_iload_n hx hb d_2_9_30 rfl (lv_at hl 3 rfl) ?_
          refine lv_bipush (v := iI 24) hx hb d_2_9_31 (by decide) ?_
          refine lv_bipush (v := iI 8) hx hb d_2_9_33 (by decide) ?_
          refine lv_iload_n hx hb d_2_9_35 rfl (lv_at hl 0 rfl) ?_
          refine zmul hx hb d_2_9_36 ?_
          refine zsub hx hb d_2_9_37 ?_
          refine zushr_r hx hb d_2_9_38 ?_
          refine lv_sipush (v := iI 255) hx hb d_2_9_39 (by decide) ?_
          refine zand_r hx hb d_2_9_42 ?_
          obtain ⟨g8, hf⟩ := gif hf
          refine zast (ci := 0) (k := 0) hx hb hK rfl hZ hS g5.1 g5.2 rfl lnC0_le g8.1 g8.2 d_2_9_43 (fun H9 locs9 hZ9 hS9 => ?_)
          exact b_ByteRow_setWide_44 X ih hf hZ9 hS9 (lv_sub hl [0, 1, 2, 3] rfl)

noncomputable def f_ByteRow_setWide (K : zK) (l0 : Int) (l1 : Int) (l2 : Int) (F : zF) (B : zB) : zO := f_ByteRow_setWide_2 K K.1 0 l0 l1 l2 F B
