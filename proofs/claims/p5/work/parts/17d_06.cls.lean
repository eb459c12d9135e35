set_option maxHeartbeats 4000000 in
set_option maxRecDepth 100000 in
theorem b_Scribe_trackEnd_39 {D : va_G} {ca : Nat → ClassId} {ad : Nat → Int → Nat → Nat} {L : List Nat} {aS vS : Nat → Nat} {A : Nat → Prop} {p : Program} {l : Launch} {e : Env} {s : State} {m : MethodId} {args : Array Value} {below : List Frame} {meth : Method} {c : Code} {K : zK} {r : Int} {F9 : zF} {B9 : zB} (X : zX D ca L aS vS A p s m args meth c prog_9_method_3_code 4 (Option.some Jvm.ClassFile.FieldType.int) "StaveHouse$Scribe") {l3 : Int} {F : zF} {B : zB} {H : Heap} {locs : List Loc} {ls : Array Slot} (hf : f_Scribe_trackEnd_39 K l3 F B = some (r, F9, B9)) (hZ : zH D ca ad lnC K.2 L F B A H) (hS : va_S A s.heap H locs) (hl : lv_has ls 4 [(3, .int (iI l3))]) : W p l e ({ frames := 0, cells := 0, slots := 0, locals := 0 } : Room) s m args below meth c H locs 0 0 (MQ below (Q_Scribe_trackEnd K D ca ad L r F9 B9 A) args s 0 0 A) (F0 m 39 ls []) := by
  obtain ⟨hx, hb, hr, hml, hown, hts, hlk, hK, hA, hL, hX⟩ := id X
  replace hf : (some (l3, F, B)) = some (r, F9, B9) := hf
  refine lv_iload_n hx hb d_9_3_39 rfl (lv_at hl 0 rfl) ?_
  cases hf
  exact W.iret hx hb hr (fun t ht hW => ⟨⟨_, (), rfl, rfl, by rw [ht]; exact hZ, va_K.moved hW.alike hK⟩, hS.F ht⟩) hS.2.2 d_9_3_40 hlk

noncomputable def f_Scribe_trackEnd_12 (K : zK) : Nat → Int → Int → Int → Int → zF → zB → zO
  | 0, _, _, _, _, _, _ => none
  | n + 1, l3, l2, l0, l1, F, B => if 0 ≤ l0 ∧ l0 < K.2 7 then if 0 ≤ (F 7 l0 0) ∧ (F 7 l0 0) < K.2 8 then if r32 l3 then if r32 (F 8 (F 7 l0 0) 2) then (if (F 8 (F 7 l0 0) 2) ≤ l3 then f_Scribe_trackEnd_39 K l3 F B else if 0 ≤ l2 ∧ l2 < K.2 8 then if 0 ≤ l3 ∧ l3 < 400 then if 0 ≤ l1 ∧ l1 < 400 then if r64 (B 8 l2 220 l3) then if r64 (B 8 l2 220 l1) then (if (zcmp (B 8 l2 220 l3) (B 8 l2 220 l1)) = 0 then f_Scribe_trackEnd_12 K n (l3 + 1) l2 l0 l1 F B else f_Scribe_trackEnd_39 K l3 F B) else none else none else none else none else none) else none else none else none else none
set_option maxHeartbeats 4000000 in
set_option maxRecDepth 100000 in
theorem b_Scribe_trackEnd_12 {D : va_G} {ca : Nat → ClassId} {ad : Nat → Int → Nat → Nat} {L : List Nat} {aS vS : Nat → Nat} {A : Nat → Prop} {p : Program} {l : Launch} {e : Env} {s : State} {m : MethodId} {args : Array Value} {below : List Frame} {meth : Method} {c : Code} {K : zK} {r : Int} {F9 : zF} {B9 : zB} (X : zX D ca L aS vS A p s m args meth c prog_9_method_3_code 4 (Option.some Jvm.ClassFile.FieldType.int) "StaveHouse$Scribe") : ∀ {n : Nat} {l3 : Int} {l2 : Int} {l0 : Int} {l1 : Int} {F : zF} {B : zB} {H : Heap} {locs : List Loc} {ls : Array Slot}, f_Scribe_trackEnd_12 K n l3 l2 l0 l1 F B = some (r, F9, B9) → zH D ca ad lnC K.2 L F B A H → va_S A s.heap H locs → lv_has ls 4 [(3, .int (iI l3)), (2, .ref (ad 8 l2 (220 + 1))), (0, .ref (ad 7 l0 0)), (1, .int (iI l1))] → W p l e ({ frames := 0, cells := 0, slots := 0, locals := 0 } : Room) s m args below meth c H locs 0 0 (MQ below (Q_Scribe_trackEnd K D ca ad L r F9 B9 A) args s 0 0 A) (F0 m 12 ls []) := by
  obtain ⟨hx, hb, hr, hml, hown, hts, hlk, hK, hA, hL, hX⟩ := id X
  intro n
  induction n with
  | zero =>
    intros
    rename_i hf _ _ _
    cases hf
  | succ n ih =>
    intro l3 l2 l0 l1 F B H locs ls hf hZ hS hl
    replace hf : (if 0 ≤ l0 ∧ l0 < K.2 7 then if 0 ≤ (F 7 l0 0) ∧ (F 7 l0 0) < K.2 8 then if r32 l3 then if r32 (F 8 (F 7 l0 0) 2) then (if (F 8 (F 7 l0 0) 2) ≤ l3 then f_Scribe_trackEnd_39 K l3 F B else if 0 ≤ l2 ∧ l2 < K.2 8 then if 0 ≤ l3 ∧ l3 < 400 then if 0 ≤ l1 ∧ l1 < 400 then if r64 (B 8 l2 220 l3) then if r64 (B 8 l2 220 l1) then (if (zcmp (B 8 l2 220 l3) (B 8 l2 220 l1)) = 0 then f_Scribe_trackEnd_12 K n (l3 + 1) l2 l0 l1 F B else f_Scribe_trackEnd_39 K l3 F B) else none else none else none else none else none) else none else none else none else none) = some (r, F9, B9) := hf
    refine lv_iload_n hx hb d_9_3_12 rfl (lv_at hl 0 rfl) ?_
    refine lv_aload_n hx hb d_9_3_13 rfl (lv_at hl 2 rfl) ?_
    obtain ⟨g3, hf⟩ := gif hf
    refine zget (ci := 7) (C := RX7) (T := TX7) (v := va_rf (zrf ad 8 (F 7 l0 0))) (k := 0) hx hb hts inW_7 hown hK hZ g3.1 g3.2 rfl (by decide) k_2_98 rfl d_9_3_14 ?_
    obtain ⟨g4, hf⟩ := gif hf
    refine zunrf g4.1 ?_
    refine zget (ci := 8) (C := RX8) (T := TX8) (v := .int (iI (F 8 (F 7 l0 0) 2))) (k := 2) hx hb hts inW_8 hown hK hZ g4.1 g4.2 rfl (by decide) k_7_224 rfl d_9_3_17 ?_
    obtain ⟨g5, hf⟩ := gif hf
    obtain ⟨g6, hf⟩ := gif hf
    refine zge (tgt := 39) hx hb g5 g6 d_9_3_20 (by decide) (fun h7 => ?_) (fun h7 => ?_)
    · replace hf := gpos hf h7
      exact b_Scribe_trackEnd_39 X hf hZ hS (lv_sub hl [0] rfl)
    · replace hf := gneg hf h7
      refine lv_aload_n hx hb d_9_3_23 rfl (lv_at hl 1 rfl) ?_
      refine lv_iload_n hx hb d_9_3_24 rfl (lv_at hl 0 rfl) ?_
      obtain ⟨g8, hf⟩ := gif hf
      obtain ⟨g9, hf⟩ := gif hf
      refine zlald (ci := 8) (k := 220) hx hb hK rfl hZ g8.1 g8.2 rfl (Nat.le_of_ble_eq_true rfl) g9.1 g9.2 d_9_3_25 ?_
      refine lv_aload_n hx hb d_9_3_26 rfl (lv_at hl 1 rfl) ?_
      refine lv_iload_n hx hb d_9_3_27 rfl (lv_at hl 3 rfl) ?_
      obtain ⟨g10, hf⟩ := gif hf
      refine zlald (ci := 8) (k := 220) hx hb hK rfl hZ g8.1 g8.2 rfl (Nat.le_of_ble_eq_true rfl) g10.1 g10.2 d_9_3_28 ?_
      obtain ⟨g11, hf⟩ := gif hf
      obtain ⟨g12, hf⟩ := gif hf
      refine zcmp_r hx hb g11 g12 d_9_3_29 ?_
      refine z0ne (tgt := 39) hx hb zcmp_32 d_9_3_30 (by decide) (fun h13 => ?_) (fun h13 => ?_)
      · replace hf := gneg hf h13
        exact b_Scribe_trackEnd_39 X hf hZ hS (lv_sub hl [0] rfl)
      · replace hf := gpos hf h13
        refine lv_iinc (v := iI (l3 + 1)) (lv' := [(3, .int (iI (l3 + 1))), (2, .ref (ad 8 l2 (220 + 1))), (0, .ref (ad 7 l0 0)), (1, .int (iI l1))]) hx hb d_9_3_33 hl (k := 0) rfl (iI_add _ 1) (by decide) rfl (fun ls hl => ?_)
        refine lv_goto (tgt := 12) hx hb d_9_3_36 (by decide) ?_
        exact ih hf hZ hS (lv_sub hl [0, 1, 2, 3] rfl)

noncomputable def f_Scribe_trackEnd (K : zK) (l0 : Int) (l1 : Int) (F : zF) (B : zB) : zO := if 0 ≤ l0 ∧ l0 < K.2 7 then if 0 ≤ (F 7 l0 0) ∧ (F 7 l0 0) < K.2 8 then f_Scribe_trackEnd_12 K K.1 l1 (F 7 l0 0) l0 l1 F B else none else none
set_option maxHeartbeats 4000000 in
set_option maxRecDepth 100000 in
theorem c_Scribe_trackEnd {l : Launch} {D : va_G} {ca : Nat → ClassId} {ad : Nat → Int → Nat → Nat} {L : List Nat} {aS vS : Nat → Nat} {sz : Nat} {K : zK}  {l0 : Int} {l1 : Int} {F F9 : zF} {B B9 : zB} {r : Int} (hf : f_Scribe_trackEnd K l0 l1 F B = some (r, F9, B9)) : Met l ({ cls := "StaveHouse$Scribe", name := "trackEnd", desc := "(I)I" } : Jvm.MethodName) (Cond.code ({ cls := "StaveHouse$Scribe", name := "trackEnd", desc := "(I)I" } : Jvm.MethodName) prog_9_method_3_code 4 (Option.some Jvm.ClassFile.FieldType.int) :: wAll) ({ frames := 0, cells := 0, slots := 0, locals := 0 } : Room) (va_Pc [.ref (ad 7 l0 0), .int (iI l1)] (zPre D ca ad lnC K.2 L aS vS F B sz)) (Q_Scribe_trackEnd K D ca ad L r F9 B9 (zA L sz)) 0 0 (zA L sz) := by
  refine zMet (Qc := Q_Scribe_trackEnd K D ca ad L r F9 B9) (lv := [(0, .ref (ad 7 l0 0)), (1, .int (iI l1))]) (by decide) (Nat.le_of_ble_eq_true rfl) rfl (fun A p e s m below meth c ls X hZ hS hl => ?_)
  obtain ⟨hx, hb, hr, hml, hown, hts, hlk, hK, hA, hL, hX⟩ := id X
  replace hf : (if 0 ≤ l0 ∧ l0 < K.2 7 then if 0 ≤ (F 7 l0 0) ∧ (F 7 l0 0) < K.2 8 then f_Scribe_trackEnd_12 K K.1 l1 (F 7 l0 0) l0 l1 F B else none else none) = some (r, F9, B9) := hf
  refine lv_aload_n hx hb d_9_3_0 rfl (lv_at hl 0 rfl) ?_
  obtain ⟨g1, hf⟩ := gif hf
  refine zget (ci := 7) (C := RX7) (T := TX7) (v := va_rf (zrf ad 8 (F 7 l0 0))) (k := 0) hx hb hts inW_7 hown hK hZ g1.1 g1.2 rfl (by decide) k_2_98 rfl d_9_3_1 ?_
  obtain ⟨g2, hf⟩ := gif hf
  refine zunrf g2.1 ?_
  refine zget (ci := 8) (C := RX8) (T := TX8) (v := .ref (ad 8 (F 7 l0 0) (1 + 1))) (k := 1) hx hb hts inW_8 hown hK hZ g2.1 g2.2 rfl (by decide) k_7_221 rfl d_9_3_4 ?_
  refine lv_iconst (v := iI 0) hx hb d_9_3_7 rfl ?_
  refine zaldQ (t := 1) (ci := 8) (k := 1) hx hb hK rfl hZ g2.1 g2.2 rfl (Nat.le_of_ble_eq_true rfl) (by decide) (by decide) d_9_3_8 ?_
  refine W.eq (g2 := F0 m 9 ls [.ref (ad 8 (F 7 l0 0) (220 + 1))]) rfl ?_
  refine lv_astore_n (lv' := [(2, .ref (ad 8 (F 7 l0 0) (220 + 1))), (0, .ref (ad 7 l0 0)), (1, .int (iI l1))]) hx hb d_9_3_9 rfl hl (by decide) rfl (fun ls hl => ?_)
  refine lv_iload_n hx hb d_9_3_10 rfl (lv_at hl 2 rfl) ?_
  refine lv_istore_n (lv' := [(3, .int (iI l1)), (2, .ref (ad 8 (F 7 l0 0) (220 + 1))), (0, .ref (ad 7 l0 0)), (1, .int (iI l1))]) hx hb d_9_3_11 rfl hl (by decide) rfl (fun ls hl => ?_)
  exact b_Scribe_trackEnd_12 X hf hZ hS (lv_sub hl [0, 1, 2, 3] rfl)

noncomputable abbrev Q_Scribe_gridPlace (K : zK) (D : va_G) (ca : Nat → ClassId) (ad : Nat → Int → Nat → Nat) (L : List Nat) (r : Int) (F : zF) (B : zB) (A : Nat → Prop) : Array Value → State → Outcome → State → Prop := va_Ql (S := Unit) (fun p _ => p = lI r) (fun _ => zPo D ca ad lnC K.2 L F B A) A
noncomputable def f_Scribe_gridPlace (K : zK) (l0 : Int) (l1 : Int) (F : zF) (B : zB) : zO := if 0 ≤ l0 ∧ l0 < K.2 7 then if 0 ≤ (F 7 l0 0) ∧ (F 7 l0 0) < K.2 8 then if r32 (B 8 (F 7 l0 0) 0 1) then if r32 (zmax (B 8 (F 7 l0 0) 0 1) 1) then if r32 (F 7 l0 2) then if ¬ lI (8 * (zmax (B 8 (F 7 l0 0) 0 1) 1)) = 0 then some (zldv (((2 * l1) * (F 7 l0 2)) + (4 * (zmax (B 8 (F 7 l0 0) 0 1) 1))) (8 * (zmax (B 8 (F 7 l0 0) 0 1) 1)), F, B) else none else none else none else none else none else none
set_option maxHeartbeats 4000000 in
set_option maxRecDepth 100000 in
theorem c_Scribe_gridPlace {l : Launch} {D : va_G} {ca : Nat → ClassId} {ad : Nat → Int → Nat → Nat} {L : List Nat} {aS vS : Nat → Nat} {sz : Nat} {K : zK}  {l0 : Int} {l1 : Int} {F F9 : zF} {B B9 : zB} {r : Int} (hf : f_Scribe_gridPlace K l0 l1 F B = some (r, F9, B9)) : Met l ({ cls := "StaveHouse$Scribe", name := "gridPlace", desc := "(J)J" } : Jvm.MethodName) (Cond.code ({ cls := "StaveHouse$Scribe", name := "gridPlace", desc := "(J)J" } : Jvm.MethodName) prog_9_method_4_code 5 (Option.some Jvm.ClassFile.FieldType.long) :: wAll) ({ frames := 1, cells := 0, slots := 0, locals := 13 } : Room) (va_Pc [.ref (ad 7 l0 0), .long (lI l1)] (zPre D ca ad lnC K.2 L aS vS F B sz)) (Q_Scribe_gridPlace K D ca ad L r F9 B9 (zA L sz)) 0 0 (zA L sz) := by
  refine zMet (Qc := Q_Scribe_gridPlace K D ca ad L r F9 B9) (lv := [(0, .ref (ad 7 l0 0)), (1, .long (lI l1))]) (by decide) (Nat.le_of_ble_eq_true rfl) rfl (fun A p e s m below meth c ls X hZ hS hl => ?_)
  obtain ⟨hx, hb, hr, hml, hown, hts, hlk, hK, hA, hL, hX⟩ := id X
  replace hf : (if 0 ≤ l0 ∧ l0 < K.2 7 then if 0 ≤ (F 7 l0 0) ∧ (F 7 l0 0) < K.2 8 then if r32 (B 8 (F 7 l0 0) 0 1) then if r32 (zmax (B 8 (F 7 l0 0) 0 1) 1) then if r32 (F 7 l0 2) then if ¬ lI (8 * (zmax (B 8 (F 7 l0 0) 0 1) 1)) = 0 then some (zldv (((2 * l1) * (F 7 l0 2)) + (4 * (zmax (B 8 (F 7 l0 0) 0 1) 1))) (8 * (zmax (B 8 (F 7 l0 0) 0 1) 1)), F, B) else none else none else none else none else none else none) = some (r, F9, B9) := hf
  refine lv_aload_n hx hb d_9_4_0 rfl (lv_at hl 0 rfl) ?_
  obtain ⟨g1, hf⟩ := gif hf
  refine zget (ci := 7) (C := RX7) (T := TX7) (v := va_rf (zrf ad 8 (F 7 l0 0))) (k := 0) hx hb hts inW_7 hown hK hZ g1.1 g1.2 rfl (by decide) k_2_98 rfl d_9_4_1 ?_
  obtain ⟨g2, hf⟩ := gif hf
  refine zunrf g2.1 ?_
  refine zget (ci := 8) (C := RX8) (T := TX8) (v := .ref (ad 8 (F 7 l0 0) (0 + 1))) (k := 0) hx hb hts inW_8 hown hK hZ g2.1 g2.2 rfl (by decide) k_7_218 rfl d_9_4_4 ?_
  refine lv_iconst (v := iI 1) hx hb d_9_4_7 rfl ?_
  refine zald (ci := 8) (k := 0) hx hb hK rfl hZ g2.1 g2.2 rfl (Nat.le_of_ble_eq_true rfl) (by decide) (show (1 : Int) < 7 by decide) d_9_4_8 ?_
  refine lv_iconst (v := iI 1) hx hb d_9_4_9 rfl ?_
  obtain ⟨g3, hf⟩ := gif hf
  refine va_mmax hx hb (by rw [hml]; exact hl.1.symm) hown (hts _ k_8_142) (hts _ k_1_39) (hts _ k_1_3) (hts _ k_1_40) (Nat.le_of_ble_eq_true rfl) (Nat.le_of_ble_eq_true rfl) (Nat.le_of_ble_eq_true rfl) (Nat.le_of_ble_eq_true rfl) d_9_4_10 ?_
  rw [zmax_e g3 (by decide)]
  obtain ⟨g4, hf⟩ := gif hf
  refine zi2l hx hb g4 d_9_4_13 ?_
  refine lv_lstore_n (lv' := [(3, .long (lI (zmax (B 8 (F 7 l0 0) 0 1) 1))), (0, .ref (ad 7 l0 0)), (1, .long (lI l1))]) hx hb d_9_4_14 rfl hl (by decide) rfl (fun ls hl => ?_)
  refine lv_ldc2 hx hb hown (hts _ k_8_160) d_9_4_15 ?_
  refine W.eq (g2 := F0 m 18 ls [.long (lI 2)]) rfl ?_
  refine lv_lload_n hx hb d_9_4_18 rfl (lv_at hl 2 rfl) ?_
  refine zlmul hx hb d_9_4_19 ?_
  refine lv_aload_n hx hb d_9_4_20 rfl (lv_at hl 1 rfl) ?_
  refine zget (ci := 7) (C := RX7) (T := TX7) (v := .int (iI (F 7 l0 2))) (k := 2) hx hb hts inW_7 hown hK hZ g1.1 g1.2 rfl (by decide) k_2_100 rfl d_9_4_21 ?_
  obtain ⟨g5, hf⟩ := gif hf
  refine zi2l hx hb g5 d_9_4_24 ?_
  refine zlmul hx hb d_9_4_25 ?_
  refine lv_ldc2 hx hb hown (hts _ k_8_161) d_9_4_26 ?_
  refine W.eq (g2 := F0 m 29 ls [.long (lI 4), .long (lI ((2 * l1) * (F 7 l0 2)))]) rfl ?_
  refine lv_lload_n hx hb d_9_4_29 rfl (lv_at hl 0 rfl) ?_
  refine zlmul hx hb d_9_4_30 ?_
  refine zladd hx hb d_9_4_31 ?_
  refine lv_ldc2 hx hb hown (hts _ k_8_162) d_9_4_32 ?_
  refine W.eq (g2 := F0 m 35 ls [.long (lI 8), .long (lI (((2 * l1) * (F 7 l0 2)) + (4 * (zmax (B 8 (F 7 l0 0) 0 1) 1))))]) rfl ?_
  refine lv_lload_n hx hb d_9_4_35 rfl (lv_at hl 0 rfl) ?_
  refine zlmul hx hb d_9_4_36 ?_
  obtain ⟨g6, hf⟩ := gif hf
  refine zldv_r hx hb g6 d_9_4_37 ?_
  cases hf
  exact W.lret hx hb hr (fun t ht hW => ⟨⟨_, (), rfl, rfl, by rw [ht]; exact hZ, va_K.moved hW.alike hK⟩, hS.F ht⟩) hS.2.2 d_9_4_38 hlk

noncomputable abbrev Q_ByteRow_putDecimal (K : zK) (D : va_G) (ca : Nat → ClassId) (ad : Nat → Int → Nat → Nat) (L : List Nat) (r : Int) (F : zF) (B : zB) (A : Nat → Prop) : Array Value → State → Outcome → State → Prop := va_Qv (S := Unit) (fun _ => True) (fun _ => zPo D ca ad lnC K.2 L F B A) A
noncomputable def f_ByteRow_putDecimal_65 (K : zK)  (F : zF) (B : zB) : zO := some (0, F, B)
set_option maxHeartbeats 4000000 in
set_option maxRecDepth 100000 in
theorem b_ByteRow_putDecimal_65 {D : va_G} {ca : Nat → ClassId} {ad : Nat → Int → Nat → Nat} {L : List Nat} {aS vS : Nat → Nat} {A : Nat → Prop} {p : Program} {l : Launch} {e : Env} {s : State} {m : MethodId} {args : Array Value} {below : List Frame} {meth : Method} {c : Code} {K : zK} {r : Int} {F9 : zF} {B9 : zB} (X : zX D ca L aS vS A p s m args meth c prog_2_method_6_code 4 (Option.none : Option Jvm.ClassFile.FieldType) "StaveHouse$ByteRow")  {F : zF} {B : zB} {H : Heap} {locs : List Loc} {ls : Array Slot} (hf : f_ByteRow_putDecimal_65 K  F B = some (r, F9, B9)) (hZ : zH D ca ad lnC K.2 L F B A H) (hS : va_S A s.heap H locs) (hl : lv_has ls 4 []) : W p l e ({ frames := 1, cells := 0, slots := 0, locals := 21 } : Room) s m args below meth c H locs 0 0 (MQ below (Q_ByteRow_putDecimal K D ca ad L r F9 B9 A) args s 0 0 A) (F0 m 65 ls []) := by
  obtain ⟨hx, hb, hr, hml, hown, hts, hlk, hK, hA, hL, hX⟩ := id X
  replace hf : (some (0, F, B)) = some (r, F9, B9) := hf
  cases hf
  exact W.vret hx hb hr (fun t ht hW => ⟨⟨(), rfl, trivial, by rw [ht]; exact hZ, va_K.moved hW.alike hK⟩, hS.F ht⟩) hS.2.2 d_2_6_65 hlk

noncomputable def f_ByteRow_putDecimal_31 (K : zK) : Nat → Int → Int → Int → Int → zF → zB → zO
  | 0, _, _, _, _, _, _ => none
  | n + 1, l3, l2, l0, l1, F, B => if r32 l3 then (if 10 ≤ l3 then f_ByteRow_putDecimal_65 K F B else if r32 l2 then (if l2 ≤ 0 then f_ByteRow_putDecimal_65 K F B else if ¬ iI l2 = 0 then if 0 ≤ l0 ∧ l0 < K.2 0 then zbind (f_ByteRow_put K l0 (48 + (zrm (zdv l1 l2) 10)) F B) (fun r12 F12 B12 => f_ByteRow_putDecimal_31 K n (l3 + 1) (zdv l2 10) l0 l1 F12 B12) else none else none) else none) else none
set_option maxHeartbeats 4000000 in
set_option maxRecDepth 100000 in
theorem b_ByteRow_putDecimal_31 {D : va_G} {ca : Nat → ClassId} {ad : Nat → Int → Nat → Nat} {L : List Nat} {aS vS : Nat → Nat} {A : Nat → Prop} {p : Program} {l : Launch} {e : Env} {s : State} {m : MethodId} {args : Array Value} {below : List Frame} {meth : Method} {c : Code} {K : zK} {r : Int} {F9 : zF} {B9 : zB} (X : zX D ca L aS vS A p s m args meth c prog_2_method_6_code 4 (Option.none : Option Jvm.ClassFile.FieldType) "StaveHouse$ByteRow") : ∀ {n : Nat} {l3 : Int} {l2 : Int} {l0 : Int} {l1 : Int} {F : zF} {B : zB} {H : Heap} {locs : List Loc} {ls : Array Slot}, f_ByteRow_putDecimal_31 K n l3 l2 l0 l1 F B = some (r, F9, B9) → zH D ca ad lnC K.2 L F B A H → va_S A s.heap H locs → lv_has ls 4 [(3, .int (iI l3)), (2, .int (iI l2)), (0, .ref (ad 0 l0 0)), (1, .int (iI l1))] → W p l e ({ frames := 1, cells := 0, slots := 0, locals := 21 } : Room) s m args below meth c H locs 0 0 (MQ below (Q_ByteRow_putDecimal K D ca ad L r F9 B9 A) args s 0 0 A) (F0 m 31 ls []) := by
  obtain ⟨hx, hb, hr, hml, hown, hts, hlk, hK, hA, hL, hX⟩ := id X
  intro n
  induction n with
  | zero =>
    intros
    rename_i hf _ _ _
    cases hf
  | succ n ih =>
    intro l3 l2 l0 l1 F B H locs ls hf hZ hS hl
    replace hf : (if r32 l3 then (if 10 ≤ l3 then f_ByteRow_putDecimal_65 K F B else if r32 l2 then (if l2 ≤ 0 then f_ByteRow_putDecimal_65 K F B else if ¬ iI l2 = 0 then if 0 ≤ l0 ∧ l0 < K.2 0 then zbind (f_ByteRow_put K l0 (48 + (zrm (zdv l1 l2) 10)) F B) (fun r12 F12 B12 => f_ByteRow_putDecimal_31 K n (l3 + 1) (zdv l2 10) l0 l1 F12 B12) else none else none) else none) else none) = some (r, F9, B9) := hf
    refine lv_iload_n hx hb d_2_6_31 rfl (lv_at hl 0 rfl) ?_
    refine lv_bipush (v := iI 10) hx hb d_2_6_32 (by decide) ?_
    obtain ⟨g6, hf⟩ := gif hf
    refine zge (tgt := 65) hx hb g6 (by decide) d_2_6_34 (by decide) (fun h7 => ?_) (fun h7 => ?_)
    · replace hf := gpos hf h7
      exact b_ByteRow_putDecimal_65 X hf hZ hS (lv_sub hl [] rfl)
    · replace hf := gneg hf h7
      refine lv_iload_n hx hb d_2_6_37 rfl (lv_at hl 1 rfl) ?_
      obtain ⟨g8, hf⟩ := gif hf
      refine z0le (tgt := 65) hx hb g8 d_2_6_38 (by decide) (fun h9 => ?_) (fun h9 => ?_)
      · replace hf := gpos hf h9
        exact b_ByteRow_putDecimal_65 X hf hZ hS (lv_sub hl [] rfl)
      · replace hf := gneg hf h9
        refine lv_aload_n hx hb d_2_6_41 rfl (lv_at hl 2 rfl) ?_
        refine lv_bipush (v := iI 48) hx hb d_2_6_42 (by decide) ?_
        refine lv_iload_n hx hb d_2_6_44 rfl (lv_at hl 3 rfl) ?_
        refine lv_iload_n hx hb d_2_6_45 rfl (lv_at hl 1 rfl) ?_
        obtain ⟨g10, hf⟩ := gif hf
        refine zdv_r hx hb g10 d_2_6_46 ?_
        refine lv_bipush (v := iI 10) hx hb d_2_6_47 (by decide) ?_
        refine zrm_r hx hb (by decide) d_2_6_49 ?_
        refine zadd hx hb d_2_6_50 ?_
        obtain ⟨g11, hf⟩ := gif hf
        obtain ⟨r12, F12, B12, hc12, hf⟩ := gbind hf
        refine va_callv (va_runV (As := [.int (iI (48 + (zrm (zdv l1 l2) 10)))]) (rest := []) ⟨hx, hb, hml, hown, hts⟩ (c_ByteRow_put (l := l) hc12) (cwV 1 hts (gdV k_7_153 k_2_171 k_2_172 k_1_2 k_2_173) rfl rfl rfl (by decide +kernel) ⟨Nat.le_of_ble_eq_true rfl, Nat.le_of_ble_eq_true rfl⟩) (zPV X hZ hS (ci := 0) g11.1 g11.2 (r := (RX0, TX0, 3)) rfl [.int (iI (48 + (zrm (zdv l1 l2) 10)))]) rfl rfl hl.1 rfl (lv_room (Nat.le_of_ble_eq_true rfl)) d_2_6_51 ⟨Nat.le_of_ble_eq_true rfl, Nat.le_of_ble_eq_true rfl⟩) hS (fun q _ h => zAin X hS q h) (zAin X hS) (fun u12 t12 H12 locs12 ht12 hv12 hw12 hB12 hz12 hk12 hS12 => ?_)
        have hZ12 := zBack X ht12 hB12
        refine lv_iload_n hx hb d_2_6_54 rfl (lv_at hl 1 rfl) ?_
        refine lv_bipush (v := iI 10) hx hb d_2_6_55 (by decide) ?_
        refine zdv_r hx hb (by decide) d_2_6_57 ?_
        refine lv_istore_n (lv' := [(2, .int (iI (zdv l2 10))), (3, .int (iI l3)), (0, .ref (ad 0 l0 0)), (1, .int (iI l1))]) hx hb d_2_6_58 rfl hl (by decide) rfl (fun ls hl => ?_)
        refine lv_iinc (v := iI (l3 + 1)) (lv' := [(3, .int (iI (l3 + 1))), (2, .int (iI (zdv l2 10))), (0, .ref (ad 0 l0 0)), (1, .int (iI l1))]) hx hb d_2_6_59 hl (k := 1) rfl (iI_add _ 1) (by decide) rfl (fun ls hl => ?_)
        refine lv_goto (tgt := 31) hx hb d_2_6_62 (by decide) ?_
        exact ih hf hZ12 hS12 (lv_sub hl [0, 1, 2, 3] rfl)

noncomputable def f_ByteRow_putDecimal_29 (K : zK) (l2 : Int) (l0 : Int) (l1 : Int) (F : zF) (B : zB) : zO := f_ByteRow_putDecimal_31 K K.1 0 l2 l0 l1 F B
set_option maxHeartbeats 4000000 in
set_option maxRecDepth 100000 in
theorem b_ByteRow_putDecimal_29 {D : va_G} {ca : Nat → ClassId} {ad : Nat → Int → Nat → Nat} {L : List Nat} {aS vS : Nat → Nat} {A : Nat → Prop} {p : Program} {l : Launch} {e : Env} {s : State} {m : MethodId} {args : Array Value} {below : List Frame} {meth : Method} {c : Code} {K : zK} {r : Int} {F9 : zF} {B9 : zB} (X : zX D ca L aS vS A p s m args meth c prog_2_method_6_code 4 (Option.none : Option Jvm.ClassFile.FieldType) "StaveHouse$ByteRow") {l2 : Int} {l0 : Int} {l1 : Int} {F : zF} {B : zB} {H : Heap} {locs : List Loc} {ls : Array Slot} (hf : f_ByteRow_putDecimal_29 K l2 l0 l1 F B = some (r, F9, B9)) (hZ : zH D ca ad lnC K.2 L F B A H) (hS : va_S A s.heap H locs) (hl : lv_has ls 4 [(2, .int (iI l2)), (0, .ref (ad 0 l0 0)), (1, .int (iI l1))]) : W p l e ({ frames := 1, cells := 0, slots := 0, locals := 21 } : Room) s m args below meth c H locs 0 0 (MQ below (Q_ByteRow_putDecimal K D ca ad L r F9 B9 A) args s 0 0 A) (F0 m 29 ls []) := by
  obtain ⟨hx, hb, hr, hml, hown, hts, hlk, hK, hA, hL, hX⟩ := id X
  replace hf : (f_ByteRow_putDecimal_31 K K.1 0 l2 l0 l1 F B) = some (r, F9, B9) := hf
  refine lv_iconst (v := iI 0) hx hb d_2_6_29 rfl ?_
  refine lv_istore_n (lv' := [(3, .int (iI 0)), (2, .int (iI l2)), (0, .ref (ad 0 l0 0)), (1, .int (iI l1))]) hx hb d_2_6_30 rfl hl (by decide) rfl (fun ls hl => ?_)
  exact b_ByteRow_putDecimal_31 X hf hZ hS (lv_sub hl [0, 1, 2, 3] rfl)

noncomputable def f_ByteRow_putDecimal_4 (K : zK) : Nat → Int → Int → Int → Int → zF → zB → zO
  | 0, _, _, _, _, _, _ => none
  | n + 1, l3, l2, l0, l1, F, B => if r32 l3 then (if 9 ≤ l3 then f_ByteRow_putDecimal_29 K l2 l0 l1 F B else if ¬ iI l2 = 0 then if r32 (zdv l1 l2) then (if (zdv l1 l2) < 10 then f_ByteRow_putDecimal_29 K l2 l0 l1 F B else f_ByteRow_putDecimal_4 K n (l3 + 1) (l2 * 10) l0 l1 F B) else none else none) else none
set_option maxHeartbeats 4000000 in
set_option maxRecDepth 100000 in
theorem b_ByteRow_putDecimal_4 {D : va_G} {ca : Nat → ClassId} {ad : Nat → Int → Nat → Nat} {L : List Nat} {aS vS : Nat → Nat} {A : Nat → Prop} {p : Program} {l : Launch} {e : Env} {s : State} {m : MethodId} {args : Array Value} {below : List Frame} {meth : Method} {c : Code} {K : zK} {r : Int} {F9 : zF} {B9 : zB} (X : zX D ca L aS vS A p s m args meth c prog_2_method_6_code 4 (Option.none : Option Jvm.ClassFile.FieldType) "StaveHouse$ByteRow") : ∀ {n : Nat} {l3 : Int} {l2 : Int} {l0 : Int} {l1 : Int} {F : zF} {B : zB} {H : Heap} {locs : List Loc} {ls : Array Slot}, f_ByteRow_putDecimal_4 K n l3 l2 l0 l1 F B = some (r, F9, B9) → zH D ca ad lnC K.2 L F B A H → va_S A s.heap H locs → lv_has ls 4 [(3, .int (iI l3)), (2, .int (iI l2)), (0, .ref (ad 0 l0 0)), (1, .int (iI l1))] → W p l e ({ frames := 1, cells := 0, slots := 0, locals := 21 } : Room) s m args below meth c H locs 0 0 (MQ below (Q_ByteRow_putDecimal K D ca ad L r F9 B9 A) args s 0 0 A) (F0 m 4 ls []) := by
  obtain ⟨hx, hb, hr, hml, hown, hts, hlk, hK, hA, hL, hX⟩ := id X
  intro n
  induction n with
  | zero =>
    intros
    rename_i hf _ _ _
    cases hf
  | succ n ih =>
    intro l3 l2 l0 l1 F B H locs ls hf hZ hS hl
    replace hf : (if r32 l3 then (if 9 ≤ l3 then f_ByteRow_putDecimal_29 K l2 l0 l1 F B else if ¬ iI l2 = 0 then if r32 (zdv l1 l2) then (if (zdv l1 l2) < 10 then f_ByteRow_putDecimal_29 K l2 l0 l1 F B else f_ByteRow_putDecimal_4 K n (l3 + 1) (l2 * 10) l0 l1 F B) else none else none) else none) = some (r, F9, B9) := hf
    refine lv_iload_n hx hb d_2_6_4 rfl (lv_at hl 0 rfl) ?_
    refine lv_bipush (v := iI 9) hx hb d_2_6_5 (by decide) ?_
    obtain ⟨g1, hf⟩ := gif hf
    refine zge (tgt := 29) hx hb g1 (by decide) d_2_6_7 (by decide) (fun h2 => ?_) (fun h2 => ?_)
    · replace hf := gpos hf h2
      exact b_ByteRow_putDecimal_29 X hf hZ hS (lv_sub hl [1, 2, 3] rfl)
    · replace hf := gneg hf h2
      refine lv_iload_n hx hb d_2_6_10 rfl (lv_at hl 3 rfl) ?_
      refine lv_iload_n hx hb d_2_6_11 rfl (lv_at hl 1 rfl) ?_
      obtain ⟨g3, hf⟩ := gif hf
      refine zdv_r hx hb g3 d_2_6_12 ?_
      refine lv_bipush (v := iI 10) hx hb d_2_6_13 (by decide) ?_
      obtain ⟨g4, hf⟩ := gif hf
      refine zlt (tgt := 29) hx hb g4 (by decide) d_2_6_15 (by decide) (fun h5 => ?_) (fun h5 => ?_)
      · replace hf := gpos hf h5
        exact b_ByteRow_putDecimal_29 X hf hZ hS (lv_sub hl [1, 2, 3] rfl)
      · replace hf := gneg hf h5
        refine lv_iload_n hx hb d_2_6_18 rfl (lv_at hl 1 rfl) ?_
        refine lv_bipush (v := iI 10) hx hb d_2_6_19 (by decide) ?_
        refine zmul hx hb d_2_6_21 ?_
        refine lv_istore_n (lv' := [(2, .int (iI (l2 * 10))), (3, .int (iI l3)), (0, .ref (ad 0 l0 0)), (1, .int (iI l1))]) hx hb d_2_6_22 rfl hl (by decide) rfl (fun ls hl => ?_)
        refine lv_iinc (v := iI (l3 + 1)) (lv' := [(3, .int (iI (l3 + 1))), (2, .int (iI (l2 * 10))), (0, .ref (ad 0 l0 0)), (1, .int (iI l1))]) hx hb d_2_6_23 hl (k := 1) rfl (iI_add _ 1) (by decide) rfl (fun ls hl => ?_)
        refine lv_goto (tgt := 4) hx hb d_2_6_26 (by decide) ?_
        exact ih hf hZ hS (lv_sub hl [0, 1, 2, 3] rfl)

noncomputable def f_ByteRow_putDecimal (K : zK) (l0 : Int) (l1 : Int) (F : zF) (B : zB) : zO := f_ByteRow_putDecimal_4 K K.1 0 1 l0 l1 F B
set_option maxHeartbeats 4000000 in
set_option maxRecDepth 100000 in
theorem c_ByteRow_putDecimal {l : Launch} {D : va_G} {ca : Nat → ClassId} {ad : Nat → Int → Nat → Nat} {L : List Nat} {aS vS : Nat → Nat} {sz : Nat} {K : zK}  {l0 : Int} {l1 : Int} {F F9 : zF} {B B9 : zB} {r : Int} (hf : f_ByteRow_putDecimal K l0 l1 F B = some (r, F9, B9)) : Met l ({ cls := "StaveHouse$ByteRow", name := "putDecimal", desc := "(I)V" } : Jvm.MethodName) (Cond.code ({ cls := "StaveHouse$ByteRow", name := "putDecimal", desc := "(I)V" } : Jvm.MethodName) prog_2_method_6_code 4 (Option.none : Option Jvm.ClassFile.FieldType) :: wAll) ({ frames := 1, cells := 0, slots := 0, locals := 21 } : Room) (va_Pc [.ref (ad 0 l0 0), .int (iI l1)] (zPre D ca ad lnC K.2 L aS vS F B sz)) (Q_ByteRow_putDecimal K D ca ad L r F9 B9 (zA L sz)) 0 0 (zA L sz) := by
  refine zMet (Qc := Q_ByteRow_putDecimal K D ca ad L r F9 B9) (lv := [(0, .ref (ad 0 l0 0)), (1, .int (iI l1))]) (by decide) (Nat.le_of_ble_eq_true rfl) rfl (fun A p e s m below meth c ls X hZ hS hl => ?_)
  obtain ⟨hx, hb, hr, hml, hown, hts, hlk, hK, hA, hL, hX⟩ := id X
  replace hf : (f_ByteRow_putDecimal_4 K K.1 0 1 l0 l1 F B) = some (r, F9, B9) := hf
  refine lv_iconst (v := iI 1) hx hb d_2_6_0 rfl ?_
  refine lv_istore_n (lv' := [(2, .int (iI 1)), (0, .ref (ad 0 l0 0)), (1, .int (iI l1))]) hx hb d_2_6_1 rfl hl (by decide) rfl (fun ls hl => ?_)
  refine lv_iconst (v := iI 0) hx hb d_2_6_2 rfl ?_
  refine lv_istore_n (lv' := [(3, .int (iI 0)), (2, .int (iI 1)), (0, .ref (ad 0 l0 0)), (1, .int (iI l1))]) hx hb d_2_6_3 rfl hl (by decide) rfl (fun ls hl => ?_)
  exact b_ByteRow_putDecimal_4 X hf hZ hS (lv_sub hl [0, 1, 2, 3] rfl)

noncomputable abbrev Q_Scribe_spell (K : zK) (D : va_G) (ca : Nat → ClassId) (ad : Nat → Int → Nat → Nat) (L : List Nat) (r : Int) (F : zF) (B : zB) (A : Nat → Prop) : Array Value → State → Outcome → State → Prop := va_Qv (S := Unit) (fun _ => True) (fun _ => zPo D ca ad lnC K.2 L F B A) A
noncomputable def f_Scribe_spell_96 (K : zK)  (F : zF) (B : zB) : zO := some (0, F, B)
set_option maxHeartbeats 4000000 in
set_option maxRecDepth 100000 in
theorem b_Scribe_spell_96 {D : va_G} {ca : Nat → ClassId} {ad : Nat → Int → Nat → Nat} {L : List Nat} {aS vS : Nat → Nat} {A : Nat → Prop} {p : Program} {l : Launch} {e : Env} {s : State} {m : MethodId} {args : Array Value} {below : List Frame} {meth : Method} {c : Code} {K : zK} {r : Int} {F9 : zF} {B9 : zB} (X : zX D ca L aS vS A p s m args meth c prog_9_method_8_code 7 (Option.none : Option Jvm.ClassFile.FieldType) "StaveHouse$Scribe")  {F : zF} {B : zB} {H : Heap} {locs : List Loc} {ls : Array Slot} (hf : f_Scribe_spell_96 K  F B = some (r, F9, B9)) (hZ : zH D ca ad lnC K.2 L F B A H) (hS : va_S A s.heap H locs) (hl : lv_has ls 7 []) : W p l e ({ frames := 1, cells := 0, slots := 0, locals := 24 } : Room) s m args below meth c H locs 0 0 (MQ below (Q_Scribe_spell K D ca ad L r F9 B9 A) args s 0 0 A) (F0 m 96 ls []) := by
  obtain ⟨hx, hb, hr, hml, hown, hts, hlk, hK, hA, hL, hX⟩ := id X
  replace hf : (some (0, F, B)) = some (r, F9, B9) := hf
  cases hf
  exact W.vret hx hb hr (fun t ht hW => ⟨⟨(), rfl, trivial, by rw [ht]; exact hZ, va_K.moved hW.alike hK⟩, hS.F ht⟩) hS.2.2 d_9_8_96 hlk

noncomputable def f_Scribe_spell (K : zK) (l0 : Int) (l1 : Int) (F : zF) (B : zB) : zO := if 0 ≤ l0 ∧ l0 < K.2 7 then if 0 ≤ (F 7 l0 0) ∧ (F 7 l0 0) < K.2 8 then zbind (f_Math_floorMod K ((7 * l1) - ((B 8 (F 7 l0 0) 0 2) - 5)) 12 F B) (fun r3 F3 B3 => zbind (f_Math_floorMod K (4 * (((B 8 (F 7 l0 0) 0 2) - 5) + r3)) 7 F3 B3) (fun r4 F4 B4 => zbind (f_Math_floorDiv K ((((B 8 (F 7 l0 0) 0 2) - 5) + r3) + 1) 7 F4 B4) (fun r5 F5 B5 => if 0 ≤ r4 ∧ r4 < ztl 5 then zbind (f_Math_floorDiv K ((l1 - (ztv 5 r4)) - r5) 12 F5 B5) (fun r7 F7 B7 => if r32 (r7 - 1) then (if (r7 - 1) < 0 then f_Scribe_spell_96 K F7 B7 else (if 8 < (r7 - 1) then f_Scribe_spell_96 K F7 B7 else if 0 ≤ (F7 7 l0 4) ∧ (F7 7 l0 4) < K.2 1 then zbind (f_Event_insert K (F7 7 l0 4) ((7 * (r7 - 1)) + r4) r5 F7 B7) (fun r12 F12 B12 => f_Scribe_spell_96 K F12 B12) else none)) else none) else none))) else none else none
set_option maxHeartbeats 4000000 in
set_option maxRecDepth 100000 in
theorem c_Scribe_spell {l : Launch} {D : va_G} {ca : Nat → ClassId} {ad : Nat → Int → Nat → Nat} {L : List Nat} {aS vS : Nat → Nat} {sz : Nat} {K : zK}  {l0 : Int} {l1 : Int} {F F9 : zF} {B B9 : zB} {r : Int} (hf : f_Scribe_spell K l0 l1 F B = some (r, F9, B9)) : Met l ({ cls := "StaveHouse$Scribe", name := "spell", desc := "(I)V" } : Jvm.MethodName) (Cond.code ({ cls := "StaveHouse$Scribe", name := "spell", desc := "(I)V" } : Jvm.MethodName) prog_9_method_8_code 7 (Option.none : Option Jvm.ClassFile.FieldType) :: wAll) ({ frames := 1, cells := 0, slots := 0, locals := 24 } : Room) (va_Pc [.ref (ad 7 l0 0), .int (iI l1)] (zPre D ca ad lnC K.2 L aS vS F B sz)) (Q_Scribe_spell K D ca ad L r F9 B9 (zA L sz)) 0 0 (zA L sz) := by
  refine zMet (Qc := Q_Scribe_spell K D ca ad L r F9 B9) (lv := [(0, .ref (ad 7 l0 0)), (1, .int (iI l1))]) (by decide) (Nat.le_of_ble_eq_true rfl) rfl (fun A p e s m below meth c ls X hZ hS hl => ?_)
  obtain ⟨hx, hb, hr, hml, hown, hts, hlk, hK, hA, hL, hX⟩ := id X
  replace hf : (if 0 ≤ l0 ∧ l0 < K.2 7 then if 0 ≤ (F 7 l0 0) ∧ (F 7 l0 0) < K.2 8 then zbind (f_Math_floorMod K ((7 * l1) - ((B 8 (F 7 l0 0) 0 2) - 5)) 12 F B) (fun r3 F3 B3 => zbind (f_Math_floorMod K (4 * (((B 8 (F 7 l0 0) 0 2) - 5) + r3)) 7 F3 B3) (fun r4 F4 B4 => zbind (f_Math_floorDiv K ((((B 8 (F 7 l0 0) 0 2) - 5) + r3) + 1) 7 F4 B4) (fun r5 F5 B5 => if 0 ≤ r4 ∧ r4 < ztl 5 then zbind (f_Math_floorDiv K ((l1 - (ztv 5 r4)) - r5) 12 F5 B5) (fun r7 F7 B7 => if r32 (r7 - 1) then (if (r7 - 1) < 0 then f_Scribe_spell_96 K F7 B7 else (if 8 < (r7 - 1) then f_Scribe_spell_96 K F7 B7 else if 0 ≤ (F7 7 l0 4) ∧ (F7 7 l0 4) < K.2 1 then zbind (f_Event_insert K (F7 7 l0 4) ((7 * (r7 - 1)) + r4) r5 F7 B7) (fun r12 F12 B12 => f_Scribe_spell_96 K F12 B12) else none)) else none) else none))) else none else none) = some (r, F9, B9) := hf
  refine lv_aload_n hx hb d_9_8_0 rfl (lv_at hl 0 rfl) ?_
  obtain ⟨g1, hf⟩ := gif hf
  refine zget (ci := 7) (C := RX7) (T := TX7) (v := va_rf (zrf ad 8 (F 7 l0 0))) (k := 0) hx hb hts inW_7 hown hK hZ g1.1 g1.2 rfl (by decide) k_2_98 rfl d_9_8_1 ?_
  obtain ⟨g2, hf⟩ := gif hf
  refine zunrf g2.1 ?_
  refine zget (ci := 8) (C := RX8) (T := TX8) (v := .ref (ad 8 (F 7 l0 0) (0 + 1))) (k := 0) hx hb hts inW_8 hown hK hZ g2.1 g2.2 rfl (by decide) k_7_218 rfl d_9_8_4 ?_
  refine lv_iconst (v := iI 2) hx hb d_9_8_7 rfl ?_
  refine zald (ci := 8) (k := 0) hx hb hK rfl hZ g2.1 g2.2 rfl (Nat.le_of_ble_eq_true rfl) (by decide) (show (2 : Int) < 7 by decide) d_9_8_8 ?_
  refine lv_iconst (v := iI 5) hx hb d_9_8_9 rfl ?_
  refine zsub hx hb d_9_8_10 ?_
  refine lv_istore_n (lv' := [(2, .int (iI ((B 8 (F 7 l0 0) 0 2) - 5))), (0, .ref (ad 7 l0 0)), (1, .int (iI l1))]) hx hb d_9_8_11 rfl hl (by decide) rfl (fun ls hl => ?_)
  refine lv_iload_n hx hb d_9_8_12 rfl (lv_at hl 0 rfl) ?_
  refine lv_bipush (v := iI 7) hx hb d_9_8_13 (by decide) ?_
  refine lv_iload_n hx hb d_9_8_15 rfl (lv_at hl 2 rfl) ?_
  refine zmul hx hb d_9_8_16 ?_
  refine lv_iload_n hx hb d_9_8_17 rfl (lv_at hl 0 rfl) ?_
  refine zsub hx hb d_9_8_18 ?_
  refine lv_bipush (v := iI 12) hx hb d_9_8_19 (by decide) ?_
  obtain ⟨r3, F3, B3, hc3, hf⟩ := gbind hf
  refine va_calli (va_runS (As := [.int (iI ((7 * l1) - ((B 8 (F 7 l0 0) 0 2) - 5))), .int (iI 12)]) (rest := [.int (iI ((B 8 (F 7 l0 0) 0 2) - 5))]) ⟨hx, hb, hml, hown, hts⟩ (c_Math_floorMod (l := l) hc3) (va_cwS 2 hts (gdS k_8_216 k_4_71 k_1_3 k_4_72) rfl rfl rfl (by decide +kernel) ⟨Nat.le_of_ble_eq_true rfl, Nat.le_of_ble_eq_true rfl⟩) (zPS X hZ hS [.int (iI ((7 * l1) - ((B 8 (F 7 l0 0) 0 2) - 5))), .int (iI 12)]) rfl rfl hl.1 rfl (lv_room (Nat.le_of_ble_eq_true rfl)) d_9_8_21 ⟨Nat.le_of_ble_eq_true rfl, Nat.le_of_ble_eq_true rfl⟩) hS (fun q _ h => zAin X hS q h) (zAin X hS) (fun p3 u3 t3 H3 locs3 ht3 hv3 hw3 hB3 hz3 hk3 hS3 => ?_)
  have hZ3 := zBack X ht3 hB3
  subst hw3
  refine zadd hx hb d_9_8_24 ?_
  refine lv_istore_n (lv' := [(3, .int (iI (((B 8 (F 7 l0 0) 0 2) - 5) + r3))), (2, .int (iI ((B 8 (F 7 l0 0) 0 2) - 5))), (0, .ref (ad 7 l0 0)), (1, .int (iI l1))]) hx hb d_9_8_25 rfl hl (by decide) rfl (fun ls hl => ?_)
  refine lv_iconst (v := iI 4) hx hb d_9_8_26 rfl ?_
  refine lv_iload_n hx hb d_9_8_27 rfl (lv_at hl 0 rfl) ?_
  refine zmul hx hb d_9_8_28 ?_
  refine lv_bipush (v := iI 7) hx hb d_9_8_29 (by decide) ?_
  obtain ⟨r4, F4, B4, hc4, hf⟩ := gbind hf
  refine va_calli (va_runS (As := [.int (iI (4 * (((B 8 (F 7 l0 0) 0 2) - 5) + r3))), .int (iI 7)]) (rest := []) ⟨hx, hb, hml, hown, hts⟩ (c_Math_floorMod (l := l) hc4) (va_cwS 2 hts (gdS k_8_216 k_4_71 k_1_3 k_4_72) rfl rfl rfl (by decide +kernel) ⟨Nat.le_of_ble_eq_true rfl, Nat.le_of_ble_eq_true rfl⟩) (zPS X hZ3 hS3 [.int (iI (4 * (((B 8 (F 7 l0 0) 0 2) - 5) + r3))), .int (iI 7)]) rfl rfl hl.1 rfl (lv_room (Nat.le_of_ble_eq_true rfl)) d_9_8_31 ⟨Nat.le_of_ble_eq_true rfl, Nat.le_of_ble_eq_true rfl⟩) hS3 (fun q _ h => zAin X hS3 q h) (zAin X hS3) (fun p4 u4 t4 H4 locs4 ht4 hv4 hw4 hB4 hz4 hk4 hS4 => ?_)
  have hZ4 := zBack X ht4 hB4
  subst hw4
  refine lv_istore (lv' := [(4, .int (iI r4)), (3, .int (iI (((B 8 (F 7 l0 0) 0 2) - 5) + r3))), (2, .int (iI ((B 8 (F 7 l0 0) 0 2) - 5))), (0, .ref (ad 7 l0 0)), (1, .int (iI l1))]) hx hb d_9_8_34 hl (by decide) rfl (fun ls hl => ?_)
  refine lv_iload_n hx hb d_9_8_36 rfl (lv_at hl 1 rfl) ?_
  refine lv_iconst (v := iI 1) hx hb d_9_8_37 rfl ?_
  refine zadd hx hb d_9_8_38 ?_
  refine lv_bipush (v := iI 7) hx hb d_9_8_39 (by decide) ?_
  obtain ⟨r5, F5, B5, hc5, hf⟩ := gbind hf
  refine va_calli (va_runS (As := [.int (iI ((((B 8 (F 7 l0 0) 0 2) - 5) + r3) + 1)), .int (iI 7)]) (rest := []) ⟨hx, hb, hml, hown, hts⟩ (c_Math_floorDiv (l := l) hc5) (va_cwS 2 hts (gdS k_8_230 k_4_66 k_1_3 k_4_67) rfl rfl rfl (by decide +kernel) ⟨Nat.le_of_ble_eq_true rfl, Nat.le_of_ble_eq_true rfl⟩) (zPS X hZ4 hS4 [.int (iI ((((B 8 (F 7 l0 0) 0 2) - 5) + r3) + 1)), .int (iI 7)]) rfl rfl hl.1 rfl (lv_room (Nat.le_of_ble_eq_true rfl)) d_9_8_41 ⟨Nat.le_of_ble_eq_true rfl, Nat.le_of_ble_eq_true rfl⟩) hS4 (fun q _ h => zAin X hS4 q h) (zAin X hS4) (fun p5 u5 t5 H5 locs5 ht5 hv5 hw5 hB5 hz5 hk5 hS5 => ?_)
  have hZ5 := zBack X ht5 hB5
  subst hw5
  refine lv_istore (lv' := [(5, .int (iI r5)), (4, .int (iI r4)), (3, .int (iI (((B 8 (F 7 l0 0) 0 2) - 5) + r3))), (2, .int (iI ((B 8 (F 7 l0 0) 0 2) - 5))), (0, .ref (ad 7 l0 0)), (1, .int (iI l1))]) hx hb d_9_8_44 hl (by decide) rfl (fun ls hl => ?_)
  refine lv_iload_n hx hb d_9_8_46 rfl (lv_at hl 5 rfl) ?_
  refine va_getsN hx hb (hX.2.2.2.2.2.2 5 _ rfl).1 hS5 hown (va_Nw.use rfl (hX.2.2.2.2.2.1.2 _ (List.mem_of_getElem? (i := 1) rfl))) (fun _ h => h) d_9_8_47 ?_
  refine W.eq (g2 := F0 m 50 ls [.ref (vS (1000 + 5)), .int (iI l1)]) rfl ?_
  refine lv_iload hx hb d_9_8_50 (lv_at hl 1 rfl) ?_
  obtain ⟨g6, hf⟩ := gif hf
  refine va_ti (v := .int (iI (ztv 5 r4))) hx hb (ztI hX (by decide) (by decide)) hS5 (zt_in (by decide) g6) (ztI_v (by decide) g6) d_9_8_52 ?_
  refine zsub hx hb d_9_8_53 ?_
  refine lv_iload hx hb d_9_8_54 (lv_at hl 0 rfl) ?_
  refine zsub hx hb d_9_8_56 ?_
  refine lv_bipush (v := iI 12) hx hb d_9_8_57 (by decide) ?_
  obtain ⟨r7, F7, B7, hc7, hf⟩ := gbind hf
  refine va_calli (va_runS (As := [.int (iI ((l1 - (ztv 5 r4)) - r5)), .int (iI 12)]) (rest := []) ⟨hx, hb, hml, hown, hts⟩ (c_Math_floorDiv (l := l) hc7) (va_cwS 2 hts (gdS k_8_230 k_4_66 k_1_3 k_4_67) rfl rfl rfl (by decide +kernel) ⟨Nat.le_of_ble_eq_true rfl, Nat.le_of_ble_eq_true rfl⟩) (zPS X hZ5 hS5 [.int (iI ((l1 - (ztv 5 r4)) - r5)), .int (iI 12)]) rfl rfl hl.1 rfl (lv_room (Nat.le_of_ble_eq_true rfl)) d_9_8_59 ⟨Nat.le_of_ble_eq_true rfl, Nat.le_of_ble_eq_true rfl⟩) hS5 (fun q _ h => zAin X hS5 q h) (zAin X hS5) (fun p7 u7 t7 H7 locs7 ht7 hv7 hw7 hB7 hz7 hk7 hS7 => ?_)
  have hZ7 := zBack X ht7 hB7
  subst hw7
  refine lv_iconst (v := iI 1) hx hb d_9_8_62 rfl ?_
  refine zsub hx hb d_9_8_63 ?_
  refine lv_istore (lv' := [(6, .int (iI (r7 - 1))), (5, .int (iI r5)), (4, .int (iI r4)), (3, .int (iI (((B 8 (F 7 l0 0) 0 2) - 5) + r3))), (2, .int (iI ((B 8 (F 7 l0 0) 0 2) - 5))), (0, .ref (ad 7 l0 0)), (1, .int (iI l1))]) hx hb d_9_8_64 hl (by decide) rfl (fun ls hl => ?_)
  refine lv_iload hx hb d_9_8_66 (lv_at hl 0 rfl) ?_
  obtain ⟨g8, hf⟩ := gif hf
  refine z0lt (tgt := 96) hx hb g8 d_9_8_68 (by decide) (fun h9 => ?_) (fun h9 => ?_)
  · replace hf := gpos hf h9
    exact b_Scribe_spell_96 X hf hZ7 hS7 (lv_sub hl [] rfl)
  · replace hf := gneg hf h9
    refine lv_iload hx hb d_9_8_71 (lv_at hl 0 rfl) ?_
    refine lv_bipush (v := iI 8) hx hb d_9_8_73 (by decide) ?_
    refine zgt (tgt := 96) hx hb g8 (by decide) d_9_8_75 (by decide) (fun h10 => ?_) (fun h10 => ?_)
    · replace hf := gpos hf h10
      exact b_Scribe_spell_96 X hf hZ7 hS7 (lv_sub hl [] rfl)
    · replace hf := gneg hf h10
      refine lv_aload_n hx hb d_9_8_78 rfl (lv_at hl 5 rfl) ?_
      refine zget (ci := 7) (C := RX7) (T := TX7) (v := va_rf (zrf ad 1 (F7 7 l0 4))) (k := 4) hx hb hts inW_7 hown hK hZ7 g1.1 g1.2 rfl (by decide) k_2_102 rfl d_9_8_79 ?_
      refine lv_bipush (v := iI 7) hx hb d_9_8_82 (by decide) ?_
      refine lv_iload hx hb d_9_8_84 (lv_at hl 0 rfl) ?_
      refine zmul hx hb d_9_8_86 ?_
      refine lv_iload hx hb d_9_8_87 (lv_at hl 2 rfl) ?_
      refine zadd hx hb d_9_8_89 ?_
      refine lv_iload hx hb d_9_8_90 (lv_at hl 1 rfl) ?_
      obtain ⟨g11, hf⟩ := gif hf
      refine W.eq (g2 := F0 m 92 ls [.int (iI r5), .int (iI ((7 * (r7 - 1)) + r4)), .ref (ad 1 (F7 7 l0 4) 0)]) (by rw [zrf_pos (ad := ad) (t := 1) g11.1]; try rfl) ?_
      obtain ⟨r12, F12, B12, hc12, hf⟩ := gbind hf
      refine va_calli (va_runV (As := [.int (iI ((7 * (r7 - 1)) + r4)), .int (iI r5)]) (rest := []) ⟨hx, hb, hml, hown, hts⟩ (c_Event_insert (l := l) hc12) (cwV 2 hts (gdV k_8_232 k_4_232 k_4_233 k_1_8 k_4_234) rfl rfl rfl (by decide +kernel) ⟨Nat.le_of_ble_eq_true rfl, Nat.le_of_ble_eq_true rfl⟩) (zPV X hZ7 hS7 (ci := 1) g11.1 g11.2 (r := (RX1, TX1, 14)) rfl [.int (iI ((7 * (r7 - 1)) + r4)), .int (iI r5)]) rfl rfl hl.1 rfl (lv_room (Nat.le_of_ble_eq_true rfl)) d_9_8_92 ⟨Nat.le_of_ble_eq_true rfl, Nat.le_of_ble_eq_true rfl⟩) hS7 (fun q _ h => zAin X hS7 q h) (zAin X hS7) (fun p12 u12 t12 H12 locs12 ht12 hv12 hw12 hB12 hz12 hk12 hS12 => ?_)
      have hZ12 := zBack X ht12 hB12
      subst hw12
      refine lv_pop hx hb d_9_8_95 rfl ?_
      exact b_Scribe_spell_96 X hf hZ12 hS12 (lv_sub hl [] rfl)


