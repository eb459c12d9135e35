set_option maxHeartbeats 4000000 in
set_option maxRecDepth 100000 in
theorem b_Layout_choose_41 {D : va_G} {ca : Nat → ClassId} {ad : Nat → Int → Nat → Nat} {L : List Nat} {aS vS : Nat → Nat} {A : Nat → Prop} {p : Program} {l : Launch} {e : Env} {s : State} {m : MethodId} {args : Array Value} {below : List Frame} {meth : Method} {c : Code} {K : zK} {r : Int} {F9 : zF} {B9 : zB} (X : zX D ca L aS vS A p s m args meth c prog_4_method_10_code 9 (Option.none : Option Jvm.ClassFile.FieldType) "StaveHouse$Layout") {rec12 : Int → Int → Int → Int → Int → zF → zB → zO} (hrec12 : ∀ {l4 : Int} {l0 : Int} {l1 : Int} {l2 : Int} {l3 : Int} {F : zF} {B : zB} {H : Heap} {locs : List Loc} {ls : Array Slot}, rec12 l4 l0 l1 l2 l3 F B = some (r, F9, B9) → zH D ca ad lnC K.2 L F B A H → va_S A s.heap H locs → lv_has ls 9 [(4, .int (iI l4)), (0, .ref (ad 2 l0 0)), (1, .ref (ad 6 l1 0)), (2, .int (iI l2)), (3, .int (iI l3))] → W p l e ({ frames := 2, cells := 0, slots := 0, locals := 36 } : Room) s m args below meth c H locs 0 0 (MQ below (Q_Layout_choose K D ca ad L r F9 B9 A) args s 0 0 A) (F0 m 12 ls [])) : ∀ {n : Nat} {l6 : Int} {l5 : Int} {l4 : Int} {l0 : Int} {l1 : Int} {l2 : Int} {l3 : Int} {F : zF} {B : zB} {H : Heap} {locs : List Loc} {ls : Array Slot}, f_Layout_choose_41 rec12 K n l6 l5 l4 l0 l1 l2 l3 F B = some (r, F9, B9) → zH D ca ad lnC K.2 L F B A H → va_S A s.heap H locs → lv_has ls 9 [(6, .int (iI l6)), (5, .int (iI l5)), (4, .int (iI l4)), (0, .ref (ad 2 l0 0)), (1, .ref (ad 6 l1 0)), (2, .int (iI l2)), (3, .int (iI l3))] → W p l e ({ frames := 2, cells := 0, slots := 0, locals := 36 } : Room) s m args below meth c H locs 0 0 (MQ below (Q_Layout_choose K D ca ad L r F9 B9 A) args s 0 0 A) (F0 m 41 ls []) := by
  obtain ⟨hx, hb, hr, hml, hown, hts, hlk, hK, hA, hL, hX⟩ := id X
  intro n
  induction n with
  | zero =>
    intros
    rename_i hf _ _ _
    cases hf
  | succ n ih =>
    intro l6 l5 l4 l0 l1 l2 l3 F B H locs ls hf hZ hS hl
    replace hf : (if r32 l6 then if r32 l2 then (if l2 < l6 then f_Layout_choose_145 rec12 K l4 l0 l1 l2 l3 F B else if 0 ≤ l0 ∧ l0 < K.2 2 then if 0 ≤ (l6 - 1) ∧ (l6 - 1) < 100 then if r32 (l5 + (B 2 l0 6 (l6 - 1))) then if r32 l3 then (if (l5 + (B 2 l0 6 (l6 - 1))) ≤ l3 then f_Layout_choose_79 rec12 (f_Layout_choose_41 rec12 K n) K (l5 + (B 2 l0 6 (l6 - 1))) l6 l4 l0 l1 l2 l3 F B else if r32 (l4 + 1) then (if l6 ≤ (l4 + 1) then f_Layout_choose_79 rec12 (f_Layout_choose_41 rec12 K n) K (l5 + (B 2 l0 6 (l6 - 1))) l6 l4 l0 l1 l2 l3 F B else f_Layout_choose_145 rec12 K l4 l0 l1 l2 l3 F B) else none) else none else none else none else none) else none else none) = some (r, F9, B9) := hf
    refine lv_iload hx hb d_4_10_41 (lv_at hl 0 rfl) ?_
    refine lv_iload_n hx hb d_4_10_43 rfl (lv_at hl 5 rfl) ?_
    obtain ⟨g10, hf⟩ := gif hf
    obtain ⟨g11, hf⟩ := gif hf
    refine zgt (tgt := 145) hx hb g10 g11 d_4_10_44 (by decide) (fun h12 => ?_) (fun h12 => ?_)
    · replace hf := gpos hf h12
      exact b_Layout_choose_145 X hrec12 hf hZ hS (lv_sub hl [2, 3, 4, 5, 6] rfl)
    · replace hf := gneg hf h12
      refine lv_iload hx hb d_4_10_47 (lv_at hl 1 rfl) ?_
      refine lv_aload_n hx hb d_4_10_49 rfl (lv_at hl 3 rfl) ?_
      obtain ⟨g13, hf⟩ := gif hf
      refine zget (ci := 2) (C := RX2) (T := TX2) (v := .ref (ad 2 l0 (6 + 1))) (k := 6) hx hb hts inW_2 hown hK hZ g13.1 g13.2 rfl (by decide) k_6_223 rfl d_4_10_50 ?_
      refine lv_iload hx hb d_4_10_53 (lv_at hl 0 rfl) ?_
      refine lv_iconst (v := iI 1) hx hb d_4_10_55 rfl ?_
      refine zsub hx hb d_4_10_56 ?_
      obtain ⟨g14, hf⟩ := gif hf
      refine zald (ci := 2) (k := 6) hx hb hK rfl hZ g13.1 g13.2 rfl (Nat.le_of_ble_eq_true rfl) g14.1 g14.2 d_4_10_57 ?_
      refine zadd hx hb d_4_10_58 ?_
      refine lv_istore (lv' := [(5, .int (iI (l5 + (B 2 l0 6 (l6 - 1))))), (6, .int (iI l6)), (4, .int (iI l4)), (0, .ref (ad 2 l0 0)), (1, .ref (ad 6 l1 0)), (2, .int (iI l2)), (3, .int (iI l3))]) hx hb d_4_10_59 hl (by decide) rfl (fun ls hl => ?_)
      refine lv_iload hx hb d_4_10_61 (lv_at hl 0 rfl) ?_
      refine lv_iload_n hx hb d_4_10_63 rfl (lv_at hl 6 rfl) ?_
      obtain ⟨g15, hf⟩ := gif hf
      obtain ⟨g16, hf⟩ := gif hf
      refine zle (tgt := 79) hx hb g15 g16 d_4_10_64 (by decide) (fun h17 => ?_) (fun h17 => ?_)
      · replace hf := gpos hf h17
        exact b_Layout_choose_79 X hrec12 ih hf hZ hS (lv_sub hl [0, 1, 2, 3, 4, 5, 6] rfl)
      · replace hf := gneg hf h17
        refine lv_iload hx hb d_4_10_67 (lv_at hl 1 rfl) ?_
        refine lv_iload hx hb d_4_10_69 (lv_at hl 2 rfl) ?_
        refine lv_iconst (v := iI 1) hx hb d_4_10_71 rfl ?_
        refine zadd hx hb d_4_10_72 ?_
        obtain ⟨g18, hf⟩ := gif hf
        refine zle (tgt := 79) hx hb g10 g18 d_4_10_73 (by decide) (fun h19 => ?_) (fun h19 => ?_)
        · replace hf := gpos hf h19
          exact b_Layout_choose_79 X hrec12 ih hf hZ hS (lv_sub hl [0, 1, 2, 3, 4, 5, 6] rfl)
        · replace hf := gneg hf h19
          refine lv_goto (tgt := 145) hx hb d_4_10_76 (by decide) ?_
          exact b_Layout_choose_145 X hrec12 hf hZ hS (lv_sub hl [2, 3, 4, 5, 6] rfl)

noncomputable def f_Layout_choose_12 (K : zK) : Nat → Int → Int → Int → Int → Int → zF → zB → zO
  | 0, _, _, _, _, _, _, _ => none
  | n + 1, l4, l0, l1, l2, l3, F, B => if r32 l4 then (if l4 < 0 then some (0, F, B) else zbind (f_Layout_lead K l1 l4 F B) (fun r6 F6 B6 => if 0 ≤ l0 ∧ l0 < K.2 2 then if 0 ≤ l4 ∧ l4 < 101 then f_Layout_choose_41 (f_Layout_choose_12 K n) K K.1 (l4 + 1) r6 l4 l0 l1 l2 l3 F6 (zup4 B6 2 l0 10 l4 1152921504606846976) else none else none)) else none
set_option maxHeartbeats 4000000 in
set_option maxRecDepth 100000 in
theorem b_Layout_choose_12 {D : va_G} {ca : Nat → ClassId} {ad : Nat → Int → Nat → Nat} {L : List Nat} {aS vS : Nat → Nat} {A : Nat → Prop} {p : Program} {l : Launch} {e : Env} {s : State} {m : MethodId} {args : Array Value} {below : List Frame} {meth : Method} {c : Code} {K : zK} {r : Int} {F9 : zF} {B9 : zB} (X : zX D ca L aS vS A p s m args meth c prog_4_method_10_code 9 (Option.none : Option Jvm.ClassFile.FieldType) "StaveHouse$Layout") : ∀ {n : Nat} {l4 : Int} {l0 : Int} {l1 : Int} {l2 : Int} {l3 : Int} {F : zF} {B : zB} {H : Heap} {locs : List Loc} {ls : Array Slot}, f_Layout_choose_12 K n l4 l0 l1 l2 l3 F B = some (r, F9, B9) → zH D ca ad lnC K.2 L F B A H → va_S A s.heap H locs → lv_has ls 9 [(4, .int (iI l4)), (0, .ref (ad 2 l0 0)), (1, .ref (ad 6 l1 0)), (2, .int (iI l2)), (3, .int (iI l3))] → W p l e ({ frames := 2, cells := 0, slots := 0, locals := 36 } : Room) s m args below meth c H locs 0 0 (MQ below (Q_Layout_choose K D ca ad L r F9 B9 A) args s 0 0 A) (F0 m 12 ls []) := by
  obtain ⟨hx, hb, hr, hml, hown, hts, hlk, hK, hA, hL, hX⟩ := id X
  intro n
  induction n with
  | zero =>
    intros
    rename_i hf _ _ _
    cases hf
  | succ n ih =>
    intro l4 l0 l1 l2 l3 F B H locs ls hf hZ hS hl
    replace hf : (if r32 l4 then (if l4 < 0 then some (0, F, B) else zbind (f_Layout_lead K l1 l4 F B) (fun r6 F6 B6 => if 0 ≤ l0 ∧ l0 < K.2 2 then if 0 ≤ l4 ∧ l4 < 101 then f_Layout_choose_41 (f_Layout_choose_12 K n) K K.1 (l4 + 1) r6 l4 l0 l1 l2 l3 F6 (zup4 B6 2 l0 10 l4 1152921504606846976) else none else none)) else none) = some (r, F9, B9) := hf
    refine lv_iload hx hb d_4_10_12 (lv_at hl 0 rfl) ?_
    obtain ⟨g4, hf⟩ := gif hf
    refine z0lt (tgt := 151) hx hb g4 d_4_10_14 (by decide) (fun h5 => ?_) (fun h5 => ?_)
    · replace hf := gpos hf h5
      cases hf
      exact W.vret hx hb hr (fun t ht hW => ⟨⟨(), rfl, trivial, by rw [ht]; exact hZ, va_K.moved hW.alike hK⟩, hS.F ht⟩) hS.2.2 d_4_10_151 hlk
    · replace hf := gneg hf h5
      refine lv_aload_n hx hb d_4_10_17 rfl (lv_at hl 2 rfl) ?_
      refine lv_iload hx hb d_4_10_18 (lv_at hl 0 rfl) ?_
      obtain ⟨r6, F6, B6, hc6, hf⟩ := gbind hf
      refine va_calli (va_runS (As := [.ref (ad 6 l1 0), .int (iI l4)]) (rest := []) ⟨hx, hb, hml, hown, hts⟩ (c_Layout_lead (l := l) hc6) (va_cwS 2 hts (gdS k_7_50 k_7_51 k_1_21 k_7_52) rfl rfl rfl (by decide +kernel) ⟨Nat.le_of_ble_eq_true rfl, Nat.le_of_ble_eq_true rfl⟩) (zPS X hZ hS [.ref (ad 6 l1 0), .int (iI l4)]) rfl rfl hl.1 rfl (lv_room (Nat.le_of_ble_eq_true rfl)) d_4_10_20 ⟨Nat.le_of_ble_eq_true rfl, Nat.le_of_ble_eq_true rfl⟩) hS (fun q _ h => zAin X hS q h) (zAin X hS) (fun p6 u6 t6 H6 locs6 ht6 hv6 hw6 hB6 hz6 hk6 hS6 => ?_)
      have hZ6 := zBack X ht6 hB6
      subst hw6
      refine lv_istore (lv' := [(5, .int (iI r6)), (4, .int (iI l4)), (0, .ref (ad 2 l0 0)), (1, .ref (ad 6 l1 0)), (2, .int (iI l2)), (3, .int (iI l3))]) hx hb d_4_10_23 hl (by decide) rfl (fun ls hl => ?_)
      refine lv_aload_n hx hb d_4_10_25 rfl (lv_at hl 2 rfl) ?_
      obtain ⟨g7, hf⟩ := gif hf
      refine zget (ci := 2) (C := RX2) (T := TX2) (v := .ref (ad 2 l0 (10 + 1))) (k := 10) hx hb hts inW_2 hown hK hZ6 g7.1 g7.2 rfl (by decide) k_6_227 rfl d_4_10_26 ?_
      refine lv_iload hx hb d_4_10_29 (lv_at hl 1 rfl) ?_
      refine lv_ldc2 hx hb hown (hts _ k_7_54) d_4_10_31 ?_
      refine W.eq (g2 := F0 m 34 ls [.long (lI 1152921504606846976), .int (iI l4), .ref (ad 2 l0 (10 + 1))]) rfl ?_
      obtain ⟨g8, hf⟩ := gif hf
      refine zlast (ci := 2) (k := 10) hx hb hK rfl hZ6 hS6 g7.1 g7.2 rfl (Nat.le_of_ble_eq_true rfl) g8.1 g8.2 d_4_10_34 (fun H9 locs9 hZ9 hS9 => ?_)
      refine lv_iload hx hb d_4_10_35 (lv_at hl 1 rfl) ?_
      refine lv_iconst (v := iI 1) hx hb d_4_10_37 rfl ?_
      refine zadd hx hb d_4_10_38 ?_
      refine lv_istore (lv' := [(6, .int (iI (l4 + 1))), (5, .int (iI r6)), (4, .int (iI l4)), (0, .ref (ad 2 l0 0)), (1, .ref (ad 6 l1 0)), (2, .int (iI l2)), (3, .int (iI l3))]) hx hb d_4_10_39 hl (by decide) rfl (fun ls hl => ?_)
      exact b_Layout_choose_41 X ih hf hZ9 hS9 (lv_sub hl [0, 1, 2, 3, 4, 5, 6] rfl)

noncomputable def f_Layout_choose (K : zK) (l0 : Int) (l1 : Int) (l2 : Int) (l3 : Int) (F : zF) (B : zB) : zO := if 0 ≤ l0 ∧ l0 < K.2 2 then if 0 ≤ l2 ∧ l2 < 101 then f_Layout_choose_12 K K.1 (l2 - 1) l0 l1 l2 l3 F (zup4 B 2 l0 10 l2 0) else none else none
set_option maxHeartbeats 4000000 in
set_option maxRecDepth 100000 in
theorem c_Layout_choose {l : Launch} {D : va_G} {ca : Nat → ClassId} {ad : Nat → Int → Nat → Nat} {L : List Nat} {aS vS : Nat → Nat} {sz : Nat} {K : zK}  {l0 : Int} {l1 : Int} {l2 : Int} {l3 : Int} {F F9 : zF} {B B9 : zB} {r : Int} (hf : f_Layout_choose K l0 l1 l2 l3 F B = some (r, F9, B9)) : Met l ({ cls := "StaveHouse$Layout", name := "choose", desc := "(LStaveHouse$Piece;II)V" } : Jvm.MethodName) (Cond.code ({ cls := "StaveHouse$Layout", name := "choose", desc := "(LStaveHouse$Piece;II)V" } : Jvm.MethodName) prog_4_method_10_code 9 (Option.none : Option Jvm.ClassFile.FieldType) :: wAll) ({ frames := 2, cells := 0, slots := 0, locals := 36 } : Room) (va_Pc [.ref (ad 2 l0 0), .ref (ad 6 l1 0), .int (iI l2), .int (iI l3)] (zPre D ca ad lnC K.2 L aS vS F B sz)) (Q_Layout_choose K D ca ad L r F9 B9 (zA L sz)) 0 0 (zA L sz) := by
  refine zMet (Qc := Q_Layout_choose K D ca ad L r F9 B9) (lv := [(0, .ref (ad 2 l0 0)), (1, .ref (ad 6 l1 0)), (2, .int (iI l2)), (3, .int (iI l3))]) (by decide) (Nat.le_of_ble_eq_true rfl) rfl (fun A p e s m below meth c ls X hZ hS hl => ?_)
  obtain ⟨hx, hb, hr, hml, hown, hts, hlk, hK, hA, hL, hX⟩ := id X
  replace hf : (if 0 ≤ l0 ∧ l0 < K.2 2 then if 0 ≤ l2 ∧ l2 < 101 then f_Layout_choose_12 K K.1 (l2 - 1) l0 l1 l2 l3 F (zup4 B 2 l0 10 l2 0) else none else none) = some (r, F9, B9) := hf
  refine lv_aload_n hx hb d_4_10_0 rfl (lv_at hl 0 rfl) ?_
  obtain ⟨g1, hf⟩ := gif hf
  refine zget (ci := 2) (C := RX2) (T := TX2) (v := .ref (ad 2 l0 (10 + 1))) (k := 10) hx hb hts inW_2 hown hK hZ g1.1 g1.2 rfl (by decide) k_6_227 rfl d_4_10_1 ?_
  refine lv_iload_n hx hb d_4_10_4 rfl (lv_at hl 2 rfl) ?_
  refine lv_lconst (v := lI 0) hx hb d_4_10_5 (by decide) ?_
  obtain ⟨g2, hf⟩ := gif hf
  refine zlast (ci := 2) (k := 10) hx hb hK rfl hZ hS g1.1 g1.2 rfl (Nat.le_of_ble_eq_true rfl) g2.1 g2.2 d_4_10_6 (fun H3 locs3 hZ3 hS3 => ?_)
  refine lv_iload_n hx hb d_4_10_7 rfl (lv_at hl 2 rfl) ?_
  refine lv_iconst (v := iI 1) hx hb d_4_10_8 rfl ?_
  refine zsub hx hb d_4_10_9 ?_
  refine lv_istore (lv' := [(4, .int (iI (l2 - 1))), (0, .ref (ad 2 l0 0)), (1, .ref (ad 6 l1 0)), (2, .int (iI l2)), (3, .int (iI l3))]) hx hb d_4_10_10 hl (by decide) rfl (fun ls hl => ?_)
  exact b_Layout_choose_12 X hf hZ3 hS3 (lv_sub hl [0, 1, 2, 3, 4] rfl)

noncomputable abbrev Q_S_line (K : zK) (D : va_G) (ca : Nat → ClassId) (ad : Nat → Int → Nat → Nat) (L : List Nat) (r : Int) (F : zF) (B : zB) (A : Nat → Prop) : Array Value → State → Outcome → State → Prop := va_Ql (S := Unit) (fun p _ => p = lI r) (fun _ => zPo D ca ad lnC K.2 L F B A) A
noncomputable def f_S_line_20 (K : zK)  (F : zF) (B : zB) : zO := some ((-1), F, B)
set_option maxHeartbeats 4000000 in
set_option maxRecDepth 100000 in
theorem b_S_line_20 {D : va_G} {ca : Nat → ClassId} {ad : Nat → Int → Nat → Nat} {L : List Nat} {aS vS : Nat → Nat} {A : Nat → Prop} {p : Program} {l : Launch} {e : Env} {s : State} {m : MethodId} {args : Array Value} {below : List Frame} {meth : Method} {c : Code} {K : zK} {r : Int} {F9 : zF} {B9 : zB} (X : zX D ca L aS vS A p s m args meth c prog_1_method_17_code 5 (Option.some Jvm.ClassFile.FieldType.long) "StaveHouse")  {F : zF} {B : zB} {H : Heap} {locs : List Loc} {ls : Array Slot} (hf : f_S_line_20 K  F B = some (r, F9, B9)) (hZ : zH D ca ad lnC K.2 L F B A H) (hS : va_S A s.heap H locs) (hl : lv_has ls 5 []) : W p l e ({ frames := 1, cells := 0, slots := 0, locals := 22 } : Room) s m args below meth c H locs 0 0 (MQ below (Q_S_line K D ca ad L r F9 B9 A) args s 0 0 A) (F0 m 20 ls []) := by
  obtain ⟨hx, hb, hr, hml, hown, hts, hlk, hK, hA, hL, hX⟩ := id X
  replace hf : (some ((-1), F, B)) = some (r, F9, B9) := hf
  refine lv_ldc2 hx hb hown (hts _ k_6_184) d_1_17_20 ?_
  refine W.eq (g2 := F0 m 23 ls [.long (lI (-1))]) rfl ?_
  cases hf
  exact W.lret hx hb hr (fun t ht hW => ⟨⟨_, (), rfl, rfl, by rw [ht]; exact hZ, va_K.moved hW.alike hK⟩, hS.F ht⟩) hS.2.2 d_1_17_23 hlk

noncomputable def f_S_line (K : zK) (l0 : Int) (l1 : Int) (l2 : Int) (l3 : Int) (F : zF) (B : zB) : zO := if 0 ≤ l0 ∧ l0 < K.2 12 then zbind (f_S_pieceAt K l0 l1 F B) (fun r2 F2 B2 => (if r2 < 0 then f_S_line_20 K F2 B2 else if 0 ≤ r2 ∧ r2 < K.2 6 then (if (F2 6 r2 8) < 0 then f_S_line_20 K F2 B2 else if 0 ≤ (F2 6 r2 8) ∧ (F2 6 r2 8) < K.2 2 then zbind (f_Layout_tell K (F2 6 r2 8) l2 l3 F2 B2) (fun r7 F7 B7 => some (r7, F7, B7)) else none) else none)) else none
set_option maxHeartbeats 4000000 in
set_option maxRecDepth 100000 in
theorem c_S_line {l : Launch} {D : va_G} {ca : Nat → ClassId} {ad : Nat → Int → Nat → Nat} {L : List Nat} {aS vS : Nat → Nat} {sz : Nat} {K : zK}  {l0 : Int} {l1 : Int} {l2 : Int} {l3 : Int} {F F9 : zF} {B B9 : zB} {r : Int} (hf : f_S_line K l0 l1 l2 l3 F B = some (r, F9, B9)) : Met l ({ cls := "StaveHouse", name := "line", desc := "(III)J" } : Jvm.MethodName) (Cond.code ({ cls := "StaveHouse", name := "line", desc := "(III)J" } : Jvm.MethodName) prog_1_method_17_code 5 (Option.some Jvm.ClassFile.FieldType.long) :: wAll) ({ frames := 1, cells := 0, slots := 0, locals := 22 } : Room) (va_Pc [.ref (ad 12 l0 0), .int (iI l1), .int (iI l2), .int (iI l3)] (zPre D ca ad lnC K.2 L aS vS F B sz)) (Q_S_line K D ca ad L r F9 B9 (zA L sz)) 0 0 (zA L sz) := by
  refine zMet (Qc := Q_S_line K D ca ad L r F9 B9) (lv := [(0, .ref (ad 12 l0 0)), (1, .int (iI l1)), (2, .int (iI l2)), (3, .int (iI l3))]) (by decide) (Nat.le_of_ble_eq_true rfl) rfl (fun A p e s m below meth c ls X hZ hS hl => ?_)
  obtain ⟨hx, hb, hr, hml, hown, hts, hlk, hK, hA, hL, hX⟩ := id X
  replace hf : (if 0 ≤ l0 ∧ l0 < K.2 12 then zbind (f_S_pieceAt K l0 l1 F B) (fun r2 F2 B2 => (if r2 < 0 then f_S_line_20 K F2 B2 else if 0 ≤ r2 ∧ r2 < K.2 6 then (if (F2 6 r2 8) < 0 then f_S_line_20 K F2 B2 else if 0 ≤ (F2 6 r2 8) ∧ (F2 6 r2 8) < K.2 2 then zbind (f_Layout_tell K (F2 6 r2 8) l2 l3 F2 B2) (fun r7 F7 B7 => some (r7, F7, B7)) else none) else none)) else none) = some (r, F9, B9) := hf
  refine lv_aload_n hx hb d_1_17_0 rfl (lv_at hl 0 rfl) ?_
  refine lv_iload_n hx hb d_1_17_1 rfl (lv_at hl 1 rfl) ?_
  obtain ⟨g1, hf⟩ := gif hf
  obtain ⟨r2, F2, B2, hc2, hf⟩ := gbind hf
  refine va_callq (va_runV (As := [.int (iI l1)]) (rest := []) ⟨hx, hb, hml, hown, hts⟩ (c_S_pieceAt (l := l) hc2) (cwV 1 hts (gdV k_5_182 k_5_184 ks_65 k_1_1 k_5_185) rfl rfl rfl (by decide +kernel) ⟨Nat.le_of_ble_eq_true rfl, Nat.le_of_ble_eq_true rfl⟩) (zPV X hZ hS (ci := 12) g1.1 g1.2 (r := (RX12, TX12, 10)) rfl [.int (iI l1)]) rfl rfl hl.1 rfl (lv_room (Nat.le_of_ble_eq_true rfl)) d_1_17_2 ⟨Nat.le_of_ble_eq_true rfl, Nat.le_of_ble_eq_true rfl⟩) hS (fun q _ h => zAin X hS q h) (zAin X hS) (fun p2 u2 t2 H2 locs2 ht2 hv2 hw2 hB2 hz2 hk2 hS2 => ?_)
  have hZ2 := zBack X ht2 hB2
  subst hw2
  refine zastore (lv' := [(0, .ref (ad 12 l0 0)), (1, .int (iI l1)), (2, .int (iI l2)), (3, .int (iI l3))]) hx hb d_1_17_5 hl (by decide) (fun _ _ => rfl) (fun ls hl => ?_)
  refine zaload hx hb d_1_17_7 (lv_at hl 0 rfl) ?_
  refine zifnull (tgt := 20) hx hb d_1_17_9 (by decide) (fun h3 => ?_) (fun h3 => ?_)
  · replace hf := gpos hf h3
    exact b_S_line_20 X hf hZ2 hS2 (lv_sub hl [] rfl)
  · replace hf := gneg hf h3
    refine zaload hx hb d_1_17_12 (lv_at hl 0 rfl) ?_
    obtain ⟨g4, hf⟩ := gif hf
    refine zunrf g4.1 ?_
    refine zget (ci := 6) (C := RX6) (T := TX6) (v := va_rf (zrf ad 2 (F2 6 r2 8))) (k := 8) hx hb hts inW_6 hown hK hZ2 g4.1 g4.2 rfl (by decide) k_2_225 rfl d_1_17_14 ?_
    refine zifnonnull (tgt := 24) hx hb d_1_17_17 (by decide) (fun h5 => ?_) (fun h5 => ?_)
    · replace hf := gneg hf h5
      refine zaload hx hb d_1_17_24 (lv_at hl 0 rfl) ?_
      refine zunrf g4.1 ?_
      refine zget (ci := 6) (C := RX6) (T := TX6) (v := va_rf (zrf ad 2 (F2 6 r2 8))) (k := 8) hx hb hts inW_6 hown hK hZ2 g4.1 g4.2 rfl (by decide) k_2_225 rfl d_1_17_26 ?_
      refine lv_iload_n hx hb d_1_17_29 rfl (lv_at hl 3 rfl) ?_
      refine lv_iload_n hx hb d_1_17_30 rfl (lv_at hl 4 rfl) ?_
      obtain ⟨g6, hf⟩ := gif hf
      refine W.eq (g2 := F0 m 31 ls [.int (iI l3), .int (iI l2), .ref (ad 2 (F2 6 r2 8) 0)]) (by rw [zrf_pos (ad := ad) (t := 2) g6.1]; try rfl) ?_
      obtain ⟨r7, F7, B7, hc7, hf⟩ := gbind hf
      refine va_calll (va_runV (As := [.int (iI l2), .int (iI l3)]) (rest := []) ⟨hx, hb, hml, hown, hts⟩ (c_Layout_tell (l := l) hc7) (cwV 2 hts (gdV k_7_71 k_7_72 k_7_73 k_1_21 k_7_74) rfl rfl rfl (by decide +kernel) ⟨Nat.le_of_ble_eq_true rfl, Nat.le_of_ble_eq_true rfl⟩) (zPV X hZ2 hS2 (ci := 2) g6.1 g6.2 (r := (RX2, TX2, 13)) rfl [.int (iI l2), .int (iI l3)]) rfl rfl hl.1 rfl (lv_room (Nat.le_of_ble_eq_true rfl)) d_1_17_31 ⟨Nat.le_of_ble_eq_true rfl, Nat.le_of_ble_eq_true rfl⟩) hS2 (fun q _ h => zAin X hS2 q h) (zAin X hS2) (fun p7 u7 t7 H7 locs7 ht7 hv7 hw7 hB7 hz7 hk7 hS7 => ?_)
      have hZ7 := zBack X ht7 hB7
      subst hw7
      cases hf
      exact W.lret hx hb hr (fun t ht hW => ⟨⟨_, (), rfl, rfl, by rw [ht]; exact hZ7, va_K.moved hW.alike hK⟩, hS7.F ht⟩) hS7.2.2 d_1_17_34 hlk
    · replace hf := gpos hf h5
      exact b_S_line_20 X hf hZ2 hS2 (lv_sub hl [] rfl)

noncomputable abbrev Q_S_x (K : zK) (D : va_G) (ca : Nat → ClassId) (ad : Nat → Int → Nat → Nat) (L : List Nat) (r : Int) (F : zF) (B : zB) (A : Nat → Prop) : Array Value → State → Outcome → State → Prop := va_Qi (S := Unit) (fun p _ => p = iI r) (fun _ => zPo D ca ad lnC K.2 L F B A) A
noncomputable def f_S_x_46 (K : zK)  (F : zF) (B : zB) : zO := some ((-1), F, B)
set_option maxHeartbeats 4000000 in
set_option maxRecDepth 100000 in
theorem b_S_x_46 {D : va_G} {ca : Nat → ClassId} {ad : Nat → Int → Nat → Nat} {L : List Nat} {aS vS : Nat → Nat} {A : Nat → Prop} {p : Program} {l : Launch} {e : Env} {s : State} {m : MethodId} {args : Array Value} {below : List Frame} {meth : Method} {c : Code} {K : zK} {r : Int} {F9 : zF} {B9 : zB} (X : zX D ca L aS vS A p s m args meth c prog_1_method_18_code 6 (Option.some Jvm.ClassFile.FieldType.int) "StaveHouse")  {F : zF} {B : zB} {H : Heap} {locs : List Loc} {ls : Array Slot} (hf : f_S_x_46 K  F B = some (r, F9, B9)) (hZ : zH D ca ad lnC K.2 L F B A H) (hS : va_S A s.heap H locs) (hl : lv_has ls 6 []) : W p l e ({ frames := 2, cells := 0, slots := 0, locals := 44 } : Room) s m args below meth c H locs 0 0 (MQ below (Q_S_x K D ca ad L r F9 B9 A) args s 0 0 A) (F0 m 46 ls []) := by
  obtain ⟨hx, hb, hr, hml, hown, hts, hlk, hK, hA, hL, hX⟩ := id X
  replace hf : (some ((-1), F, B)) = some (r, F9, B9) := hf
  refine lv_iconst (v := iI (-1)) hx hb d_1_18_46 rfl ?_
  cases hf
  exact W.iret hx hb hr (fun t ht hW => ⟨⟨_, (), rfl, rfl, by rw [ht]; exact hZ, va_K.moved hW.alike hK⟩, hS.F ht⟩) hS.2.2 d_1_18_47 hlk

noncomputable def f_S_x (K : zK) (l0 : Int) (l1 : Int) (l2 : Int) (l3 : Int) (F : zF) (B : zB) : zO := if 0 ≤ l0 ∧ l0 < K.2 12 then zbind (f_S_partAt K l0 l1 l2 F B) (fun r2 F2 B2 => zbind (f_S_pieceAt K l0 l1 F2 B2) (fun r3 F3 B3 => (if r2 < 0 then f_S_x_46 K F3 B3 else (if r3 < 0 then f_S_x_46 K F3 B3 else if 0 ≤ r3 ∧ r3 < K.2 6 then (if (F3 6 r3 8) < 0 then f_S_x_46 K F3 B3 else if r32 l3 then (if l3 < 0 then f_S_x_46 K F3 B3 else if 0 ≤ r2 ∧ r2 < K.2 4 then if r32 (F3 4 r2 10) then (if l3 < (F3 4 r2 10) then if 0 ≤ l3 ∧ l3 < 800 then if 0 ≤ (F3 6 r3 8) ∧ (F3 6 r3 8) < K.2 2 then zbind (f_Layout_columnX K (F3 6 r3 8) (B3 4 r2 361 l3) (B3 4 r2 9 l3) F3 B3) (fun r15 F15 B15 => some (r15, F15, B15)) else none else none else f_S_x_46 K F3 B3) else none else none) else none) else none)))) else none
set_option maxHeartbeats 4000000 in
set_option maxRecDepth 100000 in
theorem c_S_x {l : Launch} {D : va_G} {ca : Nat → ClassId} {ad : Nat → Int → Nat → Nat} {L : List Nat} {aS vS : Nat → Nat} {sz : Nat} {K : zK}  {l0 : Int} {l1 : Int} {l2 : Int} {l3 : Int} {F F9 : zF} {B B9 : zB} {r : Int} (hf : f_S_x K l0 l1 l2 l3 F B = some (r, F9, B9)) : Met l ({ cls := "StaveHouse", name := "x", desc := "(III)I" } : Jvm.MethodName) (Cond.code ({ cls := "StaveHouse", name := "x", desc := "(III)I" } : Jvm.MethodName) prog_1_method_18_code 6 (Option.some Jvm.ClassFile.FieldType.int) :: wAll) ({ frames := 2, cells := 0, slots := 0, locals := 44 } : Room) (va_Pc [.ref (ad 12 l0 0), .int (iI l1), .int (iI l2), .int (iI l3)] (zPre D ca ad lnC K.2 L aS vS F B sz)) (Q_S_x K D ca ad L r F9 B9 (zA L sz)) 0 0 (zA L sz) := by
  refine zMet (Qc := Q_S_x K D ca ad L r F9 B9) (lv := [(0, .ref (ad 12 l0 0)), (1, .int (iI l1)), (2, .int (iI l2)), (3, .int (iI l3))]) (by decide) (Nat.le_of_ble_eq_true rfl) rfl (fun A p e s m below meth c ls X hZ hS hl => ?_)
  obtain ⟨hx, hb, hr, hml, hown, hts, hlk, hK, hA, hL, hX⟩ := id X
  replace hf : (if 0 ≤ l0 ∧ l0 < K.2 12 then zbind (f_S_partAt K l0 l1 l2 F B) (fun r2 F2 B2 => zbind (f_S_pieceAt K l0 l1 F2 B2) (fun r3 F3 B3 => (if r2 < 0 then f_S_x_46 K F3 B3 else (if r3 < 0 then f_S_x_46 K F3 B3 else if 0 ≤ r3 ∧ r3 < K.2 6 then (if (F3 6 r3 8) < 0 then f_S_x_46 K F3 B3 else if r32 l3 then (if l3 < 0 then f_S_x_46 K F3 B3 else if 0 ≤ r2 ∧ r2 < K.2 4 then if r32 (F3 4 r2 10) then (if l3 < (F3 4 r2 10) then if 0 ≤ l3 ∧ l3 < 800 then if 0 ≤ (F3 6 r3 8) ∧ (F3 6 r3 8) < K.2 2 then zbind (f_Layout_columnX K (F3 6 r3 8) (B3 4 r2 361 l3) (B3 4 r2 9 l3) F3 B3) (fun r15 F15 B15 => some (r15, F15, B15)) else none else none else f_S_x_46 K F3 B3) else none else none) else none) else none)))) else none) = some (r, F9, B9) := hf
  refine lv_aload_n hx hb d_1_18_0 rfl (lv_at hl 0 rfl) ?_
  refine lv_iload_n hx hb d_1_18_1 rfl (lv_at hl 1 rfl) ?_
  refine lv_iload_n hx hb d_1_18_2 rfl (lv_at hl 2 rfl) ?_
  obtain ⟨g1, hf⟩ := gif hf
  obtain ⟨r2, F2, B2, hc2, hf⟩ := gbind hf
  refine va_callq (va_runV (As := [.int (iI l1), .int (iI l2)]) (rest := []) ⟨hx, hb, hml, hown, hts⟩ (c_S_partAt (l := l) hc2) (cwV 2 hts (gdV k_6_168 k_6_170 ks_77 k_1_1 k_6_171) rfl rfl rfl (by decide +kernel) ⟨Nat.le_of_ble_eq_true rfl, Nat.le_of_ble_eq_true rfl⟩) (zPV X hZ hS (ci := 12) g1.1 g1.2 (r := (RX12, TX12, 10)) rfl [.int (iI l1), .int (iI l2)]) rfl rfl hl.1 rfl (lv_room (Nat.le_of_ble_eq_true rfl)) d_1_18_3 ⟨Nat.le_of_ble_eq_true rfl, Nat.le_of_ble_eq_true rfl⟩) hS (fun q _ h => zAin X hS q h) (zAin X hS) (fun p2 u2 t2 H2 locs2 ht2 hv2 hw2 hB2 hz2 hk2 hS2 => ?_)
  have hZ2 := zBack X ht2 hB2
  subst hw2
  refine zastore (lv' := [(0, .ref (ad 12 l0 0)), (1, .int (iI l1)), (2, .int (iI l2)), (3, .int (iI l3))]) hx hb d_1_18_6 hl (by decide) (fun _ _ => rfl) (fun ls hl => ?_)
  refine lv_aload_n hx hb d_1_18_8 rfl (lv_at hl 1 rfl) ?_
  refine lv_iload_n hx hb d_1_18_9 rfl (lv_at hl 2 rfl) ?_
  obtain ⟨r3, F3, B3, hc3, hf⟩ := gbind hf
  refine va_callq (va_runV (As := [.int (iI l1)]) (rest := []) ⟨hx, hb, hml, hown, hts⟩ (c_S_pieceAt (l := l) hc3) (cwV 1 hts (gdV k_5_182 k_5_184 ks_65 k_1_1 k_5_185) rfl rfl rfl (by decide +kernel) ⟨Nat.le_of_ble_eq_true rfl, Nat.le_of_ble_eq_true rfl⟩) (zPV X hZ2 hS2 (ci := 12) g1.1 g1.2 (r := (RX12, TX12, 10)) rfl [.int (iI l1)]) rfl rfl hl.1 rfl (lv_room (Nat.le_of_ble_eq_true rfl)) d_1_18_10 ⟨Nat.le_of_ble_eq_true rfl, Nat.le_of_ble_eq_true rfl⟩) hS2 (fun q _ h => zAin X hS2 q h) (zAin X hS2) (fun p3 u3 t3 H3 locs3 ht3 hv3 hw3 hB3 hz3 hk3 hS3 => ?_)
  have hZ3 := zBack X ht3 hB3
  subst hw3
  refine zastore (lv' := [(4, va_rf (zrf ad 4 r2)), (0, .ref (ad 12 l0 0)), (1, .int (iI l1)), (2, .int (iI l2)), (3, .int (iI l3))]) hx hb d_1_18_13 hl (by decide) (fun v hv => by cases zrf ad 4 r2 <;> rfl) (fun ls hl => ?_)
  refine zaload hx hb d_1_18_15 (lv_at hl 1 rfl) ?_
  refine zifnull (tgt := 46) hx hb d_1_18_17 (by decide) (fun h4 => ?_) (fun h4 => ?_)
  · replace hf := gpos hf h4
    exact b_S_x_46 X hf hZ3 hS3 (lv_sub hl [] rfl)
  · replace hf := gneg hf h4
    refine zaload hx hb d_1_18_20 (lv_at hl 0 rfl) ?_
    refine zifnull (tgt := 46) hx hb d_1_18_22 (by decide) (fun h5 => ?_) (fun h5 => ?_)
    · replace hf := gpos hf h5
      exact b_S_x_46 X hf hZ3 hS3 (lv_sub hl [] rfl)
    · replace hf := gneg hf h5
      refine zaload hx hb d_1_18_25 (lv_at hl 0 rfl) ?_
      obtain ⟨g6, hf⟩ := gif hf
      refine zunrf g6.1 ?_
      refine zget (ci := 6) (C := RX6) (T := TX6) (v := va_rf (zrf ad 2 (F3 6 r3 8))) (k := 8) hx hb hts inW_6 hown hK hZ3 g6.1 g6.2 rfl (by decide) k_2_225 rfl d_1_18_27 ?_
      refine zifnull (tgt := 46) hx hb d_1_18_30 (by decide) (fun h7 => ?_) (fun h7 => ?_)
      · replace hf := gpos hf h7
        exact b_S_x_46 X hf hZ3 hS3 (lv_sub hl [] rfl)
      · replace hf := gneg hf h7
        refine lv_iload_n hx hb d_1_18_33 rfl (lv_at hl 5 rfl) ?_
        obtain ⟨g8, hf⟩ := gif hf
        refine z0lt (tgt := 46) hx hb g8 d_1_18_34 (by decide) (fun h9 => ?_) (fun h9 => ?_)
        · replace hf := gpos hf h9
          exact b_S_x_46 X hf hZ3 hS3 (lv_sub hl [] rfl)
        · replace hf := gneg hf h9
          refine lv_iload_n hx hb d_1_18_37 rfl (lv_at hl 5 rfl) ?_
          refine zaload hx hb d_1_18_38 (lv_at hl 1 rfl) ?_
          obtain ⟨g10, hf⟩ := gif hf
          refine zunrf g10.1 ?_
          refine zget (ci := 4) (C := RX4) (T := TX4) (v := .int (iI (F3 4 r2 10))) (k := 10) hx hb hts inW_4 hown hK hZ3 g10.1 g10.2 rfl (by decide) k_4_150 rfl d_1_18_40 ?_
          obtain ⟨g11, hf⟩ := gif hf
          refine zlt (tgt := 48) hx hb g8 g11 d_1_18_43 (by decide) (fun h12 => ?_) (fun h12 => ?_)
          · replace hf := gpos hf h12
            refine zaload hx hb d_1_18_48 (lv_at hl 0 rfl) ?_
            refine zunrf g6.1 ?_
            refine zget (ci := 6) (C := RX6) (T := TX6) (v := va_rf (zrf ad 2 (F3 6 r3 8))) (k := 8) hx hb hts inW_6 hown hK hZ3 g6.1 g6.2 rfl (by decide) k_2_225 rfl d_1_18_50 ?_
            refine zaload hx hb d_1_18_53 (lv_at hl 1 rfl) ?_
            refine zunrf g10.1 ?_
            refine zget (ci := 4) (C := RX4) (T := TX4) (v := .ref (ad 4 r2 (8 + 1))) (k := 8) hx hb hts inW_4 hown hK hZ3 g10.1 g10.2 rfl (by decide) k_4_144 rfl d_1_18_55 ?_
            refine lv_iconst (v := iI 1) hx hb d_1_18_58 rfl ?_
            refine zaldQ (t := 0) (ci := 4) (k := 8) hx hb hK rfl hZ3 g10.1 g10.2 rfl (Nat.le_of_ble_eq_true rfl) (by decide) (by decide) d_1_18_59 ?_
            refine W.eq (g2 := F0 m 60 ls [.ref (ad 4 r2 (361 + 1)), va_rf (zrf ad 2 (F3 6 r3 8))]) rfl ?_
            refine lv_iload_n hx hb d_1_18_60 rfl (lv_at hl 5 rfl) ?_
            obtain ⟨g13, hf⟩ := gif hf
            refine zald (ci := 4) (k := 361) hx hb hK rfl hZ3 g10.1 g10.2 rfl (Nat.le_of_ble_eq_true rfl) g13.1 g13.2 d_1_18_61 ?_
            refine zaload hx hb d_1_18_62 (lv_at hl 1 rfl) ?_
            refine zunrf g10.1 ?_
            refine zget (ci := 4) (C := RX4) (T := TX4) (v := .ref (ad 4 r2 (9 + 1))) (k := 9) hx hb hts inW_4 hown hK hZ3 g10.1 g10.2 rfl (by decide) k_4_147 rfl d_1_18_64 ?_
            refine lv_iload_n hx hb d_1_18_67 rfl (lv_at hl 5 rfl) ?_
            refine zlald (ci := 4) (k := 9) hx hb hK rfl hZ3 g10.1 g10.2 rfl (Nat.le_of_ble_eq_true rfl) g13.1 g13.2 d_1_18_68 ?_
            obtain ⟨g14, hf⟩ := gif hf
            refine W.eq (g2 := F0 m 69 ls [.long (lI (B3 4 r2 9 l3)), .int (iI (B3 4 r2 361 l3)), .ref (ad 2 (F3 6 r3 8) 0)]) (by rw [zrf_pos (ad := ad) (t := 2) g14.1]; try rfl) ?_
            obtain ⟨r15, F15, B15, hc15, hf⟩ := gbind hf
            refine va_calli (va_runV (As := [.int (iI (B3 4 r2 361 l3)), .long (lI (B3 4 r2 9 l3))]) (rest := []) ⟨hx, hb, hml, hown, hts⟩ (c_Layout_columnX (l := l) hc15) (cwV 2 hts (gdV k_7_79 k_7_80 k_7_81 k_1_21 k_7_82) rfl rfl rfl (by decide +kernel) ⟨Nat.le_of_ble_eq_true rfl, Nat.le_of_ble_eq_true rfl⟩) (zPV X hZ3 hS3 (ci := 2) g14.1 g14.2 (r := (RX2, TX2, 13)) rfl [.int (iI (B3 4 r2 361 l3)), .long (lI (B3 4 r2 9 l3))]) rfl rfl hl.1 rfl (lv_room (Nat.le_of_ble_eq_true rfl)) d_1_18_69 ⟨Nat.le_of_ble_eq_true rfl, Nat.le_of_ble_eq_true rfl⟩) hS3 (fun q _ h => zAin X hS3 q h) (zAin X hS3) (fun p15 u15 t15 H15 locs15 ht15 hv15 hw15 hB15 hz15 hk15 hS15 => ?_)
            have hZ15 := zBack X ht15 hB15
            subst hw15
            cases hf
            exact W.iret hx hb hr (fun t ht hW => ⟨⟨_, (), rfl, rfl, by rw [ht]; exact hZ15, va_K.moved hW.alike hK⟩, hS15.F ht⟩) hS15.2.2 d_1_18_72 hlk
          · replace hf := gneg hf h12
            exact b_S_x_46 X hf hZ3 hS3 (lv_sub hl [] rfl)

noncomputable abbrev Q_Performance_sortStrokes (K : zK) (D : va_G) (ca : Nat → ClassId) (ad : Nat → Int → Nat → Nat) (L : List Nat) (r : Int) (F : zF) (B : zB) (A : Nat → Prop) : Array Value → State → Outcome → State → Prop := va_Qv (S := Unit) (fun _ => True) (fun _ => zPo D ca ad lnC K.2 L F B A) A
noncomputable def f_Performance_sortStrokes_16 (rec9 : Int → Int → Int → zF → zB → zO) (K : zK) : Nat → Int → Int → Int → Int → zF → zB → zO
  | 0, _, _, _, _, _, _ => none
  | n + 1, l3, l2, l1, l0, F, B => if r32 l3 then if r32 l1 then (if l1 ≤ l3 then if 0 ≤ l0 ∧ l0 < K.2 5 then rec9 (l2 * 2) l1 l0 (zup3 (zup3 F 5 l0 9 (F 5 l0 8)) 5 l0 8 (F 5 l0 9)) B else none else if r32 (l3 + l2) then if r32 (l3 + (2 * l2)) then if 0 ≤ l0 ∧ l0 < K.2 5 then zbind (f_Performance_merge K l0 l3 (zmin (l3 + l2) l1) (zmin (l3 + (2 * l2)) l1) F B) (fun r14 F14 B14 => f_Performance_sortStrokes_16 rec9 K n (l3 + (2 * l2)) l2 l1 l0 F14 B14) else none else none else none) else none else none
set_option maxHeartbeats 4000000 in
set_option maxRecDepth 100000 in
theorem b_Performance_sortStrokes_16 {D : va_G} {ca : Nat → ClassId} {ad : Nat → Int → Nat → Nat} {L : List Nat} {aS vS : Nat → Nat} {A : Nat → Prop} {p : Program} {l : Launch} {e : Env} {s : State} {m : MethodId} {args : Array Value} {below : List Frame} {meth : Method} {c : Code} {K : zK} {r : Int} {F9 : zF} {B9 : zB} (X : zX D ca L aS vS A p s m args meth c prog_7_method_13_code 4 (Option.none : Option Jvm.ClassFile.FieldType) "StaveHouse$Performance") {rec9 : Int → Int → Int → zF → zB → zO} (hrec9 : ∀ {l2 : Int} {l1 : Int} {l0 : Int} {F : zF} {B : zB} {H : Heap} {locs : List Loc} {ls : Array Slot}, rec9 l2 l1 l0 F B = some (r, F9, B9) → zH D ca ad lnC K.2 L F B A H → va_S A s.heap H locs → lv_has ls 4 [(2, .int (iI l2)), (1, .int (iI l1)), (0, .ref (ad 5 l0 0))] → W p l e ({ frames := 1, cells := 0, slots := 0, locals := 27 } : Room) s m args below meth c H locs 0 0 (MQ below (Q_Performance_sortStrokes K D ca ad L r F9 B9 A) args s 0 0 A) (F0 m 9 ls [])) : ∀ {n : Nat} {l3 : Int} {l2 : Int} {l1 : Int} {l0 : Int} {F : zF} {B : zB} {H : Heap} {locs : List Loc} {ls : Array Slot}, f_Performance_sortStrokes_16 rec9 K n l3 l2 l1 l0 F B = some (r, F9, B9) → zH D ca ad lnC K.2 L F B A H → va_S A s.heap H locs → lv_has ls 4 [(3, .int (iI l3)), (2, .int (iI l2)), (1, .int (iI l1)), (0, .ref (ad 5 l0 0))] → W p l e ({ frames := 1, cells := 0, slots := 0, locals := 27 } : Room) s m args below meth c H locs 0 0 (MQ below (Q_Performance_sortStrokes K D ca ad L r F9 B9 A) args s 0 0 A) (F0 m 16 ls []) := by
  obtain ⟨hx, hb, hr, hml, hown, hts, hlk, hK, hA, hL, hX⟩ := id X
  intro n
  induction n with
  | zero =>
    intros
    rename_i hf _ _ _
    cases hf
  | succ n ih =>
    intro l3 l2 l1 l0 F B H locs ls hf hZ hS hl
    replace hf : (if r32 l3 then if r32 l1 then (if l1 ≤ l3 then if 0 ≤ l0 ∧ l0 < K.2 5 then rec9 (l2 * 2) l1 l0 (zup3 (zup3 F 5 l0 9 (F 5 l0 8)) 5 l0 8 (F 5 l0 9)) B else none else if r32 (l3 + l2) then if r32 (l3 + (2 * l2)) then if 0 ≤ l0 ∧ l0 < K.2 5 then zbind (f_Performance_merge K l0 l3 (zmin (l3 + l2) l1) (zmin (l3 + (2 * l2)) l1) F B) (fun r14 F14 B14 => f_Performance_sortStrokes_16 rec9 K n (l3 + (2 * l2)) l2 l1 l0 F14 B14) else none else none else none) else none else none) = some (r, F9, B9) := hf
    refine lv_iload_n hx hb d_7_13_16 rfl (lv_at hl 0 rfl) ?_
    refine lv_iload_n hx hb d_7_13_17 rfl (lv_at hl 2 rfl) ?_
    obtain ⟨g5, hf⟩ := gif hf
    obtain ⟨g6, hf⟩ := gif hf
    refine zge (tgt := 51) hx hb g5 g6 d_7_13_18 (by decide) (fun h7 => ?_) (fun h7 => ?_)
    · replace hf := gpos hf h7
      refine lv_aload_n hx hb d_7_13_51 rfl (lv_at hl 3 rfl) ?_
      obtain ⟨g8, hf⟩ := gif hf
      refine zget (ci := 5) (C := RX5) (T := TX5) (v := .ref (ad 5 l0 ((F 5 l0 9).toNat + 1))) (k := 9) hx hb hts inW_5 hown hK hZ g8.1 g8.2 rfl (by decide) k_6_78 rfl d_7_13_52 ?_
      refine lv_astore_n (lv' := [(3, .ref (ad 5 l0 ((F 5 l0 9).toNat + 1))), (2, .int (iI l2)), (1, .int (iI l1)), (0, .ref (ad 5 l0 0))]) hx hb d_7_13_55 rfl hl (by decide) rfl (fun ls hl => ?_)
      refine lv_aload_n hx hb d_7_13_56 rfl (lv_at hl 3 rfl) ?_
      refine lv_aload_n hx hb d_7_13_57 rfl (lv_at hl 3 rfl) ?_
      refine zget (ci := 5) (C := RX5) (T := TX5) (v := .ref (ad 5 l0 ((F 5 l0 8).toNat + 1))) (k := 8) hx hb hts inW_5 hown hK hZ g8.1 g8.2 rfl (by decide) k_6_77 rfl d_7_13_58 ?_
      refine zput (ci := 5) (C := RX5) (T := TX5) (k := 9) (v := (F 5 l0 8)) (w := .ref (ad 5 l0 ((F 5 l0 8).toNat + 1))) hx hb hts inW_5 tyX5 tyX5_ok nmX5 hown hK hZ hS g8.1 g8.2 rfl (by decide) k_6_78 rfl (fun G h => congrArg (fun q : Int => Value.ref (ad 5 l0 (q.toNat + 1))) h) rfl rfl (zno (by decide)) d_7_13_61 (fun H9 locs9 hZ9 hS9 => ?_)
      refine lv_aload_n hx hb d_7_13_64 rfl (lv_at hl 3 rfl) ?_
      refine lv_aload_n hx hb d_7_13_65 rfl (lv_at hl 0 rfl) ?_
      refine zput (ci := 5) (C := RX5) (T := TX5) (k := 8) (v := (F 5 l0 9)) (w := .ref (ad 5 l0 ((F 5 l0 9).toNat + 1))) hx hb hts inW_5 tyX5 tyX5_ok nmX5 hown hK hZ9 hS9 g8.1 g8.2 rfl (by decide) k_6_77 rfl (fun G h => congrArg (fun q : Int => Value.ref (ad 5 l0 (q.toNat + 1))) h) rfl rfl (zno (by decide)) d_7_13_66 (fun H10 locs10 hZ10 hS10 => ?_)
      refine lv_iload_n hx hb d_7_13_69 rfl (lv_at hl 1 rfl) ?_
      refine lv_iconst (v := iI 2) hx hb d_7_13_70 rfl ?_
      refine zmul hx hb d_7_13_71 ?_
      refine lv_istore_n (lv' := [(2, .int (iI (l2 * 2))), (3, .ref (ad 5 l0 ((F 5 l0 9).toNat + 1))), (1, .int (iI l1)), (0, .ref (ad 5 l0 0))]) hx hb d_7_13_72 rfl hl (by decide) rfl (fun ls hl => ?_)
      refine lv_goto (tgt := 9) hx hb d_7_13_73 (by decide) ?_
      exact hrec9 hf hZ10 hS10 (lv_sub hl [0, 2, 3] rfl)
    · replace hf := gneg hf h7
      refine lv_aload_n hx hb d_7_13_21 rfl (lv_at hl 3 rfl) ?_
      refine lv_iload_n hx hb d_7_13_22 rfl (lv_at hl 0 rfl) ?_
      refine lv_iload_n hx hb d_7_13_23 rfl (lv_at hl 0 rfl) ?_
      refine lv_iload_n hx hb d_7_13_24 rfl (lv_at hl 1 rfl) ?_
      refine zadd hx hb d_7_13_25 ?_
      refine lv_iload_n hx hb d_7_13_26 rfl (lv_at hl 2 rfl) ?_
      obtain ⟨g11, hf⟩ := gif hf
      refine va_mmin hx hb (by rw [hml]; exact hl.1.symm) hown (hts _ k_6_134) (hts _ k_3_97) (hts _ k_1_3) (hts _ k_3_98) (Nat.le_of_ble_eq_true rfl) (Nat.le_of_ble_eq_true rfl) (Nat.le_of_ble_eq_true rfl) (Nat.le_of_ble_eq_true rfl) d_7_13_27 ?_
      rw [zmin_e g11 g6]
      refine lv_iload_n hx hb d_7_13_30 rfl (lv_at hl 0 rfl) ?_
      refine lv_iconst (v := iI 2) hx hb d_7_13_31 rfl ?_
      refine lv_iload_n hx hb d_7_13_32 rfl (lv_at hl 1 rfl) ?_
      refine zmul hx hb d_7_13_33 ?_
      refine zadd hx hb d_7_13_34 ?_
      refine lv_iload_n hx hb d_7_13_35 rfl (lv_at hl 2 rfl) ?_
      obtain ⟨g12, hf⟩ := gif hf
      refine va_mmin hx hb (by rw [hml]; exact hl.1.symm) hown (hts _ k_6_134) (hts _ k_3_97) (hts _ k_1_3) (hts _ k_3_98) (Nat.le_of_ble_eq_true rfl) (Nat.le_of_ble_eq_true rfl) (Nat.le_of_ble_eq_true rfl) (Nat.le_of_ble_eq_true rfl) d_7_13_36 ?_
      rw [zmin_e g12 g6]
      obtain ⟨g13, hf⟩ := gif hf
      obtain ⟨r14, F14, B14, hc14, hf⟩ := gbind hf
      refine va_callv (va_runV (As := [.int (iI l3), .int (iI (zmin (l3 + l2) l1)), .int (iI (zmin (l3 + (2 * l2)) l1))]) (rest := []) ⟨hx, hb, hml, hown, hts⟩ (c_Performance_merge (l := l) hc14) (cwV 3 hts (gdV k_7_100 k_7_102 ks_88 k_1_20 k_7_103) rfl rfl rfl (by decide +kernel) ⟨Nat.le_of_ble_eq_true rfl, Nat.le_of_ble_eq_true rfl⟩) (zPV X hZ hS (ci := 5) g13.1 g13.2 (r := (RX5, TX5, 14)) rfl [.int (iI l3), .int (iI (zmin (l3 + l2) l1)), .int (iI (zmin (l3 + (2 * l2)) l1))]) rfl rfl hl.1 rfl (lv_room (Nat.le_of_ble_eq_true rfl)) d_7_13_39 ⟨Nat.le_of_ble_eq_true rfl, Nat.le_of_ble_eq_true rfl⟩) hS (fun q _ h => zAin X hS q h) (zAin X hS) (fun u14 t14 H14 locs14 ht14 hv14 hw14 hB14 hz14 hk14 hS14 => ?_)
      have hZ14 := zBack X ht14 hB14
      refine lv_iload_n hx hb d_7_13_42 rfl (lv_at hl 0 rfl) ?_
      refine lv_iconst (v := iI 2) hx hb d_7_13_43 rfl ?_
      refine lv_iload_n hx hb d_7_13_44 rfl (lv_at hl 1 rfl) ?_
      refine zmul hx hb d_7_13_45 ?_
      refine zadd hx hb d_7_13_46 ?_
      refine lv_istore_n (lv' := [(3, .int (iI (l3 + (2 * l2)))), (2, .int (iI l2)), (1, .int (iI l1)), (0, .ref (ad 5 l0 0))]) hx hb d_7_13_47 rfl hl (by decide) rfl (fun ls hl => ?_)
      refine lv_goto (tgt := 16) hx hb d_7_13_48 (by decide) ?_
      exact ih hf hZ14 hS14 (lv_sub hl [0, 1, 2, 3] rfl)

noncomputable def f_Performance_sortStrokes_9 (K : zK) : Nat → Int → Int → Int → zF → zB → zO
  | 0, _, _, _, _, _ => none
  | n + 1, l2, l1, l0, F, B => if r32 l2 then if r32 l1 then (if l1 ≤ l2 then some (0, F, B) else f_Performance_sortStrokes_16 (f_Performance_sortStrokes_9 K n) K K.1 0 l2 l1 l0 F B) else none else none
set_option maxHeartbeats 4000000 in
set_option maxRecDepth 100000 in
theorem b_Performance_sortStrokes_9 {D : va_G} {ca : Nat → ClassId} {ad : Nat → Int → Nat → Nat} {L : List Nat} {aS vS : Nat → Nat} {A : Nat → Prop} {p : Program} {l : Launch} {e : Env} {s : State} {m : MethodId} {args : Array Value} {below : List Frame} {meth : Method} {c : Code} {K : zK} {r : Int} {F9 : zF} {B9 : zB} (X : zX D ca L aS vS A p s m args meth c prog_7_method_13_code 4 (Option.none : Option Jvm.ClassFile.FieldType) "StaveHouse$Performance") : ∀ {n : Nat} {l2 : Int} {l1 : Int} {l0 : Int} {F : zF} {B : zB} {H : Heap} {locs : List Loc} {ls : Array Slot}, f_Performance_sortStrokes_9 K n l2 l1 l0 F B = some (r, F9, B9) → zH D ca ad lnC K.2 L F B A H → va_S A s.heap H locs → lv_has ls 4 [(2, .int (iI l2)), (1, .int (iI l1)), (0, .ref (ad 5 l0 0))] → W p l e ({ frames := 1, cells := 0, slots := 0, locals := 27 } : Room) s m args below meth c H locs 0 0 (MQ below (Q_Performance_sortStrokes K D ca ad L r F9 B9 A) args s 0 0 A) (F0 m 9 ls []) := by
  obtain ⟨hx, hb, hr, hml, hown, hts, hlk, hK, hA, hL, hX⟩ := id X
  intro n
  induction n with
  | zero =>
    intros
    rename_i hf _ _ _
    cases hf
  | succ n ih =>
    intro l2 l1 l0 F B H locs ls hf hZ hS hl
    replace hf : (if r32 l2 then if r32 l1 then (if l1 ≤ l2 then some (0, F, B) else f_Performance_sortStrokes_16 (f_Performance_sortStrokes_9 K n) K K.1 0 l2 l1 l0 F B) else none else none) = some (r, F9, B9) := hf
    refine lv_iload_n hx hb d_7_13_9 rfl (lv_at hl 0 rfl) ?_
    refine lv_iload_n hx hb d_7_13_10 rfl (lv_at hl 1 rfl) ?_
    obtain ⟨g2, hf⟩ := gif hf
    obtain ⟨g3, hf⟩ := gif hf
    refine zge (tgt := 76) hx hb g2 g3 d_7_13_11 (by decide) (fun h4 => ?_) (fun h4 => ?_)
    · replace hf := gpos hf h4
      cases hf
      exact W.vret hx hb hr (fun t ht hW => ⟨⟨(), rfl, trivial, by rw [ht]; exact hZ, va_K.moved hW.alike hK⟩, hS.F ht⟩) hS.2.2 d_7_13_76 hlk
    · replace hf := gneg hf h4
      refine lv_iconst (v := iI 0) hx hb d_7_13_14 rfl ?_
      refine lv_istore_n (lv' := [(3, .int (iI 0)), (2, .int (iI l2)), (1, .int (iI l1)), (0, .ref (ad 5 l0 0))]) hx hb d_7_13_15 rfl hl (by decide) rfl (fun ls hl => ?_)
      exact b_Performance_sortStrokes_16 X ih hf hZ hS (lv_sub hl [0, 1, 2, 3] rfl)

noncomputable def f_Performance_sortStrokes (K : zK) (l0 : Int) (F : zF) (B : zB) : zO := if 0 ≤ l0 ∧ l0 < K.2 5 then f_Performance_sortStrokes_9 K K.1 1 (2 * (F 5 l0 0)) l0 F B else none
set_option maxHeartbeats 4000000 in
set_option maxRecDepth 100000 in
theorem c_Performance_sortStrokes {l : Launch} {D : va_G} {ca : Nat → ClassId} {ad : Nat → Int → Nat → Nat} {L : List Nat} {aS vS : Nat → Nat} {sz : Nat} {K : zK}  {l0 : Int} {F F9 : zF} {B B9 : zB} {r : Int} (hf : f_Performance_sortStrokes K l0 F B = some (r, F9, B9)) : Met l ({ cls := "StaveHouse$Performance", name := "sortStrokes", desc := "()V" } : Jvm.MethodName) (Cond.code ({ cls := "StaveHouse$Performance", name := "sortStrokes", desc := "()V" } : Jvm.MethodName) prog_7_method_13_code 4 (Option.none : Option Jvm.ClassFile.FieldType) :: wAll) ({ frames := 1, cells := 0, slots := 0, locals := 27 } : Room) (va_Pc [.ref (ad 5 l0 0)] (zPre D ca ad lnC K.2 L aS vS F B sz)) (Q_Performance_sortStrokes K D ca ad L r F9 B9 (zA L sz)) 0 0 (zA L sz) := by
  refine zMet (Qc := Q_Performance_sortStrokes K D ca ad L r F9 B9) (lv := [(0, .ref (ad 5 l0 0))]) (by decide) (Nat.le_of_ble_eq_true rfl) rfl (fun A p e s m below meth c ls X hZ hS hl => ?_)
  obtain ⟨hx, hb, hr, hml, hown, hts, hlk, hK, hA, hL, hX⟩ := id X
  replace hf : (if 0 ≤ l0 ∧ l0 < K.2 5 then f_Performance_sortStrokes_9 K K.1 1 (2 * (F 5 l0 0)) l0 F B else none) = some (r, F9, B9) := hf
  refine lv_iconst (v := iI 2) hx hb d_7_13_0 rfl ?_
  refine lv_aload_n hx hb d_7_13_1 rfl (lv_at hl 0 rfl) ?_
  obtain ⟨g1, hf⟩ := gif hf
  refine zget (ci := 5) (C := RX5) (T := TX5) (v := .int (iI (F 5 l0 0))) (k := 0) hx hb hts inW_5 hown hK hZ g1.1 g1.2 rfl (by decide) k_6_63 rfl d_7_13_2 ?_
  refine zmul hx hb d_7_13_5 ?_
  refine lv_istore_n (lv' := [(1, .int (iI (2 * (F 5 l0 0)))), (0, .ref (ad 5 l0 0))]) hx hb d_7_13_6 rfl hl (by decide) rfl (fun ls hl => ?_)
  refine lv_iconst (v := iI 1) hx hb d_7_13_7 rfl ?_
  refine lv_istore_n (lv' := [(2, .int (iI 1)), (1, .int (iI (2 * (F 5 l0 0)))), (0, .ref (ad 5 l0 0))]) hx hb d_7_13_8 rfl hl (by decide) rfl (fun ls hl => ?_)
  exact b_Performance_sortStrokes_9 X hf hZ hS (lv_sub hl [0, 1, 2] rfl)

noncomputable abbrev Q_S_stroke (K : zK) (D : va_G) (ca : Nat → ClassId) (ad : Nat → Int → Nat → Nat) (L : List Nat) (r : Int) (F : zF) (B : zB) (A : Nat → Prop) : Array Value → State → Outcome → State → Prop := va_Qi (S := Unit) (fun p _ => p = iI r) (fun _ => zPo D ca ad lnC K.2 L F B A) A
noncomputable def f_S_stroke_23 (K : zK) (s0 : Int) (F : zF) (B : zB) : zO := some (s0, F, B)
set_option maxHeartbeats 4000000 in
set_option maxRecDepth 100000 in
theorem b_S_stroke_23 {D : va_G} {ca : Nat → ClassId} {ad : Nat → Int → Nat → Nat} {L : List Nat} {aS vS : Nat → Nat} {A : Nat → Prop} {p : Program} {l : Launch} {e : Env} {s : State} {m : MethodId} {args : Array Value} {below : List Frame} {meth : Method} {c : Code} {K : zK} {r : Int} {F9 : zF} {B9 : zB} (X : zX D ca L aS vS A p s m args meth c prog_1_method_20_code 5 (Option.some Jvm.ClassFile.FieldType.int) "StaveHouse") {s0 : Int} {F : zF} {B : zB} {H : Heap} {locs : List Loc} {ls : Array Slot} (hf : f_S_stroke_23 K s0 F B = some (r, F9, B9)) (hZ : zH D ca ad lnC K.2 L F B A H) (hS : va_S A s.heap H locs) (hl : lv_has ls 5 []) : W p l e ({ frames := 2, cells := 0, slots := 0, locals := 43 } : Room) s m args below meth c H locs 0 0 (MQ below (Q_S_stroke K D ca ad L r F9 B9 A) args s 0 0 A) (F0 m 23 ls [.int (iI s0)]) := by
  obtain ⟨hx, hb, hr, hml, hown, hts, hlk, hK, hA, hL, hX⟩ := id X
  replace hf : (some (s0, F, B)) = some (r, F9, B9) := hf
  cases hf
  exact W.iret hx hb hr (fun t ht hW => ⟨⟨_, (), rfl, rfl, by rw [ht]; exact hZ, va_K.moved hW.alike hK⟩, hS.F ht⟩) hS.2.2 d_1_20_23 hlk

noncomputable def f_S_stroke (K : zK) (l0 : Int) (l1 : Int) (l2 : Int) (l3 : Int) (F : zF) (B : zB) : zO := if 0 ≤ l0 ∧ l0 < K.2 12 then zbind (f_S_performanceOf K l0 l1 F B) (fun r2 F2 B2 => (if r2 < 0 then f_S_stroke_23 K (-1) F2 B2 else if 0 ≤ r2 ∧ r2 < K.2 5 then zbind (f_Performance_strokeTold K r2 l2 l3 F2 B2) (fun r5 F5 B5 => f_S_stroke_23 K r5 F5 B5) else none)) else none
set_option maxHeartbeats 4000000 in
set_option maxRecDepth 100000 in
theorem c_S_stroke {l : Launch} {D : va_G} {ca : Nat → ClassId} {ad : Nat → Int → Nat → Nat} {L : List Nat} {aS vS : Nat → Nat} {sz : Nat} {K : zK}  {l0 : Int} {l1 : Int} {l2 : Int} {l3 : Int} {F F9 : zF} {B B9 : zB} {r : Int} (hf : f_S_stroke K l0 l1 l2 l3 F B = some (r, F9, B9)) : Met l ({ cls := "StaveHouse", name := "stroke", desc := "(III)I" } : Jvm.MethodName) (Cond.code ({ cls := "StaveHouse", name := "stroke", desc := "(III)I" } : Jvm.MethodName) prog_1_method_20_code 5 (Option.some Jvm.ClassFile.FieldType.int) :: wAll) ({ frames := 2, cells := 0, slots := 0, locals := 43 } : Room) (va_Pc [.ref (ad 12 l0 0), .int (iI l1), .int (iI l2), .int (iI l3)] (zPre D ca ad lnC K.2 L aS vS F B sz)) (Q_S_stroke K D ca ad L r F9 B9 (zA L sz)) 0 0 (zA L sz) := by
  refine zMet (Qc := Q_S_stroke K D ca ad L r F9 B9) (lv := [(0, .ref (ad 12 l0 0)), (1, .int (iI l1)), (2, .int (iI l2)), (3, .int (iI l3))]) (by decide) (Nat.le_of_ble_eq_true rfl) rfl (fun A p e s m below meth c ls X hZ hS hl => ?_)
  obtain ⟨hx, hb, hr, hml, hown, hts, hlk, hK, hA, hL, hX⟩ := id X
  replace hf : (if 0 ≤ l0 ∧ l0 < K.2 12 then zbind (f_S_performanceOf K l0 l1 F B) (fun r2 F2 B2 => (if r2 < 0 then f_S_stroke_23 K (-1) F2 B2 else if 0 ≤ r2 ∧ r2 < K.2 5 then zbind (f_Performance_strokeTold K r2 l2 l3 F2 B2) (fun r5 F5 B5 => f_S_stroke_23 K r5 F5 B5) else none)) else none) = some (r, F9, B9) := hf
  refine lv_aload_n hx hb d_1_20_0 rfl (lv_at hl 0 rfl) ?_
  refine lv_iload_n hx hb d_1_20_1 rfl (lv_at hl 1 rfl) ?_
  obtain ⟨g1, hf⟩ := gif hf
  obtain ⟨r2, F2, B2, hc2, hf⟩ := gbind hf
  refine va_callq (va_runV (As := [.int (iI l1)]) (rest := []) ⟨hx, hb, hml, hown, hts⟩ (c_S_performanceOf (l := l) hc2) (cwV 1 hts (gdV k_7_108 k_7_110 ks_89 k_1_1 k_7_111) rfl rfl rfl (by decide +kernel) ⟨Nat.le_of_ble_eq_true rfl, Nat.le_of_ble_eq_true rfl⟩) (zPV X hZ hS (ci := 12) g1.1 g1.2 (r := (RX12, TX12, 10)) rfl [.int (iI l1)]) rfl rfl hl.1 rfl (lv_room (Nat.le_of_ble_eq_true rfl)) d_1_20_2 ⟨Nat.le_of_ble_eq_true rfl, Nat.le_of_ble_eq_true rfl⟩) hS (fun q _ h => zAin X hS q h) (zAin X hS) (fun p2 u2 t2 H2 locs2 ht2 hv2 hw2 hB2 hz2 hk2 hS2 => ?_)
  have hZ2 := zBack X ht2 hB2
  subst hw2
  refine zastore (lv' := [(0, .ref (ad 12 l0 0)), (1, .int (iI l1)), (2, .int (iI l2)), (3, .int (iI l3))]) hx hb d_1_20_5 hl (by decide) (fun _ _ => rfl) (fun ls hl => ?_)
  refine zaload hx hb d_1_20_7 (lv_at hl 0 rfl) ?_
  refine zifnonnull (tgt := 16) hx hb d_1_20_9 (by decide) (fun h3 => ?_) (fun h3 => ?_)
  · replace hf := gneg hf h3
    refine zaload hx hb d_1_20_16 (lv_at hl 0 rfl) ?_
    refine lv_iload_n hx hb d_1_20_18 rfl (lv_at hl 3 rfl) ?_
    refine lv_iload_n hx hb d_1_20_19 rfl (lv_at hl 4 rfl) ?_
    obtain ⟨g4, hf⟩ := gif hf
    refine W.eq (g2 := F0 m 20 ls [.int (iI l3), .int (iI l2), .ref (ad 5 r2 0)]) (by rw [zrf_pos (ad := ad) (t := 5) g4.1]; try rfl) ?_
    obtain ⟨r5, F5, B5, hc5, hf⟩ := gbind hf
    refine va_calli (va_runV (As := [.int (iI l2), .int (iI l3)]) (rest := []) ⟨hx, hb, hml, hown, hts⟩ (c_Performance_strokeTold (l := l) hc5) (cwV 2 hts (gdV k_7_112 k_7_113 k_7_114 k_1_20 k_7_115) rfl rfl rfl (by decide +kernel) ⟨Nat.le_of_ble_eq_true rfl, Nat.le_of_ble_eq_true rfl⟩) (zPV X hZ2 hS2 (ci := 5) g4.1 g4.2 (r := (RX5, TX5, 14)) rfl [.int (iI l2), .int (iI l3)]) rfl rfl hl.1 rfl (lv_room (Nat.le_of_ble_eq_true rfl)) d_1_20_20 ⟨Nat.le_of_ble_eq_true rfl, Nat.le_of_ble_eq_true rfl⟩) hS2 (fun q _ h => zAin X hS2 q h) (zAin X hS2) (fun p5 u5 t5 H5 locs5 ht5 hv5 hw5 hB5 hz5 hk5 hS5 => ?_)
    have hZ5 := zBack X ht5 hB5
    subst hw5
    exact b_S_stroke_23 X hf hZ5 hS5 (lv_sub hl [] rfl)
  · replace hf := gpos hf h3
    refine lv_iconst (v := iI (-1)) hx hb d_1_20_12 rfl ?_
    refine lv_goto (tgt := 23) hx hb d_1_20_13 (by decide) ?_
    exact b_S_stroke_23 X hf hZ2 hS2 (lv_sub hl [] rfl)

noncomputable abbrev Q_CStringLatin1_charAt (K : zK) (D : va_G) (ca : Nat → ClassId) (ad : Nat → Int → Nat → Nat) (L : List Nat) (r : Int) (F : zF) (B : zB) (A : Nat → Prop) : Array Value → State → Outcome → State → Prop := va_Qi (S := Unit) (fun p _ => p = iI r) (fun _ => zPo D ca ad lnC K.2 L F B A) A
noncomputable def f_CStringLatin1_charAt (K : zK) (l0 : Nat) (l1 : Int) (F : zF) (B : zB) : zO := if l0 < strL.length then zbind (f_CString_checkIndex K l1 (zsl l0) F B) (fun r2 F2 B2 => if 0 ≤ l1 ∧ l1 < zsl l0 then if 0 ≤ (zi2c (zand (zsb l0 l1) 255)) ∧ (zi2c (zand (zsb l0 l1) 255)) < 65536 then some (zi2c (zand (zsb l0 l1) 255), F2, B2) else none else none) else none
set_option maxHeartbeats 4000000 in
set_option maxRecDepth 100000 in
theorem c_CStringLatin1_charAt {l : Launch} {D : va_G} {ca : Nat → ClassId} {ad : Nat → Int → Nat → Nat} {L : List Nat} {aS vS : Nat → Nat} {sz : Nat} {K : zK}  {l0 : Nat} {l1 : Int} {F F9 : zF} {B B9 : zB} {r : Int} (hf : f_CStringLatin1_charAt K l0 l1 F B = some (r, F9, B9)) : Met l ({ cls := "java/lang/StringLatin1", name := "charAt", desc := "([BI)C" } : Jvm.MethodName) (Cond.code ({ cls := "java/lang/StringLatin1", name := "charAt", desc := "([BI)C" } : Jvm.MethodName) prog_22_method_2_code 2 (Option.some Jvm.ClassFile.FieldType.char) :: wAll) ({ frames := 2, cells := 0, slots := 0, locals := 43 } : Room) (va_Pc [.ref (vS l0), .int (iI l1)] (zPre D ca ad lnC K.2 L aS vS F B sz)) (Q_CStringLatin1_charAt K D ca ad L r F9 B9 (zA L sz)) 0 0 (zA L sz) := by
  refine zMet (Qc := Q_CStringLatin1_charAt K D ca ad L r F9 B9) (lv := [(0, .ref (vS l0)), (1, .int (iI l1))]) (by decide) (Nat.le_of_ble_eq_true rfl) rfl (fun A p e s m below meth c ls X hZ hS hl => ?_)
  obtain ⟨hx, hb, hr, hml, hown, hts, hlk, hK, hA, hL, hX⟩ := id X
  replace hf : (if l0 < strL.length then zbind (f_CString_checkIndex K l1 (zsl l0) F B) (fun r2 F2 B2 => if 0 ≤ l1 ∧ l1 < zsl l0 then if 0 ≤ (zi2c (zand (zsb l0 l1) 255)) ∧ (zi2c (zand (zsb l0 l1) 255)) < 65536 then some (zi2c (zand (zsb l0 l1) 255), F2, B2) else none else none) else none) = some (r, F9, B9) := hf
  refine lv_iload_n hx hb d_22_2_0 rfl (lv_at hl 1 rfl) ?_
  refine lv_aload_n hx hb d_22_2_1 rfl (lv_at hl 0 rfl) ?_
  obtain ⟨g1, hf⟩ := gif hf
  refine va_tlen (v := iI (zsl l0)) hx hb (zstr hX g1).2.2.1 hS (zsl_n _) d_22_2_2 ?_
  obtain ⟨r2, F2, B2, hc2, hf⟩ := gbind hf
  refine va_callv (va_runS (As := [.int (iI l1), .int (iI (zsl l0))]) (rest := []) ⟨hx, hb, hml, hown, hts⟩ (c_CString_checkIndex (l := l) hc2) (va_cwS 2 hts (gdS k_7_140 k_7_141 k_1_11 k_7_142) rfl rfl rfl (by decide +kernel) ⟨Nat.le_of_ble_eq_true rfl, Nat.le_of_ble_eq_true rfl⟩) (zPS X hZ hS [.int (iI l1), .int (iI (zsl l0))]) rfl rfl hl.1 rfl (lv_room (Nat.le_of_ble_eq_true rfl)) d_22_2_3 ⟨Nat.le_of_ble_eq_true rfl, Nat.le_of_ble_eq_true rfl⟩) hS (fun q _ h => zAin X hS q h) (zAin X hS) (fun u2 t2 H2 locs2 ht2 hv2 hw2 hB2 hz2 hk2 hS2 => ?_)
  have hZ2 := zBack X ht2 hB2
  refine lv_aload_n hx hb d_22_2_6 rfl (lv_at hl 0 rfl) ?_
  refine lv_iload_n hx hb d_22_2_7 rfl (lv_at hl 1 rfl) ?_
  obtain ⟨g3, hf⟩ := gif hf
  refine va_tb (v := .int (iI (zsb l0 l1))) hx hb (zstr hX g1).2.2.1 hS2 (zs_in g1 g3) (zsb_v g1 g3) d_22_2_8 ?_
  refine lv_sipush (v := iI 255) hx hb d_22_2_9 (by decide) ?_
  refine zand_r hx hb d_22_2_12 ?_
  refine zi2c_r hx hb d_22_2_13 ?_
  obtain ⟨g4, hf⟩ := gif hf
  cases hf
  exact W.zret hx hb hr (zchar g4) (fun t ht hW => ⟨⟨_, (), rfl, rfl, by rw [ht]; exact hZ2, va_K.moved hW.alike hK⟩, hS2.F ht⟩) hS2.2.2 d_22_2_14 hlk

noncomputable abbrev Q_Performance_endTrack (K : zK) (D : va_G) (ca : Nat → ClassId) (ad : Nat → Int → Nat → Nat) (L : List Nat) (r : Int) (F : zF) (B : zB) (A : Nat → Prop) : Array Value → State → Outcome → State → Prop := va_Qv (S := Unit) (fun _ => True) (fun _ => zPo D ca ad lnC K.2 L F B A) A
noncomputable def f_Performance_endTrack (K : zK) (l0 : Int) (l1 : Int) (F : zF) (B : zB) : zO := zbind (f_Performance_putMeta K l0 47 0 F B) (fun r1 F1 B1 => if 0 ≤ l0 ∧ l0 < K.2 0 then zbind (f_ByteRow_setWide K l0 (l1 - 4) ((F1 0 l0 1) - l1) F1 B1) (fun r3 F3 B3 => some (0, F3, B3)) else none)
set_option maxHeartbeats 4000000 in
set_option maxRecDepth 100000 in
theorem c_Performance_endTrack {l : Launch} {D : va_G} {ca : Nat → ClassId} {ad : Nat → Int → Nat → Nat} {L : List Nat} {aS vS : Nat → Nat} {sz : Nat} {K : zK}  {l0 : Int} {l1 : Int} {F F9 : zF} {B B9 : zB} {r : Int} (hf : f_Performance_endTrack K l0 l1 F B = some (r, F9, B9)) : Met l ({ cls := "StaveHouse$Performance", name := "endTrack", desc := "(LStaveHouse$ByteRow;I)V" } : Jvm.MethodName) (Cond.code ({ cls := "StaveHouse$Performance", name := "endTrack", desc := "(LStaveHouse$ByteRow;I)V" } : Jvm.MethodName) prog_7_method_19_code 2 (Option.none : Option Jvm.ClassFile.FieldType) :: wAll) ({ frames := 2, cells := 0, slots := 0, locals := 43 } : Room) (va_Pc [.ref (ad 0 l0 0), .int (iI l1)] (zPre D ca ad lnC K.2 L aS vS F B sz)) (Q_Performance_endTrack K D ca ad L r F9 B9 (zA L sz)) 0 0 (zA L sz) := by
  refine zMet (Qc := Q_Performance_endTrack K D ca ad L r F9 B9) (lv := [(0, .ref (ad 0 l0 0)), (1, .int (iI l1))]) (by decide) (Nat.le_of_ble_eq_true rfl) rfl (fun A p e s m below meth c ls X hZ hS hl => ?_)
  obtain ⟨hx, hb, hr, hml, hown, hts, hlk, hK, hA, hL, hX⟩ := id X
  replace hf : (zbind (f_Performance_putMeta K l0 47 0 F B) (fun r1 F1 B1 => if 0 ≤ l0 ∧ l0 < K.2 0 then zbind (f_ByteRow_setWide K l0 (l1 - 4) ((F1 0 l0 1) - l1) F1 B1) (fun r3 F3 B3 => some (0, F3, B3)) else none)) = some (r, F9, B9) := hf
  refine lv_aload_n hx hb d_7_19_0 rfl (lv_at hl 0 rfl) ?_
  refine lv_bipush (v := iI 47) hx hb d_7_19_1 (by decide) ?_
  refine lv_iconst (v := iI 0) hx hb d_7_19_3 rfl ?_
  obtain ⟨r1, F1, B1, hc1, hf⟩ := gbind hf
  refine va_callv (va_runS (As := [.ref (ad 0 l0 0), .int (iI 47), .int (iI 0)]) (rest := []) ⟨hx, hb, hml, hown, hts⟩ (c_Performance_putMeta (l := l) hc1) (va_cwS 3 hts (gdS k_7_165 k_7_166 k_1_20 k_7_167) rfl rfl rfl (by decide +kernel) ⟨Nat.le_of_ble_eq_true rfl, Nat.le_of_ble_eq_true rfl⟩) (zPS X hZ hS [.ref (ad 0 l0 0), .int (iI 47), .int (iI 0)]) rfl rfl hl.1 rfl (lv_room (Nat.le_of_ble_eq_true rfl)) d_7_19_4 ⟨Nat.le_of_ble_eq_true rfl, Nat.le_of_ble_eq_true rfl⟩) hS (fun q _ h => zAin X hS q h) (zAin X hS) (fun u1 t1 H1 locs1 ht1 hv1 hw1 hB1 hz1 hk1 hS1 => ?_)
  have hZ1 := zBack X ht1 hB1
  refine lv_aload_n hx hb d_7_19_7 rfl (lv_at hl 0 rfl) ?_
  refine lv_iload_n hx hb d_7_19_8 rfl (lv_at hl 1 rfl) ?_
  refine lv_iconst (v := iI 4) hx hb d_7_19_9 rfl ?_
  refine zsub hx hb d_7_19_10 ?_
  refine lv_aload_n hx hb d_7_19_11 rfl (lv_at hl 0 rfl) ?_
  obtain ⟨g2, hf⟩ := gif hf
  refine zget (ci := 0) (C := RX0) (T := TX0) (v := .int (iI (F1 0 l0 1))) (k := 1) hx hb hts inW_0 hown hK hZ1 g2.1 g2.2 rfl (by decide) k_1_47 rfl d_7_19_12 ?_
  refine lv_iload_n hx hb d_7_19_15 rfl (lv_at hl 1 rfl) ?_
  refine zsub hx hb d_7_19_16 ?_
  obtain ⟨r3, F3, B3, hc3, hf⟩ := gbind hf
  refine va_callv (va_runV (As := [.int (iI (l1 - 4)), .int (iI ((F1 0 l0 1) - l1))]) (rest := []) ⟨hx, hb, hml, hown, hts⟩ (c_ByteRow_setWide (l := l) hc3) (cwV 2 hts (gdV k_7_179 k_7_180 k_7_181 k_1_2 k_7_182) rfl rfl rfl (by decide +kernel) ⟨Nat.le_of_ble_eq_true rfl, Nat.le_of_ble_eq_true rfl⟩) (zPV X hZ1 hS1 (ci := 0) g2.1 g2.2 (r := (RX0, TX0, 3)) rfl [.int (iI (l1 - 4)), .int (iI ((F1 0 l0 1) - l1))]) rfl rfl hl.1 rfl (lv_room (Nat.le_of_ble_eq_true rfl)) d_7_19_17 ⟨Nat.le_of_ble_eq_true rfl, Nat.le_of_ble_eq_true rfl⟩) hS1 (fun q _ h => zAin X hS1 q h) (zAin X hS1) (fun u3 t3 H3 locs3 ht3 hv3 hw3 hB3 hz3 hk3 hS3 => ?_)
  have hZ3 := zBack X ht3 hB3
  cases hf
  exact W.vret hx hb hr (fun t ht hW => ⟨⟨(), rfl, trivial, by rw [ht]; exact hZ3, va_K.moved hW.alike hK⟩, hS3.F ht⟩) hS3.2.2 d_7_19_20 hlk

noncomputable abbrev Q_Performance_writeStrokes (K : zK) (D : va_G) (ca : Nat → ClassId) (ad : Nat → Int → Nat → Nat) (L : List Nat) (r : Int) (F : zF) (B : zB) (A : Nat → Prop) : Array Value → State → Outcome → State → Prop := va_Qv (S := Unit) (fun _ => True) (fun _ => zPo D ca ad lnC K.2 L F B A) A
noncomputable def f_Performance_writeStrokes_90 (rec8 : Int → Int → Int → Int → Int → Int → zF → zB → zO) (K : zK) (l5 : Int) (l4 : Int) (l3 : Int) (l0 : Int) (l1 : Int) (l2 : Int) (F : zF) (B : zB) : zO := rec8 (l5 + 1) l4 l3 l0 l1 l2 F B
set_option maxHeartbeats 4000000 in
set_option maxRecDepth 100000 in
theorem b_Performance_writeStrokes_90 {D : va_G} {ca : Nat → ClassId} {ad : Nat → Int → Nat → Nat} {L : List Nat} {aS vS : Nat → Nat} {A : Nat → Prop} {p : Program} {l : Launch} {e : Env} {s : State} {m : MethodId} {args : Array Value} {below : List Frame} {meth : Method} {c : Code} {K : zK} {r : Int} {F9 : zF} {B9 : zB} (X : zX D ca L aS vS A p s m args meth c prog_7_method_23_code 6 (Option.none : Option Jvm.ClassFile.FieldType) "StaveHouse$Performance") {rec8 : Int → Int → Int → Int → Int → Int → zF → zB → zO} (hrec8 : ∀ {l5 : Int} {l4 : Int} {l3 : Int} {l0 : Int} {l1 : Int} {l2 : Int} {F : zF} {B : zB} {H : Heap} {locs : List Loc} {ls : Array Slot}, rec8 l5 l4 l3 l0 l1 l2 F B = some (r, F9, B9) → zH D ca ad lnC K.2 L F B A H → va_S A s.heap H locs → lv_has ls 6 [(5, .int (iI l5)), (4, .int (iI l4)), (3, .int (iI l3)), (0, .ref (ad 5 l0 0)), (1, .int (iI l1)), (2, .ref (ad 0 l2 0))] → W p l e ({ frames := 2, cells := 0, slots := 0, locals := 43 } : Room) s m args below meth c H locs 0 0 (MQ below (Q_Performance_writeStrokes K D ca ad L r F9 B9 A) args s 0 0 A) (F0 m 8 ls [])) {l5 : Int} {l4 : Int} {l3 : Int} {l0 : Int} {l1 : Int} {l2 : Int} {F : zF} {B : zB} {H : Heap} {locs : List Loc} {ls : Array Slot} (hf : f_Performance_writeStrokes_90 rec8 K l5 l4 l3 l0 l1 l2 F B = some (r, F9, B9)) (hZ : zH D ca ad lnC K.2 L F B A H) (hS : va_S A s.heap H locs) (hl : lv_has ls 6 [(5, .int (iI l5)), (4, .int (iI l4)), (3, .int (iI l3)), (0, .ref (ad 5 l0 0)), (1, .int (iI l1)), (2, .ref (ad 0 l2 0))]) : W p l e ({ frames := 2, cells := 0, slots := 0, locals := 43 } : Room) s m args below meth c H locs 0 0 (MQ below (Q_Performance_writeStrokes K D ca ad L r F9 B9 A) args s 0 0 A) (F0 m 90 ls []) := by
  obtain ⟨hx, hb, hr, hml, hown, hts, hlk, hK, hA, hL, hX⟩ := id X
  replace hf : (rec8 (l5 + 1) l4 l3 l0 l1 l2 F B) = some (r, F9, B9) := hf
  refine lv_iinc (v := iI (l5 + 1)) (lv' := [(5, .int (iI (l5 + 1))), (4, .int (iI l4)), (3, .int (iI l3)), (0, .ref (ad 5 l0 0)), (1, .int (iI l1)), (2, .ref (ad 0 l2 0))]) hx hb d_7_23_90 hl (k := 0) rfl (iI_add _ 1) (by decide) rfl (fun ls hl => ?_)
  refine lv_goto (tgt := 8) hx hb d_7_23_93 (by decide) ?_
  exact hrec8 hf hZ hS (lv_sub hl [0, 1, 2, 3, 4, 5] rfl)

