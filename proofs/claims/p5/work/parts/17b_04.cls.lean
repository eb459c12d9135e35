set_option maxHeartbeats 4000000 in
set_option maxRecDepth 100000 in
theorem b_Part_bracketStands_62 {D : va_G} {ca : Nat → ClassId} {ad : Nat → Int → Nat → Nat} {L : List Nat} {aS vS : Nat → Nat} {A : Nat → Prop} {p : Program} {l : Launch} {e : Env} {s : State} {m : MethodId} {args : Array Value} {below : List Frame} {meth : Method} {c : Code} {K : zK} {r : Int} {F9 : zF} {B9 : zB} (X : zX D ca L aS vS A p s m args meth c prog_6_method_6_code 10 (Option.some Jvm.ClassFile.FieldType.boolean) "StaveHouse$Part") : ∀ {n : Nat} {l9 : Int} {l7 : Int} {l5 : Int} {l4 : Int} {l0 : Int} {l2 : Int} {F : zF} {B : zB} {H : Heap} {locs : List Loc} {ls : Array Slot}, f_Part_bracketStands_62 K n l9 l7 l5 l4 l0 l2 F B = some (r, F9, B9) → zH D ca ad lnC K.2 L F B A H → va_S A s.heap H locs → lv_has ls 10 [(9, .int (iI l9)), (7, .long (lI l7)), (5, .long (lI l5)), (4, .int (iI l4)), (0, .ref (ad 4 l0 0)), (2, .long (lI l2))] → W p l e ({ frames := 0, cells := 0, slots := 0, locals := 0 } : Room) s m args below meth c H locs 0 0 (MQ below (Q_Part_bracketStands K D ca ad L r F9 B9 A) args s 0 0 A) (F0 m 62 ls []) := by
  obtain ⟨hx, hb, hr, hml, hown, hts, hlk, hK, hA, hL, hX⟩ := id X
  intro n
  induction n with
  | zero =>
    intros
    rename_i hf _ _ _
    cases hf
  | succ n ih =>
    intro l9 l7 l5 l4 l0 l2 F B H locs ls hf hZ hS hl
    replace hf : (if 0 ≤ l0 ∧ l0 < K.2 4 then if r32 l9 then if r32 (F 4 l0 6) then (if (F 4 l0 6) ≤ l9 then f_Part_bracketStands_107 K l7 l5 l2 F B else if 0 ≤ l9 ∧ l9 < 200 then if 0 ≤ (B 4 l0 5 l9) ∧ (B 4 l0 5 l9) < K.2 1 then if r32 (F 1 (B 4 l0 5 l9) 5) then if r32 l4 then (if (F 1 (B 4 l0 5 l9) 5) = l4 then f_Part_bracketStands_62 K n (l9 + 1) (l7 + (F 1 (B 4 l0 5 l9) 1)) l5 l4 l0 l2 F B else f_Part_bracketStands_107 K l7 l5 l2 F B) else none else none else none else none) else none else none else none) = some (r, F9, B9) := hf
    refine lv_iload hx hb d_6_6_62 (lv_at hl 0 rfl) ?_
    refine lv_aload_n hx hb d_6_6_64 rfl (lv_at hl 4 rfl) ?_
    obtain ⟨g17, hf⟩ := gif hf
    refine zget (ci := 4) (C := RX4) (T := TX4) (v := .int (iI (F 4 l0 6))) (k := 6) hx hb hts inW_4 hown hK hZ g17.1 g17.2 rfl (by decide) k_4_135 rfl d_6_6_65 ?_
    obtain ⟨g18, hf⟩ := gif hf
    obtain ⟨g19, hf⟩ := gif hf
    refine zge (tgt := 107) hx hb g18 g19 d_6_6_68 (by decide) (fun h20 => ?_) (fun h20 => ?_)
    · replace hf := gpos hf h20
      exact b_Part_bracketStands_107 X hf hZ hS (lv_sub hl [1, 2, 5] rfl)
    · replace hf := gneg hf h20
      refine lv_aload_n hx hb d_6_6_71 rfl (lv_at hl 4 rfl) ?_
      refine zget (ci := 4) (C := RX4) (T := TX4) (v := .ref (ad 4 l0 (5 + 1))) (k := 5) hx hb hts inW_4 hown hK hZ g17.1 g17.2 rfl (by decide) k_4_130 rfl d_6_6_72 ?_
      refine lv_iload hx hb d_6_6_75 (lv_at hl 0 rfl) ?_
      obtain ⟨g21, hf⟩ := gif hf
      refine zaldR (t := 1) (x := 7) (ci := 4) (k := 5) hx hb hK rfl rfl hZ g17.1 g17.2 rfl (Nat.le_of_ble_eq_true rfl) g21.1 g21.2 d_6_6_77 ?_
      obtain ⟨g22, hf⟩ := gif hf
      refine zunrf g22.1 ?_
      refine zget (ci := 1) (C := RX1) (T := TX1) (v := .int (iI (F 1 (B 4 l0 5 l9) 5))) (k := 5) hx hb hts inW_1 hown hK hZ g22.1 g22.2 rfl (by decide) k_2_34 rfl d_6_6_78 ?_
      refine lv_iload hx hb d_6_6_81 (lv_at hl 3 rfl) ?_
      obtain ⟨g23, hf⟩ := gif hf
      obtain ⟨g24, hf⟩ := gif hf
      refine zne (tgt := 107) hx hb g23 g24 d_6_6_83 (by decide) (fun h25 => ?_) (fun h25 => ?_)
      · replace hf := gneg hf h25
        exact b_Part_bracketStands_107 X hf hZ hS (lv_sub hl [1, 2, 5] rfl)
      · replace hf := gpos hf h25
        refine lv_lload hx hb d_6_6_86 (lv_at hl 1 rfl) ?_
        refine lv_aload_n hx hb d_6_6_88 rfl (lv_at hl 4 rfl) ?_
        refine zget (ci := 4) (C := RX4) (T := TX4) (v := .ref (ad 4 l0 (5 + 1))) (k := 5) hx hb hts inW_4 hown hK hZ g17.1 g17.2 rfl (by decide) k_4_130 rfl d_6_6_89 ?_
        refine lv_iload hx hb d_6_6_92 (lv_at hl 0 rfl) ?_
        refine zaldR (t := 1) (x := 7) (ci := 4) (k := 5) hx hb hK rfl rfl hZ g17.1 g17.2 rfl (Nat.le_of_ble_eq_true rfl) g21.1 g21.2 d_6_6_94 ?_
        refine zunrf g22.1 ?_
        refine zget (ci := 1) (C := RX1) (T := TX1) (v := .long (lI (F 1 (B 4 l0 5 l9) 1))) (k := 1) hx hb hts inW_1 hown hK hZ g22.1 g22.2 rfl (by decide) k_2_24 rfl d_6_6_95 ?_
        refine zladd hx hb d_6_6_98 ?_
        refine lv_lstore (lv' := [(7, .long (lI (l7 + (F 1 (B 4 l0 5 l9) 1)))), (9, .int (iI l9)), (5, .long (lI l5)), (4, .int (iI l4)), (0, .ref (ad 4 l0 0)), (2, .long (lI l2))]) hx hb d_6_6_99 hl (by decide) rfl (fun ls hl => ?_)
        refine lv_iinc (v := iI (l9 + 1)) (lv' := [(9, .int (iI (l9 + 1))), (7, .long (lI (l7 + (F 1 (B 4 l0 5 l9) 1)))), (5, .long (lI l5)), (4, .int (iI l4)), (0, .ref (ad 4 l0 0)), (2, .long (lI l2))]) hx hb d_6_6_101 hl (k := 1) rfl (iI_add _ 1) (by decide) rfl (fun ls hl => ?_)
        refine lv_goto (tgt := 62) hx hb d_6_6_104 (by decide) ?_
        exact ih hf hZ hS (lv_sub hl [0, 1, 2, 3, 4, 5] rfl)

noncomputable def f_Part_bracketStands_42 (K : zK)  (F : zF) (B : zB) : zO := some (1, F, B)
set_option maxHeartbeats 4000000 in
set_option maxRecDepth 100000 in
theorem b_Part_bracketStands_42 {D : va_G} {ca : Nat → ClassId} {ad : Nat → Int → Nat → Nat} {L : List Nat} {aS vS : Nat → Nat} {A : Nat → Prop} {p : Program} {l : Launch} {e : Env} {s : State} {m : MethodId} {args : Array Value} {below : List Frame} {meth : Method} {c : Code} {K : zK} {r : Int} {F9 : zF} {B9 : zB} (X : zX D ca L aS vS A p s m args meth c prog_6_method_6_code 10 (Option.some Jvm.ClassFile.FieldType.boolean) "StaveHouse$Part")  {F : zF} {B : zB} {H : Heap} {locs : List Loc} {ls : Array Slot} (hf : f_Part_bracketStands_42 K  F B = some (r, F9, B9)) (hZ : zH D ca ad lnC K.2 L F B A H) (hS : va_S A s.heap H locs) (hl : lv_has ls 10 []) : W p l e ({ frames := 0, cells := 0, slots := 0, locals := 0 } : Room) s m args below meth c H locs 0 0 (MQ below (Q_Part_bracketStands K D ca ad L r F9 B9 A) args s 0 0 A) (F0 m 42 ls []) := by
  obtain ⟨hx, hb, hr, hml, hown, hts, hlk, hK, hA, hL, hX⟩ := id X
  replace hf : (some (1, F, B)) = some (r, F9, B9) := hf
  refine lv_iconst (v := iI 1) hx hb d_6_6_42 rfl ?_
  cases hf
  exact W.zret hx hb hr rfl (fun t ht hW => ⟨⟨_, (), rfl, rfl, by rw [ht]; exact hZ, va_K.moved hW.alike hK⟩, hS.F ht⟩) hS.2.2 d_6_6_43 hlk

noncomputable def f_Part_bracketStands_36 (K : zK) (l4 : Int) (l0 : Int) (l1 : Int) (l2 : Int) (F : zF) (B : zB) : zO := if r64 l2 then (if 0 < (zcmp l2 0) then if 0 ≤ l0 ∧ l0 < K.2 4 then if 0 ≤ l1 ∧ l1 < 200 then if 0 ≤ (B 4 l0 5 l1) ∧ (B 4 l0 5 l1) < K.2 1 then f_Part_bracketStands_62 K K.1 l1 (F 1 (B 4 l0 5 l1) 0) (F 1 (B 4 l0 5 l1) 0) l4 l0 l2 F B else none else none else none else f_Part_bracketStands_42 K F B) else none
set_option maxHeartbeats 4000000 in
set_option maxRecDepth 100000 in
theorem b_Part_bracketStands_36 {D : va_G} {ca : Nat → ClassId} {ad : Nat → Int → Nat → Nat} {L : List Nat} {aS vS : Nat → Nat} {A : Nat → Prop} {p : Program} {l : Launch} {e : Env} {s : State} {m : MethodId} {args : Array Value} {below : List Frame} {meth : Method} {c : Code} {K : zK} {r : Int} {F9 : zF} {B9 : zB} (X : zX D ca L aS vS A p s m args meth c prog_6_method_6_code 10 (Option.some Jvm.ClassFile.FieldType.boolean) "StaveHouse$Part") {l4 : Int} {l0 : Int} {l1 : Int} {l2 : Int} {F : zF} {B : zB} {H : Heap} {locs : List Loc} {ls : Array Slot} (hf : f_Part_bracketStands_36 K l4 l0 l1 l2 F B = some (r, F9, B9)) (hZ : zH D ca ad lnC K.2 L F B A H) (hS : va_S A s.heap H locs) (hl : lv_has ls 10 [(4, .int (iI l4)), (0, .ref (ad 4 l0 0)), (1, .int (iI l1)), (2, .long (lI l2))]) : W p l e ({ frames := 0, cells := 0, slots := 0, locals := 0 } : Room) s m args below meth c H locs 0 0 (MQ below (Q_Part_bracketStands K D ca ad L r F9 B9 A) args s 0 0 A) (F0 m 36 ls []) := by
  obtain ⟨hx, hb, hr, hml, hown, hts, hlk, hK, hA, hL, hX⟩ := id X
  replace hf : (if r64 l2 then (if 0 < (zcmp l2 0) then if 0 ≤ l0 ∧ l0 < K.2 4 then if 0 ≤ l1 ∧ l1 < 200 then if 0 ≤ (B 4 l0 5 l1) ∧ (B 4 l0 5 l1) < K.2 1 then f_Part_bracketStands_62 K K.1 l1 (F 1 (B 4 l0 5 l1) 0) (F 1 (B 4 l0 5 l1) 0) l4 l0 l2 F B else none else none else none else f_Part_bracketStands_42 K F B) else none) = some (r, F9, B9) := hf
  refine lv_lload_n hx hb d_6_6_36 rfl (lv_at hl 3 rfl) ?_
  refine lv_lconst (v := lI 0) hx hb d_6_6_37 (by decide) ?_
  obtain ⟨g12, hf⟩ := gif hf
  refine zcmp_r hx hb g12 (by decide) d_6_6_38 ?_
  refine z0gt (tgt := 44) hx hb zcmp_32 d_6_6_39 (by decide) (fun h13 => ?_) (fun h13 => ?_)
  · replace hf := gpos hf h13
    refine lv_aload_n hx hb d_6_6_44 rfl (lv_at hl 1 rfl) ?_
    obtain ⟨g14, hf⟩ := gif hf
    refine zget (ci := 4) (C := RX4) (T := TX4) (v := .ref (ad 4 l0 (5 + 1))) (k := 5) hx hb hts inW_4 hown hK hZ g14.1 g14.2 rfl (by decide) k_4_130 rfl d_6_6_45 ?_
    refine lv_iload_n hx hb d_6_6_48 rfl (lv_at hl 2 rfl) ?_
    obtain ⟨g15, hf⟩ := gif hf
    refine zaldR (t := 1) (x := 7) (ci := 4) (k := 5) hx hb hK rfl rfl hZ g14.1 g14.2 rfl (Nat.le_of_ble_eq_true rfl) g15.1 g15.2 d_6_6_49 ?_
    obtain ⟨g16, hf⟩ := gif hf
    refine zunrf g16.1 ?_
    refine zget (ci := 1) (C := RX1) (T := TX1) (v := .long (lI (F 1 (B 4 l0 5 l1) 0))) (k := 0) hx hb hts inW_1 hown hK hZ g16.1 g16.2 rfl (by decide) k_2_21 rfl d_6_6_50 ?_
    refine lv_lstore (lv' := [(5, .long (lI (F 1 (B 4 l0 5 l1) 0))), (4, .int (iI l4)), (0, .ref (ad 4 l0 0)), (1, .int (iI l1)), (2, .long (lI l2))]) hx hb d_6_6_53 hl (by decide) rfl (fun ls hl => ?_)
    refine lv_lload hx hb d_6_6_55 (lv_at hl 0 rfl) ?_
    refine lv_lstore (lv' := [(7, .long (lI (F 1 (B 4 l0 5 l1) 0))), (5, .long (lI (F 1 (B 4 l0 5 l1) 0))), (4, .int (iI l4)), (0, .ref (ad 4 l0 0)), (1, .int (iI l1)), (2, .long (lI l2))]) hx hb d_6_6_57 hl (by decide) rfl (fun ls hl => ?_)
    refine lv_iload_n hx hb d_6_6_59 rfl (lv_at hl 4 rfl) ?_
    refine lv_istore (lv' := [(9, .int (iI l1)), (7, .long (lI (F 1 (B 4 l0 5 l1) 0))), (5, .long (lI (F 1 (B 4 l0 5 l1) 0))), (4, .int (iI l4)), (0, .ref (ad 4 l0 0)), (1, .int (iI l1)), (2, .long (lI l2))]) hx hb d_6_6_60 hl (by decide) rfl (fun ls hl => ?_)
    exact b_Part_bracketStands_62 X hf hZ hS (lv_sub hl [0, 1, 2, 3, 4, 6] rfl)
  · replace hf := gneg hf h13
    exact b_Part_bracketStands_42 X hf hZ hS (lv_sub hl [] rfl)

noncomputable def f_Part_bracketStands (K : zK) (l0 : Int) (l1 : Int) (l2 : Int) (F : zF) (B : zB) : zO := if 0 ≤ l0 ∧ l0 < K.2 4 then if 0 ≤ l1 ∧ l1 < 200 then if 0 ≤ (B 4 l0 5 l1) ∧ (B 4 l0 5 l1) < K.2 1 then if r32 (F 1 (B 4 l0 5 l1) 5) then (if (F 1 (B 4 l0 5 l1) 5) = 0 then f_Part_bracketStands_42 K F B else if r32 l1 then (if l1 ≤ 0 then f_Part_bracketStands_36 K (F 1 (B 4 l0 5 l1) 5) l0 l1 l2 F B else if 0 ≤ (l1 - 1) ∧ (l1 - 1) < 200 then if 0 ≤ (B 4 l0 5 (l1 - 1)) ∧ (B 4 l0 5 (l1 - 1)) < K.2 1 then if r32 (F 1 (B 4 l0 5 (l1 - 1)) 5) then (if (F 1 (B 4 l0 5 (l1 - 1)) 5) = (F 1 (B 4 l0 5 l1) 5) then f_Part_bracketStands_42 K F B else f_Part_bracketStands_36 K (F 1 (B 4 l0 5 l1) 5) l0 l1 l2 F B) else none else none else none) else none) else none else none else none else none
set_option maxHeartbeats 4000000 in
set_option maxRecDepth 100000 in
theorem c_Part_bracketStands {l : Launch} {D : va_G} {ca : Nat → ClassId} {ad : Nat → Int → Nat → Nat} {L : List Nat} {aS vS : Nat → Nat} {sz : Nat} {K : zK}  {l0 : Int} {l1 : Int} {l2 : Int} {F F9 : zF} {B B9 : zB} {r : Int} (hf : f_Part_bracketStands K l0 l1 l2 F B = some (r, F9, B9)) : Met l ({ cls := "StaveHouse$Part", name := "bracketStands", desc := "(IJ)Z" } : Jvm.MethodName) (Cond.code ({ cls := "StaveHouse$Part", name := "bracketStands", desc := "(IJ)Z" } : Jvm.MethodName) prog_6_method_6_code 10 (Option.some Jvm.ClassFile.FieldType.boolean) :: wAll) ({ frames := 0, cells := 0, slots := 0, locals := 0 } : Room) (va_Pc [.ref (ad 4 l0 0), .int (iI l1), .long (lI l2)] (zPre D ca ad lnC K.2 L aS vS F B sz)) (Q_Part_bracketStands K D ca ad L r F9 B9 (zA L sz)) 0 0 (zA L sz) := by
  refine zMet (Qc := Q_Part_bracketStands K D ca ad L r F9 B9) (lv := [(0, .ref (ad 4 l0 0)), (1, .int (iI l1)), (2, .long (lI l2))]) (by decide) (Nat.le_of_ble_eq_true rfl) rfl (fun A p e s m below meth c ls X hZ hS hl => ?_)
  obtain ⟨hx, hb, hr, hml, hown, hts, hlk, hK, hA, hL, hX⟩ := id X
  replace hf : (if 0 ≤ l0 ∧ l0 < K.2 4 then if 0 ≤ l1 ∧ l1 < 200 then if 0 ≤ (B 4 l0 5 l1) ∧ (B 4 l0 5 l1) < K.2 1 then if r32 (F 1 (B 4 l0 5 l1) 5) then (if (F 1 (B 4 l0 5 l1) 5) = 0 then f_Part_bracketStands_42 K F B else if r32 l1 then (if l1 ≤ 0 then f_Part_bracketStands_36 K (F 1 (B 4 l0 5 l1) 5) l0 l1 l2 F B else if 0 ≤ (l1 - 1) ∧ (l1 - 1) < 200 then if 0 ≤ (B 4 l0 5 (l1 - 1)) ∧ (B 4 l0 5 (l1 - 1)) < K.2 1 then if r32 (F 1 (B 4 l0 5 (l1 - 1)) 5) then (if (F 1 (B 4 l0 5 (l1 - 1)) 5) = (F 1 (B 4 l0 5 l1) 5) then f_Part_bracketStands_42 K F B else f_Part_bracketStands_36 K (F 1 (B 4 l0 5 l1) 5) l0 l1 l2 F B) else none else none else none) else none) else none else none else none else none) = some (r, F9, B9) := hf
  refine lv_aload_n hx hb d_6_6_0 rfl (lv_at hl 0 rfl) ?_
  obtain ⟨g1, hf⟩ := gif hf
  refine zget (ci := 4) (C := RX4) (T := TX4) (v := .ref (ad 4 l0 (5 + 1))) (k := 5) hx hb hts inW_4 hown hK hZ g1.1 g1.2 rfl (by decide) k_4_130 rfl d_6_6_1 ?_
  refine lv_iload_n hx hb d_6_6_4 rfl (lv_at hl 1 rfl) ?_
  obtain ⟨g2, hf⟩ := gif hf
  refine zaldR (t := 1) (x := 7) (ci := 4) (k := 5) hx hb hK rfl rfl hZ g1.1 g1.2 rfl (Nat.le_of_ble_eq_true rfl) g2.1 g2.2 d_6_6_5 ?_
  obtain ⟨g3, hf⟩ := gif hf
  refine zunrf g3.1 ?_
  refine zget (ci := 1) (C := RX1) (T := TX1) (v := .int (iI (F 1 (B 4 l0 5 l1) 5))) (k := 5) hx hb hts inW_1 hown hK hZ g3.1 g3.2 rfl (by decide) k_2_34 rfl d_6_6_6 ?_
  refine lv_istore (lv' := [(4, .int (iI (F 1 (B 4 l0 5 l1) 5))), (0, .ref (ad 4 l0 0)), (1, .int (iI l1)), (2, .long (lI l2))]) hx hb d_6_6_9 hl (by decide) rfl (fun ls hl => ?_)
  refine lv_iload hx hb d_6_6_11 (lv_at hl 0 rfl) ?_
  obtain ⟨g4, hf⟩ := gif hf
  refine z0eq (tgt := 42) hx hb g4 d_6_6_13 (by decide) (fun h5 => ?_) (fun h5 => ?_)
  · replace hf := gpos hf h5
    exact b_Part_bracketStands_42 X hf hZ hS (lv_sub hl [] rfl)
  · replace hf := gneg hf h5
    refine lv_iload_n hx hb d_6_6_16 rfl (lv_at hl 2 rfl) ?_
    obtain ⟨g6, hf⟩ := gif hf
    refine z0le (tgt := 36) hx hb g6 d_6_6_17 (by decide) (fun h7 => ?_) (fun h7 => ?_)
    · replace hf := gpos hf h7
      exact b_Part_bracketStands_36 X hf hZ hS (lv_sub hl [0, 1, 2, 3] rfl)
    · replace hf := gneg hf h7
      refine lv_aload_n hx hb d_6_6_20 rfl (lv_at hl 1 rfl) ?_
      refine zget (ci := 4) (C := RX4) (T := TX4) (v := .ref (ad 4 l0 (5 + 1))) (k := 5) hx hb hts inW_4 hown hK hZ g1.1 g1.2 rfl (by decide) k_4_130 rfl d_6_6_21 ?_
      refine lv_iload_n hx hb d_6_6_24 rfl (lv_at hl 2 rfl) ?_
      refine lv_iconst (v := iI 1) hx hb d_6_6_25 rfl ?_
      refine zsub hx hb d_6_6_26 ?_
      obtain ⟨g8, hf⟩ := gif hf
      refine zaldR (t := 1) (x := 7) (ci := 4) (k := 5) hx hb hK rfl rfl hZ g1.1 g1.2 rfl (Nat.le_of_ble_eq_true rfl) g8.1 g8.2 d_6_6_27 ?_
      obtain ⟨g9, hf⟩ := gif hf
      refine zunrf g9.1 ?_
      refine zget (ci := 1) (C := RX1) (T := TX1) (v := .int (iI (F 1 (B 4 l0 5 (l1 - 1)) 5))) (k := 5) hx hb hts inW_1 hown hK hZ g9.1 g9.2 rfl (by decide) k_2_34 rfl d_6_6_28 ?_
      refine lv_iload hx hb d_6_6_31 (lv_at hl 0 rfl) ?_
      obtain ⟨g10, hf⟩ := gif hf
      refine zeq (tgt := 42) hx hb g10 g4 d_6_6_33 (by decide) (fun h11 => ?_) (fun h11 => ?_)
      · replace hf := gpos hf h11
        exact b_Part_bracketStands_42 X hf hZ hS (lv_sub hl [] rfl)
      · replace hf := gneg hf h11
        exact b_Part_bracketStands_36 X hf hZ hS (lv_sub hl [0, 1, 2, 3] rfl)

noncomputable abbrev Q_Event_hasPitch (K : zK) (D : va_G) (ca : Nat → ClassId) (ad : Nat → Int → Nat → Nat) (L : List Nat) (r : Int) (F : zF) (B : zB) (A : Nat → Prop) : Array Value → State → Outcome → State → Prop := va_Qi (S := Unit) (fun p _ => p = iI r) (fun _ => zPo D ca ad lnC K.2 L F B A) A
noncomputable def f_Event_hasPitch_32 (rec2 : Int → Int → Int → Int → zF → zB → zO) (K : zK) (l3 : Int) (l0 : Int) (l1 : Int) (l2 : Int) (F : zF) (B : zB) : zO := rec2 (l3 + 1) l0 l1 l2 F B
set_option maxHeartbeats 4000000 in
set_option maxRecDepth 100000 in
theorem b_Event_hasPitch_32 {D : va_G} {ca : Nat → ClassId} {ad : Nat → Int → Nat → Nat} {L : List Nat} {aS vS : Nat → Nat} {A : Nat → Prop} {p : Program} {l : Launch} {e : Env} {s : State} {m : MethodId} {args : Array Value} {below : List Frame} {meth : Method} {c : Code} {K : zK} {r : Int} {F9 : zF} {B9 : zB} (X : zX D ca L aS vS A p s m args meth c prog_3_method_6_code 4 (Option.some Jvm.ClassFile.FieldType.boolean) "StaveHouse$Event") {rec2 : Int → Int → Int → Int → zF → zB → zO} (hrec2 : ∀ {l3 : Int} {l0 : Int} {l1 : Int} {l2 : Int} {F : zF} {B : zB} {H : Heap} {locs : List Loc} {ls : Array Slot}, rec2 l3 l0 l1 l2 F B = some (r, F9, B9) → zH D ca ad lnC K.2 L F B A H → va_S A s.heap H locs → lv_has ls 4 [(3, .int (iI l3)), (0, .ref (ad 1 l0 0)), (1, .int (iI l1)), (2, .int (iI l2))] → W p l e ({ frames := 0, cells := 0, slots := 0, locals := 0 } : Room) s m args below meth c H locs 0 0 (MQ below (Q_Event_hasPitch K D ca ad L r F9 B9 A) args s 0 0 A) (F0 m 2 ls [])) {l3 : Int} {l0 : Int} {l1 : Int} {l2 : Int} {F : zF} {B : zB} {H : Heap} {locs : List Loc} {ls : Array Slot} (hf : f_Event_hasPitch_32 rec2 K l3 l0 l1 l2 F B = some (r, F9, B9)) (hZ : zH D ca ad lnC K.2 L F B A H) (hS : va_S A s.heap H locs) (hl : lv_has ls 4 [(3, .int (iI l3)), (0, .ref (ad 1 l0 0)), (1, .int (iI l1)), (2, .int (iI l2))]) : W p l e ({ frames := 0, cells := 0, slots := 0, locals := 0 } : Room) s m args below meth c H locs 0 0 (MQ below (Q_Event_hasPitch K D ca ad L r F9 B9 A) args s 0 0 A) (F0 m 32 ls []) := by
  obtain ⟨hx, hb, hr, hml, hown, hts, hlk, hK, hA, hL, hX⟩ := id X
  replace hf : (rec2 (l3 + 1) l0 l1 l2 F B) = some (r, F9, B9) := hf
  refine lv_iinc (v := iI (l3 + 1)) (lv' := [(3, .int (iI (l3 + 1))), (0, .ref (ad 1 l0 0)), (1, .int (iI l1)), (2, .int (iI l2))]) hx hb d_3_6_32 hl (k := 0) rfl (iI_add _ 1) (by decide) rfl (fun ls hl => ?_)
  refine lv_goto (tgt := 2) hx hb d_3_6_35 (by decide) ?_
  exact hrec2 hf hZ hS (lv_sub hl [0, 1, 2, 3] rfl)

noncomputable def f_Event_hasPitch_2 (K : zK) : Nat → Int → Int → Int → Int → zF → zB → zO
  | 0, _, _, _, _, _, _ => none
  | n + 1, l3, l0, l1, l2, F, B => if 0 ≤ l0 ∧ l0 < K.2 1 then if r32 l3 then if r32 (F 1 l0 10) then (if (F 1 l0 10) ≤ l3 then some (0, F, B) else if 0 ≤ l3 ∧ l3 < 6 then if r32 (B 1 l0 12 l3) then if r32 l1 then (if (B 1 l0 12 l3) = l1 then if r32 (B 1 l0 13 l3) then if r32 l2 then (if (B 1 l0 13 l3) = l2 then some (1, F, B) else f_Event_hasPitch_32 (f_Event_hasPitch_2 K n) K l3 l0 l1 l2 F B) else none else none else f_Event_hasPitch_32 (f_Event_hasPitch_2 K n) K l3 l0 l1 l2 F B) else none else none else none) else none else none else none
set_option maxHeartbeats 4000000 in
set_option maxRecDepth 100000 in
theorem b_Event_hasPitch_2 {D : va_G} {ca : Nat → ClassId} {ad : Nat → Int → Nat → Nat} {L : List Nat} {aS vS : Nat → Nat} {A : Nat → Prop} {p : Program} {l : Launch} {e : Env} {s : State} {m : MethodId} {args : Array Value} {below : List Frame} {meth : Method} {c : Code} {K : zK} {r : Int} {F9 : zF} {B9 : zB} (X : zX D ca L aS vS A p s m args meth c prog_3_method_6_code 4 (Option.some Jvm.ClassFile.FieldType.boolean) "StaveHouse$Event") : ∀ {n : Nat} {l3 : Int} {l0 : Int} {l1 : Int} {l2 : Int} {F : zF} {B : zB} {H : Heap} {locs : List Loc} {ls : Array Slot}, f_Event_hasPitch_2 K n l3 l0 l1 l2 F B = some (r, F9, B9) → zH D ca ad lnC K.2 L F B A H → va_S A s.heap H locs → lv_has ls 4 [(3, .int (iI l3)), (0, .ref (ad 1 l0 0)), (1, .int (iI l1)), (2, .int (iI l2))] → W p l e ({ frames := 0, cells := 0, slots := 0, locals := 0 } : Room) s m args below meth c H locs 0 0 (MQ below (Q_Event_hasPitch K D ca ad L r F9 B9 A) args s 0 0 A) (F0 m 2 ls []) := by
  obtain ⟨hx, hb, hr, hml, hown, hts, hlk, hK, hA, hL, hX⟩ := id X
  intro n
  induction n with
  | zero =>
    intros
    rename_i hf _ _ _
    cases hf
  | succ n ih =>
    intro l3 l0 l1 l2 F B H locs ls hf hZ hS hl
    replace hf : (if 0 ≤ l0 ∧ l0 < K.2 1 then if r32 l3 then if r32 (F 1 l0 10) then (if (F 1 l0 10) ≤ l3 then some (0, F, B) else if 0 ≤ l3 ∧ l3 < 6 then if r32 (B 1 l0 12 l3) then if r32 l1 then (if (B 1 l0 12 l3) = l1 then if r32 (B 1 l0 13 l3) then if r32 l2 then (if (B 1 l0 13 l3) = l2 then some (1, F, B) else f_Event_hasPitch_32 (f_Event_hasPitch_2 K n) K l3 l0 l1 l2 F B) else none else none else f_Event_hasPitch_32 (f_Event_hasPitch_2 K n) K l3 l0 l1 l2 F B) else none else none else none) else none else none else none) = some (r, F9, B9) := hf
    refine lv_iload_n hx hb d_3_6_2 rfl (lv_at hl 0 rfl) ?_
    refine lv_aload_n hx hb d_3_6_3 rfl (lv_at hl 1 rfl) ?_
    obtain ⟨g1, hf⟩ := gif hf
    refine zget (ci := 1) (C := RX1) (T := TX1) (v := .int (iI (F 1 l0 10))) (k := 10) hx hb hts inW_1 hown hK hZ g1.1 g1.2 rfl (by decide) k_2_48 rfl d_3_6_4 ?_
    obtain ⟨g2, hf⟩ := gif hf
    obtain ⟨g3, hf⟩ := gif hf
    refine zge (tgt := 38) hx hb g2 g3 d_3_6_7 (by decide) (fun h4 => ?_) (fun h4 => ?_)
    · replace hf := gpos hf h4
      refine lv_iconst (v := iI 0) hx hb d_3_6_38 rfl ?_
      cases hf
      exact W.zret hx hb hr rfl (fun t ht hW => ⟨⟨_, (), rfl, rfl, by rw [ht]; exact hZ, va_K.moved hW.alike hK⟩, hS.F ht⟩) hS.2.2 d_3_6_39 hlk
    · replace hf := gneg hf h4
      refine lv_aload_n hx hb d_3_6_10 rfl (lv_at hl 1 rfl) ?_
      refine zget (ci := 1) (C := RX1) (T := TX1) (v := .ref (ad 1 l0 (12 + 1))) (k := 12) hx hb hts inW_1 hown hK hZ g1.1 g1.2 rfl (by decide) k_2_57 rfl d_3_6_11 ?_
      refine lv_iload_n hx hb d_3_6_14 rfl (lv_at hl 0 rfl) ?_
      obtain ⟨g5, hf⟩ := gif hf
      refine zald (ci := 1) (k := 12) hx hb hK rfl hZ g1.1 g1.2 rfl (Nat.le_of_ble_eq_true rfl) g5.1 g5.2 d_3_6_15 ?_
      refine lv_iload_n hx hb d_3_6_16 rfl (lv_at hl 2 rfl) ?_
      obtain ⟨g6, hf⟩ := gif hf
      obtain ⟨g7, hf⟩ := gif hf
      refine zne (tgt := 32) hx hb g6 g7 d_3_6_17 (by decide) (fun h8 => ?_) (fun h8 => ?_)
      · replace hf := gneg hf h8
        exact b_Event_hasPitch_32 X ih hf hZ hS (lv_sub hl [0, 1, 2, 3] rfl)
      · replace hf := gpos hf h8
        refine lv_aload_n hx hb d_3_6_20 rfl (lv_at hl 1 rfl) ?_
        refine zget (ci := 1) (C := RX1) (T := TX1) (v := .ref (ad 1 l0 (13 + 1))) (k := 13) hx hb hts inW_1 hown hK hZ g1.1 g1.2 rfl (by decide) k_2_63 rfl d_3_6_21 ?_
        refine lv_iload_n hx hb d_3_6_24 rfl (lv_at hl 0 rfl) ?_
        refine zald (ci := 1) (k := 13) hx hb hK rfl hZ g1.1 g1.2 rfl (Nat.le_of_ble_eq_true rfl) g5.1 g5.2 d_3_6_25 ?_
        refine lv_iload_n hx hb d_3_6_26 rfl (lv_at hl 3 rfl) ?_
        obtain ⟨g9, hf⟩ := gif hf
        obtain ⟨g10, hf⟩ := gif hf
        refine zne (tgt := 32) hx hb g9 g10 d_3_6_27 (by decide) (fun h11 => ?_) (fun h11 => ?_)
        · replace hf := gneg hf h11
          exact b_Event_hasPitch_32 X ih hf hZ hS (lv_sub hl [0, 1, 2, 3] rfl)
        · replace hf := gpos hf h11
          refine lv_iconst (v := iI 1) hx hb d_3_6_30 rfl ?_
          cases hf
          exact W.zret hx hb hr rfl (fun t ht hW => ⟨⟨_, (), rfl, rfl, by rw [ht]; exact hZ, va_K.moved hW.alike hK⟩, hS.F ht⟩) hS.2.2 d_3_6_31 hlk

noncomputable def f_Event_hasPitch (K : zK) (l0 : Int) (l1 : Int) (l2 : Int) (F : zF) (B : zB) : zO := f_Event_hasPitch_2 K K.1 0 l0 l1 l2 F B
set_option maxHeartbeats 4000000 in
set_option maxRecDepth 100000 in
theorem c_Event_hasPitch {l : Launch} {D : va_G} {ca : Nat → ClassId} {ad : Nat → Int → Nat → Nat} {L : List Nat} {aS vS : Nat → Nat} {sz : Nat} {K : zK}  {l0 : Int} {l1 : Int} {l2 : Int} {F F9 : zF} {B B9 : zB} {r : Int} (hf : f_Event_hasPitch K l0 l1 l2 F B = some (r, F9, B9)) : Met l ({ cls := "StaveHouse$Event", name := "hasPitch", desc := "(II)Z" } : Jvm.MethodName) (Cond.code ({ cls := "StaveHouse$Event", name := "hasPitch", desc := "(II)Z" } : Jvm.MethodName) prog_3_method_6_code 4 (Option.some Jvm.ClassFile.FieldType.boolean) :: wAll) ({ frames := 0, cells := 0, slots := 0, locals := 0 } : Room) (va_Pc [.ref (ad 1 l0 0), .int (iI l1), .int (iI l2)] (zPre D ca ad lnC K.2 L aS vS F B sz)) (Q_Event_hasPitch K D ca ad L r F9 B9 (zA L sz)) 0 0 (zA L sz) := by
  refine zMet (Qc := Q_Event_hasPitch K D ca ad L r F9 B9) (lv := [(0, .ref (ad 1 l0 0)), (1, .int (iI l1)), (2, .int (iI l2))]) (by decide) (Nat.le_of_ble_eq_true rfl) rfl (fun A p e s m below meth c ls X hZ hS hl => ?_)
  obtain ⟨hx, hb, hr, hml, hown, hts, hlk, hK, hA, hL, hX⟩ := id X
  replace hf : (f_Event_hasPitch_2 K K.1 0 l0 l1 l2 F B) = some (r, F9, B9) := hf
  refine lv_iconst (v := iI 0) hx hb d_3_6_0 rfl ?_
  refine lv_istore_n (lv' := [(3, .int (iI 0)), (0, .ref (ad 1 l0 0)), (1, .int (iI l1)), (2, .int (iI l2))]) hx hb d_3_6_1 rfl hl (by decide) rfl (fun ls hl => ?_)
  exact b_Event_hasPitch_2 X hf hZ hS (lv_sub hl [0, 1, 2, 3] rfl)

noncomputable abbrev Q_S_fineValue (K : zK) (D : va_G) (ca : Nat → ClassId) (ad : Nat → Int → Nat → Nat) (L : List Nat) (r : Int) (F : zF) (B : zB) (A : Nat → Prop) : Array Value → State → Outcome → State → Prop := va_Qi (S := Unit) (fun p _ => p = iI r) (fun _ => zPo D ca ad lnC K.2 L F B A) A
noncomputable def f_S_fineValue (K : zK) (l0 : Int) (F : zF) (B : zB) : zO := if 0 ≤ (2 - (zrm l0 3)) ∧ (2 - (zrm l0 3)) < ztl 4 then some (zdv ((zshr 512 (zdv l0 3)) * (ztv 4 (2 - (zrm l0 3)))) 4, F, B) else none
set_option maxHeartbeats 4000000 in
set_option maxRecDepth 100000 in
theorem c_S_fineValue {l : Launch} {D : va_G} {ca : Nat → ClassId} {ad : Nat → Int → Nat → Nat} {L : List Nat} {aS vS : Nat → Nat} {sz : Nat} {K : zK}  {l0 : Int} {F F9 : zF} {B B9 : zB} {r : Int} (hf : f_S_fineValue K l0 F B = some (r, F9, B9)) : Met l ({ cls := "StaveHouse", name := "fineValue", desc := "(I)I" } : Jvm.MethodName) (Cond.code ({ cls := "StaveHouse", name := "fineValue", desc := "(I)I" } : Jvm.MethodName) prog_1_method_40_code 1 (Option.some Jvm.ClassFile.FieldType.int) :: wAll) ({ frames := 0, cells := 0, slots := 0, locals := 0 } : Room) (va_Pc [.int (iI l0)] (zPre D ca ad lnC K.2 L aS vS F B sz)) (Q_S_fineValue K D ca ad L r F9 B9 (zA L sz)) 0 0 (zA L sz) := by
  refine zMet (Qc := Q_S_fineValue K D ca ad L r F9 B9) (lv := [(0, .int (iI l0))]) (by decide) (Nat.le_of_ble_eq_true rfl) rfl (fun A p e s m below meth c ls X hZ hS hl => ?_)
  obtain ⟨hx, hb, hr, hml, hown, hts, hlk, hK, hA, hL, hX⟩ := id X
  replace hf : (if 0 ≤ (2 - (zrm l0 3)) ∧ (2 - (zrm l0 3)) < ztl 4 then some (zdv ((zshr 512 (zdv l0 3)) * (ztv 4 (2 - (zrm l0 3)))) 4, F, B) else none) = some (r, F9, B9) := hf
  refine lv_sipush (v := iI 512) hx hb d_1_40_0 (by decide) ?_
  refine lv_iload_n hx hb d_1_40_3 rfl (lv_at hl 0 rfl) ?_
  refine lv_iconst (v := iI 3) hx hb d_1_40_4 rfl ?_
  refine zdv_r hx hb (by decide) d_1_40_5 ?_
  refine zshr_r hx hb d_1_40_6 ?_
  refine va_gets hx hb (hX.2.2.2.2.2.2 4 _ rfl).1 hS hown (hts _ k_5_70) (fun _ h => h) d_1_40_7 ?_
  refine W.eq (g2 := F0 m 10 ls [.ref (vS (1000 + 4)), .int (iI (zshr 512 (zdv l0 3)))]) rfl ?_
  refine lv_iconst (v := iI 2) hx hb d_1_40_10 rfl ?_
  refine lv_iload_n hx hb d_1_40_11 rfl (lv_at hl 0 rfl) ?_
  refine lv_iconst (v := iI 3) hx hb d_1_40_12 rfl ?_
  refine zrm_r hx hb (by decide) d_1_40_13 ?_
  refine zsub hx hb d_1_40_14 ?_
  obtain ⟨g1, hf⟩ := gif hf
  refine va_ti (v := .int (iI (ztv 4 (2 - (zrm l0 3))))) hx hb (ztI hX (by decide) (by decide)) hS (zt_in (by decide) g1) (ztI_v (by decide) g1) d_1_40_15 ?_
  refine zmul hx hb d_1_40_16 ?_
  refine lv_iconst (v := iI 4) hx hb d_1_40_17 rfl ?_
  refine zdv_r hx hb (by decide) d_1_40_18 ?_
  cases hf
  exact W.iret hx hb hr (fun t ht hW => ⟨⟨_, (), rfl, rfl, by rw [ht]; exact hZ, va_K.moved hW.alike hK⟩, hS.F ht⟩) hS.2.2 d_1_40_19 hlk

noncomputable abbrev Q_Part_addNote (K : zK) (D : va_G) (ca : Nat → ClassId) (ad : Nat → Int → Nat → Nat) (L : List Nat) (r : Int) (F : zF) (B : zB) (A : Nat → Prop) : Array Value → State → Outcome → State → Prop := va_Qv (S := Unit) (fun _ => True) (fun _ => zPo D ca ad lnC K.2 L F B A) A
noncomputable def f_Part_addNote (K : zK) (l0 : Int) (l1 : Int) (l2 : Int) (l3 : Int) (l5 : Int) (F : zF) (B : zB) : zO := if 0 ≤ l0 ∧ l0 < K.2 4 then if r32 (F 4 l0 10) then (if (F 4 l0 10) < 800 then if 0 ≤ (F 4 l0 10) ∧ (F 4 l0 10) < 800 then some (0, (zup3 F 4 l0 10 ((F 4 l0 10) + 1)), (zup4 (zup4 (zup4 (zup4 (zup4 B 4 l0 360 (F 4 l0 10) l1) 4 l0 361 (F 4 l0 10) l2) 4 l0 9 (F 4 l0 10) l3) 4 l0 364 (F 4 l0 10) (zdv l5 3)) 4 l0 365 (F 4 l0 10) (2 - (zrm l5 3)))) else none else some (0, (zup3 F 4 l0 11 1), B)) else none else none
set_option maxHeartbeats 4000000 in
set_option maxRecDepth 100000 in
theorem c_Part_addNote {l : Launch} {D : va_G} {ca : Nat → ClassId} {ad : Nat → Int → Nat → Nat} {L : List Nat} {aS vS : Nat → Nat} {sz : Nat} {K : zK}  {l0 : Int} {l1 : Int} {l2 : Int} {l3 : Int} {l5 : Int} {F F9 : zF} {B B9 : zB} {r : Int} (hf : f_Part_addNote K l0 l1 l2 l3 l5 F B = some (r, F9, B9)) : Met l ({ cls := "StaveHouse$Part", name := "addNote", desc := "(IIJI)V" } : Jvm.MethodName) (Cond.code ({ cls := "StaveHouse$Part", name := "addNote", desc := "(IIJI)V" } : Jvm.MethodName) prog_6_method_13_code 7 (Option.none : Option Jvm.ClassFile.FieldType) :: wAll) ({ frames := 0, cells := 0, slots := 0, locals := 0 } : Room) (va_Pc [.ref (ad 4 l0 0), .int (iI l1), .int (iI l2), .long (lI l3), .int (iI l5)] (zPre D ca ad lnC K.2 L aS vS F B sz)) (Q_Part_addNote K D ca ad L r F9 B9 (zA L sz)) 0 0 (zA L sz) := by
  refine zMet (Qc := Q_Part_addNote K D ca ad L r F9 B9) (lv := [(0, .ref (ad 4 l0 0)), (1, .int (iI l1)), (2, .int (iI l2)), (3, .long (lI l3)), (5, .int (iI l5))]) (by decide) (Nat.le_of_ble_eq_true rfl) rfl (fun A p e s m below meth c ls X hZ hS hl => ?_)
  obtain ⟨hx, hb, hr, hml, hown, hts, hlk, hK, hA, hL, hX⟩ := id X
  replace hf : (if 0 ≤ l0 ∧ l0 < K.2 4 then if r32 (F 4 l0 10) then (if (F 4 l0 10) < 800 then if 0 ≤ (F 4 l0 10) ∧ (F 4 l0 10) < 800 then some (0, (zup3 F 4 l0 10 ((F 4 l0 10) + 1)), (zup4 (zup4 (zup4 (zup4 (zup4 B 4 l0 360 (F 4 l0 10) l1) 4 l0 361 (F 4 l0 10) l2) 4 l0 9 (F 4 l0 10) l3) 4 l0 364 (F 4 l0 10) (zdv l5 3)) 4 l0 365 (F 4 l0 10) (2 - (zrm l5 3)))) else none else some (0, (zup3 F 4 l0 11 1), B)) else none else none) = some (r, F9, B9) := hf
  refine lv_aload_n hx hb d_6_13_0 rfl (lv_at hl 0 rfl) ?_
  obtain ⟨g1, hf⟩ := gif hf
  refine zget (ci := 4) (C := RX4) (T := TX4) (v := .int (iI (F 4 l0 10))) (k := 10) hx hb hts inW_4 hown hK hZ g1.1 g1.2 rfl (by decide) k_4_148 rfl d_6_13_1 ?_
  refine lv_sipush (v := iI 800) hx hb d_6_13_4 (by decide) ?_
  obtain ⟨g2, hf⟩ := gif hf
  refine zlt (tgt := 16) hx hb g2 (by decide) d_6_13_7 (by decide) (fun h3 => ?_) (fun h3 => ?_)
  · replace hf := gpos hf h3
    refine lv_aload_n hx hb d_6_13_16 rfl (lv_at hl 0 rfl) ?_
    refine zget (ci := 4) (C := RX4) (T := TX4) (v := .int (iI (F 4 l0 10))) (k := 10) hx hb hts inW_4 hown hK hZ g1.1 g1.2 rfl (by decide) k_4_148 rfl d_6_13_17 ?_
    refine lv_istore (lv' := [(6, .int (iI (F 4 l0 10))), (0, .ref (ad 4 l0 0)), (1, .int (iI l1)), (2, .int (iI l2)), (3, .long (lI l3)), (5, .int (iI l5))]) hx hb d_6_13_20 hl (by decide) rfl (fun ls hl => ?_)
    refine lv_aload_n hx hb d_6_13_22 rfl (lv_at hl 1 rfl) ?_
    refine zget (ci := 4) (C := RX4) (T := TX4) (v := .ref (ad 4 l0 (8 + 1))) (k := 8) hx hb hts inW_4 hown hK hZ g1.1 g1.2 rfl (by decide) k_4_142 rfl d_6_13_23 ?_
    refine lv_iconst (v := iI 0) hx hb d_6_13_26 rfl ?_
    refine zaldQ (t := 0) (ci := 4) (k := 8) hx hb hK rfl hZ g1.1 g1.2 rfl (Nat.le_of_ble_eq_true rfl) (by decide) (by decide) d_6_13_27 ?_
    refine W.eq (g2 := F0 m 28 ls [.ref (ad 4 l0 (360 + 1))]) rfl ?_
    refine lv_iload hx hb d_6_13_28 (lv_at hl 0 rfl) ?_
    refine lv_iload_n hx hb d_6_13_30 rfl (lv_at hl 2 rfl) ?_
    obtain ⟨g4, hf⟩ := gif hf
    refine zast (ci := 4) (k := 360) hx hb hK rfl hZ hS g1.1 g1.2 rfl (Nat.le_of_ble_eq_true rfl) g4.1 g4.2 d_6_13_31 (fun H5 locs5 hZ5 hS5 => ?_)
    refine lv_aload_n hx hb d_6_13_32 rfl (lv_at hl 1 rfl) ?_
    refine zget (ci := 4) (C := RX4) (T := TX4) (v := .ref (ad 4 l0 (8 + 1))) (k := 8) hx hb hts inW_4 hown hK hZ5 g1.1 g1.2 rfl (by decide) k_4_142 rfl d_6_13_33 ?_
    refine lv_iconst (v := iI 1) hx hb d_6_13_36 rfl ?_
    refine zaldQ (t := 0) (ci := 4) (k := 8) hx hb hK rfl hZ5 g1.1 g1.2 rfl (Nat.le_of_ble_eq_true rfl) (by decide) (by decide) d_6_13_37 ?_
    refine W.eq (g2 := F0 m 38 ls [.ref (ad 4 l0 (361 + 1))]) rfl ?_
    refine lv_iload hx hb d_6_13_38 (lv_at hl 0 rfl) ?_
    refine lv_iload_n hx hb d_6_13_40 rfl (lv_at hl 3 rfl) ?_
    refine zast (ci := 4) (k := 361) hx hb hK rfl hZ5 hS5 g1.1 g1.2 rfl (Nat.le_of_ble_eq_true rfl) g4.1 g4.2 d_6_13_41 (fun H6 locs6 hZ6 hS6 => ?_)
    refine lv_aload_n hx hb d_6_13_42 rfl (lv_at hl 1 rfl) ?_
    refine zget (ci := 4) (C := RX4) (T := TX4) (v := .ref (ad 4 l0 (9 + 1))) (k := 9) hx hb hts inW_4 hown hK hZ6 g1.1 g1.2 rfl (by decide) k_4_145 rfl d_6_13_43 ?_
    refine lv_iload hx hb d_6_13_46 (lv_at hl 0 rfl) ?_
    refine lv_lload_n hx hb d_6_13_48 rfl (lv_at hl 4 rfl) ?_
    refine zlast (ci := 4) (k := 9) hx hb hK rfl hZ6 hS6 g1.1 g1.2 rfl (Nat.le_of_ble_eq_true rfl) g4.1 g4.2 d_6_13_49 (fun H7 locs7 hZ7 hS7 => ?_)
    refine lv_aload_n hx hb d_6_13_50 rfl (lv_at hl 1 rfl) ?_
    refine zget (ci := 4) (C := RX4) (T := TX4) (v := .ref (ad 4 l0 (8 + 1))) (k := 8) hx hb hts inW_4 hown hK hZ7 g1.1 g1.2 rfl (by decide) k_4_142 rfl d_6_13_51 ?_
    refine lv_iconst (v := iI 4) hx hb d_6_13_54 rfl ?_
    refine zaldQ (t := 0) (ci := 4) (k := 8) hx hb hK rfl hZ7 g1.1 g1.2 rfl (Nat.le_of_ble_eq_true rfl) (by decide) (by decide) d_6_13_55 ?_
    refine W.eq (g2 := F0 m 56 ls [.ref (ad 4 l0 (364 + 1))]) rfl ?_
    refine lv_iload hx hb d_6_13_56 (lv_at hl 0 rfl) ?_
    refine lv_iload hx hb d_6_13_58 (lv_at hl 5 rfl) ?_
    refine lv_iconst (v := iI 3) hx hb d_6_13_60 rfl ?_
    refine zdv_r hx hb (by decide) d_6_13_61 ?_
    refine zast (ci := 4) (k := 364) hx hb hK rfl hZ7 hS7 g1.1 g1.2 rfl (Nat.le_of_ble_eq_true rfl) g4.1 g4.2 d_6_13_62 (fun H8 locs8 hZ8 hS8 => ?_)
    refine lv_aload_n hx hb d_6_13_63 rfl (lv_at hl 1 rfl) ?_
    refine zget (ci := 4) (C := RX4) (T := TX4) (v := .ref (ad 4 l0 (8 + 1))) (k := 8) hx hb hts inW_4 hown hK hZ8 g1.1 g1.2 rfl (by decide) k_4_142 rfl d_6_13_64 ?_
    refine lv_iconst (v := iI 5) hx hb d_6_13_67 rfl ?_
    refine zaldQ (t := 0) (ci := 4) (k := 8) hx hb hK rfl hZ8 g1.1 g1.2 rfl (Nat.le_of_ble_eq_true rfl) (by decide) (by decide) d_6_13_68 ?_
    refine W.eq (g2 := F0 m 69 ls [.ref (ad 4 l0 (365 + 1))]) rfl ?_
    refine lv_iload hx hb d_6_13_69 (lv_at hl 0 rfl) ?_
    refine lv_iconst (v := iI 2) hx hb d_6_13_71 rfl ?_
    refine lv_iload hx hb d_6_13_72 (lv_at hl 5 rfl) ?_
    refine lv_iconst (v := iI 3) hx hb d_6_13_74 rfl ?_
    refine zrm_r hx hb (by decide) d_6_13_75 ?_
    refine zsub hx hb d_6_13_76 ?_
    refine zast (ci := 4) (k := 365) hx hb hK rfl hZ8 hS8 g1.1 g1.2 rfl (Nat.le_of_ble_eq_true rfl) g4.1 g4.2 d_6_13_77 (fun H9 locs9 hZ9 hS9 => ?_)
    refine lv_aload_n hx hb d_6_13_78 rfl (lv_at hl 1 rfl) ?_
    refine lv_dup hx hb d_6_13_79 rfl ?_
    refine zget (ci := 4) (C := RX4) (T := TX4) (v := .int (iI (F 4 l0 10))) (k := 10) hx hb hts inW_4 hown hK hZ9 g1.1 g1.2 rfl (by decide) k_4_148 rfl d_6_13_80 ?_
    refine lv_iconst (v := iI 1) hx hb d_6_13_83 rfl ?_
    refine zadd hx hb d_6_13_84 ?_
    refine zput (ci := 4) (C := RX4) (T := TX4) (k := 10) (v := ((F 4 l0 10) + 1)) (w := .int (iI ((F 4 l0 10) + 1))) hx hb hts inW_4 tyX4 tyX4_ok nmX4 hown hK hZ9 hS9 g1.1 g1.2 rfl (by decide) k_4_148 rfl (fun G h => congrArg (fun q => Value.int (iI q)) h) rfl rfl (zno (by decide)) d_6_13_85 (fun H10 locs10 hZ10 hS10 => ?_)
    cases hf
    exact W.vret hx hb hr (fun t ht hW => ⟨⟨(), rfl, trivial, by rw [ht]; exact hZ10, va_K.moved hW.alike hK⟩, hS10.F ht⟩) hS10.2.2 d_6_13_88 hlk
  · replace hf := gneg hf h3
    refine lv_aload_n hx hb d_6_13_10 rfl (lv_at hl 0 rfl) ?_
    refine lv_iconst (v := iI 1) hx hb d_6_13_11 rfl ?_
    refine zput (ci := 4) (C := RX4) (T := TX4) (k := 11) (v := 1) (w := .int (iI 1)) hx hb hts inW_4 tyX4 tyX4_ok nmX4 hown hK hZ hS g1.1 g1.2 rfl (by decide) k_4_151 rfl (fun G h => congrArg (fun q => Value.int (iI q)) h) rfl rfl (zno (by decide)) d_6_13_12 (fun H11 locs11 hZ11 hS11 => ?_)
    cases hf
    exact W.vret hx hb hr (fun t ht hW => ⟨⟨(), rfl, trivial, by rw [ht]; exact hZ11, va_K.moved hW.alike hK⟩, hS11.F ht⟩) hS11.2.2 d_6_13_15 hlk

noncomputable abbrev Q_Event_isRest (K : zK) (D : va_G) (ca : Nat → ClassId) (ad : Nat → Int → Nat → Nat) (L : List Nat) (r : Int) (F : zF) (B : zB) (A : Nat → Prop) : Array Value → State → Outcome → State → Prop := va_Qi (S := Unit) (fun p _ => p = iI r) (fun _ => zPo D ca ad lnC K.2 L F B A) A
noncomputable def f_Event_isRest_12 (K : zK) (s0 : Int) (F : zF) (B : zB) : zO := if (s0 = 0 ∨ s0 = 1) then some (s0, F, B) else none
set_option maxHeartbeats 4000000 in
set_option maxRecDepth 100000 in
theorem b_Event_isRest_12 {D : va_G} {ca : Nat → ClassId} {ad : Nat → Int → Nat → Nat} {L : List Nat} {aS vS : Nat → Nat} {A : Nat → Prop} {p : Program} {l : Launch} {e : Env} {s : State} {m : MethodId} {args : Array Value} {below : List Frame} {meth : Method} {c : Code} {K : zK} {r : Int} {F9 : zF} {B9 : zB} (X : zX D ca L aS vS A p s m args meth c prog_3_method_2_code 1 (Option.some Jvm.ClassFile.FieldType.boolean) "StaveHouse$Event") {s0 : Int} {F : zF} {B : zB} {H : Heap} {locs : List Loc} {ls : Array Slot} (hf : f_Event_isRest_12 K s0 F B = some (r, F9, B9)) (hZ : zH D ca ad lnC K.2 L F B A H) (hS : va_S A s.heap H locs) (hl : lv_has ls 1 []) : W p l e ({ frames := 0, cells := 0, slots := 0, locals := 0 } : Room) s m args below meth c H locs 0 0 (MQ below (Q_Event_isRest K D ca ad L r F9 B9 A) args s 0 0 A) (F0 m 12 ls [.int (iI s0)]) := by
  obtain ⟨hx, hb, hr, hml, hown, hts, hlk, hK, hA, hL, hX⟩ := id X
  replace hf : (if (s0 = 0 ∨ s0 = 1) then some (s0, F, B) else none) = some (r, F9, B9) := hf
  obtain ⟨g4, hf⟩ := gif hf
  cases hf
  exact W.zret hx hb hr (zbool g4) (fun t ht hW => ⟨⟨_, (), rfl, rfl, by rw [ht]; exact hZ, va_K.moved hW.alike hK⟩, hS.F ht⟩) hS.2.2 d_3_2_12 hlk

noncomputable def f_Event_isRest (K : zK) (l0 : Int) (F : zF) (B : zB) : zO := if 0 ≤ l0 ∧ l0 < K.2 1 then if r32 (F 1 l0 10) then (if (F 1 l0 10) = 0 then f_Event_isRest_12 K 1 F B else f_Event_isRest_12 K 0 F B) else none else none
set_option maxHeartbeats 4000000 in
set_option maxRecDepth 100000 in
theorem c_Event_isRest {l : Launch} {D : va_G} {ca : Nat → ClassId} {ad : Nat → Int → Nat → Nat} {L : List Nat} {aS vS : Nat → Nat} {sz : Nat} {K : zK}  {l0 : Int} {F F9 : zF} {B B9 : zB} {r : Int} (hf : f_Event_isRest K l0 F B = some (r, F9, B9)) : Met l ({ cls := "StaveHouse$Event", name := "isRest", desc := "()Z" } : Jvm.MethodName) (Cond.code ({ cls := "StaveHouse$Event", name := "isRest", desc := "()Z" } : Jvm.MethodName) prog_3_method_2_code 1 (Option.some Jvm.ClassFile.FieldType.boolean) :: wAll) ({ frames := 0, cells := 0, slots := 0, locals := 0 } : Room) (va_Pc [.ref (ad 1 l0 0)] (zPre D ca ad lnC K.2 L aS vS F B sz)) (Q_Event_isRest K D ca ad L r F9 B9 (zA L sz)) 0 0 (zA L sz) := by
  refine zMet (Qc := Q_Event_isRest K D ca ad L r F9 B9) (lv := [(0, .ref (ad 1 l0 0))]) (by decide) (Nat.le_of_ble_eq_true rfl) rfl (fun A p e s m below meth c ls X hZ hS hl => ?_)
  obtain ⟨hx, hb, hr, hml, hown, hts, hlk, hK, hA, hL, hX⟩ := id X
  replace hf : (if 0 ≤ l0 ∧ l0 < K.2 1 then if r32 (F 1 l0 10) then (if (F 1 l0 10) = 0 then f_Event_isRest_12 K 1 F B else f_Event_isRest_12 K 0 F B) else none else none) = some (r, F9, B9) := hf
  refine lv_aload_n hx hb d_3_2_0 rfl (lv_at hl 0 rfl) ?_
  obtain ⟨g1, hf⟩ := gif hf
  refine zget (ci := 1) (C := RX1) (T := TX1) (v := .int (iI (F 1 l0 10))) (k := 10) hx hb hts inW_1 hown hK hZ g1.1 g1.2 rfl (by decide) k_2_48 rfl d_3_2_1 ?_
  obtain ⟨g2, hf⟩ := gif hf
  refine z0ne (tgt := 11) hx hb g2 d_3_2_4 (by decide) (fun h3 => ?_) (fun h3 => ?_)
  · replace hf := gneg hf h3
    refine lv_iconst (v := iI 0) hx hb d_3_2_11 rfl ?_
    exact b_Event_isRest_12 X hf hZ hS (lv_sub hl [] rfl)
  · replace hf := gpos hf h3
    refine lv_iconst (v := iI 1) hx hb d_3_2_7 rfl ?_
    refine lv_goto (tgt := 12) hx hb d_3_2_8 (by decide) ?_
    exact b_Event_isRest_12 X hf hZ hS (lv_sub hl [] rfl)

noncomputable abbrev Q_S_beatCount (K : zK) (D : va_G) (ca : Nat → ClassId) (ad : Nat → Int → Nat → Nat) (L : List Nat) (r : Int) (F : zF) (B : zB) (A : Nat → Prop) : Array Value → State → Outcome → State → Prop := va_Qi (S := Unit) (fun p _ => p = iI r) (fun _ => zPo D ca ad lnC K.2 L F B A) A
noncomputable def f_S_beatCount_24 (K : zK) (s0 : Int) (F : zF) (B : zB) : zO := some (s0, F, B)
set_option maxHeartbeats 4000000 in
set_option maxRecDepth 100000 in
theorem b_S_beatCount_24 {D : va_G} {ca : Nat → ClassId} {ad : Nat → Int → Nat → Nat} {L : List Nat} {aS vS : Nat → Nat} {A : Nat → Prop} {p : Program} {l : Launch} {e : Env} {s : State} {m : MethodId} {args : Array Value} {below : List Frame} {meth : Method} {c : Code} {K : zK} {r : Int} {F9 : zF} {B9 : zB} (X : zX D ca L aS vS A p s m args meth c prog_1_method_39_code 2 (Option.some Jvm.ClassFile.FieldType.int) "StaveHouse") {s0 : Int} {F : zF} {B : zB} {H : Heap} {locs : List Loc} {ls : Array Slot} (hf : f_S_beatCount_24 K s0 F B = some (r, F9, B9)) (hZ : zH D ca ad lnC K.2 L F B A H) (hS : va_S A s.heap H locs) (hl : lv_has ls 2 []) : W p l e ({ frames := 0, cells := 0, slots := 0, locals := 0 } : Room) s m args below meth c H locs 0 0 (MQ below (Q_S_beatCount K D ca ad L r F9 B9 A) args s 0 0 A) (F0 m 24 ls [.int (iI s0)]) := by
  obtain ⟨hx, hb, hr, hml, hown, hts, hlk, hK, hA, hL, hX⟩ := id X
  replace hf : (some (s0, F, B)) = some (r, F9, B9) := hf
  cases hf
  exact W.iret hx hb hr (fun t ht hW => ⟨⟨_, (), rfl, rfl, by rw [ht]; exact hZ, va_K.moved hW.alike hK⟩, hS.F ht⟩) hS.2.2 d_1_39_24 hlk

noncomputable def f_S_beatCount_14 (K : zK) (l1 : Int) (F : zF) (B : zB) : zO := if r32 l1 then (if 4 < l1 then f_S_beatCount_24 K 2 F B else f_S_beatCount_24 K 1 F B) else none
set_option maxHeartbeats 4000000 in
set_option maxRecDepth 100000 in
theorem b_S_beatCount_14 {D : va_G} {ca : Nat → ClassId} {ad : Nat → Int → Nat → Nat} {L : List Nat} {aS vS : Nat → Nat} {A : Nat → Prop} {p : Program} {l : Launch} {e : Env} {s : State} {m : MethodId} {args : Array Value} {below : List Frame} {meth : Method} {c : Code} {K : zK} {r : Int} {F9 : zF} {B9 : zB} (X : zX D ca L aS vS A p s m args meth c prog_1_method_39_code 2 (Option.some Jvm.ClassFile.FieldType.int) "StaveHouse") {l1 : Int} {F : zF} {B : zB} {H : Heap} {locs : List Loc} {ls : Array Slot} (hf : f_S_beatCount_14 K l1 F B = some (r, F9, B9)) (hZ : zH D ca ad lnC K.2 L F B A H) (hS : va_S A s.heap H locs) (hl : lv_has ls 2 [(1, .int (iI l1))]) : W p l e ({ frames := 0, cells := 0, slots := 0, locals := 0 } : Room) s m args below meth c H locs 0 0 (MQ below (Q_S_beatCount K D ca ad L r F9 B9 A) args s 0 0 A) (F0 m 14 ls []) := by
  obtain ⟨hx, hb, hr, hml, hown, hts, hlk, hK, hA, hL, hX⟩ := id X
  replace hf : (if r32 l1 then (if 4 < l1 then f_S_beatCount_24 K 2 F B else f_S_beatCount_24 K 1 F B) else none) = some (r, F9, B9) := hf
  refine lv_iload_n hx hb d_1_39_14 rfl (lv_at hl 0 rfl) ?_
  refine lv_iconst (v := iI 4) hx hb d_1_39_15 rfl ?_
  obtain ⟨g5, hf⟩ := gif hf
  refine zgt (tgt := 23) hx hb g5 (by decide) d_1_39_16 (by decide) (fun h6 => ?_) (fun h6 => ?_)
  · replace hf := gpos hf h6
    refine lv_iconst (v := iI 2) hx hb d_1_39_23 rfl ?_
    exact b_S_beatCount_24 X hf hZ hS (lv_sub hl [] rfl)
  · replace hf := gneg hf h6
    refine lv_iconst (v := iI 1) hx hb d_1_39_19 rfl ?_
    refine lv_goto (tgt := 24) hx hb d_1_39_20 (by decide) ?_
    exact b_S_beatCount_24 X hf hZ hS (lv_sub hl [] rfl)

noncomputable def f_S_beatCount (K : zK) (l0 : Int) (l1 : Int) (F : zF) (B : zB) : zO := if r32 l1 then (if l1 < 8 then f_S_beatCount_14 K l1 F B else if r32 (zrm l0 3) then (if (zrm l0 3) = 0 then some (3, F, B) else f_S_beatCount_14 K l1 F B) else none) else none
set_option maxHeartbeats 4000000 in
set_option maxRecDepth 100000 in
theorem c_S_beatCount {l : Launch} {D : va_G} {ca : Nat → ClassId} {ad : Nat → Int → Nat → Nat} {L : List Nat} {aS vS : Nat → Nat} {sz : Nat} {K : zK}  {l0 : Int} {l1 : Int} {F F9 : zF} {B B9 : zB} {r : Int} (hf : f_S_beatCount K l0 l1 F B = some (r, F9, B9)) : Met l ({ cls := "StaveHouse", name := "beatCount", desc := "(II)I" } : Jvm.MethodName) (Cond.code ({ cls := "StaveHouse", name := "beatCount", desc := "(II)I" } : Jvm.MethodName) prog_1_method_39_code 2 (Option.some Jvm.ClassFile.FieldType.int) :: wAll) ({ frames := 0, cells := 0, slots := 0, locals := 0 } : Room) (va_Pc [.int (iI l0), .int (iI l1)] (zPre D ca ad lnC K.2 L aS vS F B sz)) (Q_S_beatCount K D ca ad L r F9 B9 (zA L sz)) 0 0 (zA L sz) := by
  refine zMet (Qc := Q_S_beatCount K D ca ad L r F9 B9) (lv := [(0, .int (iI l0)), (1, .int (iI l1))]) (by decide) (Nat.le_of_ble_eq_true rfl) rfl (fun A p e s m below meth c ls X hZ hS hl => ?_)
  obtain ⟨hx, hb, hr, hml, hown, hts, hlk, hK, hA, hL, hX⟩ := id X
  replace hf : (if r32 l1 then (if l1 < 8 then f_S_beatCount_14 K l1 F B else if r32 (zrm l0 3) then (if (zrm l0 3) = 0 then some (3, F, B) else f_S_beatCount_14 K l1 F B) else none) else none) = some (r, F9, B9) := hf
  refine lv_iload_n hx hb d_1_39_0 rfl (lv_at hl 1 rfl) ?_
  refine lv_bipush (v := iI 8) hx hb d_1_39_1 (by decide) ?_
  obtain ⟨g1, hf⟩ := gif hf
  refine zlt (tgt := 14) hx hb g1 (by decide) d_1_39_3 (by decide) (fun h2 => ?_) (fun h2 => ?_)
  · replace hf := gpos hf h2
    exact b_S_beatCount_14 X hf hZ hS (lv_sub hl [1] rfl)
  · replace hf := gneg hf h2
    refine lv_iload_n hx hb d_1_39_6 rfl (lv_at hl 0 rfl) ?_
    refine lv_iconst (v := iI 3) hx hb d_1_39_7 rfl ?_
    refine zrm_r hx hb (by decide) d_1_39_8 ?_
    obtain ⟨g3, hf⟩ := gif hf
    refine z0ne (tgt := 14) hx hb g3 d_1_39_9 (by decide) (fun h4 => ?_) (fun h4 => ?_)
    · replace hf := gneg hf h4
      exact b_S_beatCount_14 X hf hZ hS (lv_sub hl [1] rfl)
    · replace hf := gpos hf h4
      refine lv_iconst (v := iI 3) hx hb d_1_39_12 rfl ?_
      cases hf
      exact W.iret hx hb hr (fun t ht hW => ⟨⟨_, (), rfl, rfl, by rw [ht]; exact hZ, va_K.moved hW.alike hK⟩, hS.F ht⟩) hS.2.2 d_1_39_13 hlk

noncomputable abbrev Q_S_strength (K : zK) (D : va_G) (ca : Nat → ClassId) (ad : Nat → Int → Nat → Nat) (L : List Nat) (r : Int) (F : zF) (B : zB) (A : Nat → Prop) : Array Value → State → Outcome → State → Prop := va_Qi (S := Unit) (fun p _ => p = iI r) (fun _ => zPo D ca ad lnC K.2 L F B A) A
noncomputable def f_S_strength_42 (K : zK) : Nat → Int → Int → Int → zF → zB → zO
  | 0, _, _, _, _, _ => none
  | n + 1, l4, l2, l3, F, B => if r32 l4 then (if 5 ≤ l4 then some (1, F, B) else if ¬ iI (zshr l2 l4) = 0 then if r32 (zrm l3 (zshr l2 l4)) then (if (zrm l3 (zshr l2 l4)) = 0 then some (6 - l4, F, B) else f_S_strength_42 K n (l4 + 1) l2 l3 F B) else none else none) else none
set_option maxHeartbeats 4000000 in
set_option maxRecDepth 100000 in
theorem b_S_strength_42 {D : va_G} {ca : Nat → ClassId} {ad : Nat → Int → Nat → Nat} {L : List Nat} {aS vS : Nat → Nat} {A : Nat → Prop} {p : Program} {l : Launch} {e : Env} {s : State} {m : MethodId} {args : Array Value} {below : List Frame} {meth : Method} {c : Code} {K : zK} {r : Int} {F9 : zF} {B9 : zB} (X : zX D ca L aS vS A p s m args meth c prog_1_method_43_code 5 (Option.some Jvm.ClassFile.FieldType.int) "StaveHouse") : ∀ {n : Nat} {l4 : Int} {l2 : Int} {l3 : Int} {F : zF} {B : zB} {H : Heap} {locs : List Loc} {ls : Array Slot}, f_S_strength_42 K n l4 l2 l3 F B = some (r, F9, B9) → zH D ca ad lnC K.2 L F B A H → va_S A s.heap H locs → lv_has ls 5 [(4, .int (iI l4)), (2, .int (iI l2)), (3, .int (iI l3))] → W p l e ({ frames := 0, cells := 0, slots := 0, locals := 0 } : Room) s m args below meth c H locs 0 0 (MQ below (Q_S_strength K D ca ad L r F9 B9 A) args s 0 0 A) (F0 m 42 ls []) := by
  obtain ⟨hx, hb, hr, hml, hown, hts, hlk, hK, hA, hL, hX⟩ := id X
  intro n
  induction n with
  | zero =>
    intros
    rename_i hf _ _ _
    cases hf
  | succ n ih =>
    intro l4 l2 l3 F B H locs ls hf hZ hS hl
    replace hf : (if r32 l4 then (if 5 ≤ l4 then some (1, F, B) else if ¬ iI (zshr l2 l4) = 0 then if r32 (zrm l3 (zshr l2 l4)) then (if (zrm l3 (zshr l2 l4)) = 0 then some (6 - l4, F, B) else f_S_strength_42 K n (l4 + 1) l2 l3 F B) else none else none) else none) = some (r, F9, B9) := hf
    refine lv_iload hx hb d_1_43_42 (lv_at hl 0 rfl) ?_
    refine lv_iconst (v := iI 5) hx hb d_1_43_44 rfl ?_
    obtain ⟨g13, hf⟩ := gif hf
    refine zge (tgt := 69) hx hb g13 (by decide) d_1_43_45 (by decide) (fun h14 => ?_) (fun h14 => ?_)
    · replace hf := gpos hf h14
      refine lv_iconst (v := iI 1) hx hb d_1_43_69 rfl ?_
      cases hf
      exact W.iret hx hb hr (fun t ht hW => ⟨⟨_, (), rfl, rfl, by rw [ht]; exact hZ, va_K.moved hW.alike hK⟩, hS.F ht⟩) hS.2.2 d_1_43_70 hlk
    · replace hf := gneg hf h14
      refine lv_iload_n hx hb d_1_43_48 rfl (lv_at hl 2 rfl) ?_
      refine lv_iload_n hx hb d_1_43_49 rfl (lv_at hl 1 rfl) ?_
      refine lv_iload hx hb d_1_43_50 (lv_at hl 0 rfl) ?_
      refine zshr_r hx hb d_1_43_52 ?_
      obtain ⟨g15, hf⟩ := gif hf
      refine zrm_r hx hb g15 d_1_43_53 ?_
      obtain ⟨g16, hf⟩ := gif hf
      refine z0ne (tgt := 63) hx hb g16 d_1_43_54 (by decide) (fun h17 => ?_) (fun h17 => ?_)
      · replace hf := gneg hf h17
        refine lv_iinc (v := iI (l4 + 1)) (lv' := [(4, .int (iI (l4 + 1))), (2, .int (iI l2)), (3, .int (iI l3))]) hx hb d_1_43_63 hl (k := 0) rfl (iI_add _ 1) (by decide) rfl (fun ls hl => ?_)
        refine lv_goto (tgt := 42) hx hb d_1_43_66 (by decide) ?_
        exact ih hf hZ hS (lv_sub hl [0, 1, 2] rfl)
      · replace hf := gpos hf h17
        refine lv_bipush (v := iI 6) hx hb d_1_43_57 (by decide) ?_
        refine lv_iload hx hb d_1_43_59 (lv_at hl 0 rfl) ?_
        refine zsub hx hb d_1_43_61 ?_
        cases hf
        exact W.iret hx hb hr (fun t ht hW => ⟨⟨_, (), rfl, rfl, by rw [ht]; exact hZ, va_K.moved hW.alike hK⟩, hS.F ht⟩) hS.2.2 d_1_43_62 hlk

noncomputable def f_S_strength_30 (K : zK) (l1 : Int) (l2 : Int) (l3 : Int) (F : zF) (B : zB) : zO := if ¬ iI l1 = 0 then if r32 (zrm l3 l1) then (if (zrm l3 l1) = 0 then some (7, F, B) else f_S_strength_42 K K.1 0 l2 l3 F B) else none else none
set_option maxHeartbeats 4000000 in
set_option maxRecDepth 100000 in
theorem b_S_strength_30 {D : va_G} {ca : Nat → ClassId} {ad : Nat → Int → Nat → Nat} {L : List Nat} {aS vS : Nat → Nat} {A : Nat → Prop} {p : Program} {l : Launch} {e : Env} {s : State} {m : MethodId} {args : Array Value} {below : List Frame} {meth : Method} {c : Code} {K : zK} {r : Int} {F9 : zF} {B9 : zB} (X : zX D ca L aS vS A p s m args meth c prog_1_method_43_code 5 (Option.some Jvm.ClassFile.FieldType.int) "StaveHouse") {l1 : Int} {l2 : Int} {l3 : Int} {F : zF} {B : zB} {H : Heap} {locs : List Loc} {ls : Array Slot} (hf : f_S_strength_30 K l1 l2 l3 F B = some (r, F9, B9)) (hZ : zH D ca ad lnC K.2 L F B A H) (hS : va_S A s.heap H locs) (hl : lv_has ls 5 [(1, .int (iI l1)), (2, .int (iI l2)), (3, .int (iI l3))]) : W p l e ({ frames := 0, cells := 0, slots := 0, locals := 0 } : Room) s m args below meth c H locs 0 0 (MQ below (Q_S_strength K D ca ad L r F9 B9 A) args s 0 0 A) (F0 m 30 ls []) := by
  obtain ⟨hx, hb, hr, hml, hown, hts, hlk, hK, hA, hL, hX⟩ := id X
  replace hf : (if ¬ iI l1 = 0 then if r32 (zrm l3 l1) then (if (zrm l3 l1) = 0 then some (7, F, B) else f_S_strength_42 K K.1 0 l2 l3 F B) else none else none) = some (r, F9, B9) := hf
  refine lv_iload_n hx hb d_1_43_30 rfl (lv_at hl 2 rfl) ?_
  refine lv_iload_n hx hb d_1_43_31 rfl (lv_at hl 0 rfl) ?_
  obtain ⟨g10, hf⟩ := gif hf
  refine zrm_r hx hb g10 d_1_43_32 ?_
  obtain ⟨g11, hf⟩ := gif hf
  refine z0ne (tgt := 39) hx hb g11 d_1_43_33 (by decide) (fun h12 => ?_) (fun h12 => ?_)
  · replace hf := gneg hf h12
    refine lv_iconst (v := iI 0) hx hb d_1_43_39 rfl ?_
    refine lv_istore (lv' := [(4, .int (iI 0)), (1, .int (iI l1)), (2, .int (iI l2)), (3, .int (iI l3))]) hx hb d_1_43_40 hl (by decide) rfl (fun ls hl => ?_)
    exact b_S_strength_42 X hf hZ hS (lv_sub hl [0, 2, 3] rfl)
  · replace hf := gpos hf h12
    refine lv_bipush (v := iI 7) hx hb d_1_43_36 (by decide) ?_
    cases hf
    exact W.iret hx hb hr (fun t ht hW => ⟨⟨_, (), rfl, rfl, by rw [ht]; exact hZ, va_K.moved hW.alike hK⟩, hS.F ht⟩) hS.2.2 d_1_43_38 hlk

noncomputable def f_S_strength_9 (K : zK)  (F : zF) (B : zB) : zO := some (9, F, B)
set_option maxHeartbeats 4000000 in
set_option maxRecDepth 100000 in
theorem b_S_strength_9 {D : va_G} {ca : Nat → ClassId} {ad : Nat → Int → Nat → Nat} {L : List Nat} {aS vS : Nat → Nat} {A : Nat → Prop} {p : Program} {l : Launch} {e : Env} {s : State} {m : MethodId} {args : Array Value} {below : List Frame} {meth : Method} {c : Code} {K : zK} {r : Int} {F9 : zF} {B9 : zB} (X : zX D ca L aS vS A p s m args meth c prog_1_method_43_code 5 (Option.some Jvm.ClassFile.FieldType.int) "StaveHouse")  {F : zF} {B : zB} {H : Heap} {locs : List Loc} {ls : Array Slot} (hf : f_S_strength_9 K  F B = some (r, F9, B9)) (hZ : zH D ca ad lnC K.2 L F B A H) (hS : va_S A s.heap H locs) (hl : lv_has ls 5 []) : W p l e ({ frames := 0, cells := 0, slots := 0, locals := 0 } : Room) s m args below meth c H locs 0 0 (MQ below (Q_S_strength K D ca ad L r F9 B9 A) args s 0 0 A) (F0 m 9 ls []) := by
  obtain ⟨hx, hb, hr, hml, hown, hts, hlk, hK, hA, hL, hX⟩ := id X
  replace hf : (some (9, F, B)) = some (r, F9, B9) := hf
  refine lv_bipush (v := iI 9) hx hb d_1_43_9 (by decide) ?_
  cases hf
  exact W.iret hx hb hr (fun t ht hW => ⟨⟨_, (), rfl, rfl, by rw [ht]; exact hZ, va_K.moved hW.alike hK⟩, hS.F ht⟩) hS.2.2 d_1_43_11 hlk

noncomputable def f_S_strength (K : zK) (l0 : Int) (l1 : Int) (l2 : Int) (l3 : Int) (F : zF) (B : zB) : zO := if r32 l3 then (if l3 = 0 then f_S_strength_9 K F B else if r32 l0 then (if l3 = l0 then f_S_strength_9 K F B else if ¬ iI (2 * l2) = 0 then if r32 (zrm l0 (2 * l2)) then (if (zrm l0 (2 * l2)) = 0 then if r32 (2 * l3) then (if (2 * l3) = l0 then some (8, F, B) else f_S_strength_30 K l1 l2 l3 F B) else none else f_S_strength_30 K l1 l2 l3 F B) else none else none) else none) else none
set_option maxHeartbeats 4000000 in
set_option maxRecDepth 100000 in
theorem c_S_strength {l : Launch} {D : va_G} {ca : Nat → ClassId} {ad : Nat → Int → Nat → Nat} {L : List Nat} {aS vS : Nat → Nat} {sz : Nat} {K : zK}  {l0 : Int} {l1 : Int} {l2 : Int} {l3 : Int} {F F9 : zF} {B B9 : zB} {r : Int} (hf : f_S_strength K l0 l1 l2 l3 F B = some (r, F9, B9)) : Met l ({ cls := "StaveHouse", name := "strength", desc := "(IIII)I" } : Jvm.MethodName) (Cond.code ({ cls := "StaveHouse", name := "strength", desc := "(IIII)I" } : Jvm.MethodName) prog_1_method_43_code 5 (Option.some Jvm.ClassFile.FieldType.int) :: wAll) ({ frames := 0, cells := 0, slots := 0, locals := 0 } : Room) (va_Pc [.int (iI l0), .int (iI l1), .int (iI l2), .int (iI l3)] (zPre D ca ad lnC K.2 L aS vS F B sz)) (Q_S_strength K D ca ad L r F9 B9 (zA L sz)) 0 0 (zA L sz) := by
  refine zMet (Qc := Q_S_strength K D ca ad L r F9 B9) (lv := [(0, .int (iI l0)), (1, .int (iI l1)), (2, .int (iI l2)), (3, .int (iI l3))]) (by decide) (Nat.le_of_ble_eq_true rfl) rfl (fun A p e s m below meth c ls X hZ hS hl => ?_)
  obtain ⟨hx, hb, hr, hml, hown, hts, hlk, hK, hA, hL, hX⟩ := id X
  replace hf : (if r32 l3 then (if l3 = 0 then f_S_strength_9 K F B else if r32 l0 then (if l3 = l0 then f_S_strength_9 K F B else if ¬ iI (2 * l2) = 0 then if r32 (zrm l0 (2 * l2)) then (if (zrm l0 (2 * l2)) = 0 then if r32 (2 * l3) then (if (2 * l3) = l0 then some (8, F, B) else f_S_strength_30 K l1 l2 l3 F B) else none else f_S_strength_30 K l1 l2 l3 F B) else none else none) else none) else none) = some (r, F9, B9) := hf
  refine lv_iload_n hx hb d_1_43_0 rfl (lv_at hl 3 rfl) ?_
  obtain ⟨g1, hf⟩ := gif hf
  refine z0eq (tgt := 9) hx hb g1 d_1_43_1 (by decide) (fun h2 => ?_) (fun h2 => ?_)
  · replace hf := gpos hf h2
    exact b_S_strength_9 X hf hZ hS (lv_sub hl [] rfl)
  · replace hf := gneg hf h2
    refine lv_iload_n hx hb d_1_43_4 rfl (lv_at hl 3 rfl) ?_
    refine lv_iload_n hx hb d_1_43_5 rfl (lv_at hl 0 rfl) ?_
    obtain ⟨g3, hf⟩ := gif hf
    refine zne (tgt := 12) hx hb g1 g3 d_1_43_6 (by decide) (fun h4 => ?_) (fun h4 => ?_)
    · replace hf := gneg hf h4
      refine lv_iload_n hx hb d_1_43_12 rfl (lv_at hl 0 rfl) ?_
      refine lv_iconst (v := iI 2) hx hb d_1_43_13 rfl ?_
      refine lv_iload_n hx hb d_1_43_14 rfl (lv_at hl 2 rfl) ?_
      refine zmul hx hb d_1_43_15 ?_
      obtain ⟨g5, hf⟩ := gif hf
      refine zrm_r hx hb g5 d_1_43_16 ?_
      obtain ⟨g6, hf⟩ := gif hf
      refine z0ne (tgt := 30) hx hb g6 d_1_43_17 (by decide) (fun h7 => ?_) (fun h7 => ?_)
      · replace hf := gneg hf h7
        exact b_S_strength_30 X hf hZ hS (lv_sub hl [1, 2, 3] rfl)
      · replace hf := gpos hf h7
        refine lv_iconst (v := iI 2) hx hb d_1_43_20 rfl ?_
        refine lv_iload_n hx hb d_1_43_21 rfl (lv_at hl 3 rfl) ?_
        refine zmul hx hb d_1_43_22 ?_
        refine lv_iload_n hx hb d_1_43_23 rfl (lv_at hl 0 rfl) ?_
        obtain ⟨g8, hf⟩ := gif hf
        refine zne (tgt := 30) hx hb g8 g3 d_1_43_24 (by decide) (fun h9 => ?_) (fun h9 => ?_)
        · replace hf := gneg hf h9
          exact b_S_strength_30 X hf hZ hS (lv_sub hl [1, 2, 3] rfl)
        · replace hf := gpos hf h9
          refine lv_bipush (v := iI 8) hx hb d_1_43_27 (by decide) ?_
          cases hf
          exact W.iret hx hb hr (fun t ht hW => ⟨⟨_, (), rfl, rfl, by rw [ht]; exact hZ, va_K.moved hW.alike hK⟩, hS.F ht⟩) hS.2.2 d_1_43_29 hlk
    · replace hf := gpos hf h4
      exact b_S_strength_9 X hf hZ hS (lv_sub hl [] rfl)

noncomputable abbrev Q_S_strengthBetween (K : zK) (D : va_G) (ca : Nat → ClassId) (ad : Nat → Int → Nat → Nat) (L : List Nat) (r : Int) (F : zF) (B : zB) (A : Nat → Prop) : Array Value → State → Outcome → State → Prop := va_Qi (S := Unit) (fun p _ => p = iI r) (fun _ => zPo D ca ad lnC K.2 L F B A) A
noncomputable def f_S_strengthBetween_44 (K : zK) : Nat → Int → Int → Int → Int → zF → zB → zO
  | 0, _, _, _, _, _, _ => none
  | n + 1, l5, l2, l3, l4, F, B => if r32 l5 then (if 5 ≤ l5 then some (1, F, B) else if ¬ iI (zshr l2 l5) = 0 then if r32 ((zdv (l4 - 1) (zshr l2 l5)) * (zshr l2 l5)) then if r32 l3 then (if ((zdv (l4 - 1) (zshr l2 l5)) * (zshr l2 l5)) ≤ l3 then f_S_strengthBetween_44 K n (l5 + 1) l2 l3 l4 F B else some (6 - l5, F, B)) else none else none else none) else none
