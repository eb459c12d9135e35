set_option maxHeartbeats 4000000 in
set_option maxRecDepth 100000 in
theorem b_Walker_slowed_4 {D : va_G} {ca : Nat → ClassId} {ad : Nat → Int → Nat → Nat} {L : List Nat} {aS vS : Nat → Nat} {A : Nat → Prop} {p : Program} {l : Launch} {e : Env} {s : State} {m : MethodId} {args : Array Value} {below : List Frame} {meth : Method} {c : Code} {K : zK} {r : Int} {F9 : zF} {B9 : zB} (X : zX D ca L aS vS A p s m args meth c prog_13_method_12_code 5 (Option.some Jvm.ClassFile.FieldType.int) "StaveHouse$Walker") : ∀ {n : Nat} {l3 : Int} {l2 : Int} {l0 : Int} {F : zF} {B : zB} {H : Heap} {locs : List Loc} {ls : Array Slot}, f_Walker_slowed_4 K n l3 l2 l0 F B = some (r, F9, B9) → zH D ca ad lnC K.2 L F B A H → va_S A s.heap H locs → lv_has ls 5 [(3, .int (iI l3)), (2, .int (iI l2)), (0, .ref (ad 11 l0 0))] → W p l e ({ frames := 0, cells := 0, slots := 0, locals := 0 } : Room) s m args below meth c H locs 0 0 (MQ below (Q_Walker_slowed K D ca ad L r F9 B9 A) args s 0 0 A) (F0 m 4 ls []) := by
  obtain ⟨hx, hb, hr, hml, hown, hts, hlk, hK, hA, hL, hX⟩ := id X
  intro n
  induction n with
  | zero =>
    intros
    rename_i hf _ _ _
    cases hf
  | succ n ih =>
    intro l3 l2 l0 F B H locs ls hf hZ hS hl
    replace hf : (if r32 l3 then if r32 (ztl 6) then (if (ztl 6) ≤ l3 then f_Walker_slowed_59 K K.1 0 l2 l0 F B else if 0 ≤ l0 ∧ l0 < K.2 11 then if 0 ≤ l3 ∧ l3 < 4 then f_Walker_slowed_20 (f_Walker_slowed_4 K n) K K.1 (B 11 l0 14 l3) l3 l2 l0 F B else none else none) else none else none) = some (r, F9, B9) := hf
    refine lv_iload_n hx hb d_13_12_4 rfl (lv_at hl 0 rfl) ?_
    refine va_gets hx hb (hX.2.2.2.2.2.2 6 _ rfl).1 hS hown (hts _ k_4_220) (fun _ h => h) d_13_12_5 ?_
    refine W.eq (g2 := F0 m 8 ls [.ref (vS (1000 + 6)), .int (iI l3)]) rfl ?_
    refine va_tlen (v := iI (ztl 6)) hx hb (ztT hX (by decide)) hS (ztl_n _) d_13_12_8 ?_
    obtain ⟨g1, hf⟩ := gif hf
    obtain ⟨g2, hf⟩ := gif hf
    refine zge (tgt := 57) hx hb g1 g2 d_13_12_9 (by decide) (fun h3 => ?_) (fun h3 => ?_)
    · replace hf := gpos hf h3
      refine lv_iconst (v := iI 0) hx hb d_13_12_57 rfl ?_
      refine lv_istore_n (lv' := [(3, .int (iI 0)), (2, .int (iI l2)), (0, .ref (ad 11 l0 0))]) hx hb d_13_12_58 rfl hl (by decide) rfl (fun ls hl => ?_)
      exact b_Walker_slowed_59 X hf hZ hS (lv_sub hl [0, 1, 2] rfl)
    · replace hf := gneg hf h3
      refine lv_aload_n hx hb d_13_12_12 rfl (lv_at hl 2 rfl) ?_
      obtain ⟨g4, hf⟩ := gif hf
      refine zget (ci := 11) (C := RX11) (T := TX11) (v := .ref (ad 11 l0 (14 + 1))) (k := 14) hx hb hts inW_11 hown hK hZ g4.1 g4.2 rfl (by decide) k_1_204 rfl d_13_12_13 ?_
      refine lv_iload_n hx hb d_13_12_16 rfl (lv_at hl 0 rfl) ?_
      obtain ⟨g5, hf⟩ := gif hf
      refine zald (ci := 11) (k := 14) hx hb hK rfl hZ g4.1 g4.2 rfl (Nat.le_of_ble_eq_true rfl) g5.1 g5.2 d_13_12_17 ?_
      refine lv_istore (lv' := [(4, .int (iI (B 11 l0 14 l3))), (3, .int (iI l3)), (2, .int (iI l2)), (0, .ref (ad 11 l0 0))]) hx hb d_13_12_18 hl (by decide) rfl (fun ls hl => ?_)
      exact b_Walker_slowed_20 X ih hf hZ hS (lv_sub hl [0, 1, 2, 3] rfl)

noncomputable def f_Walker_slowed (K : zK) (l0 : Int) (l1 : Int) (F : zF) (B : zB) : zO := f_Walker_slowed_4 K K.1 0 l1 l0 F B
set_option maxHeartbeats 4000000 in
set_option maxRecDepth 100000 in
theorem c_Walker_slowed {l : Launch} {D : va_G} {ca : Nat → ClassId} {ad : Nat → Int → Nat → Nat} {L : List Nat} {aS vS : Nat → Nat} {sz : Nat} {K : zK}  {l0 : Int} {l1 : Int} {F F9 : zF} {B B9 : zB} {r : Int} (hf : f_Walker_slowed K l0 l1 F B = some (r, F9, B9)) : Met l ({ cls := "StaveHouse$Walker", name := "slowed", desc := "(I)I" } : Jvm.MethodName) (Cond.code ({ cls := "StaveHouse$Walker", name := "slowed", desc := "(I)I" } : Jvm.MethodName) prog_13_method_12_code 5 (Option.some Jvm.ClassFile.FieldType.int) :: wAll) ({ frames := 0, cells := 0, slots := 0, locals := 0 } : Room) (va_Pc [.ref (ad 11 l0 0), .int (iI l1)] (zPre D ca ad lnC K.2 L aS vS F B sz)) (Q_Walker_slowed K D ca ad L r F9 B9 (zA L sz)) 0 0 (zA L sz) := by
  refine zMet (Qc := Q_Walker_slowed K D ca ad L r F9 B9) (lv := [(0, .ref (ad 11 l0 0)), (1, .int (iI l1))]) (by decide) (Nat.le_of_ble_eq_true rfl) rfl (fun A p e s m below meth c ls X hZ hS hl => ?_)
  obtain ⟨hx, hb, hr, hml, hown, hts, hlk, hK, hA, hL, hX⟩ := id X
  replace hf : (f_Walker_slowed_4 K K.1 0 l1 l0 F B) = some (r, F9, B9) := hf
  refine lv_iload_n hx hb d_13_12_0 rfl (lv_at hl 1 rfl) ?_
  refine lv_istore_n (lv' := [(2, .int (iI l1)), (0, .ref (ad 11 l0 0)), (1, .int (iI l1))]) hx hb d_13_12_1 rfl hl (by decide) rfl (fun ls hl => ?_)
  refine lv_iconst (v := iI 0) hx hb d_13_12_2 rfl ?_
  refine lv_istore_n (lv' := [(3, .int (iI 0)), (2, .int (iI l1)), (0, .ref (ad 11 l0 0)), (1, .int (iI l1))]) hx hb d_13_12_3 rfl hl (by decide) rfl (fun ls hl => ?_)
  exact b_Walker_slowed_4 X hf hZ hS (lv_sub hl [0, 1, 2] rfl)

noncomputable abbrev Q_Event_insert (K : zK) (D : va_G) (ca : Nat → ClassId) (ad : Nat → Int → Nat → Nat) (L : List Nat) (r : Int) (F : zF) (B : zB) (A : Nat → Prop) : Array Value → State → Outcome → State → Prop := va_Qi (S := Unit) (fun p _ => p = iI r) (fun _ => zPo D ca ad lnC K.2 L F B A) A
noncomputable def f_Event_insert_75 (K : zK) : Nat → Int → Int → Int → Int → Int → zF → zB → zO
  | 0, _, _, _, _, _, _, _ => none
  | n + 1, l4, l3, l0, l1, l2, F, B => if r32 l4 then if r32 l3 then (if l4 ≤ l3 then if 0 ≤ l0 ∧ l0 < K.2 1 then if 0 ≤ l3 ∧ l3 < 6 then some (1, (zup3 F 1 l0 10 ((F 1 l0 10) + 1)), (zup4 (zup4 B 1 l0 12 l3 l1) 1 l0 13 l3 l2)) else none else none else if 0 ≤ l0 ∧ l0 < K.2 1 then if 0 ≤ (l4 - 1) ∧ (l4 - 1) < 6 then if 0 ≤ l4 ∧ l4 < 6 then f_Event_insert_75 K n (l4 - 1) l3 l0 l1 l2 F (zup4 (zup4 B 1 l0 12 l4 (B 1 l0 12 (l4 - 1))) 1 l0 13 l4 ((zup4 B 1 l0 12 l4 (B 1 l0 12 (l4 - 1))) 1 l0 13 (l4 - 1))) else none else none else none) else none else none
set_option maxHeartbeats 4000000 in
set_option maxRecDepth 100000 in
theorem b_Event_insert_75 {D : va_G} {ca : Nat → ClassId} {ad : Nat → Int → Nat → Nat} {L : List Nat} {aS vS : Nat → Nat} {A : Nat → Prop} {p : Program} {l : Launch} {e : Env} {s : State} {m : MethodId} {args : Array Value} {below : List Frame} {meth : Method} {c : Code} {K : zK} {r : Int} {F9 : zF} {B9 : zB} (X : zX D ca L aS vS A p s m args meth c prog_3_method_5_code 5 (Option.some Jvm.ClassFile.FieldType.boolean) "StaveHouse$Event") : ∀ {n : Nat} {l4 : Int} {l3 : Int} {l0 : Int} {l1 : Int} {l2 : Int} {F : zF} {B : zB} {H : Heap} {locs : List Loc} {ls : Array Slot}, f_Event_insert_75 K n l4 l3 l0 l1 l2 F B = some (r, F9, B9) → zH D ca ad lnC K.2 L F B A H → va_S A s.heap H locs → lv_has ls 5 [(4, .int (iI l4)), (3, .int (iI l3)), (0, .ref (ad 1 l0 0)), (1, .int (iI l1)), (2, .int (iI l2))] → W p l e ({ frames := 0, cells := 0, slots := 0, locals := 0 } : Room) s m args below meth c H locs 0 0 (MQ below (Q_Event_insert K D ca ad L r F9 B9 A) args s 0 0 A) (F0 m 75 ls []) := by
  obtain ⟨hx, hb, hr, hml, hown, hts, hlk, hK, hA, hL, hX⟩ := id X
  intro n
  induction n with
  | zero =>
    intros
    rename_i hf _ _ _
    cases hf
  | succ n ih =>
    intro l4 l3 l0 l1 l2 F B H locs ls hf hZ hS hl
    replace hf : (if r32 l4 then if r32 l3 then (if l4 ≤ l3 then if 0 ≤ l0 ∧ l0 < K.2 1 then if 0 ≤ l3 ∧ l3 < 6 then some (1, (zup3 F 1 l0 10 ((F 1 l0 10) + 1)), (zup4 (zup4 B 1 l0 12 l3 l1) 1 l0 13 l3 l2)) else none else none else if 0 ≤ l0 ∧ l0 < K.2 1 then if 0 ≤ (l4 - 1) ∧ (l4 - 1) < 6 then if 0 ≤ l4 ∧ l4 < 6 then f_Event_insert_75 K n (l4 - 1) l3 l0 l1 l2 F (zup4 (zup4 B 1 l0 12 l4 (B 1 l0 12 (l4 - 1))) 1 l0 13 l4 ((zup4 B 1 l0 12 l4 (B 1 l0 12 (l4 - 1))) 1 l0 13 (l4 - 1))) else none else none else none) else none else none) = some (r, F9, B9) := hf
    refine lv_iload hx hb d_3_5_75 (lv_at hl 0 rfl) ?_
    refine lv_iload_n hx hb d_3_5_77 rfl (lv_at hl 1 rfl) ?_
    obtain ⟨g20, hf⟩ := gif hf
    obtain ⟨g21, hf⟩ := gif hf
    refine zle (tgt := 119) hx hb g20 g21 d_3_5_78 (by decide) (fun h22 => ?_) (fun h22 => ?_)
    · replace hf := gpos hf h22
      refine lv_aload_n hx hb d_3_5_119 rfl (lv_at hl 2 rfl) ?_
      obtain ⟨g23, hf⟩ := gif hf
      refine zget (ci := 1) (C := RX1) (T := TX1) (v := .ref (ad 1 l0 (12 + 1))) (k := 12) hx hb hts inW_1 hown hK hZ g23.1 g23.2 rfl (by decide) k_2_57 rfl d_3_5_120 ?_
      refine lv_iload_n hx hb d_3_5_123 rfl (lv_at hl 1 rfl) ?_
      refine lv_iload_n hx hb d_3_5_124 rfl (lv_at hl 3 rfl) ?_
      obtain ⟨g24, hf⟩ := gif hf
      refine zast (ci := 1) (k := 12) hx hb hK rfl hZ hS g23.1 g23.2 rfl (Nat.le_of_ble_eq_true rfl) g24.1 g24.2 d_3_5_125 (fun H25 locs25 hZ25 hS25 => ?_)
      refine lv_aload_n hx hb d_3_5_126 rfl (lv_at hl 2 rfl) ?_
      refine zget (ci := 1) (C := RX1) (T := TX1) (v := .ref (ad 1 l0 (13 + 1))) (k := 13) hx hb hts inW_1 hown hK hZ25 g23.1 g23.2 rfl (by decide) k_2_63 rfl d_3_5_127 ?_
      refine lv_iload_n hx hb d_3_5_130 rfl (lv_at hl 1 rfl) ?_
      refine lv_iload_n hx hb d_3_5_131 rfl (lv_at hl 4 rfl) ?_
      refine zast (ci := 1) (k := 13) hx hb hK rfl hZ25 hS25 g23.1 g23.2 rfl (Nat.le_of_ble_eq_true rfl) g24.1 g24.2 d_3_5_132 (fun H26 locs26 hZ26 hS26 => ?_)
      refine lv_aload_n hx hb d_3_5_133 rfl (lv_at hl 2 rfl) ?_
      refine lv_dup hx hb d_3_5_134 rfl ?_
      refine zget (ci := 1) (C := RX1) (T := TX1) (v := .int (iI (F 1 l0 10))) (k := 10) hx hb hts inW_1 hown hK hZ26 g23.1 g23.2 rfl (by decide) k_2_48 rfl d_3_5_135 ?_
      refine lv_iconst (v := iI 1) hx hb d_3_5_138 rfl ?_
      refine zadd hx hb d_3_5_139 ?_
      refine zput (ci := 1) (C := RX1) (T := TX1) (k := 10) (v := ((F 1 l0 10) + 1)) (w := .int (iI ((F 1 l0 10) + 1))) hx hb hts inW_1 tyX1 tyX1_ok nmX1 hown hK hZ26 hS26 g23.1 g23.2 rfl (by decide) k_2_48 rfl (fun G h => congrArg (fun q => Value.int (iI q)) h) rfl rfl (zno (by decide)) d_3_5_140 (fun H27 locs27 hZ27 hS27 => ?_)
      refine lv_iconst (v := iI 1) hx hb d_3_5_143 rfl ?_
      cases hf
      exact W.zret hx hb hr rfl (fun t ht hW => ⟨⟨_, (), rfl, rfl, by rw [ht]; exact hZ27, va_K.moved hW.alike hK⟩, hS27.F ht⟩) hS27.2.2 d_3_5_144 hlk
    · replace hf := gneg hf h22
      refine lv_aload_n hx hb d_3_5_81 rfl (lv_at hl 2 rfl) ?_
      obtain ⟨g28, hf⟩ := gif hf
      refine zget (ci := 1) (C := RX1) (T := TX1) (v := .ref (ad 1 l0 (12 + 1))) (k := 12) hx hb hts inW_1 hown hK hZ g28.1 g28.2 rfl (by decide) k_2_57 rfl d_3_5_82 ?_
      refine lv_iload hx hb d_3_5_85 (lv_at hl 0 rfl) ?_
      refine lv_aload_n hx hb d_3_5_87 rfl (lv_at hl 2 rfl) ?_
      refine zget (ci := 1) (C := RX1) (T := TX1) (v := .ref (ad 1 l0 (12 + 1))) (k := 12) hx hb hts inW_1 hown hK hZ g28.1 g28.2 rfl (by decide) k_2_57 rfl d_3_5_88 ?_
      refine lv_iload hx hb d_3_5_91 (lv_at hl 0 rfl) ?_
      refine lv_iconst (v := iI 1) hx hb d_3_5_93 rfl ?_
      refine zsub hx hb d_3_5_94 ?_
      obtain ⟨g29, hf⟩ := gif hf
      refine zald (ci := 1) (k := 12) hx hb hK rfl hZ g28.1 g28.2 rfl (Nat.le_of_ble_eq_true rfl) g29.1 g29.2 d_3_5_95 ?_
      obtain ⟨g30, hf⟩ := gif hf
      refine zast (ci := 1) (k := 12) hx hb hK rfl hZ hS g28.1 g28.2 rfl (Nat.le_of_ble_eq_true rfl) g30.1 g30.2 d_3_5_96 (fun H31 locs31 hZ31 hS31 => ?_)
      refine lv_aload_n hx hb d_3_5_97 rfl (lv_at hl 2 rfl) ?_
      refine zget (ci := 1) (C := RX1) (T := TX1) (v := .ref (ad 1 l0 (13 + 1))) (k := 13) hx hb hts inW_1 hown hK hZ31 g28.1 g28.2 rfl (by decide) k_2_63 rfl d_3_5_98 ?_
      refine lv_iload hx hb d_3_5_101 (lv_at hl 0 rfl) ?_
      refine lv_aload_n hx hb d_3_5_103 rfl (lv_at hl 2 rfl) ?_
      refine zget (ci := 1) (C := RX1) (T := TX1) (v := .ref (ad 1 l0 (13 + 1))) (k := 13) hx hb hts inW_1 hown hK hZ31 g28.1 g28.2 rfl (by decide) k_2_63 rfl d_3_5_104 ?_
      refine lv_iload hx hb d_3_5_107 (lv_at hl 0 rfl) ?_
      refine lv_iconst (v := iI 1) hx hb d_3_5_109 rfl ?_
      refine zsub hx hb d_3_5_110 ?_
      refine zald (ci := 1) (k := 13) hx hb hK rfl hZ31 g28.1 g28.2 rfl (Nat.le_of_ble_eq_true rfl) g29.1 g29.2 d_3_5_111 ?_
      refine zast (ci := 1) (k := 13) hx hb hK rfl hZ31 hS31 g28.1 g28.2 rfl (Nat.le_of_ble_eq_true rfl) g30.1 g30.2 d_3_5_112 (fun H33 locs33 hZ33 hS33 => ?_)
      refine lv_iinc (v := iI (l4 - 1)) (lv' := [(4, .int (iI (l4 - 1))), (3, .int (iI l3)), (0, .ref (ad 1 l0 0)), (1, .int (iI l1)), (2, .int (iI l2))]) hx hb d_3_5_113 hl (k := 0) rfl (by rw [show Int32.ofInt (-1) = iI (-1) from rfl, iI_add]; congr 1) (by decide) rfl (fun ls hl => ?_)
      refine lv_goto (tgt := 75) hx hb d_3_5_116 (by decide) ?_
      exact ih hf hZ33 hS33 (lv_sub hl [0, 1, 2, 3, 4] rfl)

noncomputable def f_Event_insert_69 (K : zK) (l3 : Int) (l0 : Int) (l1 : Int) (l2 : Int) (F : zF) (B : zB) : zO := if 0 ≤ l0 ∧ l0 < K.2 1 then f_Event_insert_75 K K.1 (F 1 l0 10) l3 l0 l1 l2 F B else none
set_option maxHeartbeats 4000000 in
set_option maxRecDepth 100000 in
theorem b_Event_insert_69 {D : va_G} {ca : Nat → ClassId} {ad : Nat → Int → Nat → Nat} {L : List Nat} {aS vS : Nat → Nat} {A : Nat → Prop} {p : Program} {l : Launch} {e : Env} {s : State} {m : MethodId} {args : Array Value} {below : List Frame} {meth : Method} {c : Code} {K : zK} {r : Int} {F9 : zF} {B9 : zB} (X : zX D ca L aS vS A p s m args meth c prog_3_method_5_code 5 (Option.some Jvm.ClassFile.FieldType.boolean) "StaveHouse$Event") {l3 : Int} {l0 : Int} {l1 : Int} {l2 : Int} {F : zF} {B : zB} {H : Heap} {locs : List Loc} {ls : Array Slot} (hf : f_Event_insert_69 K l3 l0 l1 l2 F B = some (r, F9, B9)) (hZ : zH D ca ad lnC K.2 L F B A H) (hS : va_S A s.heap H locs) (hl : lv_has ls 5 [(3, .int (iI l3)), (0, .ref (ad 1 l0 0)), (1, .int (iI l1)), (2, .int (iI l2))]) : W p l e ({ frames := 0, cells := 0, slots := 0, locals := 0 } : Room) s m args below meth c H locs 0 0 (MQ below (Q_Event_insert K D ca ad L r F9 B9 A) args s 0 0 A) (F0 m 69 ls []) := by
  obtain ⟨hx, hb, hr, hml, hown, hts, hlk, hK, hA, hL, hX⟩ := id X
  replace hf : (if 0 ≤ l0 ∧ l0 < K.2 1 then f_Event_insert_75 K K.1 (F 1 l0 10) l3 l0 l1 l2 F B else none) = some (r, F9, B9) := hf
  refine lv_aload_n hx hb d_3_5_69 rfl (lv_at hl 1 rfl) ?_
  obtain ⟨g19, hf⟩ := gif hf
  refine zget (ci := 1) (C := RX1) (T := TX1) (v := .int (iI (F 1 l0 10))) (k := 10) hx hb hts inW_1 hown hK hZ g19.1 g19.2 rfl (by decide) k_2_48 rfl d_3_5_70 ?_
  refine lv_istore (lv' := [(4, .int (iI (F 1 l0 10))), (3, .int (iI l3)), (0, .ref (ad 1 l0 0)), (1, .int (iI l1)), (2, .int (iI l2))]) hx hb d_3_5_73 hl (by decide) rfl (fun ls hl => ?_)
  exact b_Event_insert_75 X hf hZ hS (lv_sub hl [0, 1, 2, 3, 4] rfl)

noncomputable def f_Event_insert_49 (K : zK) (l3 : Int) (l0 : Int) (l1 : Int) (l2 : Int) (F : zF) (B : zB) : zO := if 0 ≤ l0 ∧ l0 < K.2 1 then if r32 l3 then if r32 (F 1 l0 10) then (if (F 1 l0 10) ≤ l3 then f_Event_insert_69 K l3 l0 l1 l2 F B else if 0 ≤ l3 ∧ l3 < 6 then if r32 (B 1 l0 12 l3) then if r32 l1 then (if (B 1 l0 12 l3) = l1 then some (0, F, B) else f_Event_insert_69 K l3 l0 l1 l2 F B) else none else none else none) else none else none else none
set_option maxHeartbeats 4000000 in
set_option maxRecDepth 100000 in
theorem b_Event_insert_49 {D : va_G} {ca : Nat → ClassId} {ad : Nat → Int → Nat → Nat} {L : List Nat} {aS vS : Nat → Nat} {A : Nat → Prop} {p : Program} {l : Launch} {e : Env} {s : State} {m : MethodId} {args : Array Value} {below : List Frame} {meth : Method} {c : Code} {K : zK} {r : Int} {F9 : zF} {B9 : zB} (X : zX D ca L aS vS A p s m args meth c prog_3_method_5_code 5 (Option.some Jvm.ClassFile.FieldType.boolean) "StaveHouse$Event") {l3 : Int} {l0 : Int} {l1 : Int} {l2 : Int} {F : zF} {B : zB} {H : Heap} {locs : List Loc} {ls : Array Slot} (hf : f_Event_insert_49 K l3 l0 l1 l2 F B = some (r, F9, B9)) (hZ : zH D ca ad lnC K.2 L F B A H) (hS : va_S A s.heap H locs) (hl : lv_has ls 5 [(3, .int (iI l3)), (0, .ref (ad 1 l0 0)), (1, .int (iI l1)), (2, .int (iI l2))]) : W p l e ({ frames := 0, cells := 0, slots := 0, locals := 0 } : Room) s m args below meth c H locs 0 0 (MQ below (Q_Event_insert K D ca ad L r F9 B9 A) args s 0 0 A) (F0 m 49 ls []) := by
  obtain ⟨hx, hb, hr, hml, hown, hts, hlk, hK, hA, hL, hX⟩ := id X
  replace hf : (if 0 ≤ l0 ∧ l0 < K.2 1 then if r32 l3 then if r32 (F 1 l0 10) then (if (F 1 l0 10) ≤ l3 then f_Event_insert_69 K l3 l0 l1 l2 F B else if 0 ≤ l3 ∧ l3 < 6 then if r32 (B 1 l0 12 l3) then if r32 l1 then (if (B 1 l0 12 l3) = l1 then some (0, F, B) else f_Event_insert_69 K l3 l0 l1 l2 F B) else none else none else none) else none else none else none) = some (r, F9, B9) := hf
  refine lv_iload_n hx hb d_3_5_49 rfl (lv_at hl 0 rfl) ?_
  refine lv_aload_n hx hb d_3_5_50 rfl (lv_at hl 1 rfl) ?_
  obtain ⟨g11, hf⟩ := gif hf
  refine zget (ci := 1) (C := RX1) (T := TX1) (v := .int (iI (F 1 l0 10))) (k := 10) hx hb hts inW_1 hown hK hZ g11.1 g11.2 rfl (by decide) k_2_48 rfl d_3_5_51 ?_
  obtain ⟨g12, hf⟩ := gif hf
  obtain ⟨g13, hf⟩ := gif hf
  refine zge (tgt := 69) hx hb g12 g13 d_3_5_54 (by decide) (fun h14 => ?_) (fun h14 => ?_)
  · replace hf := gpos hf h14
    exact b_Event_insert_69 X hf hZ hS (lv_sub hl [0, 1, 2, 3] rfl)
  · replace hf := gneg hf h14
    refine lv_aload_n hx hb d_3_5_57 rfl (lv_at hl 1 rfl) ?_
    refine zget (ci := 1) (C := RX1) (T := TX1) (v := .ref (ad 1 l0 (12 + 1))) (k := 12) hx hb hts inW_1 hown hK hZ g11.1 g11.2 rfl (by decide) k_2_57 rfl d_3_5_58 ?_
    refine lv_iload_n hx hb d_3_5_61 rfl (lv_at hl 0 rfl) ?_
    obtain ⟨g15, hf⟩ := gif hf
    refine zald (ci := 1) (k := 12) hx hb hK rfl hZ g11.1 g11.2 rfl (Nat.le_of_ble_eq_true rfl) g15.1 g15.2 d_3_5_62 ?_
    refine lv_iload_n hx hb d_3_5_63 rfl (lv_at hl 2 rfl) ?_
    obtain ⟨g16, hf⟩ := gif hf
    obtain ⟨g17, hf⟩ := gif hf
    refine zne (tgt := 69) hx hb g16 g17 d_3_5_64 (by decide) (fun h18 => ?_) (fun h18 => ?_)
    · replace hf := gneg hf h18
      exact b_Event_insert_69 X hf hZ hS (lv_sub hl [0, 1, 2, 3] rfl)
    · replace hf := gpos hf h18
      refine lv_iconst (v := iI 0) hx hb d_3_5_67 rfl ?_
      cases hf
      exact W.zret hx hb hr rfl (fun t ht hW => ⟨⟨_, (), rfl, rfl, by rw [ht]; exact hZ, va_K.moved hW.alike hK⟩, hS.F ht⟩) hS.2.2 d_3_5_68 hlk

noncomputable def f_Event_insert_24 (K : zK) : Nat → Int → Int → Int → Int → Int → zF → zB → zO
  | 0, _, _, _, _, _, _, _ => none
  | n + 1, l4, l3, l0, l1, l2, F, B => if r32 l4 then (if l4 < 0 then f_Event_insert_49 K l3 l0 l1 l2 F B else if 0 ≤ l0 ∧ l0 < K.2 1 then if 0 ≤ l4 ∧ l4 < 6 then if r32 (B 1 l0 12 l4) then if r32 l1 then (if (B 1 l0 12 l4) < l1 then f_Event_insert_49 K l3 l0 l1 l2 F B else f_Event_insert_24 K n (l4 - 1) l4 l0 l1 l2 F B) else none else none else none else none) else none
set_option maxHeartbeats 4000000 in
set_option maxRecDepth 100000 in
theorem b_Event_insert_24 {D : va_G} {ca : Nat → ClassId} {ad : Nat → Int → Nat → Nat} {L : List Nat} {aS vS : Nat → Nat} {A : Nat → Prop} {p : Program} {l : Launch} {e : Env} {s : State} {m : MethodId} {args : Array Value} {below : List Frame} {meth : Method} {c : Code} {K : zK} {r : Int} {F9 : zF} {B9 : zB} (X : zX D ca L aS vS A p s m args meth c prog_3_method_5_code 5 (Option.some Jvm.ClassFile.FieldType.boolean) "StaveHouse$Event") : ∀ {n : Nat} {l4 : Int} {l3 : Int} {l0 : Int} {l1 : Int} {l2 : Int} {F : zF} {B : zB} {H : Heap} {locs : List Loc} {ls : Array Slot}, f_Event_insert_24 K n l4 l3 l0 l1 l2 F B = some (r, F9, B9) → zH D ca ad lnC K.2 L F B A H → va_S A s.heap H locs → lv_has ls 5 [(4, .int (iI l4)), (3, .int (iI l3)), (0, .ref (ad 1 l0 0)), (1, .int (iI l1)), (2, .int (iI l2))] → W p l e ({ frames := 0, cells := 0, slots := 0, locals := 0 } : Room) s m args below meth c H locs 0 0 (MQ below (Q_Event_insert K D ca ad L r F9 B9 A) args s 0 0 A) (F0 m 24 ls []) := by
  obtain ⟨hx, hb, hr, hml, hown, hts, hlk, hK, hA, hL, hX⟩ := id X
  intro n
  induction n with
  | zero =>
    intros
    rename_i hf _ _ _
    cases hf
  | succ n ih =>
    intro l4 l3 l0 l1 l2 F B H locs ls hf hZ hS hl
    replace hf : (if r32 l4 then (if l4 < 0 then f_Event_insert_49 K l3 l0 l1 l2 F B else if 0 ≤ l0 ∧ l0 < K.2 1 then if 0 ≤ l4 ∧ l4 < 6 then if r32 (B 1 l0 12 l4) then if r32 l1 then (if (B 1 l0 12 l4) < l1 then f_Event_insert_49 K l3 l0 l1 l2 F B else f_Event_insert_24 K n (l4 - 1) l4 l0 l1 l2 F B) else none else none else none else none) else none) = some (r, F9, B9) := hf
    refine lv_iload hx hb d_3_5_24 (lv_at hl 0 rfl) ?_
    obtain ⟨g4, hf⟩ := gif hf
    refine z0lt (tgt := 49) hx hb g4 d_3_5_26 (by decide) (fun h5 => ?_) (fun h5 => ?_)
    · replace hf := gpos hf h5
      exact b_Event_insert_49 X hf hZ hS (lv_sub hl [1, 2, 3, 4] rfl)
    · replace hf := gneg hf h5
      refine lv_aload_n hx hb d_3_5_29 rfl (lv_at hl 2 rfl) ?_
      obtain ⟨g6, hf⟩ := gif hf
      refine zget (ci := 1) (C := RX1) (T := TX1) (v := .ref (ad 1 l0 (12 + 1))) (k := 12) hx hb hts inW_1 hown hK hZ g6.1 g6.2 rfl (by decide) k_2_57 rfl d_3_5_30 ?_
      refine lv_iload hx hb d_3_5_33 (lv_at hl 0 rfl) ?_
      obtain ⟨g7, hf⟩ := gif hf
      refine zald (ci := 1) (k := 12) hx hb hK rfl hZ g6.1 g6.2 rfl (Nat.le_of_ble_eq_true rfl) g7.1 g7.2 d_3_5_35 ?_
      refine lv_iload_n hx hb d_3_5_36 rfl (lv_at hl 3 rfl) ?_
      obtain ⟨g8, hf⟩ := gif hf
      obtain ⟨g9, hf⟩ := gif hf
      refine zlt (tgt := 49) hx hb g8 g9 d_3_5_37 (by decide) (fun h10 => ?_) (fun h10 => ?_)
      · replace hf := gpos hf h10
        exact b_Event_insert_49 X hf hZ hS (lv_sub hl [1, 2, 3, 4] rfl)
      · replace hf := gneg hf h10
        refine lv_iload hx hb d_3_5_40 (lv_at hl 0 rfl) ?_
        refine lv_istore_n (lv' := [(3, .int (iI l4)), (4, .int (iI l4)), (0, .ref (ad 1 l0 0)), (1, .int (iI l1)), (2, .int (iI l2))]) hx hb d_3_5_42 rfl hl (by decide) rfl (fun ls hl => ?_)
        refine lv_iinc (v := iI (l4 - 1)) (lv' := [(4, .int (iI (l4 - 1))), (3, .int (iI l4)), (0, .ref (ad 1 l0 0)), (1, .int (iI l1)), (2, .int (iI l2))]) hx hb d_3_5_43 hl (k := 1) rfl (by rw [show Int32.ofInt (-1) = iI (-1) from rfl, iI_add]; congr 1) (by decide) rfl (fun ls hl => ?_)
        refine lv_goto (tgt := 24) hx hb d_3_5_46 (by decide) ?_
        exact ih hf hZ hS (lv_sub hl [0, 1, 2, 3, 4] rfl)

noncomputable def f_Event_insert (K : zK) (l0 : Int) (l1 : Int) (l2 : Int) (F : zF) (B : zB) : zO := if 0 ≤ l0 ∧ l0 < K.2 1 then if r32 (F 1 l0 10) then (if (F 1 l0 10) < 6 then f_Event_insert_24 K K.1 ((F 1 l0 10) - 1) (F 1 l0 10) l0 l1 l2 F B else some (0, F, B)) else none else none
set_option maxHeartbeats 4000000 in
set_option maxRecDepth 100000 in
theorem c_Event_insert {l : Launch} {D : va_G} {ca : Nat → ClassId} {ad : Nat → Int → Nat → Nat} {L : List Nat} {aS vS : Nat → Nat} {sz : Nat} {K : zK}  {l0 : Int} {l1 : Int} {l2 : Int} {F F9 : zF} {B B9 : zB} {r : Int} (hf : f_Event_insert K l0 l1 l2 F B = some (r, F9, B9)) : Met l ({ cls := "StaveHouse$Event", name := "insert", desc := "(II)Z" } : Jvm.MethodName) (Cond.code ({ cls := "StaveHouse$Event", name := "insert", desc := "(II)Z" } : Jvm.MethodName) prog_3_method_5_code 5 (Option.some Jvm.ClassFile.FieldType.boolean) :: wAll) ({ frames := 0, cells := 0, slots := 0, locals := 0 } : Room) (va_Pc [.ref (ad 1 l0 0), .int (iI l1), .int (iI l2)] (zPre D ca ad lnC K.2 L aS vS F B sz)) (Q_Event_insert K D ca ad L r F9 B9 (zA L sz)) 0 0 (zA L sz) := by
  refine zMet (Qc := Q_Event_insert K D ca ad L r F9 B9) (lv := [(0, .ref (ad 1 l0 0)), (1, .int (iI l1)), (2, .int (iI l2))]) (by decide) (Nat.le_of_ble_eq_true rfl) rfl (fun A p e s m below meth c ls X hZ hS hl => ?_)
  obtain ⟨hx, hb, hr, hml, hown, hts, hlk, hK, hA, hL, hX⟩ := id X
  replace hf : (if 0 ≤ l0 ∧ l0 < K.2 1 then if r32 (F 1 l0 10) then (if (F 1 l0 10) < 6 then f_Event_insert_24 K K.1 ((F 1 l0 10) - 1) (F 1 l0 10) l0 l1 l2 F B else some (0, F, B)) else none else none) = some (r, F9, B9) := hf
  refine lv_aload_n hx hb d_3_5_0 rfl (lv_at hl 0 rfl) ?_
  obtain ⟨g1, hf⟩ := gif hf
  refine zget (ci := 1) (C := RX1) (T := TX1) (v := .int (iI (F 1 l0 10))) (k := 10) hx hb hts inW_1 hown hK hZ g1.1 g1.2 rfl (by decide) k_2_48 rfl d_3_5_1 ?_
  refine lv_bipush (v := iI 6) hx hb d_3_5_4 (by decide) ?_
  obtain ⟨g2, hf⟩ := gif hf
  refine zlt (tgt := 11) hx hb g2 (by decide) d_3_5_6 (by decide) (fun h3 => ?_) (fun h3 => ?_)
  · replace hf := gpos hf h3
    refine lv_aload_n hx hb d_3_5_11 rfl (lv_at hl 0 rfl) ?_
    refine zget (ci := 1) (C := RX1) (T := TX1) (v := .int (iI (F 1 l0 10))) (k := 10) hx hb hts inW_1 hown hK hZ g1.1 g1.2 rfl (by decide) k_2_48 rfl d_3_5_12 ?_
    refine lv_istore_n (lv' := [(3, .int (iI (F 1 l0 10))), (0, .ref (ad 1 l0 0)), (1, .int (iI l1)), (2, .int (iI l2))]) hx hb d_3_5_15 rfl hl (by decide) rfl (fun ls hl => ?_)
    refine lv_aload_n hx hb d_3_5_16 rfl (lv_at hl 1 rfl) ?_
    refine zget (ci := 1) (C := RX1) (T := TX1) (v := .int (iI (F 1 l0 10))) (k := 10) hx hb hts inW_1 hown hK hZ g1.1 g1.2 rfl (by decide) k_2_48 rfl d_3_5_17 ?_
    refine lv_iconst (v := iI 1) hx hb d_3_5_20 rfl ?_
    refine zsub hx hb d_3_5_21 ?_
    refine lv_istore (lv' := [(4, .int (iI ((F 1 l0 10) - 1))), (3, .int (iI (F 1 l0 10))), (0, .ref (ad 1 l0 0)), (1, .int (iI l1)), (2, .int (iI l2))]) hx hb d_3_5_22 hl (by decide) rfl (fun ls hl => ?_)
    exact b_Event_insert_24 X hf hZ hS (lv_sub hl [0, 1, 2, 3, 4] rfl)
  · replace hf := gneg hf h3
    refine lv_iconst (v := iI 0) hx hb d_3_5_9 rfl ?_
    cases hf
    exact W.zret hx hb hr rfl (fun t ht hW => ⟨⟨_, (), rfl, rfl, by rw [ht]; exact hZ, va_K.moved hW.alike hK⟩, hS.F ht⟩) hS.2.2 d_3_5_10 hlk

noncomputable abbrev Q_Event_has (K : zK) (D : va_G) (ca : Nat → ClassId) (ad : Nat → Int → Nat → Nat) (L : List Nat) (r : Int) (F : zF) (B : zB) (A : Nat → Prop) : Array Value → State → Outcome → State → Prop := va_Qi (S := Unit) (fun p _ => p = iI r) (fun _ => zPo D ca ad lnC K.2 L F B A) A
noncomputable def f_Event_has_14 (K : zK) (s0 : Int) (F : zF) (B : zB) : zO := if (s0 = 0 ∨ s0 = 1) then some (s0, F, B) else none
set_option maxHeartbeats 4000000 in
set_option maxRecDepth 100000 in
theorem b_Event_has_14 {D : va_G} {ca : Nat → ClassId} {ad : Nat → Int → Nat → Nat} {L : List Nat} {aS vS : Nat → Nat} {A : Nat → Prop} {p : Program} {l : Launch} {e : Env} {s : State} {m : MethodId} {args : Array Value} {below : List Frame} {meth : Method} {c : Code} {K : zK} {r : Int} {F9 : zF} {B9 : zB} (X : zX D ca L aS vS A p s m args meth c prog_3_method_3_code 2 (Option.some Jvm.ClassFile.FieldType.boolean) "StaveHouse$Event") {s0 : Int} {F : zF} {B : zB} {H : Heap} {locs : List Loc} {ls : Array Slot} (hf : f_Event_has_14 K s0 F B = some (r, F9, B9)) (hZ : zH D ca ad lnC K.2 L F B A H) (hS : va_S A s.heap H locs) (hl : lv_has ls 2 []) : W p l e ({ frames := 0, cells := 0, slots := 0, locals := 0 } : Room) s m args below meth c H locs 0 0 (MQ below (Q_Event_has K D ca ad L r F9 B9 A) args s 0 0 A) (F0 m 14 ls [.int (iI s0)]) := by
  obtain ⟨hx, hb, hr, hml, hown, hts, hlk, hK, hA, hL, hX⟩ := id X
  replace hf : (if (s0 = 0 ∨ s0 = 1) then some (s0, F, B) else none) = some (r, F9, B9) := hf
  obtain ⟨g4, hf⟩ := gif hf
  cases hf
  exact W.zret hx hb hr (zbool g4) (fun t ht hW => ⟨⟨_, (), rfl, rfl, by rw [ht]; exact hZ, va_K.moved hW.alike hK⟩, hS.F ht⟩) hS.2.2 d_3_3_14 hlk

noncomputable def f_Event_has (K : zK) (l0 : Int) (l1 : Int) (F : zF) (B : zB) : zO := if 0 ≤ l0 ∧ l0 < K.2 1 then if r32 (zand (F 1 l0 7) l1) then (if (zand (F 1 l0 7) l1) = 0 then f_Event_has_14 K 0 F B else f_Event_has_14 K 1 F B) else none else none
set_option maxHeartbeats 4000000 in
set_option maxRecDepth 100000 in
theorem c_Event_has {l : Launch} {D : va_G} {ca : Nat → ClassId} {ad : Nat → Int → Nat → Nat} {L : List Nat} {aS vS : Nat → Nat} {sz : Nat} {K : zK}  {l0 : Int} {l1 : Int} {F F9 : zF} {B B9 : zB} {r : Int} (hf : f_Event_has K l0 l1 F B = some (r, F9, B9)) : Met l ({ cls := "StaveHouse$Event", name := "has", desc := "(I)Z" } : Jvm.MethodName) (Cond.code ({ cls := "StaveHouse$Event", name := "has", desc := "(I)Z" } : Jvm.MethodName) prog_3_method_3_code 2 (Option.some Jvm.ClassFile.FieldType.boolean) :: wAll) ({ frames := 0, cells := 0, slots := 0, locals := 0 } : Room) (va_Pc [.ref (ad 1 l0 0), .int (iI l1)] (zPre D ca ad lnC K.2 L aS vS F B sz)) (Q_Event_has K D ca ad L r F9 B9 (zA L sz)) 0 0 (zA L sz) := by
  refine zMet (Qc := Q_Event_has K D ca ad L r F9 B9) (lv := [(0, .ref (ad 1 l0 0)), (1, .int (iI l1))]) (by decide) (Nat.le_of_ble_eq_true rfl) rfl (fun A p e s m below meth c ls X hZ hS hl => ?_)
  obtain ⟨hx, hb, hr, hml, hown, hts, hlk, hK, hA, hL, hX⟩ := id X
  replace hf : (if 0 ≤ l0 ∧ l0 < K.2 1 then if r32 (zand (F 1 l0 7) l1) then (if (zand (F 1 l0 7) l1) = 0 then f_Event_has_14 K 0 F B else f_Event_has_14 K 1 F B) else none else none) = some (r, F9, B9) := hf
  refine lv_aload_n hx hb d_3_3_0 rfl (lv_at hl 0 rfl) ?_
  obtain ⟨g1, hf⟩ := gif hf
  refine zget (ci := 1) (C := RX1) (T := TX1) (v := .int (iI (F 1 l0 7))) (k := 7) hx hb hts inW_1 hown hK hZ g1.1 g1.2 rfl (by decide) k_2_38 rfl d_3_3_1 ?_
  refine lv_iload_n hx hb d_3_3_4 rfl (lv_at hl 1 rfl) ?_
  refine zand_r hx hb d_3_3_5 ?_
  obtain ⟨g2, hf⟩ := gif hf
  refine z0eq (tgt := 13) hx hb g2 d_3_3_6 (by decide) (fun h3 => ?_) (fun h3 => ?_)
  · replace hf := gpos hf h3
    refine lv_iconst (v := iI 0) hx hb d_3_3_13 rfl ?_
    exact b_Event_has_14 X hf hZ hS (lv_sub hl [] rfl)
  · replace hf := gneg hf h3
    refine lv_iconst (v := iI 1) hx hb d_3_3_9 rfl ?_
    refine lv_goto (tgt := 14) hx hb d_3_3_10 (by decide) ?_
    exact b_Event_has_14 X hf hZ hS (lv_sub hl [] rfl)

noncomputable abbrev Q_Walker_multiplySlow (K : zK) (D : va_G) (ca : Nat → ClassId) (ad : Nat → Int → Nat → Nat) (L : List Nat) (r : Int) (F : zF) (B : zB) (A : Nat → Prop) : Array Value → State → Outcome → State → Prop := va_Qv (S := Unit) (fun _ => True) (fun _ => zPo D ca ad lnC K.2 L F B A) A
noncomputable def f_Walker_multiplySlow_60 (rec5 : Int → Int → Int → Int → zF → zB → zO) (K : zK) (l4 : Int) (l3 : Int) (l0 : Int) (l2 : Int) (F : zF) (B : zB) : zO := rec5 (l4 + 1) l3 l0 l2 F B
set_option maxHeartbeats 4000000 in
set_option maxRecDepth 100000 in
theorem b_Walker_multiplySlow_60 {D : va_G} {ca : Nat → ClassId} {ad : Nat → Int → Nat → Nat} {L : List Nat} {aS vS : Nat → Nat} {A : Nat → Prop} {p : Program} {l : Launch} {e : Env} {s : State} {m : MethodId} {args : Array Value} {below : List Frame} {meth : Method} {c : Code} {K : zK} {r : Int} {F9 : zF} {B9 : zB} (X : zX D ca L aS vS A p s m args meth c prog_13_method_11_code 6 (Option.none : Option Jvm.ClassFile.FieldType) "StaveHouse$Walker") {rec5 : Int → Int → Int → Int → zF → zB → zO} (hrec5 : ∀ {l4 : Int} {l3 : Int} {l0 : Int} {l2 : Int} {F : zF} {B : zB} {H : Heap} {locs : List Loc} {ls : Array Slot}, rec5 l4 l3 l0 l2 F B = some (r, F9, B9) → zH D ca ad lnC K.2 L F B A H → va_S A s.heap H locs → lv_has ls 6 [(4, .int (iI l4)), (3, .int (iI l3)), (0, .ref (ad 11 l0 0)), (2, .int (iI l2))] → W p l e ({ frames := 0, cells := 0, slots := 0, locals := 0 } : Room) s m args below meth c H locs 0 0 (MQ below (Q_Walker_multiplySlow K D ca ad L r F9 B9 A) args s 0 0 A) (F0 m 5 ls [])) {l4 : Int} {l3 : Int} {l0 : Int} {l2 : Int} {F : zF} {B : zB} {H : Heap} {locs : List Loc} {ls : Array Slot} (hf : f_Walker_multiplySlow_60 rec5 K l4 l3 l0 l2 F B = some (r, F9, B9)) (hZ : zH D ca ad lnC K.2 L F B A H) (hS : va_S A s.heap H locs) (hl : lv_has ls 6 [(4, .int (iI l4)), (3, .int (iI l3)), (0, .ref (ad 11 l0 0)), (2, .int (iI l2))]) : W p l e ({ frames := 0, cells := 0, slots := 0, locals := 0 } : Room) s m args below meth c H locs 0 0 (MQ below (Q_Walker_multiplySlow K D ca ad L r F9 B9 A) args s 0 0 A) (F0 m 60 ls []) := by
  obtain ⟨hx, hb, hr, hml, hown, hts, hlk, hK, hA, hL, hX⟩ := id X
  replace hf : (rec5 (l4 + 1) l3 l0 l2 F B) = some (r, F9, B9) := hf
  refine lv_iinc (v := iI (l4 + 1)) (lv' := [(4, .int (iI (l4 + 1))), (3, .int (iI l3)), (0, .ref (ad 11 l0 0)), (2, .int (iI l2))]) hx hb d_13_11_60 hl (k := 0) rfl (iI_add _ 1) (by decide) rfl (fun ls hl => ?_)
  refine lv_goto (tgt := 5) hx hb d_13_11_63 (by decide) ?_
  exact hrec5 hf hZ hS (lv_sub hl [0, 1, 2, 3] rfl)

noncomputable def f_Walker_multiplySlow_17 (rec5 : Int → Int → Int → Int → zF → zB → zO) (K : zK) : Nat → Int → Int → Int → Int → Int → zF → zB → zO
  | 0, _, _, _, _, _, _, _ => none
  | n + 1, l5, l4, l3, l0, l2, F, B => if r32 l5 then (if 4 ≤ l5 then f_Walker_multiplySlow_60 rec5 K l4 l3 l0 l2 F B else if 0 ≤ l4 ∧ l4 < ztl 6 then if ¬ iI (ztv 6 l4) = 0 then if r32 (zrm l3 (ztv 6 l4)) then (if (zrm l3 (ztv 6 l4)) = 0 then if 0 ≤ l0 ∧ l0 < K.2 11 then if 0 ≤ l4 ∧ l4 < 4 then f_Walker_multiplySlow_17 rec5 K n (l5 + 1) l4 (zdv l3 (ztv 6 l4)) l0 l2 F (zup4 B 11 l0 14 l4 ((B 11 l0 14 l4) + l2)) else none else none else f_Walker_multiplySlow_60 rec5 K l4 l3 l0 l2 F B) else none else none else none) else none
set_option maxHeartbeats 4000000 in
set_option maxRecDepth 100000 in
theorem b_Walker_multiplySlow_17 {D : va_G} {ca : Nat → ClassId} {ad : Nat → Int → Nat → Nat} {L : List Nat} {aS vS : Nat → Nat} {A : Nat → Prop} {p : Program} {l : Launch} {e : Env} {s : State} {m : MethodId} {args : Array Value} {below : List Frame} {meth : Method} {c : Code} {K : zK} {r : Int} {F9 : zF} {B9 : zB} (X : zX D ca L aS vS A p s m args meth c prog_13_method_11_code 6 (Option.none : Option Jvm.ClassFile.FieldType) "StaveHouse$Walker") {rec5 : Int → Int → Int → Int → zF → zB → zO} (hrec5 : ∀ {l4 : Int} {l3 : Int} {l0 : Int} {l2 : Int} {F : zF} {B : zB} {H : Heap} {locs : List Loc} {ls : Array Slot}, rec5 l4 l3 l0 l2 F B = some (r, F9, B9) → zH D ca ad lnC K.2 L F B A H → va_S A s.heap H locs → lv_has ls 6 [(4, .int (iI l4)), (3, .int (iI l3)), (0, .ref (ad 11 l0 0)), (2, .int (iI l2))] → W p l e ({ frames := 0, cells := 0, slots := 0, locals := 0 } : Room) s m args below meth c H locs 0 0 (MQ below (Q_Walker_multiplySlow K D ca ad L r F9 B9 A) args s 0 0 A) (F0 m 5 ls [])) : ∀ {n : Nat} {l5 : Int} {l4 : Int} {l3 : Int} {l0 : Int} {l2 : Int} {F : zF} {B : zB} {H : Heap} {locs : List Loc} {ls : Array Slot}, f_Walker_multiplySlow_17 rec5 K n l5 l4 l3 l0 l2 F B = some (r, F9, B9) → zH D ca ad lnC K.2 L F B A H → va_S A s.heap H locs → lv_has ls 6 [(5, .int (iI l5)), (4, .int (iI l4)), (3, .int (iI l3)), (0, .ref (ad 11 l0 0)), (2, .int (iI l2))] → W p l e ({ frames := 0, cells := 0, slots := 0, locals := 0 } : Room) s m args below meth c H locs 0 0 (MQ below (Q_Walker_multiplySlow K D ca ad L r F9 B9 A) args s 0 0 A) (F0 m 17 ls []) := by
  obtain ⟨hx, hb, hr, hml, hown, hts, hlk, hK, hA, hL, hX⟩ := id X
  intro n
  induction n with
  | zero =>
    intros
    rename_i hf _ _ _
    cases hf
  | succ n ih =>
    intro l5 l4 l3 l0 l2 F B H locs ls hf hZ hS hl
    replace hf : (if r32 l5 then (if 4 ≤ l5 then f_Walker_multiplySlow_60 rec5 K l4 l3 l0 l2 F B else if 0 ≤ l4 ∧ l4 < ztl 6 then if ¬ iI (ztv 6 l4) = 0 then if r32 (zrm l3 (ztv 6 l4)) then (if (zrm l3 (ztv 6 l4)) = 0 then if 0 ≤ l0 ∧ l0 < K.2 11 then if 0 ≤ l4 ∧ l4 < 4 then f_Walker_multiplySlow_17 rec5 K n (l5 + 1) l4 (zdv l3 (ztv 6 l4)) l0 l2 F (zup4 B 11 l0 14 l4 ((B 11 l0 14 l4) + l2)) else none else none else f_Walker_multiplySlow_60 rec5 K l4 l3 l0 l2 F B) else none else none else none) else none) = some (r, F9, B9) := hf
    refine lv_iload hx hb d_13_11_17 (lv_at hl 0 rfl) ?_
    refine lv_iconst (v := iI 4) hx hb d_13_11_19 rfl ?_
    obtain ⟨g4, hf⟩ := gif hf
    refine zge (tgt := 60) hx hb g4 (by decide) d_13_11_20 (by decide) (fun h5 => ?_) (fun h5 => ?_)
    · replace hf := gpos hf h5
      exact b_Walker_multiplySlow_60 X hrec5 hf hZ hS (lv_sub hl [1, 2, 3, 4] rfl)
    · replace hf := gneg hf h5
      refine lv_iload_n hx hb d_13_11_23 rfl (lv_at hl 2 rfl) ?_
      refine va_gets hx hb (hX.2.2.2.2.2.2 6 _ rfl).1 hS hown (hts _ k_4_220) (fun _ h => h) d_13_11_24 ?_
      refine W.eq (g2 := F0 m 27 ls [.ref (vS (1000 + 6)), .int (iI l3)]) rfl ?_
      refine lv_iload hx hb d_13_11_27 (lv_at hl 1 rfl) ?_
      obtain ⟨g6, hf⟩ := gif hf
      refine va_ti (v := .int (iI (ztv 6 l4))) hx hb (ztI hX (by decide) (by decide)) hS (zt_in (by decide) g6) (ztI_v (by decide) g6) d_13_11_29 ?_
      obtain ⟨g7, hf⟩ := gif hf
      refine zrm_r hx hb g7 d_13_11_30 ?_
      obtain ⟨g8, hf⟩ := gif hf
      refine z0ne (tgt := 60) hx hb g8 d_13_11_31 (by decide) (fun h9 => ?_) (fun h9 => ?_)
      · replace hf := gneg hf h9
        exact b_Walker_multiplySlow_60 X hrec5 hf hZ hS (lv_sub hl [1, 2, 3, 4] rfl)
      · replace hf := gpos hf h9
        refine lv_iload_n hx hb d_13_11_34 rfl (lv_at hl 2 rfl) ?_
        refine va_gets hx hb (hX.2.2.2.2.2.2 6 _ rfl).1 hS hown (hts _ k_4_220) (fun _ h => h) d_13_11_35 ?_
        refine W.eq (g2 := F0 m 38 ls [.ref (vS (1000 + 6)), .int (iI l3)]) rfl ?_
        refine lv_iload hx hb d_13_11_38 (lv_at hl 1 rfl) ?_
        refine va_ti (v := .int (iI (ztv 6 l4))) hx hb (ztI hX (by decide) (by decide)) hS (zt_in (by decide) g6) (ztI_v (by decide) g6) d_13_11_40 ?_
        refine zdv_r hx hb g7 d_13_11_41 ?_
        refine lv_istore_n (lv' := [(3, .int (iI (zdv l3 (ztv 6 l4)))), (5, .int (iI l5)), (4, .int (iI l4)), (0, .ref (ad 11 l0 0)), (2, .int (iI l2))]) hx hb d_13_11_42 rfl hl (by decide) rfl (fun ls hl => ?_)
        refine lv_aload_n hx hb d_13_11_43 rfl (lv_at hl 3 rfl) ?_
        obtain ⟨g10, hf⟩ := gif hf
        refine zget (ci := 11) (C := RX11) (T := TX11) (v := .ref (ad 11 l0 (14 + 1))) (k := 14) hx hb hts inW_11 hown hK hZ g10.1 g10.2 rfl (by decide) k_1_204 rfl d_13_11_44 ?_
        refine lv_iload hx hb d_13_11_47 (lv_at hl 2 rfl) ?_
        refine lv_dup2_11 hx hb d_13_11_49 rfl rfl ?_
        obtain ⟨g11, hf⟩ := gif hf
        refine zald (ci := 11) (k := 14) hx hb hK rfl hZ g10.1 g10.2 rfl (Nat.le_of_ble_eq_true rfl) g11.1 g11.2 d_13_11_50 ?_
        refine lv_iload_n hx hb d_13_11_51 rfl (lv_at hl 4 rfl) ?_
        refine zadd hx hb d_13_11_52 ?_
        refine zast (ci := 11) (k := 14) hx hb hK rfl hZ hS g10.1 g10.2 rfl (Nat.le_of_ble_eq_true rfl) g11.1 g11.2 d_13_11_53 (fun H12 locs12 hZ12 hS12 => ?_)
        refine lv_iinc (v := iI (l5 + 1)) (lv' := [(5, .int (iI (l5 + 1))), (3, .int (iI (zdv l3 (ztv 6 l4)))), (4, .int (iI l4)), (0, .ref (ad 11 l0 0)), (2, .int (iI l2))]) hx hb d_13_11_54 hl (k := 1) rfl (iI_add _ 1) (by decide) rfl (fun ls hl => ?_)
        refine lv_goto (tgt := 17) hx hb d_13_11_57 (by decide) ?_
        exact ih hf hZ12 hS12 (lv_sub hl [0, 2, 1, 3, 4] rfl)

noncomputable def f_Walker_multiplySlow_5 (K : zK) : Nat → Int → Int → Int → Int → zF → zB → zO
  | 0, _, _, _, _, _, _ => none
  | n + 1, l4, l3, l0, l2, F, B => if r32 l4 then if r32 (ztl 6) then (if (ztl 6) ≤ l4 then some (0, F, B) else f_Walker_multiplySlow_17 (f_Walker_multiplySlow_5 K n) K K.1 0 l4 l3 l0 l2 F B) else none else none
set_option maxHeartbeats 4000000 in
set_option maxRecDepth 100000 in
theorem b_Walker_multiplySlow_5 {D : va_G} {ca : Nat → ClassId} {ad : Nat → Int → Nat → Nat} {L : List Nat} {aS vS : Nat → Nat} {A : Nat → Prop} {p : Program} {l : Launch} {e : Env} {s : State} {m : MethodId} {args : Array Value} {below : List Frame} {meth : Method} {c : Code} {K : zK} {r : Int} {F9 : zF} {B9 : zB} (X : zX D ca L aS vS A p s m args meth c prog_13_method_11_code 6 (Option.none : Option Jvm.ClassFile.FieldType) "StaveHouse$Walker") : ∀ {n : Nat} {l4 : Int} {l3 : Int} {l0 : Int} {l2 : Int} {F : zF} {B : zB} {H : Heap} {locs : List Loc} {ls : Array Slot}, f_Walker_multiplySlow_5 K n l4 l3 l0 l2 F B = some (r, F9, B9) → zH D ca ad lnC K.2 L F B A H → va_S A s.heap H locs → lv_has ls 6 [(4, .int (iI l4)), (3, .int (iI l3)), (0, .ref (ad 11 l0 0)), (2, .int (iI l2))] → W p l e ({ frames := 0, cells := 0, slots := 0, locals := 0 } : Room) s m args below meth c H locs 0 0 (MQ below (Q_Walker_multiplySlow K D ca ad L r F9 B9 A) args s 0 0 A) (F0 m 5 ls []) := by
  obtain ⟨hx, hb, hr, hml, hown, hts, hlk, hK, hA, hL, hX⟩ := id X
  intro n
  induction n with
  | zero =>
    intros
    rename_i hf _ _ _
    cases hf
  | succ n ih =>
    intro l4 l3 l0 l2 F B H locs ls hf hZ hS hl
    replace hf : (if r32 l4 then if r32 (ztl 6) then (if (ztl 6) ≤ l4 then some (0, F, B) else f_Walker_multiplySlow_17 (f_Walker_multiplySlow_5 K n) K K.1 0 l4 l3 l0 l2 F B) else none else none) = some (r, F9, B9) := hf
    refine lv_iload hx hb d_13_11_5 (lv_at hl 0 rfl) ?_
    refine va_gets hx hb (hX.2.2.2.2.2.2 6 _ rfl).1 hS hown (hts _ k_4_220) (fun _ h => h) d_13_11_7 ?_
    refine W.eq (g2 := F0 m 10 ls [.ref (vS (1000 + 6)), .int (iI l4)]) rfl ?_
    refine va_tlen (v := iI (ztl 6)) hx hb (ztT hX (by decide)) hS (ztl_n _) d_13_11_10 ?_
    obtain ⟨g1, hf⟩ := gif hf
    obtain ⟨g2, hf⟩ := gif hf
    refine zge (tgt := 66) hx hb g1 g2 d_13_11_11 (by decide) (fun h3 => ?_) (fun h3 => ?_)
    · replace hf := gpos hf h3
      cases hf
      exact W.vret hx hb hr (fun t ht hW => ⟨⟨(), rfl, trivial, by rw [ht]; exact hZ, va_K.moved hW.alike hK⟩, hS.F ht⟩) hS.2.2 d_13_11_66 hlk
    · replace hf := gneg hf h3
      refine lv_iconst (v := iI 0) hx hb d_13_11_14 rfl ?_
      refine lv_istore (lv' := [(5, .int (iI 0)), (4, .int (iI l4)), (3, .int (iI l3)), (0, .ref (ad 11 l0 0)), (2, .int (iI l2))]) hx hb d_13_11_15 hl (by decide) rfl (fun ls hl => ?_)
      exact b_Walker_multiplySlow_17 X ih hf hZ hS (lv_sub hl [0, 1, 2, 3, 4] rfl)

noncomputable def f_Walker_multiplySlow (K : zK) (l0 : Int) (l1 : Int) (l2 : Int) (F : zF) (B : zB) : zO := f_Walker_multiplySlow_5 K K.1 0 l1 l0 l2 F B
set_option maxHeartbeats 4000000 in
set_option maxRecDepth 100000 in
theorem c_Walker_multiplySlow {l : Launch} {D : va_G} {ca : Nat → ClassId} {ad : Nat → Int → Nat → Nat} {L : List Nat} {aS vS : Nat → Nat} {sz : Nat} {K : zK}  {l0 : Int} {l1 : Int} {l2 : Int} {F F9 : zF} {B B9 : zB} {r : Int} (hf : f_Walker_multiplySlow K l0 l1 l2 F B = some (r, F9, B9)) : Met l ({ cls := "StaveHouse$Walker", name := "multiplySlow", desc := "(II)V" } : Jvm.MethodName) (Cond.code ({ cls := "StaveHouse$Walker", name := "multiplySlow", desc := "(II)V" } : Jvm.MethodName) prog_13_method_11_code 6 (Option.none : Option Jvm.ClassFile.FieldType) :: wAll) ({ frames := 0, cells := 0, slots := 0, locals := 0 } : Room) (va_Pc [.ref (ad 11 l0 0), .int (iI l1), .int (iI l2)] (zPre D ca ad lnC K.2 L aS vS F B sz)) (Q_Walker_multiplySlow K D ca ad L r F9 B9 (zA L sz)) 0 0 (zA L sz) := by
  refine zMet (Qc := Q_Walker_multiplySlow K D ca ad L r F9 B9) (lv := [(0, .ref (ad 11 l0 0)), (1, .int (iI l1)), (2, .int (iI l2))]) (by decide) (Nat.le_of_ble_eq_true rfl) rfl (fun A p e s m below meth c ls X hZ hS hl => ?_)
  obtain ⟨hx, hb, hr, hml, hown, hts, hlk, hK, hA, hL, hX⟩ := id X
  replace hf : (f_Walker_multiplySlow_5 K K.1 0 l1 l0 l2 F B) = some (r, F9, B9) := hf
  refine lv_iload_n hx hb d_13_11_0 rfl (lv_at hl 1 rfl) ?_
  refine lv_istore_n (lv' := [(3, .int (iI l1)), (0, .ref (ad 11 l0 0)), (1, .int (iI l1)), (2, .int (iI l2))]) hx hb d_13_11_1 rfl hl (by decide) rfl (fun ls hl => ?_)
  refine lv_iconst (v := iI 0) hx hb d_13_11_2 rfl ?_
  refine lv_istore (lv' := [(4, .int (iI 0)), (3, .int (iI l1)), (0, .ref (ad 11 l0 0)), (1, .int (iI l1)), (2, .int (iI l2))]) hx hb d_13_11_3 hl (by decide) rfl (fun ls hl => ?_)
  exact b_Walker_multiplySlow_5 X hf hZ hS (lv_sub hl [0, 1, 2, 4] rfl)

noncomputable abbrev Q_Part_placeEvents (K : zK) (D : va_G) (ca : Nat → ClassId) (ad : Nat → Int → Nat → Nat) (L : List Nat) (r : Int) (F : zF) (B : zB) (A : Nat → Prop) : Array Value → State → Outcome → State → Prop := va_Qv (S := Unit) (fun _ => True) (fun _ => zPo D ca ad lnC K.2 L F B A) A
noncomputable def f_Part_placeEvents_7 (K : zK) : Nat → Int → Int → zF → zB → zO
  | 0, _, _, _, _ => none
  | n + 1, l1, l0, F, B => if 0 ≤ l0 ∧ l0 < K.2 4 then if r32 l1 then if r32 (F 4 l0 6) then (if (F 4 l0 6) ≤ l1 then some (0, F, B) else if 0 ≤ l1 ∧ l1 < 200 then if 0 ≤ (B 4 l0 5 l1) ∧ (B 4 l0 5 l1) < K.2 1 then f_Part_placeEvents_7 K n (l1 + 1) l0 (zup3 (zup3 F 1 (B 4 l0 5 l1) 0 (F 4 l0 7)) 4 l0 7 ((F 4 l0 7) + (F 1 (B 4 l0 5 l1) 1))) B else none else none) else none else none else none
set_option maxHeartbeats 4000000 in
set_option maxRecDepth 100000 in
theorem b_Part_placeEvents_7 {D : va_G} {ca : Nat → ClassId} {ad : Nat → Int → Nat → Nat} {L : List Nat} {aS vS : Nat → Nat} {A : Nat → Prop} {p : Program} {l : Launch} {e : Env} {s : State} {m : MethodId} {args : Array Value} {below : List Frame} {meth : Method} {c : Code} {K : zK} {r : Int} {F9 : zF} {B9 : zB} (X : zX D ca L aS vS A p s m args meth c prog_6_method_5_code 2 (Option.none : Option Jvm.ClassFile.FieldType) "StaveHouse$Part") : ∀ {n : Nat} {l1 : Int} {l0 : Int} {F : zF} {B : zB} {H : Heap} {locs : List Loc} {ls : Array Slot}, f_Part_placeEvents_7 K n l1 l0 F B = some (r, F9, B9) → zH D ca ad lnC K.2 L F B A H → va_S A s.heap H locs → lv_has ls 2 [(1, .int (iI l1)), (0, .ref (ad 4 l0 0))] → W p l e ({ frames := 0, cells := 0, slots := 0, locals := 0 } : Room) s m args below meth c H locs 0 0 (MQ below (Q_Part_placeEvents K D ca ad L r F9 B9 A) args s 0 0 A) (F0 m 7 ls []) := by
  obtain ⟨hx, hb, hr, hml, hown, hts, hlk, hK, hA, hL, hX⟩ := id X
  intro n
  induction n with
  | zero =>
    intros
    rename_i hf _ _ _
    cases hf
  | succ n ih =>
    intro l1 l0 F B H locs ls hf hZ hS hl
    replace hf : (if 0 ≤ l0 ∧ l0 < K.2 4 then if r32 l1 then if r32 (F 4 l0 6) then (if (F 4 l0 6) ≤ l1 then some (0, F, B) else if 0 ≤ l1 ∧ l1 < 200 then if 0 ≤ (B 4 l0 5 l1) ∧ (B 4 l0 5 l1) < K.2 1 then f_Part_placeEvents_7 K n (l1 + 1) l0 (zup3 (zup3 F 1 (B 4 l0 5 l1) 0 (F 4 l0 7)) 4 l0 7 ((F 4 l0 7) + (F 1 (B 4 l0 5 l1) 1))) B else none else none) else none else none else none) = some (r, F9, B9) := hf
    refine lv_iload_n hx hb d_6_5_7 rfl (lv_at hl 0 rfl) ?_
    refine lv_aload_n hx hb d_6_5_8 rfl (lv_at hl 1 rfl) ?_
    obtain ⟨g3, hf⟩ := gif hf
    refine zget (ci := 4) (C := RX4) (T := TX4) (v := .int (iI (F 4 l0 6))) (k := 6) hx hb hts inW_4 hown hK hZ g3.1 g3.2 rfl (by decide) k_4_135 rfl d_6_5_9 ?_
    obtain ⟨g4, hf⟩ := gif hf
    obtain ⟨g5, hf⟩ := gif hf
    refine zge (tgt := 52) hx hb g4 g5 d_6_5_12 (by decide) (fun h6 => ?_) (fun h6 => ?_)
    · replace hf := gpos hf h6
      cases hf
      exact W.vret hx hb hr (fun t ht hW => ⟨⟨(), rfl, trivial, by rw [ht]; exact hZ, va_K.moved hW.alike hK⟩, hS.F ht⟩) hS.2.2 d_6_5_52 hlk
    · replace hf := gneg hf h6
      refine lv_aload_n hx hb d_6_5_15 rfl (lv_at hl 1 rfl) ?_
      refine zget (ci := 4) (C := RX4) (T := TX4) (v := .ref (ad 4 l0 (5 + 1))) (k := 5) hx hb hts inW_4 hown hK hZ g3.1 g3.2 rfl (by decide) k_4_130 rfl d_6_5_16 ?_
      refine lv_iload_n hx hb d_6_5_19 rfl (lv_at hl 0 rfl) ?_
      obtain ⟨g7, hf⟩ := gif hf
      refine zaldR (t := 1) (x := 7) (ci := 4) (k := 5) hx hb hK rfl rfl hZ g3.1 g3.2 rfl (Nat.le_of_ble_eq_true rfl) g7.1 g7.2 d_6_5_20 ?_
      refine lv_aload_n hx hb d_6_5_21 rfl (lv_at hl 1 rfl) ?_
      refine zget (ci := 4) (C := RX4) (T := TX4) (v := .long (lI (F 4 l0 7))) (k := 7) hx hb hts inW_4 hown hK hZ g3.1 g3.2 rfl (by decide) k_4_140 rfl d_6_5_22 ?_
      obtain ⟨g8, hf⟩ := gif hf
      refine W.eq (g2 := F0 m 25 ls [.long (lI (F 4 l0 7)), .ref (ad 1 (B 4 l0 5 l1) 0)]) (by rw [zrf_pos (ad := ad) (t := 1) g8.1]; try rfl) ?_
      refine zput (ci := 1) (C := RX1) (T := TX1) (k := 0) (v := (F 4 l0 7)) (w := .long (lI (F 4 l0 7))) hx hb hts inW_1 tyX1 tyX1_ok nmX1 hown hK hZ hS g8.1 g8.2 rfl (by decide) k_2_21 rfl (fun G h => congrArg (fun q => Value.long (lI q)) h) rfl rfl (zno (by decide)) d_6_5_25 (fun H9 locs9 hZ9 hS9 => ?_)
      refine lv_aload_n hx hb d_6_5_28 rfl (lv_at hl 1 rfl) ?_
      refine lv_dup hx hb d_6_5_29 rfl ?_
      refine zget (ci := 4) (C := RX4) (T := TX4) (v := .long (lI (F 4 l0 7))) (k := 7) hx hb hts inW_4 hown hK hZ9 g3.1 g3.2 rfl (by decide) k_4_140 (congrArg (fun q : Int => Value.long (lI q)) (show (zup3 F 1 (B 4 l0 5 l1) 0 (F 4 l0 7)) 4 l0 7 = F 4 l0 7 by simp [zup3])) d_6_5_30 ?_
      refine lv_aload_n hx hb d_6_5_33 rfl (lv_at hl 1 rfl) ?_
      refine zget (ci := 4) (C := RX4) (T := TX4) (v := .ref (ad 4 l0 (5 + 1))) (k := 5) hx hb hts inW_4 hown hK hZ9 g3.1 g3.2 rfl (by decide) k_4_130 rfl d_6_5_34 ?_
      refine lv_iload_n hx hb d_6_5_37 rfl (lv_at hl 0 rfl) ?_
      refine zaldR (t := 1) (x := 7) (ci := 4) (k := 5) hx hb hK rfl rfl hZ9 g3.1 g3.2 rfl (Nat.le_of_ble_eq_true rfl) g7.1 g7.2 d_6_5_38 ?_
      refine zunrf g8.1 ?_
      refine zget (ci := 1) (C := RX1) (T := TX1) (v := .long (lI (F 1 (B 4 l0 5 l1) 1))) (k := 1) hx hb hts inW_1 hown hK hZ9 g8.1 g8.2 rfl (by decide) k_2_24 (congrArg (fun q : Int => Value.long (lI q)) (show (zup3 F 1 (B 4 l0 5 l1) 0 (F 4 l0 7)) 1 (B 4 l0 5 l1) 1 = F 1 (B 4 l0 5 l1) 1 by simp [zup3])) d_6_5_39 ?_
      refine zladd hx hb d_6_5_42 ?_
      refine zput (ci := 4) (C := RX4) (T := TX4) (k := 7) (v := ((F 4 l0 7) + (F 1 (B 4 l0 5 l1) 1))) (w := .long (lI ((F 4 l0 7) + (F 1 (B 4 l0 5 l1) 1)))) hx hb hts inW_4 tyX4 tyX4_ok nmX4 hown hK hZ9 hS9 g3.1 g3.2 rfl (by decide) k_4_140 rfl (fun G h => congrArg (fun q => Value.long (lI q)) h) rfl rfl (zno (by decide)) d_6_5_43 (fun H10 locs10 hZ10 hS10 => ?_)
      refine lv_iinc (v := iI (l1 + 1)) (lv' := [(1, .int (iI (l1 + 1))), (0, .ref (ad 4 l0 0))]) hx hb d_6_5_46 hl (k := 0) rfl (iI_add _ 1) (by decide) rfl (fun ls hl => ?_)
      refine lv_goto (tgt := 7) hx hb d_6_5_49 (by decide) ?_
      exact ih hf hZ10 hS10 (lv_sub hl [0, 1] rfl)

noncomputable def f_Part_placeEvents (K : zK) (l0 : Int) (F : zF) (B : zB) : zO := if 0 ≤ l0 ∧ l0 < K.2 4 then f_Part_placeEvents_7 K K.1 0 l0 (zup3 F 4 l0 7 0) B else none
set_option maxHeartbeats 4000000 in
set_option maxRecDepth 100000 in
theorem c_Part_placeEvents {l : Launch} {D : va_G} {ca : Nat → ClassId} {ad : Nat → Int → Nat → Nat} {L : List Nat} {aS vS : Nat → Nat} {sz : Nat} {K : zK}  {l0 : Int} {F F9 : zF} {B B9 : zB} {r : Int} (hf : f_Part_placeEvents K l0 F B = some (r, F9, B9)) : Met l ({ cls := "StaveHouse$Part", name := "placeEvents", desc := "()V" } : Jvm.MethodName) (Cond.code ({ cls := "StaveHouse$Part", name := "placeEvents", desc := "()V" } : Jvm.MethodName) prog_6_method_5_code 2 (Option.none : Option Jvm.ClassFile.FieldType) :: wAll) ({ frames := 0, cells := 0, slots := 0, locals := 0 } : Room) (va_Pc [.ref (ad 4 l0 0)] (zPre D ca ad lnC K.2 L aS vS F B sz)) (Q_Part_placeEvents K D ca ad L r F9 B9 (zA L sz)) 0 0 (zA L sz) := by
  refine zMet (Qc := Q_Part_placeEvents K D ca ad L r F9 B9) (lv := [(0, .ref (ad 4 l0 0))]) (by decide) (Nat.le_of_ble_eq_true rfl) rfl (fun A p e s m below meth c ls X hZ hS hl => ?_)
  obtain ⟨hx, hb, hr, hml, hown, hts, hlk, hK, hA, hL, hX⟩ := id X
  replace hf : (if 0 ≤ l0 ∧ l0 < K.2 4 then f_Part_placeEvents_7 K K.1 0 l0 (zup3 F 4 l0 7 0) B else none) = some (r, F9, B9) := hf
  refine lv_aload_n hx hb d_6_5_0 rfl (lv_at hl 0 rfl) ?_
  refine lv_lconst (v := lI 0) hx hb d_6_5_1 (by decide) ?_
  obtain ⟨g1, hf⟩ := gif hf
  refine zput (ci := 4) (C := RX4) (T := TX4) (k := 7) (v := 0) (w := .long (lI 0)) hx hb hts inW_4 tyX4 tyX4_ok nmX4 hown hK hZ hS g1.1 g1.2 rfl (by decide) k_4_140 rfl (fun G h => congrArg (fun q => Value.long (lI q)) h) rfl rfl (zno (by decide)) d_6_5_2 (fun H2 locs2 hZ2 hS2 => ?_)
  refine lv_iconst (v := iI 0) hx hb d_6_5_5 rfl ?_
  refine lv_istore_n (lv' := [(1, .int (iI 0)), (0, .ref (ad 4 l0 0))]) hx hb d_6_5_6 rfl hl (by decide) rfl (fun ls hl => ?_)
  exact b_Part_placeEvents_7 X hf hZ2 hS2 (lv_sub hl [0, 1] rfl)

noncomputable abbrev Q_Part_bracketStands (K : zK) (D : va_G) (ca : Nat → ClassId) (ad : Nat → Int → Nat → Nat) (L : List Nat) (r : Int) (F : zF) (B : zB) (A : Nat → Prop) : Array Value → State → Outcome → State → Prop := va_Qi (S := Unit) (fun p _ => p = iI r) (fun _ => zPo D ca ad lnC K.2 L F B A) A
noncomputable def f_Part_bracketStands_140 (K : zK) (s0 : Int) (F : zF) (B : zB) : zO := if (s0 = 0 ∨ s0 = 1) then some (s0, F, B) else none
set_option maxHeartbeats 4000000 in
set_option maxRecDepth 100000 in
theorem b_Part_bracketStands_140 {D : va_G} {ca : Nat → ClassId} {ad : Nat → Int → Nat → Nat} {L : List Nat} {aS vS : Nat → Nat} {A : Nat → Prop} {p : Program} {l : Launch} {e : Env} {s : State} {m : MethodId} {args : Array Value} {below : List Frame} {meth : Method} {c : Code} {K : zK} {r : Int} {F9 : zF} {B9 : zB} (X : zX D ca L aS vS A p s m args meth c prog_6_method_6_code 10 (Option.some Jvm.ClassFile.FieldType.boolean) "StaveHouse$Part") {s0 : Int} {F : zF} {B : zB} {H : Heap} {locs : List Loc} {ls : Array Slot} (hf : f_Part_bracketStands_140 K s0 F B = some (r, F9, B9)) (hZ : zH D ca ad lnC K.2 L F B A H) (hS : va_S A s.heap H locs) (hl : lv_has ls 10 []) : W p l e ({ frames := 0, cells := 0, slots := 0, locals := 0 } : Room) s m args below meth c H locs 0 0 (MQ below (Q_Part_bracketStands K D ca ad L r F9 B9 A) args s 0 0 A) (F0 m 140 ls [.int (iI s0)]) := by
  obtain ⟨hx, hb, hr, hml, hown, hts, hlk, hK, hA, hL, hX⟩ := id X
  replace hf : (if (s0 = 0 ∨ s0 = 1) then some (s0, F, B) else none) = some (r, F9, B9) := hf
  obtain ⟨g33, hf⟩ := gif hf
  cases hf
  exact W.zret hx hb hr (zbool g33) (fun t ht hW => ⟨⟨_, (), rfl, rfl, by rw [ht]; exact hZ, va_K.moved hW.alike hK⟩, hS.F ht⟩) hS.2.2 d_6_6_140 hlk

noncomputable def f_Part_bracketStands_139 (K : zK)  (F : zF) (B : zB) : zO := f_Part_bracketStands_140 K 0 F B
set_option maxHeartbeats 4000000 in
set_option maxRecDepth 100000 in
theorem b_Part_bracketStands_139 {D : va_G} {ca : Nat → ClassId} {ad : Nat → Int → Nat → Nat} {L : List Nat} {aS vS : Nat → Nat} {A : Nat → Prop} {p : Program} {l : Launch} {e : Env} {s : State} {m : MethodId} {args : Array Value} {below : List Frame} {meth : Method} {c : Code} {K : zK} {r : Int} {F9 : zF} {B9 : zB} (X : zX D ca L aS vS A p s m args meth c prog_6_method_6_code 10 (Option.some Jvm.ClassFile.FieldType.boolean) "StaveHouse$Part")  {F : zF} {B : zB} {H : Heap} {locs : List Loc} {ls : Array Slot} (hf : f_Part_bracketStands_139 K  F B = some (r, F9, B9)) (hZ : zH D ca ad lnC K.2 L F B A H) (hS : va_S A s.heap H locs) (hl : lv_has ls 10 []) : W p l e ({ frames := 0, cells := 0, slots := 0, locals := 0 } : Room) s m args below meth c H locs 0 0 (MQ below (Q_Part_bracketStands K D ca ad L r F9 B9 A) args s 0 0 A) (F0 m 139 ls []) := by
  obtain ⟨hx, hb, hr, hml, hown, hts, hlk, hK, hA, hL, hX⟩ := id X
  replace hf : (f_Part_bracketStands_140 K 0 F B) = some (r, F9, B9) := hf
  refine lv_iconst (v := iI 0) hx hb d_6_6_139 rfl ?_
  exact b_Part_bracketStands_140 X hf hZ hS (lv_sub hl [] rfl)

noncomputable def f_Part_bracketStands_107 (K : zK) (l7 : Int) (l5 : Int) (l2 : Int) (F : zF) (B : zB) : zO := if ¬ lI l2 = 0 then if r64 (zldv l5 l2) then if r64 (zldv (l7 - 1) l2) then (if (zcmp (zldv l5 l2) (zldv (l7 - 1) l2)) = 0 then if r64 (zlrm (l7 - l5) 6350400) then (if (zcmp (zlrm (l7 - l5) 6350400) 0) = 0 then f_Part_bracketStands_140 K 1 F B else f_Part_bracketStands_139 K F B) else none else f_Part_bracketStands_139 K F B) else none else none else none
set_option maxHeartbeats 4000000 in
set_option maxRecDepth 100000 in
theorem b_Part_bracketStands_107 {D : va_G} {ca : Nat → ClassId} {ad : Nat → Int → Nat → Nat} {L : List Nat} {aS vS : Nat → Nat} {A : Nat → Prop} {p : Program} {l : Launch} {e : Env} {s : State} {m : MethodId} {args : Array Value} {below : List Frame} {meth : Method} {c : Code} {K : zK} {r : Int} {F9 : zF} {B9 : zB} (X : zX D ca L aS vS A p s m args meth c prog_6_method_6_code 10 (Option.some Jvm.ClassFile.FieldType.boolean) "StaveHouse$Part") {l7 : Int} {l5 : Int} {l2 : Int} {F : zF} {B : zB} {H : Heap} {locs : List Loc} {ls : Array Slot} (hf : f_Part_bracketStands_107 K l7 l5 l2 F B = some (r, F9, B9)) (hZ : zH D ca ad lnC K.2 L F B A H) (hS : va_S A s.heap H locs) (hl : lv_has ls 10 [(7, .long (lI l7)), (5, .long (lI l5)), (2, .long (lI l2))]) : W p l e ({ frames := 0, cells := 0, slots := 0, locals := 0 } : Room) s m args below meth c H locs 0 0 (MQ below (Q_Part_bracketStands K D ca ad L r F9 B9 A) args s 0 0 A) (F0 m 107 ls []) := by
  obtain ⟨hx, hb, hr, hml, hown, hts, hlk, hK, hA, hL, hX⟩ := id X
  replace hf : (if ¬ lI l2 = 0 then if r64 (zldv l5 l2) then if r64 (zldv (l7 - 1) l2) then (if (zcmp (zldv l5 l2) (zldv (l7 - 1) l2)) = 0 then if r64 (zlrm (l7 - l5) 6350400) then (if (zcmp (zlrm (l7 - l5) 6350400) 0) = 0 then f_Part_bracketStands_140 K 1 F B else f_Part_bracketStands_139 K F B) else none else f_Part_bracketStands_139 K F B) else none else none else none) = some (r, F9, B9) := hf
  refine lv_lload hx hb d_6_6_107 (lv_at hl 1 rfl) ?_
  refine lv_lload_n hx hb d_6_6_109 rfl (lv_at hl 2 rfl) ?_
  obtain ⟨g26, hf⟩ := gif hf
  refine zldv_r hx hb g26 d_6_6_110 ?_
  refine lv_lload hx hb d_6_6_111 (lv_at hl 0 rfl) ?_
  refine lv_lconst (v := lI 1) hx hb d_6_6_113 (by decide) ?_
  refine zlsub hx hb d_6_6_114 ?_
  refine lv_lload_n hx hb d_6_6_115 rfl (lv_at hl 2 rfl) ?_
  refine zldv_r hx hb g26 d_6_6_116 ?_
  obtain ⟨g27, hf⟩ := gif hf
  obtain ⟨g28, hf⟩ := gif hf
  refine zcmp_r hx hb g27 g28 d_6_6_117 ?_
  refine z0ne (tgt := 139) hx hb zcmp_32 d_6_6_118 (by decide) (fun h29 => ?_) (fun h29 => ?_)
  · replace hf := gneg hf h29
    exact b_Part_bracketStands_139 X hf hZ hS (lv_sub hl [] rfl)
  · replace hf := gpos hf h29
    refine lv_lload hx hb d_6_6_121 (lv_at hl 0 rfl) ?_
    refine lv_lload hx hb d_6_6_123 (lv_at hl 1 rfl) ?_
    refine zlsub hx hb d_6_6_125 ?_
    refine lv_ldc2 hx hb hown (hts _ k_5_36) d_6_6_126 ?_
    refine W.eq (g2 := F0 m 129 ls [.long (lI 6350400), .long (lI (l7 - l5))]) rfl ?_
    refine zlrm_r hx hb (by decide) d_6_6_129 ?_
    refine lv_lconst (v := lI 0) hx hb d_6_6_130 (by decide) ?_
    obtain ⟨g30, hf⟩ := gif hf
    refine zcmp_r hx hb g30 (by decide) d_6_6_131 ?_
    refine z0ne (tgt := 139) hx hb zcmp_32 d_6_6_132 (by decide) (fun h31 => ?_) (fun h31 => ?_)
    · replace hf := gneg hf h31
      exact b_Part_bracketStands_139 X hf hZ hS (lv_sub hl [] rfl)
    · replace hf := gpos hf h31
      refine lv_iconst (v := iI 1) hx hb d_6_6_135 rfl ?_
      refine lv_goto (tgt := 140) hx hb d_6_6_136 (by decide) ?_
      exact b_Part_bracketStands_140 X hf hZ hS (lv_sub hl [] rfl)

noncomputable def f_Part_bracketStands_62 (K : zK) : Nat → Int → Int → Int → Int → Int → Int → zF → zB → zO
  | 0, _, _, _, _, _, _, _, _ => none
  | n + 1, l9, l7, l5, l4, l0, l2, F, B => if 0 ≤ l0 ∧ l0 < K.2 4 then if r32 l9 then if r32 (F 4 l0 6) then (if (F 4 l0 6) ≤ l9 then f_Part_bracketStands_107 K l7 l5 l2 F B else if 0 ≤ l9 ∧ l9 < 200 then if 0 ≤ (B 4 l0 5 l9) ∧ (B 4 l0 5 l9) < K.2 1 then if r32 (F 1 (B 4 l0 5 l9) 5) then if r32 l4 then (if (F 1 (B 4 l0 5 l9) 5) = l4 then f_Part_bracketStands_62 K n (l9 + 1) (l7 + (F 1 (B 4 l0 5 l9) 1)) l5 l4 l0 l2 F B else f_Part_bracketStands_107 K l7 l5 l2 F B) else none else none else none else none) else none else none else none
