noncomputable def f_Part_cut_85 (rec18 : Int → Int → Int → Int → Int → Int → Int → zF → zB → zO) (K : zK) (l15 : Int) (l14 : Int) (l13 : Int) (l11 : Int) (l9 : Int) (l7 : Int) (l0 : Int) (l1 : Int) (l2 : Int) (s0 : Int) (F : zF) (B : zB) : zO := if r32 s0 then (if s0 = 0 then if r32 l2 then (if l2 = (-1) then f_Part_cut_128 rec18 K l15 l14 l13 l11 l9 l7 l0 l1 l2 F B else if 0 ≤ l0 ∧ l0 < K.2 4 then if 0 ≤ l2 ∧ l2 < 200 then if 0 ≤ (B 4 l0 5 l2) ∧ (B 4 l0 5 l2) < K.2 1 then zbind (f_Event_isRest K (B 4 l0 5 l2) F B) (fun r27 F27 B27 => if r32 r27 then (if r27 = 0 then f_Part_cut_152 rec18 K l15 l13 l11 l9 l7 l0 l1 l2 F27 B27 else f_Part_cut_128 rec18 K l15 l14 l13 l11 l9 l7 l0 l1 l2 F27 B27) else none) else none else none else none) else none else if r32 l14 then if 0 ≤ l0 ∧ l0 < K.2 4 then zbind (f_Part_writeTuplet K l0 l2 l14 (l9 - (l14 * l7)) F B) (fun r33 F33 B33 => f_Part_cut_165 rec18 K l15 l13 l11 l7 l0 l1 l2 F33 B33) else none else none) else none
set_option maxHeartbeats 4000000 in
set_option maxRecDepth 100000 in
theorem b_Part_cut_85 {D : va_G} {ca : Nat → ClassId} {ad : Nat → Int → Nat → Nat} {L : List Nat} {aS vS : Nat → Nat} {A : Nat → Prop} {p : Program} {l : Launch} {e : Env} {s : State} {m : MethodId} {args : Array Value} {below : List Frame} {meth : Method} {c : Code} {K : zK} {r : Int} {F9 : zF} {B9 : zB} (X : zX D ca L aS vS A p s m args meth c prog_6_method_10_code 18 (Option.none : Option Jvm.ClassFile.FieldType) "StaveHouse$Part") {rec18 : Int → Int → Int → Int → Int → Int → Int → zF → zB → zO} (hrec18 : ∀ {l13 : Int} {l11 : Int} {l9 : Int} {l7 : Int} {l0 : Int} {l1 : Int} {l2 : Int} {F : zF} {B : zB} {H : Heap} {locs : List Loc} {ls : Array Slot}, rec18 l13 l11 l9 l7 l0 l1 l2 F B = some (r, F9, B9) → zH D ca ad lnC K.2 L F B A H → va_S A s.heap H locs → lv_has ls 18 [(13, .int (iI l13)), (11, .long (lI l11)), (9, .long (lI l9)), (7, .long (lI l7)), (0, .ref (ad 4 l0 0)), (1, .ref (ad 6 l1 0)), (2, .int (iI l2))] → W p l e ({ frames := 4, cells := 0, slots := 0, locals := 106 } : Room) s m args below meth c H locs 0 0 (MQ below (Q_Part_cut K D ca ad L r F9 B9 A) args s 0 0 A) (F0 m 18 ls [])) {l15 : Int} {l14 : Int} {l13 : Int} {l11 : Int} {l9 : Int} {l7 : Int} {l0 : Int} {l1 : Int} {l2 : Int} {s0 : Int} {F : zF} {B : zB} {H : Heap} {locs : List Loc} {ls : Array Slot} (hf : f_Part_cut_85 rec18 K l15 l14 l13 l11 l9 l7 l0 l1 l2 s0 F B = some (r, F9, B9)) (hZ : zH D ca ad lnC K.2 L F B A H) (hS : va_S A s.heap H locs) (hl : lv_has ls 18 [(15, .long (lI l15)), (14, .int (iI l14)), (13, .int (iI l13)), (11, .long (lI l11)), (9, .long (lI l9)), (7, .long (lI l7)), (0, .ref (ad 4 l0 0)), (1, .ref (ad 6 l1 0)), (2, .int (iI l2))]) : W p l e ({ frames := 4, cells := 0, slots := 0, locals := 106 } : Room) s m args below meth c H locs 0 0 (MQ below (Q_Part_cut K D ca ad L r F9 B9 A) args s 0 0 A) (F0 m 85 ls [.int (iI s0)]) := by
  obtain ⟨hx, hb, hr, hml, hown, hts, hlk, hK, hA, hL, hX⟩ := id X
  replace hf : (if r32 s0 then (if s0 = 0 then if r32 l2 then (if l2 = (-1) then f_Part_cut_128 rec18 K l15 l14 l13 l11 l9 l7 l0 l1 l2 F B else if 0 ≤ l0 ∧ l0 < K.2 4 then if 0 ≤ l2 ∧ l2 < 200 then if 0 ≤ (B 4 l0 5 l2) ∧ (B 4 l0 5 l2) < K.2 1 then zbind (f_Event_isRest K (B 4 l0 5 l2) F B) (fun r27 F27 B27 => if r32 r27 then (if r27 = 0 then f_Part_cut_152 rec18 K l15 l13 l11 l9 l7 l0 l1 l2 F27 B27 else f_Part_cut_128 rec18 K l15 l14 l13 l11 l9 l7 l0 l1 l2 F27 B27) else none) else none else none else none) else none else if r32 l14 then if 0 ≤ l0 ∧ l0 < K.2 4 then zbind (f_Part_writeTuplet K l0 l2 l14 (l9 - (l14 * l7)) F B) (fun r33 F33 B33 => f_Part_cut_165 rec18 K l15 l13 l11 l7 l0 l1 l2 F33 B33) else none else none) else none) = some (r, F9, B9) := hf
  refine lv_istore (lv' := [(17, .int (iI s0)), (15, .long (lI l15)), (14, .int (iI l14)), (13, .int (iI l13)), (11, .long (lI l11)), (9, .long (lI l9)), (7, .long (lI l7)), (0, .ref (ad 4 l0 0)), (1, .ref (ad 6 l1 0)), (2, .int (iI l2))]) hx hb d_6_10_85 hl (by decide) rfl (fun ls hl => ?_)
  refine lv_iload hx hb d_6_10_87 (lv_at hl 0 rfl) ?_
  obtain ⟨g20, hf⟩ := gif hf
  refine z0eq (tgt := 111) hx hb g20 d_6_10_89 (by decide) (fun h21 => ?_) (fun h21 => ?_)
  · replace hf := gpos hf h21
    refine lv_iload_n hx hb d_6_10_111 rfl (lv_at hl 9 rfl) ?_
    refine lv_iconst (v := iI (-1)) hx hb d_6_10_112 rfl ?_
    obtain ⟨g22, hf⟩ := gif hf
    refine zeq (tgt := 128) hx hb g22 (by decide) d_6_10_113 (by decide) (fun h23 => ?_) (fun h23 => ?_)
    · replace hf := gpos hf h23
      exact b_Part_cut_128 X hrec18 hf hZ hS (lv_sub hl [1, 2, 3, 4, 5, 6, 7, 8, 9] rfl)
    · replace hf := gneg hf h23
      refine lv_aload_n hx hb d_6_10_116 rfl (lv_at hl 7 rfl) ?_
      obtain ⟨g24, hf⟩ := gif hf
      refine zget (ci := 4) (C := RX4) (T := TX4) (v := .ref (ad 4 l0 (5 + 1))) (k := 5) hx hb hts inW_4 hown hK hZ g24.1 g24.2 rfl (by decide) k_4_130 rfl d_6_10_117 ?_
      refine lv_iload_n hx hb d_6_10_120 rfl (lv_at hl 9 rfl) ?_
      obtain ⟨g25, hf⟩ := gif hf
      refine zaldR (t := 1) (x := 7) (ci := 4) (k := 5) hx hb hK rfl rfl hZ g24.1 g24.2 rfl (Nat.le_of_ble_eq_true rfl) g25.1 g25.2 d_6_10_121 ?_
      obtain ⟨g26, hf⟩ := gif hf
      refine W.eq (g2 := F0 m 122 ls [.ref (ad 1 (B 4 l0 5 l2) 0)]) (by rw [zrf_pos (ad := ad) (t := 1) g26.1]; try rfl) ?_
      obtain ⟨r27, F27, B27, hc27, hf⟩ := gbind hf
      refine va_calli (va_runV (As := []) (rest := []) ⟨hx, hb, hml, hown, hts⟩ (c_Event_isRest (l := l) hc27) (cwV 0 hts (gdV k_5_78 k_5_79 k_5_80 k_1_8 k_5_81) rfl rfl rfl (by decide +kernel) ⟨Nat.le_of_ble_eq_true rfl, Nat.le_of_ble_eq_true rfl⟩) (zPV X hZ hS (ci := 1) g26.1 g26.2 (r := (RX1, TX1, 14)) rfl []) rfl rfl hl.1 rfl (lv_room (Nat.le_of_ble_eq_true rfl)) d_6_10_122 ⟨Nat.le_of_ble_eq_true rfl, Nat.le_of_ble_eq_true rfl⟩) hS (fun q _ h => zAin X hS q h) (zAin X hS) (fun p27 u27 t27 H27 locs27 ht27 hv27 hw27 hB27 hz27 hk27 hS27 => ?_)
      have hZ27 := zBack X ht27 hB27
      subst hw27
      obtain ⟨g28, hf⟩ := gif hf
      refine z0eq (tgt := 152) hx hb g28 d_6_10_125 (by decide) (fun h29 => ?_) (fun h29 => ?_)
      · replace hf := gpos hf h29
        exact b_Part_cut_152 X hrec18 hf hZ27 hS27 (lv_sub hl [1, 3, 4, 5, 6, 7, 8, 9] rfl)
      · replace hf := gneg hf h29
        exact b_Part_cut_128 X hrec18 hf hZ27 hS27 (lv_sub hl [1, 2, 3, 4, 5, 6, 7, 8, 9] rfl)
  · replace hf := gneg hf h21
    refine lv_aload_n hx hb d_6_10_92 rfl (lv_at hl 7 rfl) ?_
    refine lv_iload_n hx hb d_6_10_93 rfl (lv_at hl 9 rfl) ?_
    refine lv_iload hx hb d_6_10_94 (lv_at hl 2 rfl) ?_
    refine lv_lload hx hb d_6_10_96 (lv_at hl 5 rfl) ?_
    refine lv_iload hx hb d_6_10_98 (lv_at hl 2 rfl) ?_
    obtain ⟨g30, hf⟩ := gif hf
    refine zi2l hx hb g30 d_6_10_100 ?_
    refine lv_lload hx hb d_6_10_101 (lv_at hl 6 rfl) ?_
    refine zlmul hx hb d_6_10_103 ?_
    refine zlsub hx hb d_6_10_104 ?_
    obtain ⟨g31, hf⟩ := gif hf
    obtain ⟨r33, F33, B33, hc33, hf⟩ := gbind hf
    refine va_callv (va_runV (As := [.int (iI l2), .int (iI l14), .long (lI (l9 - (l14 * l7)))]) (rest := []) ⟨hx, hb, hml, hown, hts⟩ (c_Part_writeTuplet (l := l) hc33) (cwV 3 hts (gdV k_5_60 k_5_62 ks_50 k_1_18 k_5_63) rfl rfl rfl (by decide +kernel) ⟨Nat.le_of_ble_eq_true rfl, Nat.le_of_ble_eq_true rfl⟩) (zPV X hZ hS (ci := 4) g31.1 g31.2 (r := (RX4, TX4, 13)) rfl [.int (iI l2), .int (iI l14), .long (lI (l9 - (l14 * l7)))]) rfl rfl hl.1 rfl (lv_room (Nat.le_of_ble_eq_true rfl)) d_6_10_105 ⟨Nat.le_of_ble_eq_true rfl, Nat.le_of_ble_eq_true rfl⟩) hS (fun q _ h => zAin X hS q h) (zAin X hS) (fun u33 t33 H33 locs33 ht33 hv33 hw33 hB33 hz33 hk33 hS33 => ?_)
    have hZ33 := zBack X ht33 hB33
    refine lv_goto (tgt := 165) hx hb d_6_10_108 (by decide) ?_
    exact b_Part_cut_165 X hrec18 hf hZ33 hS33 (lv_sub hl [1, 3, 4, 6, 7, 8, 9] rfl)

noncomputable def f_Part_cut_84 (rec18 : Int → Int → Int → Int → Int → Int → Int → zF → zB → zO) (K : zK) (l15 : Int) (l14 : Int) (l13 : Int) (l11 : Int) (l9 : Int) (l7 : Int) (l0 : Int) (l1 : Int) (l2 : Int) (F : zF) (B : zB) : zO := f_Part_cut_85 rec18 K l15 l14 l13 l11 l9 l7 l0 l1 l2 0 F B
set_option maxHeartbeats 4000000 in
set_option maxRecDepth 100000 in
theorem b_Part_cut_84 {D : va_G} {ca : Nat → ClassId} {ad : Nat → Int → Nat → Nat} {L : List Nat} {aS vS : Nat → Nat} {A : Nat → Prop} {p : Program} {l : Launch} {e : Env} {s : State} {m : MethodId} {args : Array Value} {below : List Frame} {meth : Method} {c : Code} {K : zK} {r : Int} {F9 : zF} {B9 : zB} (X : zX D ca L aS vS A p s m args meth c prog_6_method_10_code 18 (Option.none : Option Jvm.ClassFile.FieldType) "StaveHouse$Part") {rec18 : Int → Int → Int → Int → Int → Int → Int → zF → zB → zO} (hrec18 : ∀ {l13 : Int} {l11 : Int} {l9 : Int} {l7 : Int} {l0 : Int} {l1 : Int} {l2 : Int} {F : zF} {B : zB} {H : Heap} {locs : List Loc} {ls : Array Slot}, rec18 l13 l11 l9 l7 l0 l1 l2 F B = some (r, F9, B9) → zH D ca ad lnC K.2 L F B A H → va_S A s.heap H locs → lv_has ls 18 [(13, .int (iI l13)), (11, .long (lI l11)), (9, .long (lI l9)), (7, .long (lI l7)), (0, .ref (ad 4 l0 0)), (1, .ref (ad 6 l1 0)), (2, .int (iI l2))] → W p l e ({ frames := 4, cells := 0, slots := 0, locals := 106 } : Room) s m args below meth c H locs 0 0 (MQ below (Q_Part_cut K D ca ad L r F9 B9 A) args s 0 0 A) (F0 m 18 ls [])) {l15 : Int} {l14 : Int} {l13 : Int} {l11 : Int} {l9 : Int} {l7 : Int} {l0 : Int} {l1 : Int} {l2 : Int} {F : zF} {B : zB} {H : Heap} {locs : List Loc} {ls : Array Slot} (hf : f_Part_cut_84 rec18 K l15 l14 l13 l11 l9 l7 l0 l1 l2 F B = some (r, F9, B9)) (hZ : zH D ca ad lnC K.2 L F B A H) (hS : va_S A s.heap H locs) (hl : lv_has ls 18 [(15, .long (lI l15)), (14, .int (iI l14)), (13, .int (iI l13)), (11, .long (lI l11)), (9, .long (lI l9)), (7, .long (lI l7)), (0, .ref (ad 4 l0 0)), (1, .ref (ad 6 l1 0)), (2, .int (iI l2))]) : W p l e ({ frames := 4, cells := 0, slots := 0, locals := 106 } : Room) s m args below meth c H locs 0 0 (MQ below (Q_Part_cut K D ca ad L r F9 B9 A) args s 0 0 A) (F0 m 84 ls []) := by
  obtain ⟨hx, hb, hr, hml, hown, hts, hlk, hK, hA, hL, hX⟩ := id X
  replace hf : (f_Part_cut_85 rec18 K l15 l14 l13 l11 l9 l7 l0 l1 l2 0 F B) = some (r, F9, B9) := hf
  refine lv_iconst (v := iI 0) hx hb d_6_10_84 rfl ?_
  exact b_Part_cut_85 X hrec18 hf hZ hS (lv_sub hl [0, 1, 2, 3, 4, 5, 6, 7, 8] rfl)

noncomputable def f_Part_cut_18 (K : zK) : Nat → Int → Int → Int → Int → Int → Int → Int → zF → zB → zO
  | 0, _, _, _, _, _, _, _, _, _ => none
  | n + 1, l13, l11, l9, l7, l0, l1, l2, F, B => if r32 l13 then (if 100 < l13 then f_Part_cut_175 K F B else if r64 l9 then if r64 l11 then (if 0 ≤ (zcmp l9 l11) then f_Part_cut_175 K F B else if r64 l7 then (if (zcmp l7 0) ≤ 0 then f_Part_cut_175 K F B else if ¬ lI l7 = 0 then if r32 ((zldv l9 l7) + 1) then if r64 (((zldv l9 l7) + 1) * l7) then if r32 l2 then (if l2 = (-1) then f_Part_cut_84 (f_Part_cut_18 K n) K (zmin l11 (((zldv l9 l7) + 1) * l7)) (zldv l9 l7) l13 l11 l9 l7 l0 l1 l2 F B else if 0 ≤ l0 ∧ l0 < K.2 4 then if 0 ≤ l2 ∧ l2 < 200 then if 0 ≤ (B 4 l0 5 l2) ∧ (B 4 l0 5 l2) < K.2 1 then if r32 (F 1 (B 4 l0 5 l2) 5) then (if (F 1 (B 4 l0 5 l2) 5) = 0 then f_Part_cut_84 (f_Part_cut_18 K n) K (zmin l11 (((zldv l9 l7) + 1) * l7)) (zldv l9 l7) l13 l11 l9 l7 l0 l1 l2 F B else f_Part_cut_85 (f_Part_cut_18 K n) K (zmin l11 (((zldv l9 l7) + 1) * l7)) (zldv l9 l7) l13 l11 l9 l7 l0 l1 l2 1 F B) else none else none else none else none) else none else none else none else none) else none) else none else none) else none
set_option maxHeartbeats 4000000 in
set_option maxRecDepth 100000 in
theorem b_Part_cut_18 {D : va_G} {ca : Nat → ClassId} {ad : Nat → Int → Nat → Nat} {L : List Nat} {aS vS : Nat → Nat} {A : Nat → Prop} {p : Program} {l : Launch} {e : Env} {s : State} {m : MethodId} {args : Array Value} {below : List Frame} {meth : Method} {c : Code} {K : zK} {r : Int} {F9 : zF} {B9 : zB} (X : zX D ca L aS vS A p s m args meth c prog_6_method_10_code 18 (Option.none : Option Jvm.ClassFile.FieldType) "StaveHouse$Part") : ∀ {n : Nat} {l13 : Int} {l11 : Int} {l9 : Int} {l7 : Int} {l0 : Int} {l1 : Int} {l2 : Int} {F : zF} {B : zB} {H : Heap} {locs : List Loc} {ls : Array Slot}, f_Part_cut_18 K n l13 l11 l9 l7 l0 l1 l2 F B = some (r, F9, B9) → zH D ca ad lnC K.2 L F B A H → va_S A s.heap H locs → lv_has ls 18 [(13, .int (iI l13)), (11, .long (lI l11)), (9, .long (lI l9)), (7, .long (lI l7)), (0, .ref (ad 4 l0 0)), (1, .ref (ad 6 l1 0)), (2, .int (iI l2))] → W p l e ({ frames := 4, cells := 0, slots := 0, locals := 106 } : Room) s m args below meth c H locs 0 0 (MQ below (Q_Part_cut K D ca ad L r F9 B9 A) args s 0 0 A) (F0 m 18 ls []) := by
  obtain ⟨hx, hb, hr, hml, hown, hts, hlk, hK, hA, hL, hX⟩ := id X
  intro n
  induction n with
  | zero =>
    intros
    rename_i hf _ _ _
    cases hf
  | succ n ih =>
    intro l13 l11 l9 l7 l0 l1 l2 F B H locs ls hf hZ hS hl
    replace hf : (if r32 l13 then (if 100 < l13 then f_Part_cut_175 K F B else if r64 l9 then if r64 l11 then (if 0 ≤ (zcmp l9 l11) then f_Part_cut_175 K F B else if r64 l7 then (if (zcmp l7 0) ≤ 0 then f_Part_cut_175 K F B else if ¬ lI l7 = 0 then if r32 ((zldv l9 l7) + 1) then if r64 (((zldv l9 l7) + 1) * l7) then if r32 l2 then (if l2 = (-1) then f_Part_cut_84 (f_Part_cut_18 K n) K (zmin l11 (((zldv l9 l7) + 1) * l7)) (zldv l9 l7) l13 l11 l9 l7 l0 l1 l2 F B else if 0 ≤ l0 ∧ l0 < K.2 4 then if 0 ≤ l2 ∧ l2 < 200 then if 0 ≤ (B 4 l0 5 l2) ∧ (B 4 l0 5 l2) < K.2 1 then if r32 (F 1 (B 4 l0 5 l2) 5) then (if (F 1 (B 4 l0 5 l2) 5) = 0 then f_Part_cut_84 (f_Part_cut_18 K n) K (zmin l11 (((zldv l9 l7) + 1) * l7)) (zldv l9 l7) l13 l11 l9 l7 l0 l1 l2 F B else f_Part_cut_85 (f_Part_cut_18 K n) K (zmin l11 (((zldv l9 l7) + 1) * l7)) (zldv l9 l7) l13 l11 l9 l7 l0 l1 l2 1 F B) else none else none else none else none) else none else none else none else none) else none) else none else none) else none) = some (r, F9, B9) := hf
    refine lv_iload hx hb d_6_10_18 (lv_at hl 0 rfl) ?_
    refine lv_bipush (v := iI 100) hx hb d_6_10_20 (by decide) ?_
    obtain ⟨g3, hf⟩ := gif hf
    refine zgt (tgt := 175) hx hb g3 (by decide) d_6_10_22 (by decide) (fun h4 => ?_) (fun h4 => ?_)
    · replace hf := gpos hf h4
      exact b_Part_cut_175 X hf hZ hS (lv_sub hl [] rfl)
    · replace hf := gneg hf h4
      refine lv_lload hx hb d_6_10_25 (lv_at hl 2 rfl) ?_
      refine lv_lload hx hb d_6_10_27 (lv_at hl 1 rfl) ?_
      obtain ⟨g5, hf⟩ := gif hf
      obtain ⟨g6, hf⟩ := gif hf
      refine zcmp_r hx hb g5 g6 d_6_10_29 ?_
      refine z0ge (tgt := 175) hx hb zcmp_32 d_6_10_30 (by decide) (fun h7 => ?_) (fun h7 => ?_)
      · replace hf := gpos hf h7
        exact b_Part_cut_175 X hf hZ hS (lv_sub hl [] rfl)
      · replace hf := gneg hf h7
        refine lv_lload hx hb d_6_10_33 (lv_at hl 3 rfl) ?_
        refine lv_lconst (v := lI 0) hx hb d_6_10_35 (by decide) ?_
        obtain ⟨g8, hf⟩ := gif hf
        refine zcmp_r hx hb g8 (by decide) d_6_10_36 ?_
        refine z0le (tgt := 175) hx hb zcmp_32 d_6_10_37 (by decide) (fun h9 => ?_) (fun h9 => ?_)
        · replace hf := gpos hf h9
          exact b_Part_cut_175 X hf hZ hS (lv_sub hl [] rfl)
        · replace hf := gneg hf h9
          refine lv_lload hx hb d_6_10_40 (lv_at hl 2 rfl) ?_
          refine lv_lload hx hb d_6_10_42 (lv_at hl 3 rfl) ?_
          obtain ⟨g10, hf⟩ := gif hf
          refine zldv_r hx hb g10 d_6_10_44 ?_
          refine zl2iw hx hb d_6_10_45 ?_
          refine lv_istore (lv' := [(14, .int (iI (zldv l9 l7))), (13, .int (iI l13)), (11, .long (lI l11)), (9, .long (lI l9)), (7, .long (lI l7)), (0, .ref (ad 4 l0 0)), (1, .ref (ad 6 l1 0)), (2, .int (iI l2))]) hx hb d_6_10_46 hl (by decide) rfl (fun ls hl => ?_)
          refine lv_lload hx hb d_6_10_48 (lv_at hl 2 rfl) ?_
          refine lv_iload hx hb d_6_10_50 (lv_at hl 0 rfl) ?_
          refine lv_iconst (v := iI 1) hx hb d_6_10_52 rfl ?_
          refine zadd hx hb d_6_10_53 ?_
          obtain ⟨g11, hf⟩ := gif hf
          refine zi2l hx hb g11 d_6_10_54 ?_
          refine lv_lload hx hb d_6_10_55 (lv_at hl 4 rfl) ?_
          refine zlmul hx hb d_6_10_57 ?_
          obtain ⟨g12, hf⟩ := gif hf
          refine va_mmin_long hx hb (by rw [hml]; exact hl.1.symm) hown (hts _ k_5_57) (hts _ k_5_58) (hts _ k_1_3) (hts _ k_5_59) (Nat.le_of_ble_eq_true rfl) (Nat.le_of_ble_eq_true rfl) (Nat.le_of_ble_eq_true rfl) (Nat.le_of_ble_eq_true rfl) d_6_10_58 ?_
          rw [zlmin_e g6 g12]
          refine lv_lstore (lv' := [(15, .long (lI (zmin l11 (((zldv l9 l7) + 1) * l7)))), (14, .int (iI (zldv l9 l7))), (13, .int (iI l13)), (11, .long (lI l11)), (9, .long (lI l9)), (7, .long (lI l7)), (0, .ref (ad 4 l0 0)), (1, .ref (ad 6 l1 0)), (2, .int (iI l2))]) hx hb d_6_10_61 hl (by decide) rfl (fun ls hl => ?_)
          refine lv_iload_n hx hb d_6_10_63 rfl (lv_at hl 8 rfl) ?_
          refine lv_iconst (v := iI (-1)) hx hb d_6_10_64 rfl ?_
          obtain ⟨g13, hf⟩ := gif hf
          refine zeq (tgt := 84) hx hb g13 (by decide) d_6_10_65 (by decide) (fun h14 => ?_) (fun h14 => ?_)
          · replace hf := gpos hf h14
            exact b_Part_cut_84 X ih hf hZ hS (lv_sub hl [0, 1, 2, 3, 4, 5, 6, 7, 8] rfl)
          · replace hf := gneg hf h14
            refine lv_aload_n hx hb d_6_10_68 rfl (lv_at hl 6 rfl) ?_
            obtain ⟨g15, hf⟩ := gif hf
            refine zget (ci := 4) (C := RX4) (T := TX4) (v := .ref (ad 4 l0 (5 + 1))) (k := 5) hx hb hts inW_4 hown hK hZ g15.1 g15.2 rfl (by decide) k_4_130 rfl d_6_10_69 ?_
            refine lv_iload_n hx hb d_6_10_72 rfl (lv_at hl 8 rfl) ?_
            obtain ⟨g16, hf⟩ := gif hf
            refine zaldR (t := 1) (x := 7) (ci := 4) (k := 5) hx hb hK rfl rfl hZ g15.1 g15.2 rfl (Nat.le_of_ble_eq_true rfl) g16.1 g16.2 d_6_10_73 ?_
            obtain ⟨g17, hf⟩ := gif hf
            refine zunrf g17.1 ?_
            refine zget (ci := 1) (C := RX1) (T := TX1) (v := .int (iI (F 1 (B 4 l0 5 l2) 5))) (k := 5) hx hb hts inW_1 hown hK hZ g17.1 g17.2 rfl (by decide) k_2_34 rfl d_6_10_74 ?_
            obtain ⟨g18, hf⟩ := gif hf
            refine z0eq (tgt := 84) hx hb g18 d_6_10_77 (by decide) (fun h19 => ?_) (fun h19 => ?_)
            · replace hf := gpos hf h19
              exact b_Part_cut_84 X ih hf hZ hS (lv_sub hl [0, 1, 2, 3, 4, 5, 6, 7, 8] rfl)
            · replace hf := gneg hf h19
              refine lv_iconst (v := iI 1) hx hb d_6_10_80 rfl ?_
              refine lv_goto (tgt := 85) hx hb d_6_10_81 (by decide) ?_
              exact b_Part_cut_85 X ih hf hZ hS (lv_sub hl [0, 1, 2, 3, 4, 5, 6, 7, 8] rfl)

noncomputable def f_Part_cut (K : zK) (l0 : Int) (l1 : Int) (l2 : Int) (l3 : Int) (l5 : Int) (F : zF) (B : zB) : zO := if 0 ≤ l1 ∧ l1 < K.2 6 then zbind (f_Piece_barLength K l1 F B) (fun r2 F2 B2 => f_Part_cut_18 K K.1 0 (l3 + l5) l3 r2 l0 l1 l2 F2 B2) else none
set_option maxHeartbeats 4000000 in
set_option maxRecDepth 100000 in
theorem c_Part_cut {l : Launch} {D : va_G} {ca : Nat → ClassId} {ad : Nat → Int → Nat → Nat} {L : List Nat} {aS vS : Nat → Nat} {sz : Nat} {K : zK}  {l0 : Int} {l1 : Int} {l2 : Int} {l3 : Int} {l5 : Int} {F F9 : zF} {B B9 : zB} {r : Int} (hf : f_Part_cut K l0 l1 l2 l3 l5 F B = some (r, F9, B9)) : Met l ({ cls := "StaveHouse$Part", name := "cut", desc := "(LStaveHouse$Piece;IJJ)V" } : Jvm.MethodName) (Cond.code ({ cls := "StaveHouse$Part", name := "cut", desc := "(LStaveHouse$Piece;IJJ)V" } : Jvm.MethodName) prog_6_method_10_code 18 (Option.none : Option Jvm.ClassFile.FieldType) :: wAll) ({ frames := 4, cells := 0, slots := 0, locals := 106 } : Room) (va_Pc [.ref (ad 4 l0 0), .ref (ad 6 l1 0), .int (iI l2), .long (lI l3), .long (lI l5)] (zPre D ca ad lnC K.2 L aS vS F B sz)) (Q_Part_cut K D ca ad L r F9 B9 (zA L sz)) 0 0 (zA L sz) := by
  refine zMet (Qc := Q_Part_cut K D ca ad L r F9 B9) (lv := [(0, .ref (ad 4 l0 0)), (1, .ref (ad 6 l1 0)), (2, .int (iI l2)), (3, .long (lI l3)), (5, .long (lI l5))]) (by decide) (Nat.le_of_ble_eq_true rfl) rfl (fun A p e s m below meth c ls X hZ hS hl => ?_)
  obtain ⟨hx, hb, hr, hml, hown, hts, hlk, hK, hA, hL, hX⟩ := id X
  replace hf : (if 0 ≤ l1 ∧ l1 < K.2 6 then zbind (f_Piece_barLength K l1 F B) (fun r2 F2 B2 => f_Part_cut_18 K K.1 0 (l3 + l5) l3 r2 l0 l1 l2 F2 B2) else none) = some (r, F9, B9) := hf
  refine lv_aload_n hx hb d_6_10_0 rfl (lv_at hl 1 rfl) ?_
  obtain ⟨g1, hf⟩ := gif hf
  obtain ⟨r2, F2, B2, hc2, hf⟩ := gbind hf
  refine va_calll (va_runV (As := []) (rest := []) ⟨hx, hb, hml, hown, hts⟩ (c_Piece_barLength (l := l) hc2) (cwV 0 hts (gdV k_5_31 k_4_190 k_4_191 k_1_15 k_4_192) rfl rfl rfl (by decide +kernel) ⟨Nat.le_of_ble_eq_true rfl, Nat.le_of_ble_eq_true rfl⟩) (zPV X hZ hS (ci := 6) g1.1 g1.2 (r := (RX6, TX6, 14)) rfl []) rfl rfl hl.1 rfl (lv_room (Nat.le_of_ble_eq_true rfl)) d_6_10_1 ⟨Nat.le_of_ble_eq_true rfl, Nat.le_of_ble_eq_true rfl⟩) hS (fun q _ h => zAin X hS q h) (zAin X hS) (fun p2 u2 t2 H2 locs2 ht2 hv2 hw2 hB2 hz2 hk2 hS2 => ?_)
  have hZ2 := zBack X ht2 hB2
  subst hw2
  refine lv_lstore (lv' := [(7, .long (lI r2)), (0, .ref (ad 4 l0 0)), (1, .ref (ad 6 l1 0)), (2, .int (iI l2)), (3, .long (lI l3)), (5, .long (lI l5))]) hx hb d_6_10_4 hl (by decide) rfl (fun ls hl => ?_)
  refine lv_lload_n hx hb d_6_10_6 rfl (lv_at hl 4 rfl) ?_
  refine lv_lstore (lv' := [(9, .long (lI l3)), (7, .long (lI r2)), (0, .ref (ad 4 l0 0)), (1, .ref (ad 6 l1 0)), (2, .int (iI l2)), (3, .long (lI l3)), (5, .long (lI l5))]) hx hb d_6_10_7 hl (by decide) rfl (fun ls hl => ?_)
  refine lv_lload_n hx hb d_6_10_9 rfl (lv_at hl 5 rfl) ?_
  refine lv_lload hx hb d_6_10_10 (lv_at hl 6 rfl) ?_
  refine zladd hx hb d_6_10_12 ?_
  refine lv_lstore (lv' := [(11, .long (lI (l3 + l5))), (9, .long (lI l3)), (7, .long (lI r2)), (0, .ref (ad 4 l0 0)), (1, .ref (ad 6 l1 0)), (2, .int (iI l2)), (3, .long (lI l3)), (5, .long (lI l5))]) hx hb d_6_10_13 hl (by decide) rfl (fun ls hl => ?_)
  refine lv_iconst (v := iI 0) hx hb d_6_10_15 rfl ?_
  refine lv_istore (lv' := [(13, .int (iI 0)), (11, .long (lI (l3 + l5))), (9, .long (lI l3)), (7, .long (lI r2)), (0, .ref (ad 4 l0 0)), (1, .ref (ad 6 l1 0)), (2, .int (iI l2)), (3, .long (lI l3)), (5, .long (lI l5))]) hx hb d_6_10_16 hl (by decide) rfl (fun ls hl => ?_)
  exact b_Part_cut_18 X hf hZ2 hS2 (lv_sub hl [0, 1, 2, 3, 4, 5, 6] rfl)

noncomputable abbrev Q_Study_takeLines (K : zK) (D : va_G) (ca : Nat → ClassId) (ad : Nat → Int → Nat → Nat) (L : List Nat) (r : Int) (F : zF) (B : zB) (A : Nat → Prop) : Array Value → State → Outcome → State → Prop := va_Qv (S := Unit) (fun _ => True) (fun _ => zPo D ca ad lnC K.2 L F B A) A
noncomputable def f_Study_takeLines_136 (rec2 : Int → Int → Int → Int → zF → zB → zO) (K : zK) (l3 : Int) (l0 : Int) (l1 : Int) (l2 : Int) (s0 : Int) (s1 : Int) (s2 : Int) (F : zF) (B : zB) : zO := if 0 ≤ s0 ∧ s0 < K.2 9 then if 0 ≤ s1 ∧ s1 < 4 then rec2 (l3 + 1) l0 l1 l2 F (zup4 B 9 s0 6 s1 s2) else none else none
set_option maxHeartbeats 4000000 in
set_option maxRecDepth 100000 in
theorem b_Study_takeLines_136 {D : va_G} {ca : Nat → ClassId} {ad : Nat → Int → Nat → Nat} {L : List Nat} {aS vS : Nat → Nat} {A : Nat → Prop} {p : Program} {l : Launch} {e : Env} {s : State} {m : MethodId} {args : Array Value} {below : List Frame} {meth : Method} {c : Code} {K : zK} {r : Int} {F9 : zF} {B9 : zB} (X : zX D ca L aS vS A p s m args meth c prog_11_method_6_code 6 (Option.none : Option Jvm.ClassFile.FieldType) "StaveHouse$Study") {rec2 : Int → Int → Int → Int → zF → zB → zO} (hrec2 : ∀ {l3 : Int} {l0 : Int} {l1 : Int} {l2 : Int} {F : zF} {B : zB} {H : Heap} {locs : List Loc} {ls : Array Slot}, rec2 l3 l0 l1 l2 F B = some (r, F9, B9) → zH D ca ad lnC K.2 L F B A H → va_S A s.heap H locs → lv_has ls 6 [(3, .int (iI l3)), (0, .ref (ad 9 l0 0)), (1, .ref (ad 6 l1 0)), (2, .int (iI l2))] → W p l e ({ frames := 4, cells := 0, slots := 0, locals := 85 } : Room) s m args below meth c H locs 0 0 (MQ below (Q_Study_takeLines K D ca ad L r F9 B9 A) args s 0 0 A) (F0 m 2 ls [])) {l3 : Int} {l0 : Int} {l1 : Int} {l2 : Int} {s0 : Int} {s1 : Int} {s2 : Int} {F : zF} {B : zB} {H : Heap} {locs : List Loc} {ls : Array Slot} (hf : f_Study_takeLines_136 rec2 K l3 l0 l1 l2 s0 s1 s2 F B = some (r, F9, B9)) (hZ : zH D ca ad lnC K.2 L F B A H) (hS : va_S A s.heap H locs) (hl : lv_has ls 6 [(3, .int (iI l3)), (0, .ref (ad 9 l0 0)), (1, .ref (ad 6 l1 0)), (2, .int (iI l2))]) : W p l e ({ frames := 4, cells := 0, slots := 0, locals := 85 } : Room) s m args below meth c H locs 0 0 (MQ below (Q_Study_takeLines K D ca ad L r F9 B9 A) args s 0 0 A) (F0 m 136 ls [.int (iI s2), .int (iI s1), .ref (ad 9 s0 (6 + 1))]) := by
  obtain ⟨hx, hb, hr, hml, hown, hts, hlk, hK, hA, hL, hX⟩ := id X
  replace hf : (if 0 ≤ s0 ∧ s0 < K.2 9 then if 0 ≤ s1 ∧ s1 < 4 then rec2 (l3 + 1) l0 l1 l2 F (zup4 B 9 s0 6 s1 s2) else none else none) = some (r, F9, B9) := hf
  obtain ⟨g38, hf⟩ := gif hf
  obtain ⟨g39, hf⟩ := gif hf
  refine zast (ci := 9) (k := 6) hx hb hK rfl hZ hS g38.1 g38.2 rfl (Nat.le_of_ble_eq_true rfl) g39.1 g39.2 d_11_6_136 (fun H40 locs40 hZ40 hS40 => ?_)
  refine lv_iinc (v := iI (l3 + 1)) (lv' := [(3, .int (iI (l3 + 1))), (0, .ref (ad 9 l0 0)), (1, .ref (ad 6 l1 0)), (2, .int (iI l2))]) hx hb d_11_6_137 hl (k := 0) rfl (iI_add _ 1) (by decide) rfl (fun ls hl => ?_)
  refine lv_goto (tgt := 2) hx hb d_11_6_140 (by decide) ?_
  exact hrec2 hf hZ40 hS40 (lv_sub hl [0, 1, 2, 3] rfl)

noncomputable def f_Study_takeLines_113 (rec2 : Int → Int → Int → Int → zF → zB → zO) (K : zK) (l5 : Int) (l4 : Int) (l3 : Int) (l0 : Int) (l1 : Int) (l2 : Int) (s0 : Int) (s1 : Int) (s2 : Int) (F : zF) (B : zB) : zO := if 0 ≤ s0 ∧ s0 < K.2 9 then if 0 ≤ s1 ∧ s1 < 4 then if 0 ≤ l0 ∧ l0 < K.2 9 then if r32 l5 then (if l5 = (-1) then f_Study_takeLines_136 rec2 K l3 l0 l1 l2 l0 l3 (-1) F (zup4 B 9 s0 5 s1 s2) else if 0 ≤ l4 ∧ l4 < K.2 1 then zbind (f_Event_tone K l4 l5 F (zup4 B 9 s0 5 s1 s2)) (fun r37 F37 B37 => f_Study_takeLines_136 rec2 K l3 l0 l1 l2 l0 l3 r37 F37 B37) else none) else none else none else none else none
set_option maxHeartbeats 4000000 in
set_option maxRecDepth 100000 in
theorem b_Study_takeLines_113 {D : va_G} {ca : Nat → ClassId} {ad : Nat → Int → Nat → Nat} {L : List Nat} {aS vS : Nat → Nat} {A : Nat → Prop} {p : Program} {l : Launch} {e : Env} {s : State} {m : MethodId} {args : Array Value} {below : List Frame} {meth : Method} {c : Code} {K : zK} {r : Int} {F9 : zF} {B9 : zB} (X : zX D ca L aS vS A p s m args meth c prog_11_method_6_code 6 (Option.none : Option Jvm.ClassFile.FieldType) "StaveHouse$Study") {rec2 : Int → Int → Int → Int → zF → zB → zO} (hrec2 : ∀ {l3 : Int} {l0 : Int} {l1 : Int} {l2 : Int} {F : zF} {B : zB} {H : Heap} {locs : List Loc} {ls : Array Slot}, rec2 l3 l0 l1 l2 F B = some (r, F9, B9) → zH D ca ad lnC K.2 L F B A H → va_S A s.heap H locs → lv_has ls 6 [(3, .int (iI l3)), (0, .ref (ad 9 l0 0)), (1, .ref (ad 6 l1 0)), (2, .int (iI l2))] → W p l e ({ frames := 4, cells := 0, slots := 0, locals := 85 } : Room) s m args below meth c H locs 0 0 (MQ below (Q_Study_takeLines K D ca ad L r F9 B9 A) args s 0 0 A) (F0 m 2 ls [])) {l5 : Int} {l4 : Int} {l3 : Int} {l0 : Int} {l1 : Int} {l2 : Int} {s0 : Int} {s1 : Int} {s2 : Int} {F : zF} {B : zB} {H : Heap} {locs : List Loc} {ls : Array Slot} (hf : f_Study_takeLines_113 rec2 K l5 l4 l3 l0 l1 l2 s0 s1 s2 F B = some (r, F9, B9)) (hZ : zH D ca ad lnC K.2 L F B A H) (hS : va_S A s.heap H locs) (hl : lv_has ls 6 [(5, .int (iI l5)), (4, va_rf (zrf ad 1 l4)), (3, .int (iI l3)), (0, .ref (ad 9 l0 0)), (1, .ref (ad 6 l1 0)), (2, .int (iI l2))]) : W p l e ({ frames := 4, cells := 0, slots := 0, locals := 85 } : Room) s m args below meth c H locs 0 0 (MQ below (Q_Study_takeLines K D ca ad L r F9 B9 A) args s 0 0 A) (F0 m 113 ls [.int (iI s2), .int (iI s1), .ref (ad 9 s0 (5 + 1))]) := by
  obtain ⟨hx, hb, hr, hml, hown, hts, hlk, hK, hA, hL, hX⟩ := id X
  replace hf : (if 0 ≤ s0 ∧ s0 < K.2 9 then if 0 ≤ s1 ∧ s1 < 4 then if 0 ≤ l0 ∧ l0 < K.2 9 then if r32 l5 then (if l5 = (-1) then f_Study_takeLines_136 rec2 K l3 l0 l1 l2 l0 l3 (-1) F (zup4 B 9 s0 5 s1 s2) else if 0 ≤ l4 ∧ l4 < K.2 1 then zbind (f_Event_tone K l4 l5 F (zup4 B 9 s0 5 s1 s2)) (fun r37 F37 B37 => f_Study_takeLines_136 rec2 K l3 l0 l1 l2 l0 l3 r37 F37 B37) else none) else none else none else none else none) = some (r, F9, B9) := hf
  obtain ⟨g29, hf⟩ := gif hf
  obtain ⟨g30, hf⟩ := gif hf
  refine zast (ci := 9) (k := 5) hx hb hK rfl hZ hS g29.1 g29.2 rfl (Nat.le_of_ble_eq_true rfl) g30.1 g30.2 d_11_6_113 (fun H31 locs31 hZ31 hS31 => ?_)
  refine lv_aload_n hx hb d_11_6_114 rfl (lv_at hl 3 rfl) ?_
  obtain ⟨g33, hf⟩ := gif hf
  refine zget (ci := 9) (C := RX9) (T := TX9) (v := .ref (ad 9 l0 (6 + 1))) (k := 6) hx hb hts inW_9 hown hK hZ31 g33.1 g33.2 rfl (by decide) k_5_207 rfl d_11_6_115 ?_
  refine lv_iload_n hx hb d_11_6_118 rfl (lv_at hl 2 rfl) ?_
  refine lv_iload hx hb d_11_6_119 (lv_at hl 0 rfl) ?_
  refine lv_iconst (v := iI (-1)) hx hb d_11_6_121 rfl ?_
  obtain ⟨g34, hf⟩ := gif hf
  refine zne (tgt := 129) hx hb g34 (by decide) d_11_6_122 (by decide) (fun h35 => ?_) (fun h35 => ?_)
  · replace hf := gneg hf h35
    refine zaload hx hb d_11_6_129 (lv_at hl 1 rfl) ?_
    refine lv_iload hx hb d_11_6_131 (lv_at hl 0 rfl) ?_
    obtain ⟨g36, hf⟩ := gif hf
    refine W.eq (g2 := F0 m 133 ls [.int (iI l5), .ref (ad 1 l4 0), .int (iI l3), .ref (ad 9 l0 (6 + 1))]) (by rw [zrf_pos (ad := ad) (t := 1) g36.1]; try rfl) ?_
    obtain ⟨r37, F37, B37, hc37, hf⟩ := gbind hf
    refine va_calli (va_runV (As := [.int (iI l5)]) (rest := [.int (iI l3), .ref (ad 9 l0 (6 + 1))]) ⟨hx, hb, hml, hown, hts⟩ (c_Event_tone (l := l) hc37) (cwV 1 hts (gdV k_6_26 k_6_22 k_6_23 k_1_8 k_6_24) rfl rfl rfl (by decide +kernel) ⟨Nat.le_of_ble_eq_true rfl, Nat.le_of_ble_eq_true rfl⟩) (zPV X hZ31 hS31 (ci := 1) g36.1 g36.2 (r := (RX1, TX1, 14)) rfl [.int (iI l5)]) rfl rfl hl.1 rfl (lv_room (Nat.le_of_ble_eq_true rfl)) d_11_6_133 ⟨Nat.le_of_ble_eq_true rfl, Nat.le_of_ble_eq_true rfl⟩) hS31 (fun q _ h => zAin X hS31 q h) (zAin X hS31) (fun p37 u37 t37 H37 locs37 ht37 hv37 hw37 hB37 hz37 hk37 hS37 => ?_)
    have hZ37 := zBack X ht37 hB37
    subst hw37
    exact b_Study_takeLines_136 X hrec2 hf hZ37 hS37 (lv_sub hl [2, 3, 4, 5] rfl)
  · replace hf := gpos hf h35
    refine lv_iconst (v := iI (-1)) hx hb d_11_6_125 rfl ?_
    refine lv_goto (tgt := 136) hx hb d_11_6_126 (by decide) ?_
    exact b_Study_takeLines_136 X hrec2 hf hZ31 hS31 (lv_sub hl [2, 3, 4, 5] rfl)

noncomputable def f_Study_takeLines_89 (rec2 : Int → Int → Int → Int → zF → zB → zO) (K : zK) (l5 : Int) (l4 : Int) (l3 : Int) (l0 : Int) (l1 : Int) (l2 : Int) (s0 : Int) (s1 : Int) (s2 : Int) (F : zF) (B : zB) : zO := if 0 ≤ s0 ∧ s0 < K.2 9 then if 0 ≤ s1 ∧ s1 < 4 then if (s2 = 0 ∨ s2 = 1) then if 0 ≤ l0 ∧ l0 < K.2 9 then if r32 l5 then (if l5 = (-1) then f_Study_takeLines_113 rec2 K l5 l4 l3 l0 l1 l2 l0 l3 (-1) F (zup4 B 9 s0 9 s1 s2) else if 0 ≤ l4 ∧ l4 < K.2 1 then if 0 ≤ l5 ∧ l5 < 6 then f_Study_takeLines_113 rec2 K l5 l4 l3 l0 l1 l2 l0 l3 ((zup4 B 9 s0 9 s1 s2) 1 l4 12 l5) F (zup4 B 9 s0 9 s1 s2) else none else none) else none else none else none else none else none
set_option maxHeartbeats 4000000 in
set_option maxRecDepth 100000 in
theorem b_Study_takeLines_89 {D : va_G} {ca : Nat → ClassId} {ad : Nat → Int → Nat → Nat} {L : List Nat} {aS vS : Nat → Nat} {A : Nat → Prop} {p : Program} {l : Launch} {e : Env} {s : State} {m : MethodId} {args : Array Value} {below : List Frame} {meth : Method} {c : Code} {K : zK} {r : Int} {F9 : zF} {B9 : zB} (X : zX D ca L aS vS A p s m args meth c prog_11_method_6_code 6 (Option.none : Option Jvm.ClassFile.FieldType) "StaveHouse$Study") {rec2 : Int → Int → Int → Int → zF → zB → zO} (hrec2 : ∀ {l3 : Int} {l0 : Int} {l1 : Int} {l2 : Int} {F : zF} {B : zB} {H : Heap} {locs : List Loc} {ls : Array Slot}, rec2 l3 l0 l1 l2 F B = some (r, F9, B9) → zH D ca ad lnC K.2 L F B A H → va_S A s.heap H locs → lv_has ls 6 [(3, .int (iI l3)), (0, .ref (ad 9 l0 0)), (1, .ref (ad 6 l1 0)), (2, .int (iI l2))] → W p l e ({ frames := 4, cells := 0, slots := 0, locals := 85 } : Room) s m args below meth c H locs 0 0 (MQ below (Q_Study_takeLines K D ca ad L r F9 B9 A) args s 0 0 A) (F0 m 2 ls [])) {l5 : Int} {l4 : Int} {l3 : Int} {l0 : Int} {l1 : Int} {l2 : Int} {s0 : Int} {s1 : Int} {s2 : Int} {F : zF} {B : zB} {H : Heap} {locs : List Loc} {ls : Array Slot} (hf : f_Study_takeLines_89 rec2 K l5 l4 l3 l0 l1 l2 s0 s1 s2 F B = some (r, F9, B9)) (hZ : zH D ca ad lnC K.2 L F B A H) (hS : va_S A s.heap H locs) (hl : lv_has ls 6 [(5, .int (iI l5)), (4, va_rf (zrf ad 1 l4)), (3, .int (iI l3)), (0, .ref (ad 9 l0 0)), (1, .ref (ad 6 l1 0)), (2, .int (iI l2))]) : W p l e ({ frames := 4, cells := 0, slots := 0, locals := 85 } : Room) s m args below meth c H locs 0 0 (MQ below (Q_Study_takeLines K D ca ad L r F9 B9 A) args s 0 0 A) (F0 m 89 ls [.int (iI s2), .int (iI s1), .ref (ad 9 s0 (9 + 1))]) := by
  obtain ⟨hx, hb, hr, hml, hown, hts, hlk, hK, hA, hL, hX⟩ := id X
  replace hf : (if 0 ≤ s0 ∧ s0 < K.2 9 then if 0 ≤ s1 ∧ s1 < 4 then if (s2 = 0 ∨ s2 = 1) then if 0 ≤ l0 ∧ l0 < K.2 9 then if r32 l5 then (if l5 = (-1) then f_Study_takeLines_113 rec2 K l5 l4 l3 l0 l1 l2 l0 l3 (-1) F (zup4 B 9 s0 9 s1 s2) else if 0 ≤ l4 ∧ l4 < K.2 1 then if 0 ≤ l5 ∧ l5 < 6 then f_Study_takeLines_113 rec2 K l5 l4 l3 l0 l1 l2 l0 l3 ((zup4 B 9 s0 9 s1 s2) 1 l4 12 l5) F (zup4 B 9 s0 9 s1 s2) else none else none) else none else none else none else none else none) = some (r, F9, B9) := hf
  obtain ⟨g20, hf⟩ := gif hf
  obtain ⟨g21, hf⟩ := gif hf
  obtain ⟨g23, hf⟩ := gif hf
  refine zzast (ci := 9) (k := 9) hx hb hK rfl hZ hS g20.1 g20.2 rfl (Nat.le_of_ble_eq_true rfl) g23 g21.1 g21.2 d_11_6_89 (fun H22 locs22 hZ22 hS22 => ?_)
  refine lv_aload_n hx hb d_11_6_90 rfl (lv_at hl 3 rfl) ?_
  obtain ⟨g24, hf⟩ := gif hf
  refine zget (ci := 9) (C := RX9) (T := TX9) (v := .ref (ad 9 l0 (5 + 1))) (k := 5) hx hb hts inW_9 hown hK hZ22 g24.1 g24.2 rfl (by decide) k_5_206 rfl d_11_6_91 ?_
  refine lv_iload_n hx hb d_11_6_94 rfl (lv_at hl 2 rfl) ?_
  refine lv_iload hx hb d_11_6_95 (lv_at hl 0 rfl) ?_
  refine lv_iconst (v := iI (-1)) hx hb d_11_6_97 rfl ?_
  obtain ⟨g25, hf⟩ := gif hf
  refine zne (tgt := 105) hx hb g25 (by decide) d_11_6_98 (by decide) (fun h26 => ?_) (fun h26 => ?_)
  · replace hf := gneg hf h26
    refine zaload hx hb d_11_6_105 (lv_at hl 1 rfl) ?_
    obtain ⟨g27, hf⟩ := gif hf
    refine zunrf g27.1 ?_
    refine zget (ci := 1) (C := RX1) (T := TX1) (v := .ref (ad 1 l4 (12 + 1))) (k := 12) hx hb hts inW_1 hown hK hZ22 g27.1 g27.2 rfl (by decide) k_2_58 rfl d_11_6_107 ?_
    refine lv_iload hx hb d_11_6_110 (lv_at hl 0 rfl) ?_
    obtain ⟨g28, hf⟩ := gif hf
    refine zald (ci := 1) (k := 12) hx hb hK rfl hZ22 g27.1 g27.2 rfl (Nat.le_of_ble_eq_true rfl) g28.1 g28.2 d_11_6_112 ?_
    exact b_Study_takeLines_113 X hrec2 hf hZ22 hS22 (lv_sub hl [0, 1, 2, 3, 4, 5] rfl)
  · replace hf := gpos hf h26
    refine lv_iconst (v := iI (-1)) hx hb d_11_6_101 rfl ?_
    refine lv_goto (tgt := 113) hx hb d_11_6_102 (by decide) ?_
    exact b_Study_takeLines_113 X hrec2 hf hZ22 hS22 (lv_sub hl [0, 1, 2, 3, 4, 5] rfl)

noncomputable def f_Study_takeLines_88 (rec2 : Int → Int → Int → Int → zF → zB → zO) (K : zK) (l5 : Int) (l4 : Int) (l3 : Int) (l0 : Int) (l1 : Int) (l2 : Int) (s0 : Int) (s1 : Int) (F : zF) (B : zB) : zO := f_Study_takeLines_89 rec2 K l5 l4 l3 l0 l1 l2 s0 s1 0 F B
set_option maxHeartbeats 4000000 in
set_option maxRecDepth 100000 in
theorem b_Study_takeLines_88 {D : va_G} {ca : Nat → ClassId} {ad : Nat → Int → Nat → Nat} {L : List Nat} {aS vS : Nat → Nat} {A : Nat → Prop} {p : Program} {l : Launch} {e : Env} {s : State} {m : MethodId} {args : Array Value} {below : List Frame} {meth : Method} {c : Code} {K : zK} {r : Int} {F9 : zF} {B9 : zB} (X : zX D ca L aS vS A p s m args meth c prog_11_method_6_code 6 (Option.none : Option Jvm.ClassFile.FieldType) "StaveHouse$Study") {rec2 : Int → Int → Int → Int → zF → zB → zO} (hrec2 : ∀ {l3 : Int} {l0 : Int} {l1 : Int} {l2 : Int} {F : zF} {B : zB} {H : Heap} {locs : List Loc} {ls : Array Slot}, rec2 l3 l0 l1 l2 F B = some (r, F9, B9) → zH D ca ad lnC K.2 L F B A H → va_S A s.heap H locs → lv_has ls 6 [(3, .int (iI l3)), (0, .ref (ad 9 l0 0)), (1, .ref (ad 6 l1 0)), (2, .int (iI l2))] → W p l e ({ frames := 4, cells := 0, slots := 0, locals := 85 } : Room) s m args below meth c H locs 0 0 (MQ below (Q_Study_takeLines K D ca ad L r F9 B9 A) args s 0 0 A) (F0 m 2 ls [])) {l5 : Int} {l4 : Int} {l3 : Int} {l0 : Int} {l1 : Int} {l2 : Int} {s0 : Int} {s1 : Int} {F : zF} {B : zB} {H : Heap} {locs : List Loc} {ls : Array Slot} (hf : f_Study_takeLines_88 rec2 K l5 l4 l3 l0 l1 l2 s0 s1 F B = some (r, F9, B9)) (hZ : zH D ca ad lnC K.2 L F B A H) (hS : va_S A s.heap H locs) (hl : lv_has ls 6 [(5, .int (iI l5)), (4, va_rf (zrf ad 1 l4)), (3, .int (iI l3)), (0, .ref (ad 9 l0 0)), (1, .ref (ad 6 l1 0)), (2, .int (iI l2))]) : W p l e ({ frames := 4, cells := 0, slots := 0, locals := 85 } : Room) s m args below meth c H locs 0 0 (MQ below (Q_Study_takeLines K D ca ad L r F9 B9 A) args s 0 0 A) (F0 m 88 ls [.int (iI s1), .ref (ad 9 s0 (9 + 1))]) := by
  obtain ⟨hx, hb, hr, hml, hown, hts, hlk, hK, hA, hL, hX⟩ := id X
  replace hf : (f_Study_takeLines_89 rec2 K l5 l4 l3 l0 l1 l2 s0 s1 0 F B) = some (r, F9, B9) := hf
  refine lv_iconst (v := iI 0) hx hb d_11_6_88 rfl ?_
  exact b_Study_takeLines_89 X hrec2 hf hZ hS (lv_sub hl [0, 1, 2, 3, 4, 5] rfl)

noncomputable def f_Study_takeLines_57 (rec2 : Int → Int → Int → Int → zF → zB → zO) (K : zK) (l4 : Int) (l3 : Int) (l0 : Int) (l1 : Int) (l2 : Int) (s0 : Int) (F : zF) (B : zB) : zO := if 0 ≤ l0 ∧ l0 < K.2 9 then (if l4 < 0 then f_Study_takeLines_88 rec2 K s0 l4 l3 l0 l1 l2 l0 l3 F B else if 0 ≤ l4 ∧ l4 < K.2 1 then if 0 ≤ l2 ∧ l2 < 800 then if r64 (F 1 l4 0) then if r64 (B 9 l0 1 l2) then (if (zcmp (F 1 l4 0) (B 9 l0 1 l2)) = 0 then f_Study_takeLines_89 rec2 K s0 l4 l3 l0 l1 l2 l0 l3 1 F B else f_Study_takeLines_88 rec2 K s0 l4 l3 l0 l1 l2 l0 l3 F B) else none else none else none else none) else none
set_option maxHeartbeats 4000000 in
set_option maxRecDepth 100000 in
theorem b_Study_takeLines_57 {D : va_G} {ca : Nat → ClassId} {ad : Nat → Int → Nat → Nat} {L : List Nat} {aS vS : Nat → Nat} {A : Nat → Prop} {p : Program} {l : Launch} {e : Env} {s : State} {m : MethodId} {args : Array Value} {below : List Frame} {meth : Method} {c : Code} {K : zK} {r : Int} {F9 : zF} {B9 : zB} (X : zX D ca L aS vS A p s m args meth c prog_11_method_6_code 6 (Option.none : Option Jvm.ClassFile.FieldType) "StaveHouse$Study") {rec2 : Int → Int → Int → Int → zF → zB → zO} (hrec2 : ∀ {l3 : Int} {l0 : Int} {l1 : Int} {l2 : Int} {F : zF} {B : zB} {H : Heap} {locs : List Loc} {ls : Array Slot}, rec2 l3 l0 l1 l2 F B = some (r, F9, B9) → zH D ca ad lnC K.2 L F B A H → va_S A s.heap H locs → lv_has ls 6 [(3, .int (iI l3)), (0, .ref (ad 9 l0 0)), (1, .ref (ad 6 l1 0)), (2, .int (iI l2))] → W p l e ({ frames := 4, cells := 0, slots := 0, locals := 85 } : Room) s m args below meth c H locs 0 0 (MQ below (Q_Study_takeLines K D ca ad L r F9 B9 A) args s 0 0 A) (F0 m 2 ls [])) {l4 : Int} {l3 : Int} {l0 : Int} {l1 : Int} {l2 : Int} {s0 : Int} {F : zF} {B : zB} {H : Heap} {locs : List Loc} {ls : Array Slot} (hf : f_Study_takeLines_57 rec2 K l4 l3 l0 l1 l2 s0 F B = some (r, F9, B9)) (hZ : zH D ca ad lnC K.2 L F B A H) (hS : va_S A s.heap H locs) (hl : lv_has ls 6 [(4, va_rf (zrf ad 1 l4)), (3, .int (iI l3)), (0, .ref (ad 9 l0 0)), (1, .ref (ad 6 l1 0)), (2, .int (iI l2))]) : W p l e ({ frames := 4, cells := 0, slots := 0, locals := 85 } : Room) s m args below meth c H locs 0 0 (MQ below (Q_Study_takeLines K D ca ad L r F9 B9 A) args s 0 0 A) (F0 m 57 ls [.int (iI s0)]) := by
  obtain ⟨hx, hb, hr, hml, hown, hts, hlk, hK, hA, hL, hX⟩ := id X
  replace hf : (if 0 ≤ l0 ∧ l0 < K.2 9 then (if l4 < 0 then f_Study_takeLines_88 rec2 K s0 l4 l3 l0 l1 l2 l0 l3 F B else if 0 ≤ l4 ∧ l4 < K.2 1 then if 0 ≤ l2 ∧ l2 < 800 then if r64 (F 1 l4 0) then if r64 (B 9 l0 1 l2) then (if (zcmp (F 1 l4 0) (B 9 l0 1 l2)) = 0 then f_Study_takeLines_89 rec2 K s0 l4 l3 l0 l1 l2 l0 l3 1 F B else f_Study_takeLines_88 rec2 K s0 l4 l3 l0 l1 l2 l0 l3 F B) else none else none else none else none) else none) = some (r, F9, B9) := hf
  refine lv_istore (lv' := [(5, .int (iI s0)), (4, va_rf (zrf ad 1 l4)), (3, .int (iI l3)), (0, .ref (ad 9 l0 0)), (1, .ref (ad 6 l1 0)), (2, .int (iI l2))]) hx hb d_11_6_57 hl (by decide) (by cases zrf ad 1 l4 <;> rfl) (fun ls hl => ?_)
  refine lv_aload_n hx hb d_11_6_59 rfl (lv_at hl 3 rfl) ?_
  obtain ⟨g13, hf⟩ := gif hf
  refine zget (ci := 9) (C := RX9) (T := TX9) (v := .ref (ad 9 l0 (9 + 1))) (k := 9) hx hb hts inW_9 hown hK hZ g13.1 g13.2 rfl (by decide) k_5_210 rfl d_11_6_60 ?_
  refine lv_iload_n hx hb d_11_6_63 rfl (lv_at hl 2 rfl) ?_
  refine zaload hx hb d_11_6_64 (lv_at hl 1 rfl) ?_
  refine zifnull (tgt := 88) hx hb d_11_6_66 (by decide) (fun h14 => ?_) (fun h14 => ?_)
  · replace hf := gpos hf h14
    exact b_Study_takeLines_88 X hrec2 hf hZ hS (lv_sub hl [0, 1, 2, 3, 4, 5] rfl)
  · replace hf := gneg hf h14
    refine zaload hx hb d_11_6_69 (lv_at hl 1 rfl) ?_
    obtain ⟨g15, hf⟩ := gif hf
    refine zunrf g15.1 ?_
    refine zget (ci := 1) (C := RX1) (T := TX1) (v := .long (lI (F 1 l4 0))) (k := 0) hx hb hts inW_1 hown hK hZ g15.1 g15.2 rfl (by decide) k_2_20 rfl d_11_6_71 ?_
    refine lv_aload_n hx hb d_11_6_74 rfl (lv_at hl 3 rfl) ?_
    refine zget (ci := 9) (C := RX9) (T := TX9) (v := .ref (ad 9 l0 (1 + 1))) (k := 1) hx hb hts inW_9 hown hK hZ g13.1 g13.2 rfl (by decide) k_5_199 rfl d_11_6_75 ?_
    refine lv_iload_n hx hb d_11_6_78 rfl (lv_at hl 5 rfl) ?_
    obtain ⟨g16, hf⟩ := gif hf
    refine zlald (ci := 9) (k := 1) hx hb hK rfl hZ g13.1 g13.2 rfl (Nat.le_of_ble_eq_true rfl) g16.1 g16.2 d_11_6_79 ?_
    obtain ⟨g17, hf⟩ := gif hf
    obtain ⟨g18, hf⟩ := gif hf
    refine zcmp_r hx hb g17 g18 d_11_6_80 ?_
    refine z0ne (tgt := 88) hx hb zcmp_32 d_11_6_81 (by decide) (fun h19 => ?_) (fun h19 => ?_)
    · replace hf := gneg hf h19
      exact b_Study_takeLines_88 X hrec2 hf hZ hS (lv_sub hl [0, 1, 2, 3, 4, 5] rfl)
    · replace hf := gpos hf h19
      refine lv_iconst (v := iI 1) hx hb d_11_6_84 rfl ?_
      refine lv_goto (tgt := 89) hx hb d_11_6_85 (by decide) ?_
      exact b_Study_takeLines_89 X hrec2 hf hZ hS (lv_sub hl [0, 1, 2, 3, 4, 5] rfl)

noncomputable def f_Study_takeLines_2 (K : zK) : Nat → Int → Int → Int → Int → zF → zB → zO
  | 0, _, _, _, _, _, _ => none
  | n + 1, l3, l0, l1, l2, F, B => if 0 ≤ l1 ∧ l1 < K.2 6 then if r32 l3 then if r32 (F 6 l1 1) then (if (F 6 l1 1) ≤ l3 then some (0, F, B) else if 0 ≤ l0 ∧ l0 < K.2 9 then zbind (f_Study_eventOf K l0 l1 l3 l2 F B) (fun r6 F6 B6 => if 0 ≤ l3 ∧ l3 < 4 then (if r6 < 0 then f_Study_takeLines_57 (f_Study_takeLines_2 K n) K r6 l3 l0 l1 l2 (-1) F6 (zup4 (zup4 B6 9 l0 7 l3 (B6 9 l0 5 l3)) 9 l0 8 l3 ((zup4 B6 9 l0 7 l3 (B6 9 l0 5 l3)) 9 l0 6 l3)) else if 0 ≤ r6 ∧ r6 < K.2 1 then zbind (f_Event_top K r6 F6 (zup4 (zup4 B6 9 l0 7 l3 (B6 9 l0 5 l3)) 9 l0 8 l3 ((zup4 B6 9 l0 7 l3 (B6 9 l0 5 l3)) 9 l0 6 l3))) (fun r12 F12 B12 => f_Study_takeLines_57 (f_Study_takeLines_2 K n) K r6 l3 l0 l1 l2 r12 F12 B12) else none) else none) else none) else none else none else none
set_option maxHeartbeats 4000000 in
set_option maxRecDepth 100000 in
theorem b_Study_takeLines_2 {D : va_G} {ca : Nat → ClassId} {ad : Nat → Int → Nat → Nat} {L : List Nat} {aS vS : Nat → Nat} {A : Nat → Prop} {p : Program} {l : Launch} {e : Env} {s : State} {m : MethodId} {args : Array Value} {below : List Frame} {meth : Method} {c : Code} {K : zK} {r : Int} {F9 : zF} {B9 : zB} (X : zX D ca L aS vS A p s m args meth c prog_11_method_6_code 6 (Option.none : Option Jvm.ClassFile.FieldType) "StaveHouse$Study") : ∀ {n : Nat} {l3 : Int} {l0 : Int} {l1 : Int} {l2 : Int} {F : zF} {B : zB} {H : Heap} {locs : List Loc} {ls : Array Slot}, f_Study_takeLines_2 K n l3 l0 l1 l2 F B = some (r, F9, B9) → zH D ca ad lnC K.2 L F B A H → va_S A s.heap H locs → lv_has ls 6 [(3, .int (iI l3)), (0, .ref (ad 9 l0 0)), (1, .ref (ad 6 l1 0)), (2, .int (iI l2))] → W p l e ({ frames := 4, cells := 0, slots := 0, locals := 85 } : Room) s m args below meth c H locs 0 0 (MQ below (Q_Study_takeLines K D ca ad L r F9 B9 A) args s 0 0 A) (F0 m 2 ls []) := by
  obtain ⟨hx, hb, hr, hml, hown, hts, hlk, hK, hA, hL, hX⟩ := id X
  intro n
  induction n with
  | zero =>
    intros
    rename_i hf _ _ _
    cases hf
  | succ n ih =>
    intro l3 l0 l1 l2 F B H locs ls hf hZ hS hl
    replace hf : (if 0 ≤ l1 ∧ l1 < K.2 6 then if r32 l3 then if r32 (F 6 l1 1) then (if (F 6 l1 1) ≤ l3 then some (0, F, B) else if 0 ≤ l0 ∧ l0 < K.2 9 then zbind (f_Study_eventOf K l0 l1 l3 l2 F B) (fun r6 F6 B6 => if 0 ≤ l3 ∧ l3 < 4 then (if r6 < 0 then f_Study_takeLines_57 (f_Study_takeLines_2 K n) K r6 l3 l0 l1 l2 (-1) F6 (zup4 (zup4 B6 9 l0 7 l3 (B6 9 l0 5 l3)) 9 l0 8 l3 ((zup4 B6 9 l0 7 l3 (B6 9 l0 5 l3)) 9 l0 6 l3)) else if 0 ≤ r6 ∧ r6 < K.2 1 then zbind (f_Event_top K r6 F6 (zup4 (zup4 B6 9 l0 7 l3 (B6 9 l0 5 l3)) 9 l0 8 l3 ((zup4 B6 9 l0 7 l3 (B6 9 l0 5 l3)) 9 l0 6 l3))) (fun r12 F12 B12 => f_Study_takeLines_57 (f_Study_takeLines_2 K n) K r6 l3 l0 l1 l2 r12 F12 B12) else none) else none) else none) else none else none else none) = some (r, F9, B9) := hf
    refine lv_iload_n hx hb d_11_6_2 rfl (lv_at hl 0 rfl) ?_
    refine lv_aload_n hx hb d_11_6_3 rfl (lv_at hl 2 rfl) ?_
    obtain ⟨g1, hf⟩ := gif hf
    refine zget (ci := 6) (C := RX6) (T := TX6) (v := .int (iI (F 6 l1 1))) (k := 1) hx hb hts inW_6 hown hK hZ g1.1 g1.2 rfl (by decide) k_2_192 rfl d_11_6_4 ?_
    obtain ⟨g2, hf⟩ := gif hf
    obtain ⟨g3, hf⟩ := gif hf
    refine zge (tgt := 143) hx hb g2 g3 d_11_6_7 (by decide) (fun h4 => ?_) (fun h4 => ?_)
    · replace hf := gpos hf h4
      cases hf
      exact W.vret hx hb hr (fun t ht hW => ⟨⟨(), rfl, trivial, by rw [ht]; exact hZ, va_K.moved hW.alike hK⟩, hS.F ht⟩) hS.2.2 d_11_6_143 hlk
    · replace hf := gneg hf h4
      refine lv_aload_n hx hb d_11_6_10 rfl (lv_at hl 1 rfl) ?_
      refine lv_aload_n hx hb d_11_6_11 rfl (lv_at hl 2 rfl) ?_
      refine lv_iload_n hx hb d_11_6_12 rfl (lv_at hl 0 rfl) ?_
      refine lv_iload_n hx hb d_11_6_13 rfl (lv_at hl 3 rfl) ?_
      obtain ⟨g5, hf⟩ := gif hf
      obtain ⟨r6, F6, B6, hc6, hf⟩ := gbind hf
      refine va_callq (va_runV (As := [.ref (ad 6 l1 0), .int (iI l3), .int (iI l2)]) (rest := []) ⟨hx, hb, hml, hown, hts⟩ (c_Study_eventOf (l := l) hc6) (cwV 3 hts (gdV k_6_13 k_6_15 ks_69 k_1_19 k_6_16) rfl rfl rfl (by decide +kernel) ⟨Nat.le_of_ble_eq_true rfl, Nat.le_of_ble_eq_true rfl⟩) (zPV X hZ hS (ci := 9) g5.1 g5.2 (r := (RX9, TX9, 11)) rfl [.ref (ad 6 l1 0), .int (iI l3), .int (iI l2)]) rfl rfl hl.1 rfl (lv_room (Nat.le_of_ble_eq_true rfl)) d_11_6_14 ⟨Nat.le_of_ble_eq_true rfl, Nat.le_of_ble_eq_true rfl⟩) hS (fun q _ h => zAin X hS q h) (zAin X hS) (fun p6 u6 t6 H6 locs6 ht6 hv6 hw6 hB6 hz6 hk6 hS6 => ?_)
      have hZ6 := zBack X ht6 hB6
      subst hw6
      refine zastore (lv' := [(3, .int (iI l3)), (0, .ref (ad 9 l0 0)), (1, .ref (ad 6 l1 0)), (2, .int (iI l2))]) hx hb d_11_6_17 hl (by decide) (fun _ _ => rfl) (fun ls hl => ?_)
      refine lv_aload_n hx hb d_11_6_19 rfl (lv_at hl 2 rfl) ?_
      refine zget (ci := 9) (C := RX9) (T := TX9) (v := .ref (ad 9 l0 (7 + 1))) (k := 7) hx hb hts inW_9 hown hK hZ6 g5.1 g5.2 rfl (by decide) k_5_208 rfl d_11_6_20 ?_
      refine lv_iload_n hx hb d_11_6_23 rfl (lv_at hl 1 rfl) ?_
      refine lv_aload_n hx hb d_11_6_24 rfl (lv_at hl 2 rfl) ?_
      refine zget (ci := 9) (C := RX9) (T := TX9) (v := .ref (ad 9 l0 (5 + 1))) (k := 5) hx hb hts inW_9 hown hK hZ6 g5.1 g5.2 rfl (by decide) k_5_206 rfl d_11_6_25 ?_
      refine lv_iload_n hx hb d_11_6_28 rfl (lv_at hl 1 rfl) ?_
      obtain ⟨g7, hf⟩ := gif hf
      refine zald (ci := 9) (k := 5) hx hb hK rfl hZ6 g5.1 g5.2 rfl (Nat.le_of_ble_eq_true rfl) g7.1 g7.2 d_11_6_29 ?_
      refine zast (ci := 9) (k := 7) hx hb hK rfl hZ6 hS6 g5.1 g5.2 rfl (Nat.le_of_ble_eq_true rfl) g7.1 g7.2 d_11_6_30 (fun H8 locs8 hZ8 hS8 => ?_)
      refine lv_aload_n hx hb d_11_6_31 rfl (lv_at hl 2 rfl) ?_
      refine zget (ci := 9) (C := RX9) (T := TX9) (v := .ref (ad 9 l0 (8 + 1))) (k := 8) hx hb hts inW_9 hown hK hZ8 g5.1 g5.2 rfl (by decide) k_5_209 rfl d_11_6_32 ?_
      refine lv_iload_n hx hb d_11_6_35 rfl (lv_at hl 1 rfl) ?_
      refine lv_aload_n hx hb d_11_6_36 rfl (lv_at hl 2 rfl) ?_
      refine zget (ci := 9) (C := RX9) (T := TX9) (v := .ref (ad 9 l0 (6 + 1))) (k := 6) hx hb hts inW_9 hown hK hZ8 g5.1 g5.2 rfl (by decide) k_5_207 rfl d_11_6_37 ?_
      refine lv_iload_n hx hb d_11_6_40 rfl (lv_at hl 1 rfl) ?_
      refine zald (ci := 9) (k := 6) hx hb hK rfl hZ8 g5.1 g5.2 rfl (Nat.le_of_ble_eq_true rfl) g7.1 g7.2 d_11_6_41 ?_
      refine zast (ci := 9) (k := 8) hx hb hK rfl hZ8 hS8 g5.1 g5.2 rfl (Nat.le_of_ble_eq_true rfl) g7.1 g7.2 d_11_6_42 (fun H9 locs9 hZ9 hS9 => ?_)
      refine zaload hx hb d_11_6_43 (lv_at hl 0 rfl) ?_
      refine zifnonnull (tgt := 52) hx hb d_11_6_45 (by decide) (fun h10 => ?_) (fun h10 => ?_)
      · replace hf := gneg hf h10
        refine zaload hx hb d_11_6_52 (lv_at hl 0 rfl) ?_
        obtain ⟨g11, hf⟩ := gif hf
        refine W.eq (g2 := F0 m 54 ls [.ref (ad 1 r6 0)]) (by rw [zrf_pos (ad := ad) (t := 1) g11.1]; try rfl) ?_
        obtain ⟨r12, F12, B12, hc12, hf⟩ := gbind hf
        refine va_calli (va_runV (As := []) (rest := []) ⟨hx, hb, hml, hown, hts⟩ (c_Event_top (l := l) hc12) (cwV 0 hts (gdV k_6_17 k_6_18 k_6_19 k_1_8 k_6_20) rfl rfl rfl (by decide +kernel) ⟨Nat.le_of_ble_eq_true rfl, Nat.le_of_ble_eq_true rfl⟩) (zPV X hZ9 hS9 (ci := 1) g11.1 g11.2 (r := (RX1, TX1, 14)) rfl []) rfl rfl hl.1 rfl (lv_room (Nat.le_of_ble_eq_true rfl)) d_11_6_54 ⟨Nat.le_of_ble_eq_true rfl, Nat.le_of_ble_eq_true rfl⟩) hS9 (fun q _ h => zAin X hS9 q h) (zAin X hS9) (fun p12 u12 t12 H12 locs12 ht12 hv12 hw12 hB12 hz12 hk12 hS12 => ?_)
        have hZ12 := zBack X ht12 hB12
        subst hw12
        exact b_Study_takeLines_57 X ih hf hZ12 hS12 (lv_sub hl [0, 1, 2, 3, 4] rfl)
      · replace hf := gpos hf h10
        refine lv_iconst (v := iI (-1)) hx hb d_11_6_48 rfl ?_
        refine lv_goto (tgt := 57) hx hb d_11_6_49 (by decide) ?_
        exact b_Study_takeLines_57 X ih hf hZ9 hS9 (lv_sub hl [0, 1, 2, 3, 4] rfl)

noncomputable def f_Study_takeLines (K : zK) (l0 : Int) (l1 : Int) (l2 : Int) (F : zF) (B : zB) : zO := f_Study_takeLines_2 K K.1 0 l0 l1 l2 F B
set_option maxHeartbeats 4000000 in
set_option maxRecDepth 100000 in
theorem c_Study_takeLines {l : Launch} {D : va_G} {ca : Nat → ClassId} {ad : Nat → Int → Nat → Nat} {L : List Nat} {aS vS : Nat → Nat} {sz : Nat} {K : zK}  {l0 : Int} {l1 : Int} {l2 : Int} {F F9 : zF} {B B9 : zB} {r : Int} (hf : f_Study_takeLines K l0 l1 l2 F B = some (r, F9, B9)) : Met l ({ cls := "StaveHouse$Study", name := "takeLines", desc := "(LStaveHouse$Piece;I)V" } : Jvm.MethodName) (Cond.code ({ cls := "StaveHouse$Study", name := "takeLines", desc := "(LStaveHouse$Piece;I)V" } : Jvm.MethodName) prog_11_method_6_code 6 (Option.none : Option Jvm.ClassFile.FieldType) :: wAll) ({ frames := 4, cells := 0, slots := 0, locals := 85 } : Room) (va_Pc [.ref (ad 9 l0 0), .ref (ad 6 l1 0), .int (iI l2)] (zPre D ca ad lnC K.2 L aS vS F B sz)) (Q_Study_takeLines K D ca ad L r F9 B9 (zA L sz)) 0 0 (zA L sz) := by
  refine zMet (Qc := Q_Study_takeLines K D ca ad L r F9 B9) (lv := [(0, .ref (ad 9 l0 0)), (1, .ref (ad 6 l1 0)), (2, .int (iI l2))]) (by decide) (Nat.le_of_ble_eq_true rfl) rfl (fun A p e s m below meth c ls X hZ hS hl => ?_)
  obtain ⟨hx, hb, hr, hml, hown, hts, hlk, hK, hA, hL, hX⟩ := id X
  replace hf : (f_Study_takeLines_2 K K.1 0 l0 l1 l2 F B) = some (r, F9, B9) := hf
  refine lv_iconst (v := iI 0) hx hb d_11_6_0 rfl ?_
  refine lv_istore_n (lv' := [(3, .int (iI 0)), (0, .ref (ad 9 l0 0)), (1, .ref (ad 6 l1 0)), (2, .int (iI l2))]) hx hb d_11_6_1 rfl hl (by decide) rfl (fun ls hl => ?_)
  exact b_Study_takeLines_2 X hf hZ hS (lv_sub hl [0, 1, 2, 3] rfl)

noncomputable abbrev Q_Performance_gather (K : zK) (D : va_G) (ca : Nat → ClassId) (ad : Nat → Int → Nat → Nat) (L : List Nat) (r : Int) (F : zF) (B : zB) (A : Nat → Prop) : Array Value → State → Outcome → State → Prop := va_Qv (S := Unit) (fun _ => True) (fun _ => zPo D ca ad lnC K.2 L F B A) A
noncomputable def f_Performance_gather_85 (rec17 : Int → Int → Int → zF → zB → zO) (K : zK) (l2 : Int) (l0 : Int) (l1 : Int) (F : zF) (B : zB) : zO := rec17 (l2 + 1) l0 l1 F B
set_option maxHeartbeats 4000000 in
set_option maxRecDepth 100000 in
theorem b_Performance_gather_85 {D : va_G} {ca : Nat → ClassId} {ad : Nat → Int → Nat → Nat} {L : List Nat} {aS vS : Nat → Nat} {A : Nat → Prop} {p : Program} {l : Launch} {e : Env} {s : State} {m : MethodId} {args : Array Value} {below : List Frame} {meth : Method} {c : Code} {K : zK} {r : Int} {F9 : zF} {B9 : zB} (X : zX D ca L aS vS A p s m args meth c prog_7_method_2_code 5 (Option.none : Option Jvm.ClassFile.FieldType) "StaveHouse$Performance") {rec17 : Int → Int → Int → zF → zB → zO} (hrec17 : ∀ {l2 : Int} {l0 : Int} {l1 : Int} {F : zF} {B : zB} {H : Heap} {locs : List Loc} {ls : Array Slot}, rec17 l2 l0 l1 F B = some (r, F9, B9) → zH D ca ad lnC K.2 L F B A H → va_S A s.heap H locs → lv_has ls 5 [(2, .int (iI l2)), (0, .ref (ad 5 l0 0)), (1, .ref (ad 6 l1 0))] → W p l e ({ frames := 4, cells := 0, slots := 0, locals := 97 } : Room) s m args below meth c H locs 0 0 (MQ below (Q_Performance_gather K D ca ad L r F9 B9 A) args s 0 0 A) (F0 m 17 ls [])) {l2 : Int} {l0 : Int} {l1 : Int} {F : zF} {B : zB} {H : Heap} {locs : List Loc} {ls : Array Slot} (hf : f_Performance_gather_85 rec17 K l2 l0 l1 F B = some (r, F9, B9)) (hZ : zH D ca ad lnC K.2 L F B A H) (hS : va_S A s.heap H locs) (hl : lv_has ls 5 [(2, .int (iI l2)), (0, .ref (ad 5 l0 0)), (1, .ref (ad 6 l1 0))]) : W p l e ({ frames := 4, cells := 0, slots := 0, locals := 97 } : Room) s m args below meth c H locs 0 0 (MQ below (Q_Performance_gather K D ca ad L r F9 B9 A) args s 0 0 A) (F0 m 85 ls []) := by
  obtain ⟨hx, hb, hr, hml, hown, hts, hlk, hK, hA, hL, hX⟩ := id X
  replace hf : (rec17 (l2 + 1) l0 l1 F B) = some (r, F9, B9) := hf
  refine lv_iinc (v := iI (l2 + 1)) (lv' := [(2, .int (iI (l2 + 1))), (0, .ref (ad 5 l0 0)), (1, .ref (ad 6 l1 0))]) hx hb d_7_2_85 hl (k := 0) rfl (iI_add _ 1) (by decide) rfl (fun ls hl => ?_)
  refine lv_goto (tgt := 17) hx hb d_7_2_88 (by decide) ?_
  exact hrec17 hf hZ hS (lv_sub hl [0, 1, 2] rfl)

noncomputable def f_Performance_gather_79 (rec17 : Int → Int → Int → zF → zB → zO) (rec35 : Int → Int → Int → Int → Int → zF → zB → zO) (K : zK) (l4 : Int) (l3 : Int) (l2 : Int) (l0 : Int) (l1 : Int) (F : zF) (B : zB) : zO := rec35 (l4 + 1) l3 l2 l0 l1 F B
set_option maxHeartbeats 4000000 in
set_option maxRecDepth 100000 in
theorem b_Performance_gather_79 {D : va_G} {ca : Nat → ClassId} {ad : Nat → Int → Nat → Nat} {L : List Nat} {aS vS : Nat → Nat} {A : Nat → Prop} {p : Program} {l : Launch} {e : Env} {s : State} {m : MethodId} {args : Array Value} {below : List Frame} {meth : Method} {c : Code} {K : zK} {r : Int} {F9 : zF} {B9 : zB} (X : zX D ca L aS vS A p s m args meth c prog_7_method_2_code 5 (Option.none : Option Jvm.ClassFile.FieldType) "StaveHouse$Performance") {rec17 : Int → Int → Int → zF → zB → zO} {rec35 : Int → Int → Int → Int → Int → zF → zB → zO} (hrec17 : ∀ {l2 : Int} {l0 : Int} {l1 : Int} {F : zF} {B : zB} {H : Heap} {locs : List Loc} {ls : Array Slot}, rec17 l2 l0 l1 F B = some (r, F9, B9) → zH D ca ad lnC K.2 L F B A H → va_S A s.heap H locs → lv_has ls 5 [(2, .int (iI l2)), (0, .ref (ad 5 l0 0)), (1, .ref (ad 6 l1 0))] → W p l e ({ frames := 4, cells := 0, slots := 0, locals := 97 } : Room) s m args below meth c H locs 0 0 (MQ below (Q_Performance_gather K D ca ad L r F9 B9 A) args s 0 0 A) (F0 m 17 ls [])) (hrec35 : ∀ {l4 : Int} {l3 : Int} {l2 : Int} {l0 : Int} {l1 : Int} {F : zF} {B : zB} {H : Heap} {locs : List Loc} {ls : Array Slot}, rec35 l4 l3 l2 l0 l1 F B = some (r, F9, B9) → zH D ca ad lnC K.2 L F B A H → va_S A s.heap H locs → lv_has ls 5 [(4, .int (iI l4)), (3, va_rf (zrf ad 4 l3)), (2, .int (iI l2)), (0, .ref (ad 5 l0 0)), (1, .ref (ad 6 l1 0))] → W p l e ({ frames := 4, cells := 0, slots := 0, locals := 97 } : Room) s m args below meth c H locs 0 0 (MQ below (Q_Performance_gather K D ca ad L r F9 B9 A) args s 0 0 A) (F0 m 35 ls [])) {l4 : Int} {l3 : Int} {l2 : Int} {l0 : Int} {l1 : Int} {F : zF} {B : zB} {H : Heap} {locs : List Loc} {ls : Array Slot} (hf : f_Performance_gather_79 rec17 rec35 K l4 l3 l2 l0 l1 F B = some (r, F9, B9)) (hZ : zH D ca ad lnC K.2 L F B A H) (hS : va_S A s.heap H locs) (hl : lv_has ls 5 [(4, .int (iI l4)), (3, va_rf (zrf ad 4 l3)), (2, .int (iI l2)), (0, .ref (ad 5 l0 0)), (1, .ref (ad 6 l1 0))]) : W p l e ({ frames := 4, cells := 0, slots := 0, locals := 97 } : Room) s m args below meth c H locs 0 0 (MQ below (Q_Performance_gather K D ca ad L r F9 B9 A) args s 0 0 A) (F0 m 79 ls []) := by
  obtain ⟨hx, hb, hr, hml, hown, hts, hlk, hK, hA, hL, hX⟩ := id X
  replace hf : (rec35 (l4 + 1) l3 l2 l0 l1 F B) = some (r, F9, B9) := hf
  refine lv_iinc (v := iI (l4 + 1)) (lv' := [(4, .int (iI (l4 + 1))), (3, va_rf (zrf ad 4 l3)), (2, .int (iI l2)), (0, .ref (ad 5 l0 0)), (1, .ref (ad 6 l1 0))]) hx hb d_7_2_79 hl (k := 0) rfl (iI_add _ 1) (by decide) (by cases zrf ad 4 l3 <;> rfl) (fun ls hl => ?_)
  refine lv_goto (tgt := 35) hx hb d_7_2_82 (by decide) ?_
  exact hrec35 hf hZ hS (lv_sub hl [0, 1, 2, 3, 4] rfl)

noncomputable def f_Performance_gather_35 (rec17 : Int → Int → Int → zF → zB → zO) (K : zK) : Nat → Int → Int → Int → Int → Int → zF → zB → zO
  | 0, _, _, _, _, _, _, _ => none
  | n + 1, l4, l3, l2, l0, l1, F, B => if 0 ≤ l3 ∧ l3 < K.2 4 then if r32 l4 then if r32 (F 4 l3 6) then (if (F 4 l3 6) ≤ l4 then f_Performance_gather_85 rec17 K l2 l0 l1 F B else if 0 ≤ l0 ∧ l0 < K.2 5 then if r32 (F 5 l0 1) then (if (F 5 l0 1) = 0 then zbind (f_Performance_isTrilled K l3 l4 F B) (fun r17 F17 B17 => if r32 r17 then (if r17 = 0 then zbind (f_Performance_soundAll K l0 l3 l2 l4 F17 B17) (fun r20 F20 B20 => f_Performance_gather_79 rec17 (f_Performance_gather_35 rec17 K n) K l4 l3 l2 l0 l1 F20 B20) else zbind (f_Performance_trill K l0 l1 l2 l4 F17 B17) (fun r21 F21 B21 => f_Performance_gather_79 rec17 (f_Performance_gather_35 rec17 K n) K l4 l3 l2 l0 l1 F21 B21)) else none) else f_Performance_gather_85 rec17 K l2 l0 l1 F B) else none else none) else none else none else none
