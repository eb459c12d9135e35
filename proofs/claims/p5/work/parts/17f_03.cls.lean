set_option maxHeartbeats 4000000 in
set_option maxRecDepth 100000 in
theorem b_Walker_addPitch_122 {D : va_G} {ca : Nat → ClassId} {ad : Nat → Int → Nat → Nat} {L : List Nat} {aS vS : Nat → Nat} {A : Nat → Prop} {p : Program} {l : Launch} {e : Env} {s : State} {m : MethodId} {args : Array Value} {below : List Frame} {meth : Method} {c : Code} {K : zK} {r : Int} {F9 : zF} {B9 : zB} (X : zX D ca L aS vS A p s m args meth c prog_13_method_14_code 7 (Option.none : Option Jvm.ClassFile.FieldType) "StaveHouse$Walker") {l5 : Int} {l4 : Int} {l3 : Int} {l0 : Int} {l1 : Int} {l2 : Int} {F : zF} {B : zB} {H : Heap} {locs : List Loc} {ls : Array Slot} (hf : f_Walker_addPitch_122 K l5 l4 l3 l0 l1 l2 F B = some (r, F9, B9)) (hZ : zH D ca ad lnC K.2 L F B A H) (hS : va_S A s.heap H locs) (hl : lv_has ls 7 [(5, .int (iI l5)), (4, .int (iI l4)), (3, .int (iI l3)), (0, .ref (ad 11 l0 0)), (1, .ref (ad 1 l1 0)), (2, .int (iI l2))]) : W p l e ({ frames := 2, cells := 0, slots := 0, locals := 42 } : Room) s m args below meth c H locs 0 0 (MQ below (Q_Walker_addPitch K D ca ad L r F9 B9 A) args s 0 0 A) (F0 m 122 ls []) := by
  obtain ⟨hx, hb, hr, hml, hown, hts, hlk, hK, hA, hL, hX⟩ := id X
  replace hf : (if r32 l5 then (if l5 = 0 then f_Walker_addPitch_142 K l0 l2 F B else zbind (f_S_naturalTone K l3 F B) (fun r21 F21 B21 => if 0 ≤ l1 ∧ l1 < K.2 1 then zbind (f_Event_insert K l1 l3 (l4 - r21) F21 B21) (fun r23 F23 B23 => if r32 r23 then (if r23 = 0 then f_Walker_addPitch_142 K l0 l2 F23 B23 else f_Walker_addPitch_157 K F23 B23) else none) else none)) else none) = some (r, F9, B9) := hf
  refine lv_iload hx hb d_13_14_122 (lv_at hl 0 rfl) ?_
  obtain ⟨g19, hf⟩ := gif hf
  refine z0eq (tgt := 142) hx hb g19 d_13_14_124 (by decide) (fun h20 => ?_) (fun h20 => ?_)
  · replace hf := gpos hf h20
    exact b_Walker_addPitch_142 X hf hZ hS (lv_sub hl [3, 5] rfl)
  · replace hf := gneg hf h20
    refine lv_aload_n hx hb d_13_14_127 rfl (lv_at hl 4 rfl) ?_
    refine lv_iload_n hx hb d_13_14_128 rfl (lv_at hl 2 rfl) ?_
    refine lv_iload hx hb d_13_14_129 (lv_at hl 1 rfl) ?_
    refine lv_iload_n hx hb d_13_14_131 rfl (lv_at hl 2 rfl) ?_
    obtain ⟨r21, F21, B21, hc21, hf⟩ := gbind hf
    refine va_calli (va_runSN (As := [.int (iI l3)]) (rest := [.int (iI l4), .int (iI l3), .ref (ad 1 l1 0)]) ⟨hx, hb, hml, hown, hts⟩ (c_S_naturalTone (l := l) hc21) ⟨va_cnB 1 hts (gdC k_4_64) rfl rfl rfl (hX.1 _ (List.mem_of_getElem? (i := 13) rfl)) (hts _ k_1_1) (by decide +kernel) ⟨Nat.le_of_ble_eq_true rfl, Nat.le_of_ble_eq_true rfl⟩, hts _ k_4_63, trivial⟩ (zPS X hZ hS [.int (iI l3)]) rfl rfl hl.1 rfl (lv_room (Nat.le_of_ble_eq_true rfl)) d_13_14_132 ⟨Nat.le_of_ble_eq_true rfl, Nat.le_of_ble_eq_true rfl⟩) hS (fun q _ h => zAin X hS q h) (zAin X hS) (fun p21 u21 t21 H21 locs21 ht21 hv21 hw21 hB21 hz21 hk21 hS21 => ?_)
    have hZ21 := zBack X ht21 hB21
    subst hw21
    refine zsub hx hb d_13_14_135 ?_
    obtain ⟨g22, hf⟩ := gif hf
    obtain ⟨r23, F23, B23, hc23, hf⟩ := gbind hf
    refine va_calli (va_runV (As := [.int (iI l3), .int (iI (l4 - r21))]) (rest := []) ⟨hx, hb, hml, hown, hts⟩ (c_Event_insert (l := l) hc23) (cwV 2 hts (gdV k_4_231 k_4_232 k_4_233 k_1_8 k_4_234) rfl rfl rfl (by decide +kernel) ⟨Nat.le_of_ble_eq_true rfl, Nat.le_of_ble_eq_true rfl⟩) (zPV X hZ21 hS21 (ci := 1) g22.1 g22.2 (r := (RX1, TX1, 14)) rfl [.int (iI l3), .int (iI (l4 - r21))]) rfl rfl hl.1 rfl (lv_room (Nat.le_of_ble_eq_true rfl)) d_13_14_136 ⟨Nat.le_of_ble_eq_true rfl, Nat.le_of_ble_eq_true rfl⟩) hS21 (fun q _ h => zAin X hS21 q h) (zAin X hS21) (fun p23 u23 t23 H23 locs23 ht23 hv23 hw23 hB23 hz23 hk23 hS23 => ?_)
    have hZ23 := zBack X ht23 hB23
    subst hw23
    obtain ⟨g24, hf⟩ := gif hf
    refine z0ne (tgt := 157) hx hb g24 d_13_14_139 (by decide) (fun h25 => ?_) (fun h25 => ?_)
    · replace hf := gneg hf h25
      exact b_Walker_addPitch_157 X hf hZ23 hS23 (lv_sub hl [] rfl)
    · replace hf := gpos hf h25
      exact b_Walker_addPitch_142 X hf hZ23 hS23 (lv_sub hl [3, 5] rfl)

noncomputable def f_Walker_addPitch_114 (rec37 : Int → Int → Int → Int → Int → Int → Int → zF → zB → zO) (K : zK) (l4 : Int) (l3 : Int) (l6 : Int) (l0 : Int) (l1 : Int) (l2 : Int) (s0 : Int) (F : zF) (B : zB) : zO := rec37 (l6 - 1) s0 l4 l3 l0 l1 l2 F B
set_option maxHeartbeats 4000000 in
set_option maxRecDepth 100000 in
theorem b_Walker_addPitch_114 {D : va_G} {ca : Nat → ClassId} {ad : Nat → Int → Nat → Nat} {L : List Nat} {aS vS : Nat → Nat} {A : Nat → Prop} {p : Program} {l : Launch} {e : Env} {s : State} {m : MethodId} {args : Array Value} {below : List Frame} {meth : Method} {c : Code} {K : zK} {r : Int} {F9 : zF} {B9 : zB} (X : zX D ca L aS vS A p s m args meth c prog_13_method_14_code 7 (Option.none : Option Jvm.ClassFile.FieldType) "StaveHouse$Walker") {rec37 : Int → Int → Int → Int → Int → Int → Int → zF → zB → zO} (hrec37 : ∀ {l6 : Int} {l5 : Int} {l4 : Int} {l3 : Int} {l0 : Int} {l1 : Int} {l2 : Int} {F : zF} {B : zB} {H : Heap} {locs : List Loc} {ls : Array Slot}, rec37 l6 l5 l4 l3 l0 l1 l2 F B = some (r, F9, B9) → zH D ca ad lnC K.2 L F B A H → va_S A s.heap H locs → lv_has ls 7 [(6, .int (iI l6)), (5, .int (iI l5)), (4, .int (iI l4)), (3, .int (iI l3)), (0, .ref (ad 11 l0 0)), (1, .ref (ad 1 l1 0)), (2, .int (iI l2))] → W p l e ({ frames := 2, cells := 0, slots := 0, locals := 42 } : Room) s m args below meth c H locs 0 0 (MQ below (Q_Walker_addPitch K D ca ad L r F9 B9 A) args s 0 0 A) (F0 m 37 ls [])) {l4 : Int} {l3 : Int} {l6 : Int} {l0 : Int} {l1 : Int} {l2 : Int} {s0 : Int} {F : zF} {B : zB} {H : Heap} {locs : List Loc} {ls : Array Slot} (hf : f_Walker_addPitch_114 rec37 K l4 l3 l6 l0 l1 l2 s0 F B = some (r, F9, B9)) (hZ : zH D ca ad lnC K.2 L F B A H) (hS : va_S A s.heap H locs) (hl : lv_has ls 7 [(4, .int (iI l4)), (3, .int (iI l3)), (6, .int (iI l6)), (0, .ref (ad 11 l0 0)), (1, .ref (ad 1 l1 0)), (2, .int (iI l2))]) : W p l e ({ frames := 2, cells := 0, slots := 0, locals := 42 } : Room) s m args below meth c H locs 0 0 (MQ below (Q_Walker_addPitch K D ca ad L r F9 B9 A) args s 0 0 A) (F0 m 114 ls [.int (iI s0)]) := by
  obtain ⟨hx, hb, hr, hml, hown, hts, hlk, hK, hA, hL, hX⟩ := id X
  replace hf : (rec37 (l6 - 1) s0 l4 l3 l0 l1 l2 F B) = some (r, F9, B9) := hf
  refine lv_istore (lv' := [(5, .int (iI s0)), (4, .int (iI l4)), (3, .int (iI l3)), (6, .int (iI l6)), (0, .ref (ad 11 l0 0)), (1, .ref (ad 1 l1 0)), (2, .int (iI l2))]) hx hb d_13_14_114 hl (by decide) rfl (fun ls hl => ?_)
  refine lv_iinc (v := iI (l6 - 1)) (lv' := [(6, .int (iI (l6 - 1))), (5, .int (iI s0)), (4, .int (iI l4)), (3, .int (iI l3)), (0, .ref (ad 11 l0 0)), (1, .ref (ad 1 l1 0)), (2, .int (iI l2))]) hx hb d_13_14_116 hl (k := 3) rfl (by rw [show Int32.ofInt (-1) = iI (-1) from rfl, iI_add]; congr 1) (by decide) rfl (fun ls hl => ?_)
  refine lv_goto (tgt := 37) hx hb d_13_14_119 (by decide) ?_
  exact hrec37 hf hZ hS (lv_sub hl [0, 1, 2, 3, 4, 5, 6] rfl)

noncomputable def f_Walker_addPitch_113 (rec37 : Int → Int → Int → Int → Int → Int → Int → zF → zB → zO) (K : zK) (l4 : Int) (l3 : Int) (l6 : Int) (l0 : Int) (l1 : Int) (l2 : Int) (F : zF) (B : zB) : zO := f_Walker_addPitch_114 rec37 K l4 l3 l6 l0 l1 l2 0 F B
set_option maxHeartbeats 4000000 in
set_option maxRecDepth 100000 in
theorem b_Walker_addPitch_113 {D : va_G} {ca : Nat → ClassId} {ad : Nat → Int → Nat → Nat} {L : List Nat} {aS vS : Nat → Nat} {A : Nat → Prop} {p : Program} {l : Launch} {e : Env} {s : State} {m : MethodId} {args : Array Value} {below : List Frame} {meth : Method} {c : Code} {K : zK} {r : Int} {F9 : zF} {B9 : zB} (X : zX D ca L aS vS A p s m args meth c prog_13_method_14_code 7 (Option.none : Option Jvm.ClassFile.FieldType) "StaveHouse$Walker") {rec37 : Int → Int → Int → Int → Int → Int → Int → zF → zB → zO} (hrec37 : ∀ {l6 : Int} {l5 : Int} {l4 : Int} {l3 : Int} {l0 : Int} {l1 : Int} {l2 : Int} {F : zF} {B : zB} {H : Heap} {locs : List Loc} {ls : Array Slot}, rec37 l6 l5 l4 l3 l0 l1 l2 F B = some (r, F9, B9) → zH D ca ad lnC K.2 L F B A H → va_S A s.heap H locs → lv_has ls 7 [(6, .int (iI l6)), (5, .int (iI l5)), (4, .int (iI l4)), (3, .int (iI l3)), (0, .ref (ad 11 l0 0)), (1, .ref (ad 1 l1 0)), (2, .int (iI l2))] → W p l e ({ frames := 2, cells := 0, slots := 0, locals := 42 } : Room) s m args below meth c H locs 0 0 (MQ below (Q_Walker_addPitch K D ca ad L r F9 B9 A) args s 0 0 A) (F0 m 37 ls [])) {l4 : Int} {l3 : Int} {l6 : Int} {l0 : Int} {l1 : Int} {l2 : Int} {F : zF} {B : zB} {H : Heap} {locs : List Loc} {ls : Array Slot} (hf : f_Walker_addPitch_113 rec37 K l4 l3 l6 l0 l1 l2 F B = some (r, F9, B9)) (hZ : zH D ca ad lnC K.2 L F B A H) (hS : va_S A s.heap H locs) (hl : lv_has ls 7 [(4, .int (iI l4)), (3, .int (iI l3)), (6, .int (iI l6)), (0, .ref (ad 11 l0 0)), (1, .ref (ad 1 l1 0)), (2, .int (iI l2))]) : W p l e ({ frames := 2, cells := 0, slots := 0, locals := 42 } : Room) s m args below meth c H locs 0 0 (MQ below (Q_Walker_addPitch K D ca ad L r F9 B9 A) args s 0 0 A) (F0 m 113 ls []) := by
  obtain ⟨hx, hb, hr, hml, hown, hts, hlk, hK, hA, hL, hX⟩ := id X
  replace hf : (f_Walker_addPitch_114 rec37 K l4 l3 l6 l0 l1 l2 0 F B) = some (r, F9, B9) := hf
  refine lv_iconst (v := iI 0) hx hb d_13_14_113 rfl ?_
  exact b_Walker_addPitch_114 X hrec37 hf hZ hS (lv_sub hl [0, 1, 2, 3, 4, 5] rfl)

noncomputable def f_Walker_addPitch_37 (K : zK) : Nat → Int → Int → Int → Int → Int → Int → Int → zF → zB → zO
  | 0, _, _, _, _, _, _, _, _, _ => none
  | n + 1, l6, l5, l4, l3, l0, l1, l2, F, B => if r32 l6 then (if l6 < 0 then f_Walker_addPitch_122 K l5 l4 l3 l0 l1 l2 F B else if r32 l5 then (if l5 = 0 then f_Walker_addPitch_122 K l5 l4 l3 l0 l1 l2 F B else if 0 ≤ l0 ∧ l0 < K.2 11 then if 0 ≤ l6 ∧ l6 < 64 then if r32 ((B 11 l0 16 l6) + ((B 11 l0 15 l6) * l3)) then (if ((B 11 l0 16 l6) + ((B 11 l0 15 l6) * l3)) < 0 then f_Walker_addPitch_113 (f_Walker_addPitch_37 K n) K ((B 11 l0 17 l6) + ((B 11 l0 15 l6) * l4)) ((B 11 l0 16 l6) + ((B 11 l0 15 l6) * l3)) l6 l0 l1 l2 F B else (if 63 ≤ ((B 11 l0 16 l6) + ((B 11 l0 15 l6) * l3)) then f_Walker_addPitch_113 (f_Walker_addPitch_37 K n) K ((B 11 l0 17 l6) + ((B 11 l0 15 l6) * l4)) ((B 11 l0 16 l6) + ((B 11 l0 15 l6) * l3)) l6 l0 l1 l2 F B else zbind (f_S_naturalTone K ((B 11 l0 16 l6) + ((B 11 l0 15 l6) * l3)) F B) (fun r15 F15 B15 => if r32 (((B 11 l0 17 l6) + ((B 11 l0 15 l6) * l4)) - r15) then if r32 (zabs (((B 11 l0 17 l6) + ((B 11 l0 15 l6) * l4)) - r15)) then (if 2 < (zabs (((B 11 l0 17 l6) + ((B 11 l0 15 l6) * l4)) - r15)) then f_Walker_addPitch_113 (f_Walker_addPitch_37 K n) K ((B 11 l0 17 l6) + ((B 11 l0 15 l6) * l4)) ((B 11 l0 16 l6) + ((B 11 l0 15 l6) * l3)) l6 l0 l1 l2 F15 B15 else f_Walker_addPitch_114 (f_Walker_addPitch_37 K n) K ((B 11 l0 17 l6) + ((B 11 l0 15 l6) * l4)) ((B 11 l0 16 l6) + ((B 11 l0 15 l6) * l3)) l6 l0 l1 l2 1 F15 B15) else none else none))) else none else none else none) else none) else none
set_option maxHeartbeats 4000000 in
set_option maxRecDepth 100000 in
theorem b_Walker_addPitch_37 {D : va_G} {ca : Nat → ClassId} {ad : Nat → Int → Nat → Nat} {L : List Nat} {aS vS : Nat → Nat} {A : Nat → Prop} {p : Program} {l : Launch} {e : Env} {s : State} {m : MethodId} {args : Array Value} {below : List Frame} {meth : Method} {c : Code} {K : zK} {r : Int} {F9 : zF} {B9 : zB} (X : zX D ca L aS vS A p s m args meth c prog_13_method_14_code 7 (Option.none : Option Jvm.ClassFile.FieldType) "StaveHouse$Walker") : ∀ {n : Nat} {l6 : Int} {l5 : Int} {l4 : Int} {l3 : Int} {l0 : Int} {l1 : Int} {l2 : Int} {F : zF} {B : zB} {H : Heap} {locs : List Loc} {ls : Array Slot}, f_Walker_addPitch_37 K n l6 l5 l4 l3 l0 l1 l2 F B = some (r, F9, B9) → zH D ca ad lnC K.2 L F B A H → va_S A s.heap H locs → lv_has ls 7 [(6, .int (iI l6)), (5, .int (iI l5)), (4, .int (iI l4)), (3, .int (iI l3)), (0, .ref (ad 11 l0 0)), (1, .ref (ad 1 l1 0)), (2, .int (iI l2))] → W p l e ({ frames := 2, cells := 0, slots := 0, locals := 42 } : Room) s m args below meth c H locs 0 0 (MQ below (Q_Walker_addPitch K D ca ad L r F9 B9 A) args s 0 0 A) (F0 m 37 ls []) := by
  obtain ⟨hx, hb, hr, hml, hown, hts, hlk, hK, hA, hL, hX⟩ := id X
  intro n
  induction n with
  | zero =>
    intros
    rename_i hf _ _ _
    cases hf
  | succ n ih =>
    intro l6 l5 l4 l3 l0 l1 l2 F B H locs ls hf hZ hS hl
    replace hf : (if r32 l6 then (if l6 < 0 then f_Walker_addPitch_122 K l5 l4 l3 l0 l1 l2 F B else if r32 l5 then (if l5 = 0 then f_Walker_addPitch_122 K l5 l4 l3 l0 l1 l2 F B else if 0 ≤ l0 ∧ l0 < K.2 11 then if 0 ≤ l6 ∧ l6 < 64 then if r32 ((B 11 l0 16 l6) + ((B 11 l0 15 l6) * l3)) then (if ((B 11 l0 16 l6) + ((B 11 l0 15 l6) * l3)) < 0 then f_Walker_addPitch_113 (f_Walker_addPitch_37 K n) K ((B 11 l0 17 l6) + ((B 11 l0 15 l6) * l4)) ((B 11 l0 16 l6) + ((B 11 l0 15 l6) * l3)) l6 l0 l1 l2 F B else (if 63 ≤ ((B 11 l0 16 l6) + ((B 11 l0 15 l6) * l3)) then f_Walker_addPitch_113 (f_Walker_addPitch_37 K n) K ((B 11 l0 17 l6) + ((B 11 l0 15 l6) * l4)) ((B 11 l0 16 l6) + ((B 11 l0 15 l6) * l3)) l6 l0 l1 l2 F B else zbind (f_S_naturalTone K ((B 11 l0 16 l6) + ((B 11 l0 15 l6) * l3)) F B) (fun r15 F15 B15 => if r32 (((B 11 l0 17 l6) + ((B 11 l0 15 l6) * l4)) - r15) then if r32 (zabs (((B 11 l0 17 l6) + ((B 11 l0 15 l6) * l4)) - r15)) then (if 2 < (zabs (((B 11 l0 17 l6) + ((B 11 l0 15 l6) * l4)) - r15)) then f_Walker_addPitch_113 (f_Walker_addPitch_37 K n) K ((B 11 l0 17 l6) + ((B 11 l0 15 l6) * l4)) ((B 11 l0 16 l6) + ((B 11 l0 15 l6) * l3)) l6 l0 l1 l2 F15 B15 else f_Walker_addPitch_114 (f_Walker_addPitch_37 K n) K ((B 11 l0 17 l6) + ((B 11 l0 15 l6) * l4)) ((B 11 l0 16 l6) + ((B 11 l0 15 l6) * l3)) l6 l0 l1 l2 1 F15 B15) else none else none))) else none else none else none) else none) else none) = some (r, F9, B9) := hf
    refine lv_iload hx hb d_13_14_37 (lv_at hl 0 rfl) ?_
    obtain ⟨g6, hf⟩ := gif hf
    refine z0lt (tgt := 122) hx hb g6 d_13_14_39 (by decide) (fun h7 => ?_) (fun h7 => ?_)
    · replace hf := gpos hf h7
      exact b_Walker_addPitch_122 X hf hZ hS (lv_sub hl [1, 2, 3, 4, 5, 6] rfl)
    · replace hf := gneg hf h7
      refine lv_iload hx hb d_13_14_42 (lv_at hl 1 rfl) ?_
      obtain ⟨g8, hf⟩ := gif hf
      refine z0eq (tgt := 122) hx hb g8 d_13_14_44 (by decide) (fun h9 => ?_) (fun h9 => ?_)
      · replace hf := gpos hf h9
        exact b_Walker_addPitch_122 X hf hZ hS (lv_sub hl [1, 2, 3, 4, 5, 6] rfl)
      · replace hf := gneg hf h9
        refine lv_aload_n hx hb d_13_14_47 rfl (lv_at hl 4 rfl) ?_
        obtain ⟨g10, hf⟩ := gif hf
        refine zget (ci := 11) (C := RX11) (T := TX11) (v := .ref (ad 11 l0 (16 + 1))) (k := 16) hx hb hts inW_11 hown hK hZ g10.1 g10.2 rfl (by decide) k_1_206 rfl d_13_14_48 ?_
        refine lv_iload hx hb d_13_14_51 (lv_at hl 0 rfl) ?_
        obtain ⟨g11, hf⟩ := gif hf
        refine zald (ci := 11) (k := 16) hx hb hK rfl hZ g10.1 g10.2 rfl (Nat.le_of_ble_eq_true rfl) g11.1 g11.2 d_13_14_53 ?_
        refine lv_aload_n hx hb d_13_14_54 rfl (lv_at hl 4 rfl) ?_
        refine zget (ci := 11) (C := RX11) (T := TX11) (v := .ref (ad 11 l0 (15 + 1))) (k := 15) hx hb hts inW_11 hown hK hZ g10.1 g10.2 rfl (by decide) k_1_205 rfl d_13_14_55 ?_
        refine lv_iload hx hb d_13_14_58 (lv_at hl 0 rfl) ?_
        refine zald (ci := 11) (k := 15) hx hb hK rfl hZ g10.1 g10.2 rfl (Nat.le_of_ble_eq_true rfl) g11.1 g11.2 d_13_14_60 ?_
        refine lv_iload_n hx hb d_13_14_61 rfl (lv_at hl 3 rfl) ?_
        refine zmul hx hb d_13_14_62 ?_
        refine zadd hx hb d_13_14_63 ?_
        refine lv_istore_n (lv' := [(3, .int (iI ((B 11 l0 16 l6) + ((B 11 l0 15 l6) * l3)))), (6, .int (iI l6)), (5, .int (iI l5)), (4, .int (iI l4)), (0, .ref (ad 11 l0 0)), (1, .ref (ad 1 l1 0)), (2, .int (iI l2))]) hx hb d_13_14_64 rfl hl (by decide) rfl (fun ls hl => ?_)
        refine lv_aload_n hx hb d_13_14_65 rfl (lv_at hl 4 rfl) ?_
        refine zget (ci := 11) (C := RX11) (T := TX11) (v := .ref (ad 11 l0 (17 + 1))) (k := 17) hx hb hts inW_11 hown hK hZ g10.1 g10.2 rfl (by decide) k_1_207 rfl d_13_14_66 ?_
        refine lv_iload hx hb d_13_14_69 (lv_at hl 1 rfl) ?_
        refine zald (ci := 11) (k := 17) hx hb hK rfl hZ g10.1 g10.2 rfl (Nat.le_of_ble_eq_true rfl) g11.1 g11.2 d_13_14_71 ?_
        refine lv_aload_n hx hb d_13_14_72 rfl (lv_at hl 4 rfl) ?_
        refine zget (ci := 11) (C := RX11) (T := TX11) (v := .ref (ad 11 l0 (15 + 1))) (k := 15) hx hb hts inW_11 hown hK hZ g10.1 g10.2 rfl (by decide) k_1_205 rfl d_13_14_73 ?_
        refine lv_iload hx hb d_13_14_76 (lv_at hl 1 rfl) ?_
        refine zald (ci := 11) (k := 15) hx hb hK rfl hZ g10.1 g10.2 rfl (Nat.le_of_ble_eq_true rfl) g11.1 g11.2 d_13_14_78 ?_
        refine lv_iload hx hb d_13_14_79 (lv_at hl 3 rfl) ?_
        refine zmul hx hb d_13_14_81 ?_
        refine zadd hx hb d_13_14_82 ?_
        refine lv_istore (lv' := [(4, .int (iI ((B 11 l0 17 l6) + ((B 11 l0 15 l6) * l4)))), (3, .int (iI ((B 11 l0 16 l6) + ((B 11 l0 15 l6) * l3)))), (6, .int (iI l6)), (5, .int (iI l5)), (0, .ref (ad 11 l0 0)), (1, .ref (ad 1 l1 0)), (2, .int (iI l2))]) hx hb d_13_14_83 hl (by decide) rfl (fun ls hl => ?_)
        refine lv_iload_n hx hb d_13_14_85 rfl (lv_at hl 1 rfl) ?_
        obtain ⟨g12, hf⟩ := gif hf
        refine z0lt (tgt := 113) hx hb g12 d_13_14_86 (by decide) (fun h13 => ?_) (fun h13 => ?_)
        · replace hf := gpos hf h13
          exact b_Walker_addPitch_113 X ih hf hZ hS (lv_sub hl [0, 1, 2, 4, 5, 6] rfl)
        · replace hf := gneg hf h13
          refine lv_iload_n hx hb d_13_14_89 rfl (lv_at hl 1 rfl) ?_
          refine lv_bipush (v := iI 63) hx hb d_13_14_90 (by decide) ?_
          refine zge (tgt := 113) hx hb g12 (by decide) d_13_14_92 (by decide) (fun h14 => ?_) (fun h14 => ?_)
          · replace hf := gpos hf h14
            exact b_Walker_addPitch_113 X ih hf hZ hS (lv_sub hl [0, 1, 2, 4, 5, 6] rfl)
          · replace hf := gneg hf h14
            refine lv_iload hx hb d_13_14_95 (lv_at hl 0 rfl) ?_
            refine lv_iload_n hx hb d_13_14_97 rfl (lv_at hl 1 rfl) ?_
            obtain ⟨r15, F15, B15, hc15, hf⟩ := gbind hf
            refine va_calli (va_runSN (As := [.int (iI ((B 11 l0 16 l6) + ((B 11 l0 15 l6) * l3)))]) (rest := [.int (iI ((B 11 l0 17 l6) + ((B 11 l0 15 l6) * l4)))]) ⟨hx, hb, hml, hown, hts⟩ (c_S_naturalTone (l := l) hc15) ⟨va_cnB 1 hts (gdC k_4_64) rfl rfl rfl (hX.1 _ (List.mem_of_getElem? (i := 13) rfl)) (hts _ k_1_1) (by decide +kernel) ⟨Nat.le_of_ble_eq_true rfl, Nat.le_of_ble_eq_true rfl⟩, hts _ k_4_63, trivial⟩ (zPS X hZ hS [.int (iI ((B 11 l0 16 l6) + ((B 11 l0 15 l6) * l3)))]) rfl rfl hl.1 rfl (lv_room (Nat.le_of_ble_eq_true rfl)) d_13_14_98 ⟨Nat.le_of_ble_eq_true rfl, Nat.le_of_ble_eq_true rfl⟩) hS (fun q _ h => zAin X hS q h) (zAin X hS) (fun p15 u15 t15 H15 locs15 ht15 hv15 hw15 hB15 hz15 hk15 hS15 => ?_)
            have hZ15 := zBack X ht15 hB15
            subst hw15
            refine zsub hx hb d_13_14_101 ?_
            obtain ⟨g16, hf⟩ := gif hf
            refine va_mabs hx hb (by rw [hml]; exact hl.1.symm) hown (hts _ k_4_228) (hts _ k_4_229) (hts _ k_1_3) (hts _ k_4_230) (Nat.le_of_ble_eq_true rfl) (Nat.le_of_ble_eq_true rfl) (Nat.le_of_ble_eq_true rfl) (Nat.le_of_ble_eq_true rfl) d_13_14_102 ?_
            rw [zabs_e g16]
            refine lv_iconst (v := iI 2) hx hb d_13_14_105 rfl ?_
            obtain ⟨g17, hf⟩ := gif hf
            refine zgt (tgt := 113) hx hb g17 (by decide) d_13_14_106 (by decide) (fun h18 => ?_) (fun h18 => ?_)
            · replace hf := gpos hf h18
              exact b_Walker_addPitch_113 X ih hf hZ15 hS15 (lv_sub hl [0, 1, 2, 4, 5, 6] rfl)
            · replace hf := gneg hf h18
              refine lv_iconst (v := iI 1) hx hb d_13_14_109 rfl ?_
              refine lv_goto (tgt := 114) hx hb d_13_14_110 (by decide) ?_
              exact b_Walker_addPitch_114 X ih hf hZ15 hS15 (lv_sub hl [0, 1, 2, 4, 5, 6] rfl)

noncomputable def f_Walker_addPitch (K : zK) (l0 : Int) (l1 : Int) (l2 : Int) (F : zF) (B : zB) : zO := if 0 ≤ l0 ∧ l0 < K.2 11 then if 0 ≤ (F 11 l0 0) ∧ (F 11 l0 0) < K.2 3 then if 0 ≤ l2 ∧ l2 < 1500 then zbind (f_S_naturalTone K (B 3 (F 11 l0 0) 8 l2) F B) (fun r4 F4 B4 => if 0 ≤ (F4 11 l0 0) ∧ (F4 11 l0 0) < K.2 3 then f_Walker_addPitch_37 K K.1 ((F4 11 l0 18) - 1) 1 (r4 + (B4 3 (F4 11 l0 0) 9 l2)) (B 3 (F 11 l0 0) 8 l2) l0 l1 l2 F4 B4 else none) else none else none else none
set_option maxHeartbeats 4000000 in
set_option maxRecDepth 100000 in
theorem c_Walker_addPitch {l : Launch} {D : va_G} {ca : Nat → ClassId} {ad : Nat → Int → Nat → Nat} {L : List Nat} {aS vS : Nat → Nat} {sz : Nat} {K : zK}  {l0 : Int} {l1 : Int} {l2 : Int} {F F9 : zF} {B B9 : zB} {r : Int} (hf : f_Walker_addPitch K l0 l1 l2 F B = some (r, F9, B9)) : Met l ({ cls := "StaveHouse$Walker", name := "addPitch", desc := "(LStaveHouse$Event;I)V" } : Jvm.MethodName) (Cond.code ({ cls := "StaveHouse$Walker", name := "addPitch", desc := "(LStaveHouse$Event;I)V" } : Jvm.MethodName) prog_13_method_14_code 7 (Option.none : Option Jvm.ClassFile.FieldType) :: wAll) ({ frames := 2, cells := 0, slots := 0, locals := 42 } : Room) (va_Pc [.ref (ad 11 l0 0), .ref (ad 1 l1 0), .int (iI l2)] (zPre D ca ad lnC K.2 L aS vS F B sz)) (Q_Walker_addPitch K D ca ad L r F9 B9 (zA L sz)) 0 0 (zA L sz) := by
  refine zMet (Qc := Q_Walker_addPitch K D ca ad L r F9 B9) (lv := [(0, .ref (ad 11 l0 0)), (1, .ref (ad 1 l1 0)), (2, .int (iI l2))]) (by decide) (Nat.le_of_ble_eq_true rfl) rfl (fun A p e s m below meth c ls X hZ hS hl => ?_)
  obtain ⟨hx, hb, hr, hml, hown, hts, hlk, hK, hA, hL, hX⟩ := id X
  replace hf : (if 0 ≤ l0 ∧ l0 < K.2 11 then if 0 ≤ (F 11 l0 0) ∧ (F 11 l0 0) < K.2 3 then if 0 ≤ l2 ∧ l2 < 1500 then zbind (f_S_naturalTone K (B 3 (F 11 l0 0) 8 l2) F B) (fun r4 F4 B4 => if 0 ≤ (F4 11 l0 0) ∧ (F4 11 l0 0) < K.2 3 then f_Walker_addPitch_37 K K.1 ((F4 11 l0 18) - 1) 1 (r4 + (B4 3 (F4 11 l0 0) 9 l2)) (B 3 (F 11 l0 0) 8 l2) l0 l1 l2 F4 B4 else none) else none else none else none) = some (r, F9, B9) := hf
  refine lv_aload_n hx hb d_13_14_0 rfl (lv_at hl 0 rfl) ?_
  obtain ⟨g1, hf⟩ := gif hf
  refine zget (ci := 11) (C := RX11) (T := TX11) (v := va_rf (zrf ad 3 (F 11 l0 0))) (k := 0) hx hb hts inW_11 hown hK hZ g1.1 g1.2 rfl (by decide) k_1_190 rfl d_13_14_1 ?_
  obtain ⟨g2, hf⟩ := gif hf
  refine zunrf g2.1 ?_
  refine zget (ci := 3) (C := RX3) (T := TX3) (v := .ref (ad 3 (F 11 l0 0) (8 + 1))) (k := 8) hx hb hts inW_3 hown hK hZ g2.1 g2.2 rfl (by decide) k_1_123 rfl d_13_14_4 ?_
  refine lv_iload_n hx hb d_13_14_7 rfl (lv_at hl 2 rfl) ?_
  obtain ⟨g3, hf⟩ := gif hf
  refine zald (ci := 3) (k := 8) hx hb hK rfl hZ g2.1 g2.2 rfl (Nat.le_of_ble_eq_true rfl) g3.1 g3.2 d_13_14_8 ?_
  refine lv_istore_n (lv' := [(3, .int (iI (B 3 (F 11 l0 0) 8 l2))), (0, .ref (ad 11 l0 0)), (1, .ref (ad 1 l1 0)), (2, .int (iI l2))]) hx hb d_13_14_9 rfl hl (by decide) rfl (fun ls hl => ?_)
  refine lv_iload_n hx hb d_13_14_10 rfl (lv_at hl 0 rfl) ?_
  obtain ⟨r4, F4, B4, hc4, hf⟩ := gbind hf
  refine va_calli (va_runSN (As := [.int (iI (B 3 (F 11 l0 0) 8 l2))]) (rest := []) ⟨hx, hb, hml, hown, hts⟩ (c_S_naturalTone (l := l) hc4) ⟨va_cnB 1 hts (gdC k_4_64) rfl rfl rfl (hX.1 _ (List.mem_of_getElem? (i := 13) rfl)) (hts _ k_1_1) (by decide +kernel) ⟨Nat.le_of_ble_eq_true rfl, Nat.le_of_ble_eq_true rfl⟩, hts _ k_4_63, trivial⟩ (zPS X hZ hS [.int (iI (B 3 (F 11 l0 0) 8 l2))]) rfl rfl hl.1 rfl (lv_room (Nat.le_of_ble_eq_true rfl)) d_13_14_11 ⟨Nat.le_of_ble_eq_true rfl, Nat.le_of_ble_eq_true rfl⟩) hS (fun q _ h => zAin X hS q h) (zAin X hS) (fun p4 u4 t4 H4 locs4 ht4 hv4 hw4 hB4 hz4 hk4 hS4 => ?_)
  have hZ4 := zBack X ht4 hB4
  subst hw4
  refine lv_aload_n hx hb d_13_14_14 rfl (lv_at hl 1 rfl) ?_
  refine zget (ci := 11) (C := RX11) (T := TX11) (v := va_rf (zrf ad 3 (F4 11 l0 0))) (k := 0) hx hb hts inW_11 hown hK hZ4 g1.1 g1.2 rfl (by decide) k_1_190 rfl d_13_14_15 ?_
  obtain ⟨g5, hf⟩ := gif hf
  refine zunrf g5.1 ?_
  refine zget (ci := 3) (C := RX3) (T := TX3) (v := .ref (ad 3 (F4 11 l0 0) (9 + 1))) (k := 9) hx hb hts inW_3 hown hK hZ4 g5.1 g5.2 rfl (by decide) k_1_125 rfl d_13_14_18 ?_
  refine lv_iload_n hx hb d_13_14_21 rfl (lv_at hl 3 rfl) ?_
  refine zald (ci := 3) (k := 9) hx hb hK rfl hZ4 g5.1 g5.2 rfl (Nat.le_of_ble_eq_true rfl) g3.1 g3.2 d_13_14_22 ?_
  refine zadd hx hb d_13_14_23 ?_
  refine lv_istore (lv' := [(4, .int (iI (r4 + (B4 3 (F4 11 l0 0) 9 l2)))), (3, .int (iI (B 3 (F 11 l0 0) 8 l2))), (0, .ref (ad 11 l0 0)), (1, .ref (ad 1 l1 0)), (2, .int (iI l2))]) hx hb d_13_14_24 hl (by decide) rfl (fun ls hl => ?_)
  refine lv_iconst (v := iI 1) hx hb d_13_14_26 rfl ?_
  refine lv_istore (lv' := [(5, .int (iI 1)), (4, .int (iI (r4 + (B4 3 (F4 11 l0 0) 9 l2)))), (3, .int (iI (B 3 (F 11 l0 0) 8 l2))), (0, .ref (ad 11 l0 0)), (1, .ref (ad 1 l1 0)), (2, .int (iI l2))]) hx hb d_13_14_27 hl (by decide) rfl (fun ls hl => ?_)
  refine lv_aload_n hx hb d_13_14_29 rfl (lv_at hl 3 rfl) ?_
  refine zget (ci := 11) (C := RX11) (T := TX11) (v := .int (iI (F4 11 l0 18))) (k := 18) hx hb hts inW_11 hown hK hZ4 g1.1 g1.2 rfl (by decide) k_1_208 rfl d_13_14_30 ?_
  refine lv_iconst (v := iI 1) hx hb d_13_14_33 rfl ?_
  refine zsub hx hb d_13_14_34 ?_
  refine lv_istore (lv' := [(6, .int (iI ((F4 11 l0 18) - 1))), (5, .int (iI 1)), (4, .int (iI (r4 + (B4 3 (F4 11 l0 0) 9 l2)))), (3, .int (iI (B 3 (F 11 l0 0) 8 l2))), (0, .ref (ad 11 l0 0)), (1, .ref (ad 1 l1 0)), (2, .int (iI l2))]) hx hb d_13_14_35 hl (by decide) rfl (fun ls hl => ?_)
  exact b_Walker_addPitch_37 X hf hZ4 hS4 (lv_sub hl [0, 1, 2, 3, 4, 5, 6] rfl)

noncomputable abbrev Q_Part_turn (K : zK) (D : va_G) (ca : Nat → ClassId) (ad : Nat → Int → Nat → Nat) (L : List Nat) (r : Int) (F : zF) (B : zB) (A : Nat → Prop) : Array Value → State → Outcome → State → Prop := va_Qv (S := Unit) (fun _ => True) (fun _ => zPo D ca ad lnC K.2 L F B A) A
noncomputable def f_Part_turn_149 (rec53 : Int → Int → zF → zB → zO) (K : zK) (l4 : Int) (l3 : Int) (l0 : Int) (s0 : Int) (s1 : Int) (F : zF) (B : zB) : zO := if 0 ≤ l4 ∧ l4 < K.2 1 then rec53 (l3 + 1) l0 (zup3 F 1 l4 7 (zor s0 s1)) B else none
set_option maxHeartbeats 4000000 in
set_option maxRecDepth 100000 in
theorem b_Part_turn_149 {D : va_G} {ca : Nat → ClassId} {ad : Nat → Int → Nat → Nat} {L : List Nat} {aS vS : Nat → Nat} {A : Nat → Prop} {p : Program} {l : Launch} {e : Env} {s : State} {m : MethodId} {args : Array Value} {below : List Frame} {meth : Method} {c : Code} {K : zK} {r : Int} {F9 : zF} {B9 : zB} (X : zX D ca L aS vS A p s m args meth c prog_6_method_3_code 6 (Option.none : Option Jvm.ClassFile.FieldType) "StaveHouse$Part") {rec53 : Int → Int → zF → zB → zO} (hrec53 : ∀ {l3 : Int} {l0 : Int} {F : zF} {B : zB} {H : Heap} {locs : List Loc} {ls : Array Slot}, rec53 l3 l0 F B = some (r, F9, B9) → zH D ca ad lnC K.2 L F B A H → va_S A s.heap H locs → lv_has ls 6 [(3, .int (iI l3)), (0, .ref (ad 4 l0 0))] → W p l e ({ frames := 1, cells := 0, slots := 0, locals := 21 } : Room) s m args below meth c H locs 0 0 (MQ below (Q_Part_turn K D ca ad L r F9 B9 A) args s 0 0 A) (F0 m 53 ls [])) {l4 : Int} {l3 : Int} {l0 : Int} {s0 : Int} {s1 : Int} {F : zF} {B : zB} {H : Heap} {locs : List Loc} {ls : Array Slot} (hf : f_Part_turn_149 rec53 K l4 l3 l0 s0 s1 F B = some (r, F9, B9)) (hZ : zH D ca ad lnC K.2 L F B A H) (hS : va_S A s.heap H locs) (hl : lv_has ls 6 [(4, va_rf (zrf ad 1 l4)), (3, .int (iI l3)), (0, .ref (ad 4 l0 0))]) : W p l e ({ frames := 1, cells := 0, slots := 0, locals := 21 } : Room) s m args below meth c H locs 0 0 (MQ below (Q_Part_turn K D ca ad L r F9 B9 A) args s 0 0 A) (F0 m 149 ls [.int (iI s1), .int (iI s0)]) := by
  obtain ⟨hx, hb, hr, hml, hown, hts, hlk, hK, hA, hL, hX⟩ := id X
  replace hf : (if 0 ≤ l4 ∧ l4 < K.2 1 then rec53 (l3 + 1) l0 (zup3 F 1 l4 7 (zor s0 s1)) B else none) = some (r, F9, B9) := hf
  refine zor_r hx hb d_6_3_149 ?_
  refine lv_istore (lv' := [(5, .int (iI (zor s0 s1))), (4, va_rf (zrf ad 1 l4)), (3, .int (iI l3)), (0, .ref (ad 4 l0 0))]) hx hb d_6_3_150 hl (by decide) (by cases zrf ad 1 l4 <;> rfl) (fun ls hl => ?_)
  refine zaload hx hb d_6_3_152 (lv_at hl 1 rfl) ?_
  refine lv_iload hx hb d_6_3_154 (lv_at hl 0 rfl) ?_
  obtain ⟨g35, hf⟩ := gif hf
  refine W.eq (g2 := F0 m 156 ls [.int (iI (zor s0 s1)), .ref (ad 1 l4 0)]) (by rw [zrf_pos (ad := ad) (t := 1) g35.1]; try rfl) ?_
  refine zput (ci := 1) (C := RX1) (T := TX1) (k := 7) (v := (zor s0 s1)) (w := .int (iI (zor s0 s1))) hx hb hts inW_1 tyX1 tyX1_ok nmX1 hown hK hZ hS g35.1 g35.2 rfl (by decide) k_2_39 rfl (fun G h => congrArg (fun q => Value.int (iI q)) h) rfl rfl (zno (by decide)) d_6_3_156 (fun H36 locs36 hZ36 hS36 => ?_)
  refine lv_iinc (v := iI (l3 + 1)) (lv' := [(3, .int (iI (l3 + 1))), (5, .int (iI (zor s0 s1))), (4, va_rf (zrf ad 1 l4)), (0, .ref (ad 4 l0 0))]) hx hb d_6_3_159 hl (k := 2) rfl (iI_add _ 1) (by decide) rfl (fun ls hl => ?_)
  refine lv_goto (tgt := 53) hx hb d_6_3_162 (by decide) ?_
  exact hrec53 hf hZ36 hS36 (lv_sub hl [0, 3] rfl)

noncomputable def f_Part_turn_148 (rec53 : Int → Int → zF → zB → zO) (K : zK) (l4 : Int) (l3 : Int) (l0 : Int) (s0 : Int) (F : zF) (B : zB) : zO := f_Part_turn_149 rec53 K l4 l3 l0 s0 0 F B
set_option maxHeartbeats 4000000 in
set_option maxRecDepth 100000 in
theorem b_Part_turn_148 {D : va_G} {ca : Nat → ClassId} {ad : Nat → Int → Nat → Nat} {L : List Nat} {aS vS : Nat → Nat} {A : Nat → Prop} {p : Program} {l : Launch} {e : Env} {s : State} {m : MethodId} {args : Array Value} {below : List Frame} {meth : Method} {c : Code} {K : zK} {r : Int} {F9 : zF} {B9 : zB} (X : zX D ca L aS vS A p s m args meth c prog_6_method_3_code 6 (Option.none : Option Jvm.ClassFile.FieldType) "StaveHouse$Part") {rec53 : Int → Int → zF → zB → zO} (hrec53 : ∀ {l3 : Int} {l0 : Int} {F : zF} {B : zB} {H : Heap} {locs : List Loc} {ls : Array Slot}, rec53 l3 l0 F B = some (r, F9, B9) → zH D ca ad lnC K.2 L F B A H → va_S A s.heap H locs → lv_has ls 6 [(3, .int (iI l3)), (0, .ref (ad 4 l0 0))] → W p l e ({ frames := 1, cells := 0, slots := 0, locals := 21 } : Room) s m args below meth c H locs 0 0 (MQ below (Q_Part_turn K D ca ad L r F9 B9 A) args s 0 0 A) (F0 m 53 ls [])) {l4 : Int} {l3 : Int} {l0 : Int} {s0 : Int} {F : zF} {B : zB} {H : Heap} {locs : List Loc} {ls : Array Slot} (hf : f_Part_turn_148 rec53 K l4 l3 l0 s0 F B = some (r, F9, B9)) (hZ : zH D ca ad lnC K.2 L F B A H) (hS : va_S A s.heap H locs) (hl : lv_has ls 6 [(4, va_rf (zrf ad 1 l4)), (3, .int (iI l3)), (0, .ref (ad 4 l0 0))]) : W p l e ({ frames := 1, cells := 0, slots := 0, locals := 21 } : Room) s m args below meth c H locs 0 0 (MQ below (Q_Part_turn K D ca ad L r F9 B9 A) args s 0 0 A) (F0 m 148 ls [.int (iI s0)]) := by
  obtain ⟨hx, hb, hr, hml, hown, hts, hlk, hK, hA, hL, hX⟩ := id X
  replace hf : (f_Part_turn_149 rec53 K l4 l3 l0 s0 0 F B) = some (r, F9, B9) := hf
  refine lv_iconst (v := iI 0) hx hb d_6_3_148 rfl ?_
  exact b_Part_turn_149 X hrec53 hf hZ hS (lv_sub hl [0, 1, 2] rfl)

noncomputable def f_Part_turn_114 (rec53 : Int → Int → zF → zB → zO) (K : zK) (l4 : Int) (l3 : Int) (l0 : Int) (s0 : Int) (s1 : Int) (F : zF) (B : zB) : zO := if 0 ≤ l0 ∧ l0 < K.2 4 then if r32 (l3 + 1) then if r32 (F 4 l0 6) then (if (F 4 l0 6) ≤ (l3 + 1) then f_Part_turn_148 rec53 K l4 l3 l0 (zor s0 s1) F B else if 0 ≤ (l3 + 1) ∧ (l3 + 1) < 200 then if 0 ≤ (B 4 l0 5 (l3 + 1)) ∧ (B 4 l0 5 (l3 + 1)) < K.2 1 then zbind (f_Event_has K (B 4 l0 5 (l3 + 1)) 1 F B) (fun r31 F31 B31 => if r32 r31 then (if r31 = 0 then f_Part_turn_148 rec53 K l4 l3 l0 (zor s0 s1) F31 B31 else f_Part_turn_149 rec53 K l4 l3 l0 (zor s0 s1) 1 F31 B31) else none) else none else none) else none else none else none
set_option maxHeartbeats 4000000 in
set_option maxRecDepth 100000 in
theorem b_Part_turn_114 {D : va_G} {ca : Nat → ClassId} {ad : Nat → Int → Nat → Nat} {L : List Nat} {aS vS : Nat → Nat} {A : Nat → Prop} {p : Program} {l : Launch} {e : Env} {s : State} {m : MethodId} {args : Array Value} {below : List Frame} {meth : Method} {c : Code} {K : zK} {r : Int} {F9 : zF} {B9 : zB} (X : zX D ca L aS vS A p s m args meth c prog_6_method_3_code 6 (Option.none : Option Jvm.ClassFile.FieldType) "StaveHouse$Part") {rec53 : Int → Int → zF → zB → zO} (hrec53 : ∀ {l3 : Int} {l0 : Int} {F : zF} {B : zB} {H : Heap} {locs : List Loc} {ls : Array Slot}, rec53 l3 l0 F B = some (r, F9, B9) → zH D ca ad lnC K.2 L F B A H → va_S A s.heap H locs → lv_has ls 6 [(3, .int (iI l3)), (0, .ref (ad 4 l0 0))] → W p l e ({ frames := 1, cells := 0, slots := 0, locals := 21 } : Room) s m args below meth c H locs 0 0 (MQ below (Q_Part_turn K D ca ad L r F9 B9 A) args s 0 0 A) (F0 m 53 ls [])) {l4 : Int} {l3 : Int} {l0 : Int} {s0 : Int} {s1 : Int} {F : zF} {B : zB} {H : Heap} {locs : List Loc} {ls : Array Slot} (hf : f_Part_turn_114 rec53 K l4 l3 l0 s0 s1 F B = some (r, F9, B9)) (hZ : zH D ca ad lnC K.2 L F B A H) (hS : va_S A s.heap H locs) (hl : lv_has ls 6 [(4, va_rf (zrf ad 1 l4)), (3, .int (iI l3)), (0, .ref (ad 4 l0 0))]) : W p l e ({ frames := 1, cells := 0, slots := 0, locals := 21 } : Room) s m args below meth c H locs 0 0 (MQ below (Q_Part_turn K D ca ad L r F9 B9 A) args s 0 0 A) (F0 m 114 ls [.int (iI s1), .int (iI s0)]) := by
  obtain ⟨hx, hb, hr, hml, hown, hts, hlk, hK, hA, hL, hX⟩ := id X
  replace hf : (if 0 ≤ l0 ∧ l0 < K.2 4 then if r32 (l3 + 1) then if r32 (F 4 l0 6) then (if (F 4 l0 6) ≤ (l3 + 1) then f_Part_turn_148 rec53 K l4 l3 l0 (zor s0 s1) F B else if 0 ≤ (l3 + 1) ∧ (l3 + 1) < 200 then if 0 ≤ (B 4 l0 5 (l3 + 1)) ∧ (B 4 l0 5 (l3 + 1)) < K.2 1 then zbind (f_Event_has K (B 4 l0 5 (l3 + 1)) 1 F B) (fun r31 F31 B31 => if r32 r31 then (if r31 = 0 then f_Part_turn_148 rec53 K l4 l3 l0 (zor s0 s1) F31 B31 else f_Part_turn_149 rec53 K l4 l3 l0 (zor s0 s1) 1 F31 B31) else none) else none else none) else none else none else none) = some (r, F9, B9) := hf
  refine zor_r hx hb d_6_3_114 ?_
  refine lv_istore (lv' := [(5, .int (iI (zor s0 s1))), (4, va_rf (zrf ad 1 l4)), (3, .int (iI l3)), (0, .ref (ad 4 l0 0))]) hx hb d_6_3_115 hl (by decide) (by cases zrf ad 1 l4 <;> rfl) (fun ls hl => ?_)
  refine lv_iload hx hb d_6_3_117 (lv_at hl 0 rfl) ?_
  refine lv_iload_n hx hb d_6_3_119 rfl (lv_at hl 2 rfl) ?_
  refine lv_iconst (v := iI 1) hx hb d_6_3_120 rfl ?_
  refine zadd hx hb d_6_3_121 ?_
  refine lv_aload_n hx hb d_6_3_122 rfl (lv_at hl 3 rfl) ?_
  obtain ⟨g25, hf⟩ := gif hf
  refine zget (ci := 4) (C := RX4) (T := TX4) (v := .int (iI (F 4 l0 6))) (k := 6) hx hb hts inW_4 hown hK hZ g25.1 g25.2 rfl (by decide) k_4_135 rfl d_6_3_123 ?_
  obtain ⟨g26, hf⟩ := gif hf
  obtain ⟨g27, hf⟩ := gif hf
  refine zge (tgt := 148) hx hb g26 g27 d_6_3_126 (by decide) (fun h28 => ?_) (fun h28 => ?_)
  · replace hf := gpos hf h28
    exact b_Part_turn_148 X hrec53 hf hZ hS (lv_sub hl [1, 2, 3] rfl)
  · replace hf := gneg hf h28
    refine lv_aload_n hx hb d_6_3_129 rfl (lv_at hl 3 rfl) ?_
    refine zget (ci := 4) (C := RX4) (T := TX4) (v := .ref (ad 4 l0 (5 + 1))) (k := 5) hx hb hts inW_4 hown hK hZ g25.1 g25.2 rfl (by decide) k_4_130 rfl d_6_3_130 ?_
    refine lv_iload_n hx hb d_6_3_133 rfl (lv_at hl 2 rfl) ?_
    refine lv_iconst (v := iI 1) hx hb d_6_3_134 rfl ?_
    refine zadd hx hb d_6_3_135 ?_
    obtain ⟨g29, hf⟩ := gif hf
    refine zaldR (t := 1) (x := 7) (ci := 4) (k := 5) hx hb hK rfl rfl hZ g25.1 g25.2 rfl (Nat.le_of_ble_eq_true rfl) g29.1 g29.2 d_6_3_136 ?_
    refine lv_iconst (v := iI 1) hx hb d_6_3_137 rfl ?_
    obtain ⟨g30, hf⟩ := gif hf
    refine W.eq (g2 := F0 m 138 ls [.int (iI 1), .ref (ad 1 (B 4 l0 5 (l3 + 1)) 0), .int (iI (zor s0 s1))]) (by rw [zrf_pos (ad := ad) (t := 1) g30.1]; try rfl) ?_
    obtain ⟨r31, F31, B31, hc31, hf⟩ := gbind hf
    refine va_calli (va_runV (As := [.int (iI 1)]) (rest := [.int (iI (zor s0 s1))]) ⟨hx, hb, hml, hown, hts⟩ (c_Event_has (l := l) hc31) (cwV 1 hts (gdV k_5_15 k_5_16 k_5_17 k_1_8 k_5_18) rfl rfl rfl (by decide +kernel) ⟨Nat.le_of_ble_eq_true rfl, Nat.le_of_ble_eq_true rfl⟩) (zPV X hZ hS (ci := 1) g30.1 g30.2 (r := (RX1, TX1, 14)) rfl [.int (iI 1)]) rfl rfl hl.1 rfl (lv_room (Nat.le_of_ble_eq_true rfl)) d_6_3_138 ⟨Nat.le_of_ble_eq_true rfl, Nat.le_of_ble_eq_true rfl⟩) hS (fun q _ h => zAin X hS q h) (zAin X hS) (fun p31 u31 t31 H31 locs31 ht31 hv31 hw31 hB31 hz31 hk31 hS31 => ?_)
    have hZ31 := zBack X ht31 hB31
    subst hw31
    obtain ⟨g33, hf⟩ := gif hf
    refine z0eq (tgt := 148) hx hb g33 d_6_3_141 (by decide) (fun h34 => ?_) (fun h34 => ?_)
    · replace hf := gpos hf h34
      exact b_Part_turn_148 X hrec53 hf hZ31 hS31 (lv_sub hl [1, 2, 3] rfl)
    · replace hf := gneg hf h34
      refine lv_iconst (v := iI 1) hx hb d_6_3_144 rfl ?_
      refine lv_goto (tgt := 149) hx hb d_6_3_145 (by decide) ?_
      exact b_Part_turn_149 X hrec53 hf hZ31 hS31 (lv_sub hl [1, 2, 3] rfl)

noncomputable def f_Part_turn_95 (rec53 : Int → Int → zF → zB → zO) (K : zK) (l4 : Int) (l3 : Int) (l0 : Int) (s0 : Int) (s1 : Int) (F : zF) (B : zB) : zO := if 0 ≤ l4 ∧ l4 < K.2 1 then zbind (f_Event_has K l4 4 F B) (fun r22 F22 B22 => if r32 r22 then (if r22 = 0 then f_Part_turn_114 rec53 K l4 l3 l0 (zor s0 s1) 0 F22 B22 else f_Part_turn_114 rec53 K l4 l3 l0 (zor s0 s1) 2 F22 B22) else none) else none
set_option maxHeartbeats 4000000 in
set_option maxRecDepth 100000 in
theorem b_Part_turn_95 {D : va_G} {ca : Nat → ClassId} {ad : Nat → Int → Nat → Nat} {L : List Nat} {aS vS : Nat → Nat} {A : Nat → Prop} {p : Program} {l : Launch} {e : Env} {s : State} {m : MethodId} {args : Array Value} {below : List Frame} {meth : Method} {c : Code} {K : zK} {r : Int} {F9 : zF} {B9 : zB} (X : zX D ca L aS vS A p s m args meth c prog_6_method_3_code 6 (Option.none : Option Jvm.ClassFile.FieldType) "StaveHouse$Part") {rec53 : Int → Int → zF → zB → zO} (hrec53 : ∀ {l3 : Int} {l0 : Int} {F : zF} {B : zB} {H : Heap} {locs : List Loc} {ls : Array Slot}, rec53 l3 l0 F B = some (r, F9, B9) → zH D ca ad lnC K.2 L F B A H → va_S A s.heap H locs → lv_has ls 6 [(3, .int (iI l3)), (0, .ref (ad 4 l0 0))] → W p l e ({ frames := 1, cells := 0, slots := 0, locals := 21 } : Room) s m args below meth c H locs 0 0 (MQ below (Q_Part_turn K D ca ad L r F9 B9 A) args s 0 0 A) (F0 m 53 ls [])) {l4 : Int} {l3 : Int} {l0 : Int} {s0 : Int} {s1 : Int} {F : zF} {B : zB} {H : Heap} {locs : List Loc} {ls : Array Slot} (hf : f_Part_turn_95 rec53 K l4 l3 l0 s0 s1 F B = some (r, F9, B9)) (hZ : zH D ca ad lnC K.2 L F B A H) (hS : va_S A s.heap H locs) (hl : lv_has ls 6 [(4, va_rf (zrf ad 1 l4)), (3, .int (iI l3)), (0, .ref (ad 4 l0 0))]) : W p l e ({ frames := 1, cells := 0, slots := 0, locals := 21 } : Room) s m args below meth c H locs 0 0 (MQ below (Q_Part_turn K D ca ad L r F9 B9 A) args s 0 0 A) (F0 m 95 ls [.int (iI s1), .int (iI s0)]) := by
  obtain ⟨hx, hb, hr, hml, hown, hts, hlk, hK, hA, hL, hX⟩ := id X
  replace hf : (if 0 ≤ l4 ∧ l4 < K.2 1 then zbind (f_Event_has K l4 4 F B) (fun r22 F22 B22 => if r32 r22 then (if r22 = 0 then f_Part_turn_114 rec53 K l4 l3 l0 (zor s0 s1) 0 F22 B22 else f_Part_turn_114 rec53 K l4 l3 l0 (zor s0 s1) 2 F22 B22) else none) else none) = some (r, F9, B9) := hf
  refine zor_r hx hb d_6_3_95 ?_
  refine lv_istore (lv' := [(5, .int (iI (zor s0 s1))), (4, va_rf (zrf ad 1 l4)), (3, .int (iI l3)), (0, .ref (ad 4 l0 0))]) hx hb d_6_3_96 hl (by decide) (by cases zrf ad 1 l4 <;> rfl) (fun ls hl => ?_)
  refine lv_iload hx hb d_6_3_98 (lv_at hl 0 rfl) ?_
  refine zaload hx hb d_6_3_100 (lv_at hl 1 rfl) ?_
  refine lv_iconst (v := iI 4) hx hb d_6_3_102 rfl ?_
  obtain ⟨g21, hf⟩ := gif hf
  refine W.eq (g2 := F0 m 103 ls [.int (iI 4), .ref (ad 1 l4 0), .int (iI (zor s0 s1))]) (by rw [zrf_pos (ad := ad) (t := 1) g21.1]; try rfl) ?_
  obtain ⟨r22, F22, B22, hc22, hf⟩ := gbind hf
  refine va_calli (va_runV (As := [.int (iI 4)]) (rest := [.int (iI (zor s0 s1))]) ⟨hx, hb, hml, hown, hts⟩ (c_Event_has (l := l) hc22) (cwV 1 hts (gdV k_5_15 k_5_16 k_5_17 k_1_8 k_5_18) rfl rfl rfl (by decide +kernel) ⟨Nat.le_of_ble_eq_true rfl, Nat.le_of_ble_eq_true rfl⟩) (zPV X hZ hS (ci := 1) g21.1 g21.2 (r := (RX1, TX1, 14)) rfl [.int (iI 4)]) rfl rfl hl.1 rfl (lv_room (Nat.le_of_ble_eq_true rfl)) d_6_3_103 ⟨Nat.le_of_ble_eq_true rfl, Nat.le_of_ble_eq_true rfl⟩) hS (fun q _ h => zAin X hS q h) (zAin X hS) (fun p22 u22 t22 H22 locs22 ht22 hv22 hw22 hB22 hz22 hk22 hS22 => ?_)
  have hZ22 := zBack X ht22 hB22
  subst hw22
  obtain ⟨g23, hf⟩ := gif hf
  refine z0eq (tgt := 113) hx hb g23 d_6_3_106 (by decide) (fun h24 => ?_) (fun h24 => ?_)
  · replace hf := gpos hf h24
    refine lv_iconst (v := iI 0) hx hb d_6_3_113 rfl ?_
    exact b_Part_turn_114 X hrec53 hf hZ22 hS22 (lv_sub hl [1, 2, 3] rfl)
  · replace hf := gneg hf h24
    refine lv_iconst (v := iI 2) hx hb d_6_3_109 rfl ?_
    refine lv_goto (tgt := 114) hx hb d_6_3_110 (by decide) ?_
    exact b_Part_turn_114 X hrec53 hf hZ22 hS22 (lv_sub hl [1, 2, 3] rfl)

noncomputable def f_Part_turn_53 (K : zK) : Nat → Int → Int → zF → zB → zO
  | 0, _, _, _, _ => none
  | n + 1, l3, l0, F, B => if 0 ≤ l0 ∧ l0 < K.2 4 then if r32 l3 then if r32 (F 4 l0 6) then (if (F 4 l0 6) ≤ l3 then some (0, F, B) else if 0 ≤ l3 ∧ l3 < 200 then if 0 ≤ (B 4 l0 5 l3) ∧ (B 4 l0 5 l3) < K.2 1 then zbind (f_Event_has K (B 4 l0 5 l3) 2 F B) (fun r18 F18 B18 => if r32 r18 then (if r18 = 0 then f_Part_turn_95 (f_Part_turn_53 K n) K (B 4 l0 5 l3) l3 l0 (zand (F 1 (B 4 l0 5 l3) 7) (-8)) 0 F18 B18 else f_Part_turn_95 (f_Part_turn_53 K n) K (B 4 l0 5 l3) l3 l0 (zand (F 1 (B 4 l0 5 l3) 7) (-8)) 4 F18 B18) else none) else none else none) else none else none else none
set_option maxHeartbeats 4000000 in
set_option maxRecDepth 100000 in
theorem b_Part_turn_53 {D : va_G} {ca : Nat → ClassId} {ad : Nat → Int → Nat → Nat} {L : List Nat} {aS vS : Nat → Nat} {A : Nat → Prop} {p : Program} {l : Launch} {e : Env} {s : State} {m : MethodId} {args : Array Value} {below : List Frame} {meth : Method} {c : Code} {K : zK} {r : Int} {F9 : zF} {B9 : zB} (X : zX D ca L aS vS A p s m args meth c prog_6_method_3_code 6 (Option.none : Option Jvm.ClassFile.FieldType) "StaveHouse$Part") : ∀ {n : Nat} {l3 : Int} {l0 : Int} {F : zF} {B : zB} {H : Heap} {locs : List Loc} {ls : Array Slot}, f_Part_turn_53 K n l3 l0 F B = some (r, F9, B9) → zH D ca ad lnC K.2 L F B A H → va_S A s.heap H locs → lv_has ls 6 [(3, .int (iI l3)), (0, .ref (ad 4 l0 0))] → W p l e ({ frames := 1, cells := 0, slots := 0, locals := 21 } : Room) s m args below meth c H locs 0 0 (MQ below (Q_Part_turn K D ca ad L r F9 B9 A) args s 0 0 A) (F0 m 53 ls []) := by
  obtain ⟨hx, hb, hr, hml, hown, hts, hlk, hK, hA, hL, hX⟩ := id X
  intro n
  induction n with
  | zero =>
    intros
    rename_i hf _ _ _
    cases hf
  | succ n ih =>
    intro l3 l0 F B H locs ls hf hZ hS hl
    replace hf : (if 0 ≤ l0 ∧ l0 < K.2 4 then if r32 l3 then if r32 (F 4 l0 6) then (if (F 4 l0 6) ≤ l3 then some (0, F, B) else if 0 ≤ l3 ∧ l3 < 200 then if 0 ≤ (B 4 l0 5 l3) ∧ (B 4 l0 5 l3) < K.2 1 then zbind (f_Event_has K (B 4 l0 5 l3) 2 F B) (fun r18 F18 B18 => if r32 r18 then (if r18 = 0 then f_Part_turn_95 (f_Part_turn_53 K n) K (B 4 l0 5 l3) l3 l0 (zand (F 1 (B 4 l0 5 l3) 7) (-8)) 0 F18 B18 else f_Part_turn_95 (f_Part_turn_53 K n) K (B 4 l0 5 l3) l3 l0 (zand (F 1 (B 4 l0 5 l3) 7) (-8)) 4 F18 B18) else none) else none else none) else none else none else none) = some (r, F9, B9) := hf
    refine lv_iload_n hx hb d_6_3_53 rfl (lv_at hl 0 rfl) ?_
    refine lv_aload_n hx hb d_6_3_54 rfl (lv_at hl 1 rfl) ?_
    obtain ⟨g12, hf⟩ := gif hf
    refine zget (ci := 4) (C := RX4) (T := TX4) (v := .int (iI (F 4 l0 6))) (k := 6) hx hb hts inW_4 hown hK hZ g12.1 g12.2 rfl (by decide) k_4_135 rfl d_6_3_55 ?_
    obtain ⟨g13, hf⟩ := gif hf
    obtain ⟨g14, hf⟩ := gif hf
    refine zge (tgt := 165) hx hb g13 g14 d_6_3_58 (by decide) (fun h15 => ?_) (fun h15 => ?_)
    · replace hf := gpos hf h15
      cases hf
      exact W.vret hx hb hr (fun t ht hW => ⟨⟨(), rfl, trivial, by rw [ht]; exact hZ, va_K.moved hW.alike hK⟩, hS.F ht⟩) hS.2.2 d_6_3_165 hlk
    · replace hf := gneg hf h15
      refine lv_aload_n hx hb d_6_3_61 rfl (lv_at hl 1 rfl) ?_
      refine zget (ci := 4) (C := RX4) (T := TX4) (v := .ref (ad 4 l0 (5 + 1))) (k := 5) hx hb hts inW_4 hown hK hZ g12.1 g12.2 rfl (by decide) k_4_130 rfl d_6_3_62 ?_
      refine lv_iload_n hx hb d_6_3_65 rfl (lv_at hl 0 rfl) ?_
      obtain ⟨g16, hf⟩ := gif hf
      refine zaldR (t := 1) (x := 7) (ci := 4) (k := 5) hx hb hK rfl rfl hZ g12.1 g12.2 rfl (Nat.le_of_ble_eq_true rfl) g16.1 g16.2 d_6_3_66 ?_
      refine zastore (lv' := [(3, .int (iI l3)), (0, .ref (ad 4 l0 0))]) hx hb d_6_3_67 hl (by decide) (fun _ _ => rfl) (fun ls hl => ?_)
      refine zaload hx hb d_6_3_69 (lv_at hl 0 rfl) ?_
      obtain ⟨g17, hf⟩ := gif hf
      refine zunrf g17.1 ?_
      refine zget (ci := 1) (C := RX1) (T := TX1) (v := .int (iI (F 1 (B 4 l0 5 l3) 7))) (k := 7) hx hb hts inW_1 hown hK hZ g17.1 g17.2 rfl (by decide) k_2_39 rfl d_6_3_71 ?_
      refine lv_bipush (v := iI (-8)) hx hb d_6_3_74 (by decide) ?_
      refine zand_r hx hb d_6_3_76 ?_
      refine lv_istore (lv' := [(5, .int (iI (zand (F 1 (B 4 l0 5 l3) 7) (-8)))), (4, va_rf (zrf ad 1 (B 4 l0 5 l3))), (3, .int (iI l3)), (0, .ref (ad 4 l0 0))]) hx hb d_6_3_77 hl (by decide) (by cases zrf ad 1 (B 4 l0 5 l3) <;> rfl) (fun ls hl => ?_)
      refine lv_iload hx hb d_6_3_79 (lv_at hl 0 rfl) ?_
      refine zaload hx hb d_6_3_81 (lv_at hl 1 rfl) ?_
      refine lv_iconst (v := iI 2) hx hb d_6_3_83 rfl ?_
      refine W.eq (g2 := F0 m 84 ls [.int (iI 2), .ref (ad 1 (B 4 l0 5 l3) 0), .int (iI (zand (F 1 (B 4 l0 5 l3) 7) (-8)))]) (by rw [zrf_pos (ad := ad) (t := 1) g17.1]; try rfl) ?_
      obtain ⟨r18, F18, B18, hc18, hf⟩ := gbind hf
      refine va_calli (va_runV (As := [.int (iI 2)]) (rest := [.int (iI (zand (F 1 (B 4 l0 5 l3) 7) (-8)))]) ⟨hx, hb, hml, hown, hts⟩ (c_Event_has (l := l) hc18) (cwV 1 hts (gdV k_5_15 k_5_16 k_5_17 k_1_8 k_5_18) rfl rfl rfl (by decide +kernel) ⟨Nat.le_of_ble_eq_true rfl, Nat.le_of_ble_eq_true rfl⟩) (zPV X hZ hS (ci := 1) g17.1 g17.2 (r := (RX1, TX1, 14)) rfl [.int (iI 2)]) rfl rfl hl.1 rfl (lv_room (Nat.le_of_ble_eq_true rfl)) d_6_3_84 ⟨Nat.le_of_ble_eq_true rfl, Nat.le_of_ble_eq_true rfl⟩) hS (fun q _ h => zAin X hS q h) (zAin X hS) (fun p18 u18 t18 H18 locs18 ht18 hv18 hw18 hB18 hz18 hk18 hS18 => ?_)
      have hZ18 := zBack X ht18 hB18
      subst hw18
      obtain ⟨g19, hf⟩ := gif hf
      refine z0eq (tgt := 94) hx hb g19 d_6_3_87 (by decide) (fun h20 => ?_) (fun h20 => ?_)
      · replace hf := gpos hf h20
        refine lv_iconst (v := iI 0) hx hb d_6_3_94 rfl ?_
        exact b_Part_turn_95 X ih hf hZ18 hS18 (lv_sub hl [1, 2, 3] rfl)
      · replace hf := gneg hf h20
        refine lv_iconst (v := iI 4) hx hb d_6_3_90 rfl ?_
        refine lv_goto (tgt := 95) hx hb d_6_3_91 (by decide) ?_
        exact b_Part_turn_95 X ih hf hZ18 hS18 (lv_sub hl [1, 2, 3] rfl)

noncomputable def f_Part_turn_9 (K : zK) : Nat → Int → Int → Int → Int → zF → zB → zO
  | 0, _, _, _, _, _, _ => none
  | n + 1, l3, l2, l0, l1, F, B => if r32 l2 then if r32 l3 then (if l3 ≤ l2 then f_Part_turn_53 K K.1 l1 l0 F B else if 0 ≤ l0 ∧ l0 < K.2 4 then if 0 ≤ l2 ∧ l2 < 200 then if 0 ≤ l3 ∧ l3 < 200 then if 0 ≤ (B 4 l0 5 l3) ∧ (B 4 l0 5 l3) < K.2 1 then if 0 ≤ (B 4 l0 5 l2) ∧ (B 4 l0 5 l2) < K.2 1 then f_Part_turn_9 K n (l3 - 1) (l2 + 1) l0 l1 F (zup4 (zup4 B 4 l0 5 l2 (B 4 l0 5 l3)) 4 l0 5 l3 (B 4 l0 5 l2)) else none else none else none else none else none) else none else none
set_option maxHeartbeats 4000000 in
set_option maxRecDepth 100000 in
theorem b_Part_turn_9 {D : va_G} {ca : Nat → ClassId} {ad : Nat → Int → Nat → Nat} {L : List Nat} {aS vS : Nat → Nat} {A : Nat → Prop} {p : Program} {l : Launch} {e : Env} {s : State} {m : MethodId} {args : Array Value} {below : List Frame} {meth : Method} {c : Code} {K : zK} {r : Int} {F9 : zF} {B9 : zB} (X : zX D ca L aS vS A p s m args meth c prog_6_method_3_code 6 (Option.none : Option Jvm.ClassFile.FieldType) "StaveHouse$Part") : ∀ {n : Nat} {l3 : Int} {l2 : Int} {l0 : Int} {l1 : Int} {F : zF} {B : zB} {H : Heap} {locs : List Loc} {ls : Array Slot}, f_Part_turn_9 K n l3 l2 l0 l1 F B = some (r, F9, B9) → zH D ca ad lnC K.2 L F B A H → va_S A s.heap H locs → lv_has ls 6 [(3, .int (iI l3)), (2, .int (iI l2)), (0, .ref (ad 4 l0 0)), (1, .int (iI l1))] → W p l e ({ frames := 1, cells := 0, slots := 0, locals := 21 } : Room) s m args below meth c H locs 0 0 (MQ below (Q_Part_turn K D ca ad L r F9 B9 A) args s 0 0 A) (F0 m 9 ls []) := by
  obtain ⟨hx, hb, hr, hml, hown, hts, hlk, hK, hA, hL, hX⟩ := id X
  intro n
  induction n with
  | zero =>
    intros
    rename_i hf _ _ _
    cases hf
  | succ n ih =>
    intro l3 l2 l0 l1 F B H locs ls hf hZ hS hl
    replace hf : (if r32 l2 then if r32 l3 then (if l3 ≤ l2 then f_Part_turn_53 K K.1 l1 l0 F B else if 0 ≤ l0 ∧ l0 < K.2 4 then if 0 ≤ l2 ∧ l2 < 200 then if 0 ≤ l3 ∧ l3 < 200 then if 0 ≤ (B 4 l0 5 l3) ∧ (B 4 l0 5 l3) < K.2 1 then if 0 ≤ (B 4 l0 5 l2) ∧ (B 4 l0 5 l2) < K.2 1 then f_Part_turn_9 K n (l3 - 1) (l2 + 1) l0 l1 F (zup4 (zup4 B 4 l0 5 l2 (B 4 l0 5 l3)) 4 l0 5 l3 (B 4 l0 5 l2)) else none else none else none else none else none) else none else none) = some (r, F9, B9) := hf
    refine lv_iload_n hx hb d_6_3_9 rfl (lv_at hl 1 rfl) ?_
    refine lv_iload_n hx hb d_6_3_10 rfl (lv_at hl 0 rfl) ?_
    obtain ⟨g2, hf⟩ := gif hf
    obtain ⟨g3, hf⟩ := gif hf
    refine zge (tgt := 51) hx hb g2 g3 d_6_3_11 (by decide) (fun h4 => ?_) (fun h4 => ?_)
    · replace hf := gpos hf h4
      refine lv_iload_n hx hb d_6_3_51 rfl (lv_at hl 3 rfl) ?_
      refine lv_istore_n (lv' := [(3, .int (iI l1)), (2, .int (iI l2)), (0, .ref (ad 4 l0 0)), (1, .int (iI l1))]) hx hb d_6_3_52 rfl hl (by decide) rfl (fun ls hl => ?_)
      exact b_Part_turn_53 X hf hZ hS (lv_sub hl [0, 2] rfl)
    · replace hf := gneg hf h4
      refine lv_aload_n hx hb d_6_3_14 rfl (lv_at hl 2 rfl) ?_
      obtain ⟨g5, hf⟩ := gif hf
      refine zget (ci := 4) (C := RX4) (T := TX4) (v := .ref (ad 4 l0 (5 + 1))) (k := 5) hx hb hts inW_4 hown hK hZ g5.1 g5.2 rfl (by decide) k_4_130 rfl d_6_3_15 ?_
      refine lv_iload_n hx hb d_6_3_18 rfl (lv_at hl 1 rfl) ?_
      obtain ⟨g6, hf⟩ := gif hf
      refine zaldR (t := 1) (x := 7) (ci := 4) (k := 5) hx hb hK rfl rfl hZ g5.1 g5.2 rfl (Nat.le_of_ble_eq_true rfl) g6.1 g6.2 d_6_3_19 ?_
      refine zastore (lv' := [(3, .int (iI l3)), (2, .int (iI l2)), (0, .ref (ad 4 l0 0)), (1, .int (iI l1))]) hx hb d_6_3_20 hl (by decide) (fun _ _ => rfl) (fun ls hl => ?_)
      refine lv_aload_n hx hb d_6_3_22 rfl (lv_at hl 3 rfl) ?_
      refine zget (ci := 4) (C := RX4) (T := TX4) (v := .ref (ad 4 l0 (5 + 1))) (k := 5) hx hb hts inW_4 hown hK hZ g5.1 g5.2 rfl (by decide) k_4_130 rfl d_6_3_23 ?_
      refine lv_iload_n hx hb d_6_3_26 rfl (lv_at hl 2 rfl) ?_
      refine lv_aload_n hx hb d_6_3_27 rfl (lv_at hl 3 rfl) ?_
      refine zget (ci := 4) (C := RX4) (T := TX4) (v := .ref (ad 4 l0 (5 + 1))) (k := 5) hx hb hts inW_4 hown hK hZ g5.1 g5.2 rfl (by decide) k_4_130 rfl d_6_3_28 ?_
      refine lv_iload_n hx hb d_6_3_31 rfl (lv_at hl 1 rfl) ?_
      obtain ⟨g7, hf⟩ := gif hf
      refine zaldR (t := 1) (x := 7) (ci := 4) (k := 5) hx hb hK rfl rfl hZ g5.1 g5.2 rfl (Nat.le_of_ble_eq_true rfl) g7.1 g7.2 d_6_3_32 ?_
      obtain ⟨g8, hf⟩ := gif hf
      refine W.eq (g2 := F0 m 33 ls [.ref (ad 1 (B 4 l0 5 l3) 0), .int (iI l2), .ref (ad 4 l0 (5 + 1))]) (by rw [zrf_pos (ad := ad) (t := 1) g8.1]; try rfl) ?_
      refine zastR (t := 1) (x := 7) (r := (RX1, TX1, 14)) (ci := 4) (k := 5) hx hb hK rfl rfl rfl hZ hS g5.1 g5.2 rfl (Nat.le_of_ble_eq_true rfl) g8.1 g8.2 g6.1 g6.2 d_6_3_33 (fun H9 locs9 hZ9 hS9 => ?_)
      refine lv_aload_n hx hb d_6_3_34 rfl (lv_at hl 3 rfl) ?_
      refine zget (ci := 4) (C := RX4) (T := TX4) (v := .ref (ad 4 l0 (5 + 1))) (k := 5) hx hb hts inW_4 hown hK hZ9 g5.1 g5.2 rfl (by decide) k_4_130 rfl d_6_3_35 ?_
      refine lv_iload_n hx hb d_6_3_38 rfl (lv_at hl 1 rfl) ?_
      refine zaload hx hb d_6_3_39 (lv_at hl 0 rfl) ?_
      obtain ⟨g10, hf⟩ := gif hf
      refine W.eq (g2 := F0 m 41 ls [.ref (ad 1 (B 4 l0 5 l2) 0), .int (iI l3), .ref (ad 4 l0 (5 + 1))]) (by rw [zrf_pos (ad := ad) (t := 1) g10.1]; try rfl) ?_
      refine zastR (t := 1) (x := 7) (r := (RX1, TX1, 14)) (ci := 4) (k := 5) hx hb hK rfl rfl rfl hZ9 hS9 g5.1 g5.2 rfl (Nat.le_of_ble_eq_true rfl) g10.1 g10.2 g7.1 g7.2 d_6_3_41 (fun H11 locs11 hZ11 hS11 => ?_)
      refine lv_iinc (v := iI (l2 + 1)) (lv' := [(2, .int (iI (l2 + 1))), (4, va_rf (zrf ad 1 (B 4 l0 5 l2))), (3, .int (iI l3)), (0, .ref (ad 4 l0 0)), (1, .int (iI l1))]) hx hb d_6_3_42 hl (k := 2) rfl (iI_add _ 1) (by decide) rfl (fun ls hl => ?_)
      refine lv_iinc (v := iI (l3 - 1)) (lv' := [(3, .int (iI (l3 - 1))), (2, .int (iI (l2 + 1))), (4, va_rf (zrf ad 1 (B 4 l0 5 l2))), (0, .ref (ad 4 l0 0)), (1, .int (iI l1))]) hx hb d_6_3_45 hl (k := 2) rfl (by rw [show Int32.ofInt (-1) = iI (-1) from rfl, iI_add]; congr 1) (by decide) rfl (fun ls hl => ?_)
      refine lv_goto (tgt := 9) hx hb d_6_3_48 (by decide) ?_
      exact ih hf hZ11 hS11 (lv_sub hl [0, 1, 3, 4] rfl)

noncomputable def f_Part_turn (K : zK) (l0 : Int) (l1 : Int) (F : zF) (B : zB) : zO := if 0 ≤ l0 ∧ l0 < K.2 4 then f_Part_turn_9 K K.1 ((F 4 l0 6) - 1) l1 l0 l1 F B else none
set_option maxHeartbeats 4000000 in
set_option maxRecDepth 100000 in
theorem c_Part_turn {l : Launch} {D : va_G} {ca : Nat → ClassId} {ad : Nat → Int → Nat → Nat} {L : List Nat} {aS vS : Nat → Nat} {sz : Nat} {K : zK}  {l0 : Int} {l1 : Int} {F F9 : zF} {B B9 : zB} {r : Int} (hf : f_Part_turn K l0 l1 F B = some (r, F9, B9)) : Met l ({ cls := "StaveHouse$Part", name := "turn", desc := "(I)V" } : Jvm.MethodName) (Cond.code ({ cls := "StaveHouse$Part", name := "turn", desc := "(I)V" } : Jvm.MethodName) prog_6_method_3_code 6 (Option.none : Option Jvm.ClassFile.FieldType) :: wAll) ({ frames := 1, cells := 0, slots := 0, locals := 21 } : Room) (va_Pc [.ref (ad 4 l0 0), .int (iI l1)] (zPre D ca ad lnC K.2 L aS vS F B sz)) (Q_Part_turn K D ca ad L r F9 B9 (zA L sz)) 0 0 (zA L sz) := by
  refine zMet (Qc := Q_Part_turn K D ca ad L r F9 B9) (lv := [(0, .ref (ad 4 l0 0)), (1, .int (iI l1))]) (by decide) (Nat.le_of_ble_eq_true rfl) rfl (fun A p e s m below meth c ls X hZ hS hl => ?_)
  obtain ⟨hx, hb, hr, hml, hown, hts, hlk, hK, hA, hL, hX⟩ := id X
  replace hf : (if 0 ≤ l0 ∧ l0 < K.2 4 then f_Part_turn_9 K K.1 ((F 4 l0 6) - 1) l1 l0 l1 F B else none) = some (r, F9, B9) := hf
  refine lv_iload_n hx hb d_6_3_0 rfl (lv_at hl 1 rfl) ?_
  refine lv_istore_n (lv' := [(2, .int (iI l1)), (0, .ref (ad 4 l0 0)), (1, .int (iI l1))]) hx hb d_6_3_1 rfl hl (by decide) rfl (fun ls hl => ?_)
  refine lv_aload_n hx hb d_6_3_2 rfl (lv_at hl 1 rfl) ?_
  obtain ⟨g1, hf⟩ := gif hf
  refine zget (ci := 4) (C := RX4) (T := TX4) (v := .int (iI (F 4 l0 6))) (k := 6) hx hb hts inW_4 hown hK hZ g1.1 g1.2 rfl (by decide) k_4_135 rfl d_6_3_3 ?_
  refine lv_iconst (v := iI 1) hx hb d_6_3_6 rfl ?_
  refine zsub hx hb d_6_3_7 ?_
  refine lv_istore_n (lv' := [(3, .int (iI ((F 4 l0 6) - 1))), (2, .int (iI l1)), (0, .ref (ad 4 l0 0)), (1, .int (iI l1))]) hx hb d_6_3_8 rfl hl (by decide) rfl (fun ls hl => ?_)
  exact b_Part_turn_9 X hf hZ hS (lv_sub hl [0, 1, 2, 3] rfl)

noncomputable abbrev Q_Event_sharedWith (K : zK) (D : va_G) (ca : Nat → ClassId) (ad : Nat → Int → Nat → Nat) (L : List Nat) (r : Int) (F : zF) (B : zB) (A : Nat → Prop) : Array Value → State → Outcome → State → Prop := va_Qi (S := Unit) (fun p _ => p = iI r) (fun _ => zPo D ca ad lnC K.2 L F B A) A
noncomputable def f_Event_sharedWith_39 (rec4 : Int → Int → Int → Int → zF → zB → zO) (K : zK) (l3 : Int) (l0 : Int) (l1 : Int) (s0 : Int) (s1 : Int) (F : zF) (B : zB) : zO := rec4 (l3 + 1) (zor s0 s1) l0 l1 F B
set_option maxHeartbeats 4000000 in
set_option maxRecDepth 100000 in
theorem b_Event_sharedWith_39 {D : va_G} {ca : Nat → ClassId} {ad : Nat → Int → Nat → Nat} {L : List Nat} {aS vS : Nat → Nat} {A : Nat → Prop} {p : Program} {l : Launch} {e : Env} {s : State} {m : MethodId} {args : Array Value} {below : List Frame} {meth : Method} {c : Code} {K : zK} {r : Int} {F9 : zF} {B9 : zB} (X : zX D ca L aS vS A p s m args meth c prog_3_method_7_code 4 (Option.some Jvm.ClassFile.FieldType.int) "StaveHouse$Event") {rec4 : Int → Int → Int → Int → zF → zB → zO} (hrec4 : ∀ {l3 : Int} {l2 : Int} {l0 : Int} {l1 : Int} {F : zF} {B : zB} {H : Heap} {locs : List Loc} {ls : Array Slot}, rec4 l3 l2 l0 l1 F B = some (r, F9, B9) → zH D ca ad lnC K.2 L F B A H → va_S A s.heap H locs → lv_has ls 4 [(3, .int (iI l3)), (2, .int (iI l2)), (0, .ref (ad 1 l0 0)), (1, .ref (ad 1 l1 0))] → W p l e ({ frames := 1, cells := 0, slots := 0, locals := 23 } : Room) s m args below meth c H locs 0 0 (MQ below (Q_Event_sharedWith K D ca ad L r F9 B9 A) args s 0 0 A) (F0 m 4 ls [])) {l3 : Int} {l0 : Int} {l1 : Int} {s0 : Int} {s1 : Int} {F : zF} {B : zB} {H : Heap} {locs : List Loc} {ls : Array Slot} (hf : f_Event_sharedWith_39 rec4 K l3 l0 l1 s0 s1 F B = some (r, F9, B9)) (hZ : zH D ca ad lnC K.2 L F B A H) (hS : va_S A s.heap H locs) (hl : lv_has ls 4 [(3, .int (iI l3)), (0, .ref (ad 1 l0 0)), (1, .ref (ad 1 l1 0))]) : W p l e ({ frames := 1, cells := 0, slots := 0, locals := 23 } : Room) s m args below meth c H locs 0 0 (MQ below (Q_Event_sharedWith K D ca ad L r F9 B9 A) args s 0 0 A) (F0 m 39 ls [.int (iI s1), .int (iI s0)]) := by
  obtain ⟨hx, hb, hr, hml, hown, hts, hlk, hK, hA, hL, hX⟩ := id X
  replace hf : (rec4 (l3 + 1) (zor s0 s1) l0 l1 F B) = some (r, F9, B9) := hf
  refine zor_r hx hb d_3_7_39 ?_
  refine lv_istore_n (lv' := [(2, .int (iI (zor s0 s1))), (3, .int (iI l3)), (0, .ref (ad 1 l0 0)), (1, .ref (ad 1 l1 0))]) hx hb d_3_7_40 rfl hl (by decide) rfl (fun ls hl => ?_)
  refine lv_iinc (v := iI (l3 + 1)) (lv' := [(3, .int (iI (l3 + 1))), (2, .int (iI (zor s0 s1))), (0, .ref (ad 1 l0 0)), (1, .ref (ad 1 l1 0))]) hx hb d_3_7_41 hl (k := 1) rfl (iI_add _ 1) (by decide) rfl (fun ls hl => ?_)
  refine lv_goto (tgt := 4) hx hb d_3_7_44 (by decide) ?_
  exact hrec4 hf hZ hS (lv_sub hl [0, 1, 2, 3] rfl)

noncomputable def f_Event_sharedWith_4 (K : zK) : Nat → Int → Int → Int → Int → zF → zB → zO
  | 0, _, _, _, _, _, _ => none
  | n + 1, l3, l2, l0, l1, F, B => if 0 ≤ l0 ∧ l0 < K.2 1 then if r32 l3 then if r32 (F 1 l0 10) then (if (F 1 l0 10) ≤ l3 then some (l2, F, B) else if 0 ≤ l3 ∧ l3 < 6 then if 0 ≤ l1 ∧ l1 < K.2 1 then zbind (f_Event_hasPitch K l1 (B 1 l0 12 l3) (B 1 l0 13 l3) F B) (fun r7 F7 B7 => if r32 r7 then (if r7 = 0 then f_Event_sharedWith_39 (f_Event_sharedWith_4 K n) K l3 l0 l1 l2 0 F7 B7 else f_Event_sharedWith_39 (f_Event_sharedWith_4 K n) K l3 l0 l1 l2 (zshl 1 l3) F7 B7) else none) else none else none) else none else none else none
