set_option maxHeartbeats 4000000 in
set_option maxRecDepth 100000 in
theorem b_Part_group_192 {D : va_G} {ca : Nat → ClassId} {ad : Nat → Int → Nat → Nat} {L : List Nat} {aS vS : Nat → Nat} {A : Nat → Prop} {p : Program} {l : Launch} {e : Env} {s : State} {m : MethodId} {args : Array Value} {below : List Frame} {meth : Method} {c : Code} {K : zK} {r : Int} {F9 : zF} {B9 : zB} (X : zX D ca L aS vS A p s m args meth c prog_6_method_24_code 9 (Option.none : Option Jvm.ClassFile.FieldType) "StaveHouse$Part") {rec8 : Int → Int → Int → Int → Int → zF → zB → zO} (hrec8 : ∀ {l5 : Int} {l4 : Int} {l3 : Int} {l0 : Int} {l1 : Int} {F : zF} {B : zB} {H : Heap} {locs : List Loc} {ls : Array Slot}, rec8 l5 l4 l3 l0 l1 F B = some (r, F9, B9) → zH D ca ad lnC K.2 L F B A H → va_S A s.heap H locs → lv_has ls 9 [(5, .int (iI l5)), (4, .int (iI l4)), (3, .int (iI l3)), (0, .ref (ad 4 l0 0)), (1, .long (lI l1))] → W p l e ({ frames := 3, cells := 0, slots := 0, locals := 67 } : Room) s m args below meth c H locs 0 0 (MQ below (Q_Part_group K D ca ad L r F9 B9 A) args s 0 0 A) (F0 m 8 ls [])) {l6 : Int} {l5 : Int} {l4 : Int} {l0 : Int} {l1 : Int} {s0 : Int} {s1 : Int} {F : zF} {B : zB} {H : Heap} {locs : List Loc} {ls : Array Slot} (hf : f_Part_group_192 rec8 K l6 l5 l4 l0 l1 s0 s1 F B = some (r, F9, B9)) (hZ : zH D ca ad lnC K.2 L F B A H) (hS : va_S A s.heap H locs) (hl : lv_has ls 9 [(6, .int (iI l6)), (5, .int (iI l5)), (4, .int (iI l4)), (0, .ref (ad 4 l0 0)), (1, .long (lI l1))]) : W p l e ({ frames := 3, cells := 0, slots := 0, locals := 67 } : Room) s m args below meth c H locs 0 0 (MQ below (Q_Part_group K D ca ad L r F9 B9 A) args s 0 0 A) (F0 m 192 ls [.int (iI s1), .int (iI s0)]) := by
  obtain ⟨hx, hb, hr, hml, hown, hts, hlk, hK, hA, hL, hX⟩ := id X
  replace hf : (rec8 (l5 + 1) (l4 + l6) (s0 + s1) l0 l1 F B) = some (r, F9, B9) := hf
  refine zadd hx hb d_6_24_192 ?_
  refine lv_istore_n (lv' := [(3, .int (iI (s0 + s1))), (6, .int (iI l6)), (5, .int (iI l5)), (4, .int (iI l4)), (0, .ref (ad 4 l0 0)), (1, .long (lI l1))]) hx hb d_6_24_193 rfl hl (by decide) rfl (fun ls hl => ?_)
  refine lv_iload hx hb d_6_24_194 (lv_at hl 3 rfl) ?_
  refine lv_iload hx hb d_6_24_196 (lv_at hl 1 rfl) ?_
  refine zadd hx hb d_6_24_198 ?_
  refine lv_istore (lv' := [(4, .int (iI (l4 + l6))), (3, .int (iI (s0 + s1))), (6, .int (iI l6)), (5, .int (iI l5)), (0, .ref (ad 4 l0 0)), (1, .long (lI l1))]) hx hb d_6_24_199 hl (by decide) rfl (fun ls hl => ?_)
  refine lv_iinc (v := iI (l5 + 1)) (lv' := [(5, .int (iI (l5 + 1))), (4, .int (iI (l4 + l6))), (3, .int (iI (s0 + s1))), (6, .int (iI l6)), (0, .ref (ad 4 l0 0)), (1, .long (lI l1))]) hx hb d_6_24_201 hl (k := 3) rfl (iI_add _ 1) (by decide) rfl (fun ls hl => ?_)
  refine lv_goto (tgt := 8) hx hb d_6_24_204 (by decide) ?_
  exact hrec8 hf hZ hS (lv_sub hl [0, 1, 2, 4, 5] rfl)

noncomputable def f_Part_group_173 (rec8 : Int → Int → Int → Int → Int → zF → zB → zO) (rec80 : Int → Int → Int → Int → Int → Int → Int → zF → zB → zO) (K : zK) (l7 : Int) (l6 : Int) (l5 : Int) (l4 : Int) (l3 : Int) (l0 : Int) (l1 : Int) (s0 : Int) (s1 : Int) (s2 : Int) (F : zF) (B : zB) : zO := if 0 ≤ s0 ∧ s0 < K.2 4 then if 0 ≤ s1 ∧ s1 < 800 then rec80 (l7 + 1) l6 l5 l4 l3 l0 l1 F (zup4 B 4 s0 370 s1 s2) else none else none
set_option maxHeartbeats 4000000 in
set_option maxRecDepth 100000 in
theorem b_Part_group_173 {D : va_G} {ca : Nat → ClassId} {ad : Nat → Int → Nat → Nat} {L : List Nat} {aS vS : Nat → Nat} {A : Nat → Prop} {p : Program} {l : Launch} {e : Env} {s : State} {m : MethodId} {args : Array Value} {below : List Frame} {meth : Method} {c : Code} {K : zK} {r : Int} {F9 : zF} {B9 : zB} (X : zX D ca L aS vS A p s m args meth c prog_6_method_24_code 9 (Option.none : Option Jvm.ClassFile.FieldType) "StaveHouse$Part") {rec8 : Int → Int → Int → Int → Int → zF → zB → zO} {rec80 : Int → Int → Int → Int → Int → Int → Int → zF → zB → zO} (hrec8 : ∀ {l5 : Int} {l4 : Int} {l3 : Int} {l0 : Int} {l1 : Int} {F : zF} {B : zB} {H : Heap} {locs : List Loc} {ls : Array Slot}, rec8 l5 l4 l3 l0 l1 F B = some (r, F9, B9) → zH D ca ad lnC K.2 L F B A H → va_S A s.heap H locs → lv_has ls 9 [(5, .int (iI l5)), (4, .int (iI l4)), (3, .int (iI l3)), (0, .ref (ad 4 l0 0)), (1, .long (lI l1))] → W p l e ({ frames := 3, cells := 0, slots := 0, locals := 67 } : Room) s m args below meth c H locs 0 0 (MQ below (Q_Part_group K D ca ad L r F9 B9 A) args s 0 0 A) (F0 m 8 ls [])) (hrec80 : ∀ {l7 : Int} {l6 : Int} {l5 : Int} {l4 : Int} {l3 : Int} {l0 : Int} {l1 : Int} {F : zF} {B : zB} {H : Heap} {locs : List Loc} {ls : Array Slot}, rec80 l7 l6 l5 l4 l3 l0 l1 F B = some (r, F9, B9) → zH D ca ad lnC K.2 L F B A H → va_S A s.heap H locs → lv_has ls 9 [(7, .int (iI l7)), (6, .int (iI l6)), (5, .int (iI l5)), (4, .int (iI l4)), (3, .int (iI l3)), (0, .ref (ad 4 l0 0)), (1, .long (lI l1))] → W p l e ({ frames := 3, cells := 0, slots := 0, locals := 67 } : Room) s m args below meth c H locs 0 0 (MQ below (Q_Part_group K D ca ad L r F9 B9 A) args s 0 0 A) (F0 m 80 ls [])) {l7 : Int} {l6 : Int} {l5 : Int} {l4 : Int} {l3 : Int} {l0 : Int} {l1 : Int} {s0 : Int} {s1 : Int} {s2 : Int} {F : zF} {B : zB} {H : Heap} {locs : List Loc} {ls : Array Slot} (hf : f_Part_group_173 rec8 rec80 K l7 l6 l5 l4 l3 l0 l1 s0 s1 s2 F B = some (r, F9, B9)) (hZ : zH D ca ad lnC K.2 L F B A H) (hS : va_S A s.heap H locs) (hl : lv_has ls 9 [(7, .int (iI l7)), (6, .int (iI l6)), (5, .int (iI l5)), (4, .int (iI l4)), (3, .int (iI l3)), (0, .ref (ad 4 l0 0)), (1, .long (lI l1))]) : W p l e ({ frames := 3, cells := 0, slots := 0, locals := 67 } : Room) s m args below meth c H locs 0 0 (MQ below (Q_Part_group K D ca ad L r F9 B9 A) args s 0 0 A) (F0 m 173 ls [.int (iI s2), .int (iI s1), .ref (ad 4 s0 (370 + 1))]) := by
  obtain ⟨hx, hb, hr, hml, hown, hts, hlk, hK, hA, hL, hX⟩ := id X
  replace hf : (if 0 ≤ s0 ∧ s0 < K.2 4 then if 0 ≤ s1 ∧ s1 < 800 then rec80 (l7 + 1) l6 l5 l4 l3 l0 l1 F (zup4 B 4 s0 370 s1 s2) else none else none) = some (r, F9, B9) := hf
  obtain ⟨g40, hf⟩ := gif hf
  obtain ⟨g41, hf⟩ := gif hf
  refine zast (ci := 4) (k := 370) hx hb hK rfl hZ hS g40.1 g40.2 rfl (Nat.le_of_ble_eq_true rfl) g41.1 g41.2 d_6_24_173 (fun H42 locs42 hZ42 hS42 => ?_)
  refine lv_iinc (v := iI (l7 + 1)) (lv' := [(7, .int (iI (l7 + 1))), (6, .int (iI l6)), (5, .int (iI l5)), (4, .int (iI l4)), (3, .int (iI l3)), (0, .ref (ad 4 l0 0)), (1, .long (lI l1))]) hx hb d_6_24_174 hl (k := 0) rfl (iI_add _ 1) (by decide) rfl (fun ls hl => ?_)
  refine lv_goto (tgt := 80) hx hb d_6_24_177 (by decide) ?_
  exact hrec80 hf hZ42 hS42 (lv_sub hl [0, 1, 2, 3, 4, 5, 6] rfl)

noncomputable def f_Part_group_129 (rec8 : Int → Int → Int → Int → Int → zF → zB → zO) (rec80 : Int → Int → Int → Int → Int → Int → Int → zF → zB → zO) (K : zK) (l8 : Int) (l7 : Int) (l6 : Int) (l5 : Int) (l4 : Int) (l3 : Int) (l0 : Int) (l1 : Int) (s0 : Int) (s1 : Int) (s2 : Int) (F : zF) (B : zB) : zO := if 0 ≤ s0 ∧ s0 < K.2 4 then if 0 ≤ s1 ∧ s1 < 800 then if 0 ≤ l0 ∧ l0 < K.2 4 then if r32 l8 then (if l8 = 0 then f_Part_group_173 rec8 rec80 K l7 l6 l5 l4 l3 l0 l1 l0 l7 0 F (zup4 B 4 s0 369 s1 s2) else if 0 ≤ l7 ∧ l7 < 800 then if 0 ≤ (l7 + 1) ∧ (l7 + 1) < 800 then if r32 ((zup4 B 4 s0 369 s1 s2) 4 l0 364 l7) then if r32 ((zup4 B 4 s0 369 s1 s2) 4 l0 364 (l7 + 1)) then f_Part_group_173 rec8 rec80 K l7 l6 l5 l4 l3 l0 l1 l0 l7 ((zmin ((zup4 B 4 s0 369 s1 s2) 4 l0 364 l7) ((zup4 B 4 s0 369 s1 s2) 4 l0 364 (l7 + 1))) - 2) F (zup4 B 4 s0 369 s1 s2) else none else none else none else none) else none else none else none else none
set_option maxHeartbeats 4000000 in
set_option maxRecDepth 100000 in
theorem b_Part_group_129 {D : va_G} {ca : Nat → ClassId} {ad : Nat → Int → Nat → Nat} {L : List Nat} {aS vS : Nat → Nat} {A : Nat → Prop} {p : Program} {l : Launch} {e : Env} {s : State} {m : MethodId} {args : Array Value} {below : List Frame} {meth : Method} {c : Code} {K : zK} {r : Int} {F9 : zF} {B9 : zB} (X : zX D ca L aS vS A p s m args meth c prog_6_method_24_code 9 (Option.none : Option Jvm.ClassFile.FieldType) "StaveHouse$Part") {rec8 : Int → Int → Int → Int → Int → zF → zB → zO} {rec80 : Int → Int → Int → Int → Int → Int → Int → zF → zB → zO} (hrec8 : ∀ {l5 : Int} {l4 : Int} {l3 : Int} {l0 : Int} {l1 : Int} {F : zF} {B : zB} {H : Heap} {locs : List Loc} {ls : Array Slot}, rec8 l5 l4 l3 l0 l1 F B = some (r, F9, B9) → zH D ca ad lnC K.2 L F B A H → va_S A s.heap H locs → lv_has ls 9 [(5, .int (iI l5)), (4, .int (iI l4)), (3, .int (iI l3)), (0, .ref (ad 4 l0 0)), (1, .long (lI l1))] → W p l e ({ frames := 3, cells := 0, slots := 0, locals := 67 } : Room) s m args below meth c H locs 0 0 (MQ below (Q_Part_group K D ca ad L r F9 B9 A) args s 0 0 A) (F0 m 8 ls [])) (hrec80 : ∀ {l7 : Int} {l6 : Int} {l5 : Int} {l4 : Int} {l3 : Int} {l0 : Int} {l1 : Int} {F : zF} {B : zB} {H : Heap} {locs : List Loc} {ls : Array Slot}, rec80 l7 l6 l5 l4 l3 l0 l1 F B = some (r, F9, B9) → zH D ca ad lnC K.2 L F B A H → va_S A s.heap H locs → lv_has ls 9 [(7, .int (iI l7)), (6, .int (iI l6)), (5, .int (iI l5)), (4, .int (iI l4)), (3, .int (iI l3)), (0, .ref (ad 4 l0 0)), (1, .long (lI l1))] → W p l e ({ frames := 3, cells := 0, slots := 0, locals := 67 } : Room) s m args below meth c H locs 0 0 (MQ below (Q_Part_group K D ca ad L r F9 B9 A) args s 0 0 A) (F0 m 80 ls [])) {l8 : Int} {l7 : Int} {l6 : Int} {l5 : Int} {l4 : Int} {l3 : Int} {l0 : Int} {l1 : Int} {s0 : Int} {s1 : Int} {s2 : Int} {F : zF} {B : zB} {H : Heap} {locs : List Loc} {ls : Array Slot} (hf : f_Part_group_129 rec8 rec80 K l8 l7 l6 l5 l4 l3 l0 l1 s0 s1 s2 F B = some (r, F9, B9)) (hZ : zH D ca ad lnC K.2 L F B A H) (hS : va_S A s.heap H locs) (hl : lv_has ls 9 [(8, .int (iI l8)), (7, .int (iI l7)), (6, .int (iI l6)), (5, .int (iI l5)), (4, .int (iI l4)), (3, .int (iI l3)), (0, .ref (ad 4 l0 0)), (1, .long (lI l1))]) : W p l e ({ frames := 3, cells := 0, slots := 0, locals := 67 } : Room) s m args below meth c H locs 0 0 (MQ below (Q_Part_group K D ca ad L r F9 B9 A) args s 0 0 A) (F0 m 129 ls [.int (iI s2), .int (iI s1), .ref (ad 4 s0 (369 + 1))]) := by
  obtain ⟨hx, hb, hr, hml, hown, hts, hlk, hK, hA, hL, hX⟩ := id X
  replace hf : (if 0 ≤ s0 ∧ s0 < K.2 4 then if 0 ≤ s1 ∧ s1 < 800 then if 0 ≤ l0 ∧ l0 < K.2 4 then if r32 l8 then (if l8 = 0 then f_Part_group_173 rec8 rec80 K l7 l6 l5 l4 l3 l0 l1 l0 l7 0 F (zup4 B 4 s0 369 s1 s2) else if 0 ≤ l7 ∧ l7 < 800 then if 0 ≤ (l7 + 1) ∧ (l7 + 1) < 800 then if r32 ((zup4 B 4 s0 369 s1 s2) 4 l0 364 l7) then if r32 ((zup4 B 4 s0 369 s1 s2) 4 l0 364 (l7 + 1)) then f_Part_group_173 rec8 rec80 K l7 l6 l5 l4 l3 l0 l1 l0 l7 ((zmin ((zup4 B 4 s0 369 s1 s2) 4 l0 364 l7) ((zup4 B 4 s0 369 s1 s2) 4 l0 364 (l7 + 1))) - 2) F (zup4 B 4 s0 369 s1 s2) else none else none else none else none) else none else none else none else none) = some (r, F9, B9) := hf
  obtain ⟨g29, hf⟩ := gif hf
  obtain ⟨g30, hf⟩ := gif hf
  refine zast (ci := 4) (k := 369) hx hb hK rfl hZ hS g29.1 g29.2 rfl (Nat.le_of_ble_eq_true rfl) g30.1 g30.2 d_6_24_129 (fun H31 locs31 hZ31 hS31 => ?_)
  refine lv_aload_n hx hb d_6_24_130 rfl (lv_at hl 6 rfl) ?_
  obtain ⟨g33, hf⟩ := gif hf
  refine zget (ci := 4) (C := RX4) (T := TX4) (v := .ref (ad 4 l0 (8 + 1))) (k := 8) hx hb hts inW_4 hown hK hZ31 g33.1 g33.2 rfl (by decide) k_4_142 rfl d_6_24_131 ?_
  refine lv_bipush (v := iI 10) hx hb d_6_24_134 (by decide) ?_
  refine zaldQ (t := 0) (ci := 4) (k := 8) hx hb hK rfl hZ31 g33.1 g33.2 rfl (Nat.le_of_ble_eq_true rfl) (by decide) (by decide) d_6_24_136 ?_
  refine W.eq (g2 := F0 m 137 ls [.ref (ad 4 l0 (370 + 1))]) rfl ?_
  refine lv_iload hx hb d_6_24_137 (lv_at hl 1 rfl) ?_
  refine lv_iload hx hb d_6_24_139 (lv_at hl 0 rfl) ?_
  obtain ⟨g34, hf⟩ := gif hf
  refine z0eq (tgt := 172) hx hb g34 d_6_24_141 (by decide) (fun h35 => ?_) (fun h35 => ?_)
  · replace hf := gpos hf h35
    refine lv_iconst (v := iI 0) hx hb d_6_24_172 rfl ?_
    exact b_Part_group_173 X hrec8 hrec80 hf hZ31 hS31 (lv_sub hl [1, 2, 3, 4, 5, 6, 7] rfl)
  · replace hf := gneg hf h35
    refine lv_aload_n hx hb d_6_24_144 rfl (lv_at hl 6 rfl) ?_
    refine zget (ci := 4) (C := RX4) (T := TX4) (v := .ref (ad 4 l0 (8 + 1))) (k := 8) hx hb hts inW_4 hown hK hZ31 g33.1 g33.2 rfl (by decide) k_4_142 rfl d_6_24_145 ?_
    refine lv_iconst (v := iI 4) hx hb d_6_24_148 rfl ?_
    refine zaldQ (t := 0) (ci := 4) (k := 8) hx hb hK rfl hZ31 g33.1 g33.2 rfl (Nat.le_of_ble_eq_true rfl) (by decide) (by decide) d_6_24_149 ?_
    refine W.eq (g2 := F0 m 150 ls [.ref (ad 4 l0 (364 + 1)), .int (iI l7), .ref (ad 4 l0 (370 + 1))]) rfl ?_
    refine lv_iload hx hb d_6_24_150 (lv_at hl 1 rfl) ?_
    obtain ⟨g36, hf⟩ := gif hf
    refine zald (ci := 4) (k := 364) hx hb hK rfl hZ31 g33.1 g33.2 rfl (Nat.le_of_ble_eq_true rfl) g36.1 g36.2 d_6_24_152 ?_
    refine lv_aload_n hx hb d_6_24_153 rfl (lv_at hl 6 rfl) ?_
    refine zget (ci := 4) (C := RX4) (T := TX4) (v := .ref (ad 4 l0 (8 + 1))) (k := 8) hx hb hts inW_4 hown hK hZ31 g33.1 g33.2 rfl (by decide) k_4_142 rfl d_6_24_154 ?_
    refine lv_iconst (v := iI 4) hx hb d_6_24_157 rfl ?_
    refine zaldQ (t := 0) (ci := 4) (k := 8) hx hb hK rfl hZ31 g33.1 g33.2 rfl (Nat.le_of_ble_eq_true rfl) (by decide) (by decide) d_6_24_158 ?_
    refine W.eq (g2 := F0 m 159 ls [.ref (ad 4 l0 (364 + 1)), .int (iI ((zup4 B 4 s0 369 s1 s2) 4 l0 364 l7)), .int (iI l7), .ref (ad 4 l0 (370 + 1))]) rfl ?_
    refine lv_iload hx hb d_6_24_159 (lv_at hl 1 rfl) ?_
    refine lv_iconst (v := iI 1) hx hb d_6_24_161 rfl ?_
    refine zadd hx hb d_6_24_162 ?_
    obtain ⟨g37, hf⟩ := gif hf
    refine zald (ci := 4) (k := 364) hx hb hK rfl hZ31 g33.1 g33.2 rfl (Nat.le_of_ble_eq_true rfl) g37.1 g37.2 d_6_24_163 ?_
    obtain ⟨g38, hf⟩ := gif hf
    obtain ⟨g39, hf⟩ := gif hf
    refine va_mmin hx hb (by rw [hml]; exact hl.1.symm) hown (hts _ k_5_161) (hts _ k_3_97) (hts _ k_1_3) (hts _ k_3_98) (Nat.le_of_ble_eq_true rfl) (Nat.le_of_ble_eq_true rfl) (Nat.le_of_ble_eq_true rfl) (Nat.le_of_ble_eq_true rfl) d_6_24_164 ?_
    rw [zmin_e g38 g39]
    refine lv_iconst (v := iI 2) hx hb d_6_24_167 rfl ?_
    refine zsub hx hb d_6_24_168 ?_
    refine lv_goto (tgt := 173) hx hb d_6_24_169 (by decide) ?_
    exact b_Part_group_173 X hrec8 hrec80 hf hZ31 hS31 (lv_sub hl [1, 2, 3, 4, 5, 6, 7] rfl)

noncomputable def f_Part_group_107 (rec8 : Int → Int → Int → Int → Int → zF → zB → zO) (rec80 : Int → Int → Int → Int → Int → Int → Int → zF → zB → zO) (K : zK) (l7 : Int) (l6 : Int) (l5 : Int) (l4 : Int) (l3 : Int) (l0 : Int) (l1 : Int) (s0 : Int) (F : zF) (B : zB) : zO := if 0 ≤ l0 ∧ l0 < K.2 4 then if r32 l6 then (if l6 ≤ 1 then f_Part_group_129 rec8 rec80 K s0 l7 l6 l5 l4 l3 l0 l1 l0 l7 (-1) F B else f_Part_group_129 rec8 rec80 K s0 l7 l6 l5 l4 l3 l0 l1 l0 l7 l3 F B) else none else none
set_option maxHeartbeats 4000000 in
set_option maxRecDepth 100000 in
theorem b_Part_group_107 {D : va_G} {ca : Nat → ClassId} {ad : Nat → Int → Nat → Nat} {L : List Nat} {aS vS : Nat → Nat} {A : Nat → Prop} {p : Program} {l : Launch} {e : Env} {s : State} {m : MethodId} {args : Array Value} {below : List Frame} {meth : Method} {c : Code} {K : zK} {r : Int} {F9 : zF} {B9 : zB} (X : zX D ca L aS vS A p s m args meth c prog_6_method_24_code 9 (Option.none : Option Jvm.ClassFile.FieldType) "StaveHouse$Part") {rec8 : Int → Int → Int → Int → Int → zF → zB → zO} {rec80 : Int → Int → Int → Int → Int → Int → Int → zF → zB → zO} (hrec8 : ∀ {l5 : Int} {l4 : Int} {l3 : Int} {l0 : Int} {l1 : Int} {F : zF} {B : zB} {H : Heap} {locs : List Loc} {ls : Array Slot}, rec8 l5 l4 l3 l0 l1 F B = some (r, F9, B9) → zH D ca ad lnC K.2 L F B A H → va_S A s.heap H locs → lv_has ls 9 [(5, .int (iI l5)), (4, .int (iI l4)), (3, .int (iI l3)), (0, .ref (ad 4 l0 0)), (1, .long (lI l1))] → W p l e ({ frames := 3, cells := 0, slots := 0, locals := 67 } : Room) s m args below meth c H locs 0 0 (MQ below (Q_Part_group K D ca ad L r F9 B9 A) args s 0 0 A) (F0 m 8 ls [])) (hrec80 : ∀ {l7 : Int} {l6 : Int} {l5 : Int} {l4 : Int} {l3 : Int} {l0 : Int} {l1 : Int} {F : zF} {B : zB} {H : Heap} {locs : List Loc} {ls : Array Slot}, rec80 l7 l6 l5 l4 l3 l0 l1 F B = some (r, F9, B9) → zH D ca ad lnC K.2 L F B A H → va_S A s.heap H locs → lv_has ls 9 [(7, .int (iI l7)), (6, .int (iI l6)), (5, .int (iI l5)), (4, .int (iI l4)), (3, .int (iI l3)), (0, .ref (ad 4 l0 0)), (1, .long (lI l1))] → W p l e ({ frames := 3, cells := 0, slots := 0, locals := 67 } : Room) s m args below meth c H locs 0 0 (MQ below (Q_Part_group K D ca ad L r F9 B9 A) args s 0 0 A) (F0 m 80 ls [])) {l7 : Int} {l6 : Int} {l5 : Int} {l4 : Int} {l3 : Int} {l0 : Int} {l1 : Int} {s0 : Int} {F : zF} {B : zB} {H : Heap} {locs : List Loc} {ls : Array Slot} (hf : f_Part_group_107 rec8 rec80 K l7 l6 l5 l4 l3 l0 l1 s0 F B = some (r, F9, B9)) (hZ : zH D ca ad lnC K.2 L F B A H) (hS : va_S A s.heap H locs) (hl : lv_has ls 9 [(7, .int (iI l7)), (6, .int (iI l6)), (5, .int (iI l5)), (4, .int (iI l4)), (3, .int (iI l3)), (0, .ref (ad 4 l0 0)), (1, .long (lI l1))]) : W p l e ({ frames := 3, cells := 0, slots := 0, locals := 67 } : Room) s m args below meth c H locs 0 0 (MQ below (Q_Part_group K D ca ad L r F9 B9 A) args s 0 0 A) (F0 m 107 ls [.int (iI s0)]) := by
  obtain ⟨hx, hb, hr, hml, hown, hts, hlk, hK, hA, hL, hX⟩ := id X
  replace hf : (if 0 ≤ l0 ∧ l0 < K.2 4 then if r32 l6 then (if l6 ≤ 1 then f_Part_group_129 rec8 rec80 K s0 l7 l6 l5 l4 l3 l0 l1 l0 l7 (-1) F B else f_Part_group_129 rec8 rec80 K s0 l7 l6 l5 l4 l3 l0 l1 l0 l7 l3 F B) else none else none) = some (r, F9, B9) := hf
  refine lv_istore (lv' := [(8, .int (iI s0)), (7, .int (iI l7)), (6, .int (iI l6)), (5, .int (iI l5)), (4, .int (iI l4)), (3, .int (iI l3)), (0, .ref (ad 4 l0 0)), (1, .long (lI l1))]) hx hb d_6_24_107 hl (by decide) rfl (fun ls hl => ?_)
  refine lv_aload_n hx hb d_6_24_109 rfl (lv_at hl 6 rfl) ?_
  obtain ⟨g26, hf⟩ := gif hf
  refine zget (ci := 4) (C := RX4) (T := TX4) (v := .ref (ad 4 l0 (8 + 1))) (k := 8) hx hb hts inW_4 hown hK hZ g26.1 g26.2 rfl (by decide) k_4_142 rfl d_6_24_110 ?_
  refine lv_bipush (v := iI 9) hx hb d_6_24_113 (by decide) ?_
  refine zaldQ (t := 0) (ci := 4) (k := 8) hx hb hK rfl hZ g26.1 g26.2 rfl (Nat.le_of_ble_eq_true rfl) (by decide) (by decide) d_6_24_115 ?_
  refine W.eq (g2 := F0 m 116 ls [.ref (ad 4 l0 (369 + 1))]) rfl ?_
  refine lv_iload hx hb d_6_24_116 (lv_at hl 1 rfl) ?_
  refine lv_iload hx hb d_6_24_118 (lv_at hl 2 rfl) ?_
  refine lv_iconst (v := iI 1) hx hb d_6_24_120 rfl ?_
  obtain ⟨g27, hf⟩ := gif hf
  refine zle (tgt := 128) hx hb g27 (by decide) d_6_24_121 (by decide) (fun h28 => ?_) (fun h28 => ?_)
  · replace hf := gpos hf h28
    refine lv_iconst (v := iI (-1)) hx hb d_6_24_128 rfl ?_
    exact b_Part_group_129 X hrec8 hrec80 hf hZ hS (lv_sub hl [0, 1, 2, 3, 4, 5, 6, 7] rfl)
  · replace hf := gneg hf h28
    refine lv_iload_n hx hb d_6_24_124 rfl (lv_at hl 5 rfl) ?_
    refine lv_goto (tgt := 129) hx hb d_6_24_125 (by decide) ?_
    exact b_Part_group_129 X hrec8 hrec80 hf hZ hS (lv_sub hl [0, 1, 2, 3, 4, 5, 6, 7] rfl)

noncomputable def f_Part_group_80 (rec8 : Int → Int → Int → Int → Int → zF → zB → zO) (K : zK) : Nat → Int → Int → Int → Int → Int → Int → Int → zF → zB → zO
  | 0, _, _, _, _, _, _, _, _, _ => none
  | n + 1, l7, l6, l5, l4, l3, l0, l1, F, B => if r32 l7 then if r32 (l4 + l6) then (if (l4 + l6) ≤ l7 then if r32 l6 then (if l6 ≤ 1 then f_Part_group_192 rec8 K l6 l5 l4 l0 l1 l3 0 F B else f_Part_group_192 rec8 K l6 l5 l4 l0 l1 l3 1 F B) else none else if r32 (l7 + 1) then (if (l4 + l6) ≤ (l7 + 1) then f_Part_group_107 rec8 (f_Part_group_80 rec8 K n) K l7 l6 l5 l4 l3 l0 l1 0 F B else f_Part_group_107 rec8 (f_Part_group_80 rec8 K n) K l7 l6 l5 l4 l3 l0 l1 1 F B) else none) else none else none
set_option maxHeartbeats 4000000 in
set_option maxRecDepth 100000 in
theorem b_Part_group_80 {D : va_G} {ca : Nat → ClassId} {ad : Nat → Int → Nat → Nat} {L : List Nat} {aS vS : Nat → Nat} {A : Nat → Prop} {p : Program} {l : Launch} {e : Env} {s : State} {m : MethodId} {args : Array Value} {below : List Frame} {meth : Method} {c : Code} {K : zK} {r : Int} {F9 : zF} {B9 : zB} (X : zX D ca L aS vS A p s m args meth c prog_6_method_24_code 9 (Option.none : Option Jvm.ClassFile.FieldType) "StaveHouse$Part") {rec8 : Int → Int → Int → Int → Int → zF → zB → zO} (hrec8 : ∀ {l5 : Int} {l4 : Int} {l3 : Int} {l0 : Int} {l1 : Int} {F : zF} {B : zB} {H : Heap} {locs : List Loc} {ls : Array Slot}, rec8 l5 l4 l3 l0 l1 F B = some (r, F9, B9) → zH D ca ad lnC K.2 L F B A H → va_S A s.heap H locs → lv_has ls 9 [(5, .int (iI l5)), (4, .int (iI l4)), (3, .int (iI l3)), (0, .ref (ad 4 l0 0)), (1, .long (lI l1))] → W p l e ({ frames := 3, cells := 0, slots := 0, locals := 67 } : Room) s m args below meth c H locs 0 0 (MQ below (Q_Part_group K D ca ad L r F9 B9 A) args s 0 0 A) (F0 m 8 ls [])) : ∀ {n : Nat} {l7 : Int} {l6 : Int} {l5 : Int} {l4 : Int} {l3 : Int} {l0 : Int} {l1 : Int} {F : zF} {B : zB} {H : Heap} {locs : List Loc} {ls : Array Slot}, f_Part_group_80 rec8 K n l7 l6 l5 l4 l3 l0 l1 F B = some (r, F9, B9) → zH D ca ad lnC K.2 L F B A H → va_S A s.heap H locs → lv_has ls 9 [(7, .int (iI l7)), (6, .int (iI l6)), (5, .int (iI l5)), (4, .int (iI l4)), (3, .int (iI l3)), (0, .ref (ad 4 l0 0)), (1, .long (lI l1))] → W p l e ({ frames := 3, cells := 0, slots := 0, locals := 67 } : Room) s m args below meth c H locs 0 0 (MQ below (Q_Part_group K D ca ad L r F9 B9 A) args s 0 0 A) (F0 m 80 ls []) := by
  obtain ⟨hx, hb, hr, hml, hown, hts, hlk, hK, hA, hL, hX⟩ := id X
  intro n
  induction n with
  | zero =>
    intros
    rename_i hf _ _ _
    cases hf
  | succ n ih =>
    intro l7 l6 l5 l4 l3 l0 l1 F B H locs ls hf hZ hS hl
    replace hf : (if r32 l7 then if r32 (l4 + l6) then (if (l4 + l6) ≤ l7 then if r32 l6 then (if l6 ≤ 1 then f_Part_group_192 rec8 K l6 l5 l4 l0 l1 l3 0 F B else f_Part_group_192 rec8 K l6 l5 l4 l0 l1 l3 1 F B) else none else if r32 (l7 + 1) then (if (l4 + l6) ≤ (l7 + 1) then f_Part_group_107 rec8 (f_Part_group_80 rec8 K n) K l7 l6 l5 l4 l3 l0 l1 0 F B else f_Part_group_107 rec8 (f_Part_group_80 rec8 K n) K l7 l6 l5 l4 l3 l0 l1 1 F B) else none) else none else none) = some (r, F9, B9) := hf
    refine lv_iload hx hb d_6_24_80 (lv_at hl 0 rfl) ?_
    refine lv_iload hx hb d_6_24_82 (lv_at hl 3 rfl) ?_
    refine lv_iload hx hb d_6_24_84 (lv_at hl 1 rfl) ?_
    refine zadd hx hb d_6_24_86 ?_
    obtain ⟨g19, hf⟩ := gif hf
    obtain ⟨g20, hf⟩ := gif hf
    refine zge (tgt := 180) hx hb g19 g20 d_6_24_87 (by decide) (fun h21 => ?_) (fun h21 => ?_)
    · replace hf := gpos hf h21
      refine lv_iload_n hx hb d_6_24_180 rfl (lv_at hl 4 rfl) ?_
      refine lv_iload hx hb d_6_24_181 (lv_at hl 1 rfl) ?_
      refine lv_iconst (v := iI 1) hx hb d_6_24_183 rfl ?_
      obtain ⟨g22, hf⟩ := gif hf
      refine zle (tgt := 191) hx hb g22 (by decide) d_6_24_184 (by decide) (fun h23 => ?_) (fun h23 => ?_)
      · replace hf := gpos hf h23
        refine lv_iconst (v := iI 0) hx hb d_6_24_191 rfl ?_
        exact b_Part_group_192 X hrec8 hf hZ hS (lv_sub hl [1, 2, 3, 5, 6] rfl)
      · replace hf := gneg hf h23
        refine lv_iconst (v := iI 1) hx hb d_6_24_187 rfl ?_
        refine lv_goto (tgt := 192) hx hb d_6_24_188 (by decide) ?_
        exact b_Part_group_192 X hrec8 hf hZ hS (lv_sub hl [1, 2, 3, 5, 6] rfl)
    · replace hf := gneg hf h21
      refine lv_iload hx hb d_6_24_90 (lv_at hl 0 rfl) ?_
      refine lv_iconst (v := iI 1) hx hb d_6_24_92 rfl ?_
      refine zadd hx hb d_6_24_93 ?_
      refine lv_iload hx hb d_6_24_94 (lv_at hl 3 rfl) ?_
      refine lv_iload hx hb d_6_24_96 (lv_at hl 1 rfl) ?_
      refine zadd hx hb d_6_24_98 ?_
      obtain ⟨g24, hf⟩ := gif hf
      refine zge (tgt := 106) hx hb g24 g20 d_6_24_99 (by decide) (fun h25 => ?_) (fun h25 => ?_)
      · replace hf := gpos hf h25
        refine lv_iconst (v := iI 0) hx hb d_6_24_106 rfl ?_
        exact b_Part_group_107 X hrec8 ih hf hZ hS (lv_sub hl [0, 1, 2, 3, 4, 5, 6] rfl)
      · replace hf := gneg hf h25
        refine lv_iconst (v := iI 1) hx hb d_6_24_102 rfl ?_
        refine lv_goto (tgt := 107) hx hb d_6_24_103 (by decide) ?_
        exact b_Part_group_107 X hrec8 ih hf hZ hS (lv_sub hl [0, 1, 2, 3, 4, 5, 6] rfl)

noncomputable def f_Part_group_76 (rec8 : Int → Int → Int → Int → Int → zF → zB → zO) (K : zK) (l6 : Int) (l5 : Int) (l4 : Int) (l3 : Int) (l0 : Int) (l1 : Int) (F : zF) (B : zB) : zO := f_Part_group_80 rec8 K K.1 l4 l6 l5 l4 l3 l0 l1 F B
set_option maxHeartbeats 4000000 in
set_option maxRecDepth 100000 in
theorem b_Part_group_76 {D : va_G} {ca : Nat → ClassId} {ad : Nat → Int → Nat → Nat} {L : List Nat} {aS vS : Nat → Nat} {A : Nat → Prop} {p : Program} {l : Launch} {e : Env} {s : State} {m : MethodId} {args : Array Value} {below : List Frame} {meth : Method} {c : Code} {K : zK} {r : Int} {F9 : zF} {B9 : zB} (X : zX D ca L aS vS A p s m args meth c prog_6_method_24_code 9 (Option.none : Option Jvm.ClassFile.FieldType) "StaveHouse$Part") {rec8 : Int → Int → Int → Int → Int → zF → zB → zO} (hrec8 : ∀ {l5 : Int} {l4 : Int} {l3 : Int} {l0 : Int} {l1 : Int} {F : zF} {B : zB} {H : Heap} {locs : List Loc} {ls : Array Slot}, rec8 l5 l4 l3 l0 l1 F B = some (r, F9, B9) → zH D ca ad lnC K.2 L F B A H → va_S A s.heap H locs → lv_has ls 9 [(5, .int (iI l5)), (4, .int (iI l4)), (3, .int (iI l3)), (0, .ref (ad 4 l0 0)), (1, .long (lI l1))] → W p l e ({ frames := 3, cells := 0, slots := 0, locals := 67 } : Room) s m args below meth c H locs 0 0 (MQ below (Q_Part_group K D ca ad L r F9 B9 A) args s 0 0 A) (F0 m 8 ls [])) {l6 : Int} {l5 : Int} {l4 : Int} {l3 : Int} {l0 : Int} {l1 : Int} {F : zF} {B : zB} {H : Heap} {locs : List Loc} {ls : Array Slot} (hf : f_Part_group_76 rec8 K l6 l5 l4 l3 l0 l1 F B = some (r, F9, B9)) (hZ : zH D ca ad lnC K.2 L F B A H) (hS : va_S A s.heap H locs) (hl : lv_has ls 9 [(6, .int (iI l6)), (5, .int (iI l5)), (4, .int (iI l4)), (3, .int (iI l3)), (0, .ref (ad 4 l0 0)), (1, .long (lI l1))]) : W p l e ({ frames := 3, cells := 0, slots := 0, locals := 67 } : Room) s m args below meth c H locs 0 0 (MQ below (Q_Part_group K D ca ad L r F9 B9 A) args s 0 0 A) (F0 m 76 ls []) := by
  obtain ⟨hx, hb, hr, hml, hown, hts, hlk, hK, hA, hL, hX⟩ := id X
  replace hf : (f_Part_group_80 rec8 K K.1 l4 l6 l5 l4 l3 l0 l1 F B) = some (r, F9, B9) := hf
  refine lv_iload hx hb d_6_24_76 (lv_at hl 2 rfl) ?_
  refine lv_istore (lv' := [(7, .int (iI l4)), (6, .int (iI l6)), (5, .int (iI l5)), (4, .int (iI l4)), (3, .int (iI l3)), (0, .ref (ad 4 l0 0)), (1, .long (lI l1))]) hx hb d_6_24_78 hl (by decide) rfl (fun ls hl => ?_)
  exact b_Part_group_80 X hrec8 hf hZ hS (lv_sub hl [0, 1, 2, 3, 4, 5, 6] rfl)

noncomputable def f_Part_group_34 (rec8 : Int → Int → Int → Int → Int → zF → zB → zO) (K : zK) : Nat → Int → Int → Int → Int → Int → Int → zF → zB → zO
  | 0, _, _, _, _, _, _, _, _ => none
  | n + 1, l6, l5, l4, l3, l0, l1, F, B => if 0 ≤ l0 ∧ l0 < K.2 4 then zbind (f_Part_isBeamed K l0 l4 F B) (fun r10 F10 B10 => if r32 r10 then (if r10 = 0 then f_Part_group_76 rec8 K l6 l5 l4 l3 l0 l1 F10 B10 else if r32 (l4 + l6) then if r32 (F10 4 l0 10) then (if (F10 4 l0 10) ≤ (l4 + l6) then f_Part_group_76 rec8 K l6 l5 l4 l3 l0 l1 F10 B10 else zbind (f_Part_beamsWith K l0 l4 (l4 + l6) l1 F10 B10) (fun r16 F16 B16 => if r32 r16 then (if r16 = 0 then f_Part_group_76 rec8 K l6 l5 l4 l3 l0 l1 F16 B16 else f_Part_group_34 rec8 K n (l6 + 1) l5 l4 l3 l0 l1 F16 B16) else none)) else none else none) else none) else none
set_option maxHeartbeats 4000000 in
set_option maxRecDepth 100000 in
theorem b_Part_group_34 {D : va_G} {ca : Nat → ClassId} {ad : Nat → Int → Nat → Nat} {L : List Nat} {aS vS : Nat → Nat} {A : Nat → Prop} {p : Program} {l : Launch} {e : Env} {s : State} {m : MethodId} {args : Array Value} {below : List Frame} {meth : Method} {c : Code} {K : zK} {r : Int} {F9 : zF} {B9 : zB} (X : zX D ca L aS vS A p s m args meth c prog_6_method_24_code 9 (Option.none : Option Jvm.ClassFile.FieldType) "StaveHouse$Part") {rec8 : Int → Int → Int → Int → Int → zF → zB → zO} (hrec8 : ∀ {l5 : Int} {l4 : Int} {l3 : Int} {l0 : Int} {l1 : Int} {F : zF} {B : zB} {H : Heap} {locs : List Loc} {ls : Array Slot}, rec8 l5 l4 l3 l0 l1 F B = some (r, F9, B9) → zH D ca ad lnC K.2 L F B A H → va_S A s.heap H locs → lv_has ls 9 [(5, .int (iI l5)), (4, .int (iI l4)), (3, .int (iI l3)), (0, .ref (ad 4 l0 0)), (1, .long (lI l1))] → W p l e ({ frames := 3, cells := 0, slots := 0, locals := 67 } : Room) s m args below meth c H locs 0 0 (MQ below (Q_Part_group K D ca ad L r F9 B9 A) args s 0 0 A) (F0 m 8 ls [])) : ∀ {n : Nat} {l6 : Int} {l5 : Int} {l4 : Int} {l3 : Int} {l0 : Int} {l1 : Int} {F : zF} {B : zB} {H : Heap} {locs : List Loc} {ls : Array Slot}, f_Part_group_34 rec8 K n l6 l5 l4 l3 l0 l1 F B = some (r, F9, B9) → zH D ca ad lnC K.2 L F B A H → va_S A s.heap H locs → lv_has ls 9 [(6, .int (iI l6)), (5, .int (iI l5)), (4, .int (iI l4)), (3, .int (iI l3)), (0, .ref (ad 4 l0 0)), (1, .long (lI l1))] → W p l e ({ frames := 3, cells := 0, slots := 0, locals := 67 } : Room) s m args below meth c H locs 0 0 (MQ below (Q_Part_group K D ca ad L r F9 B9 A) args s 0 0 A) (F0 m 34 ls []) := by
  obtain ⟨hx, hb, hr, hml, hown, hts, hlk, hK, hA, hL, hX⟩ := id X
  intro n
  induction n with
  | zero =>
    intros
    rename_i hf _ _ _
    cases hf
  | succ n ih =>
    intro l6 l5 l4 l3 l0 l1 F B H locs ls hf hZ hS hl
    replace hf : (if 0 ≤ l0 ∧ l0 < K.2 4 then zbind (f_Part_isBeamed K l0 l4 F B) (fun r10 F10 B10 => if r32 r10 then (if r10 = 0 then f_Part_group_76 rec8 K l6 l5 l4 l3 l0 l1 F10 B10 else if r32 (l4 + l6) then if r32 (F10 4 l0 10) then (if (F10 4 l0 10) ≤ (l4 + l6) then f_Part_group_76 rec8 K l6 l5 l4 l3 l0 l1 F10 B10 else zbind (f_Part_beamsWith K l0 l4 (l4 + l6) l1 F10 B10) (fun r16 F16 B16 => if r32 r16 then (if r16 = 0 then f_Part_group_76 rec8 K l6 l5 l4 l3 l0 l1 F16 B16 else f_Part_group_34 rec8 K n (l6 + 1) l5 l4 l3 l0 l1 F16 B16) else none)) else none else none) else none) else none) = some (r, F9, B9) := hf
    refine lv_aload_n hx hb d_6_24_34 rfl (lv_at hl 4 rfl) ?_
    refine lv_iload hx hb d_6_24_35 (lv_at hl 2 rfl) ?_
    obtain ⟨g9, hf⟩ := gif hf
    obtain ⟨r10, F10, B10, hc10, hf⟩ := gbind hf
    refine va_calli (va_runV (As := [.int (iI l4)]) (rest := []) ⟨hx, hb, hml, hown, hts⟩ (c_Part_isBeamed (l := l) hc10) (cwV 1 hts (gdV k_5_153 k_5_155 ks_62 k_1_18 k_5_156) rfl rfl rfl (by decide +kernel) ⟨Nat.le_of_ble_eq_true rfl, Nat.le_of_ble_eq_true rfl⟩) (zPV X hZ hS (ci := 4) g9.1 g9.2 (r := (RX4, TX4, 13)) rfl [.int (iI l4)]) rfl rfl hl.1 rfl (lv_room (Nat.le_of_ble_eq_true rfl)) d_6_24_37 ⟨Nat.le_of_ble_eq_true rfl, Nat.le_of_ble_eq_true rfl⟩) hS (fun q _ h => zAin X hS q h) (zAin X hS) (fun p10 u10 t10 H10 locs10 ht10 hv10 hw10 hB10 hz10 hk10 hS10 => ?_)
    have hZ10 := zBack X ht10 hB10
    subst hw10
    obtain ⟨g11, hf⟩ := gif hf
    refine z0eq (tgt := 76) hx hb g11 d_6_24_40 (by decide) (fun h12 => ?_) (fun h12 => ?_)
    · replace hf := gpos hf h12
      exact b_Part_group_76 X hrec8 hf hZ10 hS10 (lv_sub hl [0, 1, 2, 3, 4, 5] rfl)
    · replace hf := gneg hf h12
      refine lv_iload hx hb d_6_24_43 (lv_at hl 2 rfl) ?_
      refine lv_iload hx hb d_6_24_45 (lv_at hl 0 rfl) ?_
      refine zadd hx hb d_6_24_47 ?_
      refine lv_aload_n hx hb d_6_24_48 rfl (lv_at hl 4 rfl) ?_
      refine zget (ci := 4) (C := RX4) (T := TX4) (v := .int (iI (F10 4 l0 10))) (k := 10) hx hb hts inW_4 hown hK hZ10 g9.1 g9.2 rfl (by decide) k_4_148 rfl d_6_24_49 ?_
      obtain ⟨g13, hf⟩ := gif hf
      obtain ⟨g14, hf⟩ := gif hf
      refine zge (tgt := 76) hx hb g13 g14 d_6_24_52 (by decide) (fun h15 => ?_) (fun h15 => ?_)
      · replace hf := gpos hf h15
        exact b_Part_group_76 X hrec8 hf hZ10 hS10 (lv_sub hl [0, 1, 2, 3, 4, 5] rfl)
      · replace hf := gneg hf h15
        refine lv_aload_n hx hb d_6_24_55 rfl (lv_at hl 4 rfl) ?_
        refine lv_iload hx hb d_6_24_56 (lv_at hl 2 rfl) ?_
        refine lv_iload hx hb d_6_24_58 (lv_at hl 2 rfl) ?_
        refine lv_iload hx hb d_6_24_60 (lv_at hl 0 rfl) ?_
        refine zadd hx hb d_6_24_62 ?_
        refine lv_lload_n hx hb d_6_24_63 rfl (lv_at hl 5 rfl) ?_
        obtain ⟨r16, F16, B16, hc16, hf⟩ := gbind hf
        refine va_calli (va_runV (As := [.int (iI l4), .int (iI (l4 + l6)), .long (lI l1)]) (rest := []) ⟨hx, hb, hml, hown, hts⟩ (c_Part_beamsWith (l := l) hc16) (cwV 3 hts (gdV k_5_157 k_5_159 ks_63 k_1_18 k_5_160) rfl rfl rfl (by decide +kernel) ⟨Nat.le_of_ble_eq_true rfl, Nat.le_of_ble_eq_true rfl⟩) (zPV X hZ10 hS10 (ci := 4) g9.1 g9.2 (r := (RX4, TX4, 13)) rfl [.int (iI l4), .int (iI (l4 + l6)), .long (lI l1)]) rfl rfl hl.1 rfl (lv_room (Nat.le_of_ble_eq_true rfl)) d_6_24_64 ⟨Nat.le_of_ble_eq_true rfl, Nat.le_of_ble_eq_true rfl⟩) hS10 (fun q _ h => zAin X hS10 q h) (zAin X hS10) (fun p16 u16 t16 H16 locs16 ht16 hv16 hw16 hB16 hz16 hk16 hS16 => ?_)
        have hZ16 := zBack X ht16 hB16
        subst hw16
        obtain ⟨g17, hf⟩ := gif hf
        refine z0eq (tgt := 76) hx hb g17 d_6_24_67 (by decide) (fun h18 => ?_) (fun h18 => ?_)
        · replace hf := gpos hf h18
          exact b_Part_group_76 X hrec8 hf hZ16 hS16 (lv_sub hl [0, 1, 2, 3, 4, 5] rfl)
        · replace hf := gneg hf h18
          refine lv_iinc (v := iI (l6 + 1)) (lv' := [(6, .int (iI (l6 + 1))), (5, .int (iI l5)), (4, .int (iI l4)), (3, .int (iI l3)), (0, .ref (ad 4 l0 0)), (1, .long (lI l1))]) hx hb d_6_24_70 hl (k := 0) rfl (iI_add _ 1) (by decide) rfl (fun ls hl => ?_)
          refine lv_goto (tgt := 34) hx hb d_6_24_73 (by decide) ?_
          exact ih hf hZ16 hS16 (lv_sub hl [0, 1, 2, 3, 4, 5] rfl)

noncomputable def f_Part_group_8 (K : zK) : Nat → Int → Int → Int → Int → Int → zF → zB → zO
  | 0, _, _, _, _, _, _, _ => none
  | n + 1, l5, l4, l3, l0, l1, F, B => if r32 l5 then (if 800 ≤ l5 then f_Part_group_207 K F B else if 0 ≤ l0 ∧ l0 < K.2 4 then if r32 l4 then if r32 (F 4 l0 10) then (if (F 4 l0 10) ≤ l4 then f_Part_group_207 K F B else if r64 l1 then (if (zcmp l1 0) ≤ 0 then f_Part_group_207 K F B else f_Part_group_34 (f_Part_group_8 K n) K K.1 1 l5 l4 l3 l0 l1 F B) else none) else none else none else none) else none
set_option maxHeartbeats 4000000 in
set_option maxRecDepth 100000 in
theorem b_Part_group_8 {D : va_G} {ca : Nat → ClassId} {ad : Nat → Int → Nat → Nat} {L : List Nat} {aS vS : Nat → Nat} {A : Nat → Prop} {p : Program} {l : Launch} {e : Env} {s : State} {m : MethodId} {args : Array Value} {below : List Frame} {meth : Method} {c : Code} {K : zK} {r : Int} {F9 : zF} {B9 : zB} (X : zX D ca L aS vS A p s m args meth c prog_6_method_24_code 9 (Option.none : Option Jvm.ClassFile.FieldType) "StaveHouse$Part") : ∀ {n : Nat} {l5 : Int} {l4 : Int} {l3 : Int} {l0 : Int} {l1 : Int} {F : zF} {B : zB} {H : Heap} {locs : List Loc} {ls : Array Slot}, f_Part_group_8 K n l5 l4 l3 l0 l1 F B = some (r, F9, B9) → zH D ca ad lnC K.2 L F B A H → va_S A s.heap H locs → lv_has ls 9 [(5, .int (iI l5)), (4, .int (iI l4)), (3, .int (iI l3)), (0, .ref (ad 4 l0 0)), (1, .long (lI l1))] → W p l e ({ frames := 3, cells := 0, slots := 0, locals := 67 } : Room) s m args below meth c H locs 0 0 (MQ below (Q_Part_group K D ca ad L r F9 B9 A) args s 0 0 A) (F0 m 8 ls []) := by
  obtain ⟨hx, hb, hr, hml, hown, hts, hlk, hK, hA, hL, hX⟩ := id X
  intro n
  induction n with
  | zero =>
    intros
    rename_i hf _ _ _
    cases hf
  | succ n ih =>
    intro l5 l4 l3 l0 l1 F B H locs ls hf hZ hS hl
    replace hf : (if r32 l5 then (if 800 ≤ l5 then f_Part_group_207 K F B else if 0 ≤ l0 ∧ l0 < K.2 4 then if r32 l4 then if r32 (F 4 l0 10) then (if (F 4 l0 10) ≤ l4 then f_Part_group_207 K F B else if r64 l1 then (if (zcmp l1 0) ≤ 0 then f_Part_group_207 K F B else f_Part_group_34 (f_Part_group_8 K n) K K.1 1 l5 l4 l3 l0 l1 F B) else none) else none else none else none) else none) = some (r, F9, B9) := hf
    refine lv_iload hx hb d_6_24_8 (lv_at hl 0 rfl) ?_
    refine lv_sipush (v := iI 800) hx hb d_6_24_10 (by decide) ?_
    obtain ⟨g1, hf⟩ := gif hf
    refine zge (tgt := 207) hx hb g1 (by decide) d_6_24_13 (by decide) (fun h2 => ?_) (fun h2 => ?_)
    · replace hf := gpos hf h2
      exact b_Part_group_207 X hf hZ hS (lv_sub hl [] rfl)
    · replace hf := gneg hf h2
      refine lv_iload hx hb d_6_24_16 (lv_at hl 1 rfl) ?_
      refine lv_aload_n hx hb d_6_24_18 rfl (lv_at hl 3 rfl) ?_
      obtain ⟨g3, hf⟩ := gif hf
      refine zget (ci := 4) (C := RX4) (T := TX4) (v := .int (iI (F 4 l0 10))) (k := 10) hx hb hts inW_4 hown hK hZ g3.1 g3.2 rfl (by decide) k_4_148 rfl d_6_24_19 ?_
      obtain ⟨g4, hf⟩ := gif hf
      obtain ⟨g5, hf⟩ := gif hf
      refine zge (tgt := 207) hx hb g4 g5 d_6_24_22 (by decide) (fun h6 => ?_) (fun h6 => ?_)
      · replace hf := gpos hf h6
        exact b_Part_group_207 X hf hZ hS (lv_sub hl [] rfl)
      · replace hf := gneg hf h6
        refine lv_lload_n hx hb d_6_24_25 rfl (lv_at hl 4 rfl) ?_
        refine lv_lconst (v := lI 0) hx hb d_6_24_26 (by decide) ?_
        obtain ⟨g7, hf⟩ := gif hf
        refine zcmp_r hx hb g7 (by decide) d_6_24_27 ?_
        refine z0le (tgt := 207) hx hb zcmp_32 d_6_24_28 (by decide) (fun h8 => ?_) (fun h8 => ?_)
        · replace hf := gpos hf h8
          exact b_Part_group_207 X hf hZ hS (lv_sub hl [] rfl)
        · replace hf := gneg hf h8
          refine lv_iconst (v := iI 1) hx hb d_6_24_31 rfl ?_
          refine lv_istore (lv' := [(6, .int (iI 1)), (5, .int (iI l5)), (4, .int (iI l4)), (3, .int (iI l3)), (0, .ref (ad 4 l0 0)), (1, .long (lI l1))]) hx hb d_6_24_32 hl (by decide) rfl (fun ls hl => ?_)
          exact b_Part_group_34 X ih hf hZ hS (lv_sub hl [0, 1, 2, 3, 4, 5] rfl)

noncomputable def f_Part_group (K : zK) (l0 : Int) (l1 : Int) (F : zF) (B : zB) : zO := f_Part_group_8 K K.1 0 0 0 l0 l1 F B
set_option maxHeartbeats 4000000 in
set_option maxRecDepth 100000 in
theorem c_Part_group {l : Launch} {D : va_G} {ca : Nat → ClassId} {ad : Nat → Int → Nat → Nat} {L : List Nat} {aS vS : Nat → Nat} {sz : Nat} {K : zK}  {l0 : Int} {l1 : Int} {F F9 : zF} {B B9 : zB} {r : Int} (hf : f_Part_group K l0 l1 F B = some (r, F9, B9)) : Met l ({ cls := "StaveHouse$Part", name := "group", desc := "(J)V" } : Jvm.MethodName) (Cond.code ({ cls := "StaveHouse$Part", name := "group", desc := "(J)V" } : Jvm.MethodName) prog_6_method_24_code 9 (Option.none : Option Jvm.ClassFile.FieldType) :: wAll) ({ frames := 3, cells := 0, slots := 0, locals := 67 } : Room) (va_Pc [.ref (ad 4 l0 0), .long (lI l1)] (zPre D ca ad lnC K.2 L aS vS F B sz)) (Q_Part_group K D ca ad L r F9 B9 (zA L sz)) 0 0 (zA L sz) := by
  refine zMet (Qc := Q_Part_group K D ca ad L r F9 B9) (lv := [(0, .ref (ad 4 l0 0)), (1, .long (lI l1))]) (by decide) (Nat.le_of_ble_eq_true rfl) rfl (fun A p e s m below meth c ls X hZ hS hl => ?_)
  obtain ⟨hx, hb, hr, hml, hown, hts, hlk, hK, hA, hL, hX⟩ := id X
  replace hf : (f_Part_group_8 K K.1 0 0 0 l0 l1 F B) = some (r, F9, B9) := hf
  refine lv_iconst (v := iI 0) hx hb d_6_24_0 rfl ?_
  refine lv_istore_n (lv' := [(3, .int (iI 0)), (0, .ref (ad 4 l0 0)), (1, .long (lI l1))]) hx hb d_6_24_1 rfl hl (by decide) rfl (fun ls hl => ?_)
  refine lv_iconst (v := iI 0) hx hb d_6_24_2 rfl ?_
  refine lv_istore (lv' := [(4, .int (iI 0)), (3, .int (iI 0)), (0, .ref (ad 4 l0 0)), (1, .long (lI l1))]) hx hb d_6_24_3 hl (by decide) rfl (fun ls hl => ?_)
  refine lv_iconst (v := iI 0) hx hb d_6_24_5 rfl ?_
  refine lv_istore (lv' := [(5, .int (iI 0)), (4, .int (iI 0)), (3, .int (iI 0)), (0, .ref (ad 4 l0 0)), (1, .long (lI l1))]) hx hb d_6_24_6 hl (by decide) rfl (fun ls hl => ?_)
  exact b_Part_group_8 X hf hZ hS (lv_sub hl [0, 1, 2, 3, 4] rfl)

noncomputable abbrev Q_Study_findMoments (K : zK) (D : va_G) (ca : Nat → ClassId) (ad : Nat → Int → Nat → Nat) (L : List Nat) (r : Int) (F : zF) (B : zB) (A : Nat → Prop) : Array Value → State → Outcome → State → Prop := va_Qv (S := Unit) (fun _ => True) (fun _ => zPo D ca ad lnC K.2 L F B A) A
noncomputable def f_Study_findMoments_160 (rec29 : Int → Int → Int → zF → zB → zO) (rec68 : Int → Int → Int → Int → Int → zF → zB → zO) (K : zK) (l5 : Int) (l3 : Int) (l2 : Int) (l0 : Int) (l1 : Int) (s0i : Int) (s0z : Int) (s1 : Int) (s2 : Int) (F : zF) (B : zB) : zO := if 0 ≤ s0i ∧ s0i < K.2 9 then if 0 ≤ s0z ∧ s0z < 4 then if 0 ≤ s1 ∧ s1 < 800 then rec68 (l5 + 1) l3 l2 l0 l1 F (zup4 B 9 s0i (280 + s0z.toNat) s1 s2) else none else none else none
set_option maxHeartbeats 4000000 in
set_option maxRecDepth 100000 in
theorem b_Study_findMoments_160 {D : va_G} {ca : Nat → ClassId} {ad : Nat → Int → Nat → Nat} {L : List Nat} {aS vS : Nat → Nat} {A : Nat → Prop} {p : Program} {l : Launch} {e : Env} {s : State} {m : MethodId} {args : Array Value} {below : List Frame} {meth : Method} {c : Code} {K : zK} {r : Int} {F9 : zF} {B9 : zB} (X : zX D ca L aS vS A p s m args meth c prog_11_method_3_code 9 (Option.none : Option Jvm.ClassFile.FieldType) "StaveHouse$Study") {rec29 : Int → Int → Int → zF → zB → zO} {rec68 : Int → Int → Int → Int → Int → zF → zB → zO} (hrec29 : ∀ {l2 : Int} {l0 : Int} {l1 : Int} {F : zF} {B : zB} {H : Heap} {locs : List Loc} {ls : Array Slot}, rec29 l2 l0 l1 F B = some (r, F9, B9) → zH D ca ad lnC K.2 L F B A H → va_S A s.heap H locs → lv_has ls 9 [(2, .int (iI l2)), (0, .ref (ad 9 l0 0)), (1, .ref (ad 6 l1 0))] → W p l e ({ frames := 1, cells := 0, slots := 0, locals := 27 } : Room) s m args below meth c H locs 0 0 (MQ below (Q_Study_findMoments K D ca ad L r F9 B9 A) args s 0 0 A) (F0 m 29 ls [])) (hrec68 : ∀ {l5 : Int} {l3 : Int} {l2 : Int} {l0 : Int} {l1 : Int} {F : zF} {B : zB} {H : Heap} {locs : List Loc} {ls : Array Slot}, rec68 l5 l3 l2 l0 l1 F B = some (r, F9, B9) → zH D ca ad lnC K.2 L F B A H → va_S A s.heap H locs → lv_has ls 9 [(5, .int (iI l5)), (3, .long (lI l3)), (2, .int (iI l2)), (0, .ref (ad 9 l0 0)), (1, .ref (ad 6 l1 0))] → W p l e ({ frames := 1, cells := 0, slots := 0, locals := 27 } : Room) s m args below meth c H locs 0 0 (MQ below (Q_Study_findMoments K D ca ad L r F9 B9 A) args s 0 0 A) (F0 m 68 ls [])) {l5 : Int} {l3 : Int} {l2 : Int} {l0 : Int} {l1 : Int} {s0i : Int} {s0z : Int} {s1 : Int} {s2 : Int} {F : zF} {B : zB} {H : Heap} {locs : List Loc} {ls : Array Slot} (hf : f_Study_findMoments_160 rec29 rec68 K l5 l3 l2 l0 l1 s0i s0z s1 s2 F B = some (r, F9, B9)) (hZ : zH D ca ad lnC K.2 L F B A H) (hS : va_S A s.heap H locs) (hl : lv_has ls 9 [(5, .int (iI l5)), (3, .long (lI l3)), (2, .int (iI l2)), (0, .ref (ad 9 l0 0)), (1, .ref (ad 6 l1 0))]) : W p l e ({ frames := 1, cells := 0, slots := 0, locals := 27 } : Room) s m args below meth c H locs 0 0 (MQ below (Q_Study_findMoments K D ca ad L r F9 B9 A) args s 0 0 A) (F0 m 160 ls [.int (iI s2), .int (iI s1), .ref (ad 9 s0i (280 + s0z.toNat + 1))]) := by
  obtain ⟨hx, hb, hr, hml, hown, hts, hlk, hK, hA, hL, hX⟩ := id X
  replace hf : (if 0 ≤ s0i ∧ s0i < K.2 9 then if 0 ≤ s0z ∧ s0z < 4 then if 0 ≤ s1 ∧ s1 < 800 then rec68 (l5 + 1) l3 l2 l0 l1 F (zup4 B 9 s0i (280 + s0z.toNat) s1 s2) else none else none else none) = some (r, F9, B9) := hf
  obtain ⟨g41, hf⟩ := gif hf
  obtain ⟨g42, hf⟩ := gif hf
  obtain ⟨g43, hf⟩ := gif hf
  refine zast (ci := 9) (k := (280 + s0z.toNat)) hx hb hK rfl hZ hS g41.1 g41.2 (zkq (c := 9) (b := 280) (n := 4) (t := 0) (by decide) g42.1 g42.2) (lnq_le (c := 9) (b := 280) (n := 4) (m := 800) (by decide) (by decide) (by decide) g42.1 g42.2) g43.1 (lnq_lt (c := 9) (b := 280) (n := 4) (m := 800) (by decide) (by decide) g42.1 g42.2 g43.2) d_11_3_160 (fun H44 locs44 hZ44 hS44 => ?_)
  refine lv_iinc (v := iI (l5 + 1)) (lv' := [(5, .int (iI (l5 + 1))), (3, .long (lI l3)), (2, .int (iI l2)), (0, .ref (ad 9 l0 0)), (1, .ref (ad 6 l1 0))]) hx hb d_11_3_161 hl (k := 0) rfl (iI_add _ 1) (by decide) rfl (fun ls hl => ?_)
  refine lv_goto (tgt := 68) hx hb d_11_3_164 (by decide) ?_
  exact hrec68 hf hZ44 hS44 (lv_sub hl [0, 1, 2, 3, 4] rfl)

noncomputable def f_Study_findMoments_136 (rec29 : Int → Int → Int → zF → zB → zO) (rec68 : Int → Int → Int → Int → Int → zF → zB → zO) (K : zK) (l7 : Int) (l5 : Int) (l3 : Int) (l2 : Int) (l0 : Int) (l1 : Int) (s0 : Int) (F : zF) (B : zB) : zO := if 0 ≤ l0 ∧ l0 < K.2 9 then if 0 ≤ l5 ∧ l5 < 4 then if r32 s0 then (if s0 = 0 then f_Study_findMoments_160 rec29 rec68 K l5 l3 l2 l0 l1 l0 l5 l2 (l7 - 1) F B else f_Study_findMoments_160 rec29 rec68 K l5 l3 l2 l0 l1 l0 l5 l2 l7 F B) else none else none else none
set_option maxHeartbeats 4000000 in
set_option maxRecDepth 100000 in
theorem b_Study_findMoments_136 {D : va_G} {ca : Nat → ClassId} {ad : Nat → Int → Nat → Nat} {L : List Nat} {aS vS : Nat → Nat} {A : Nat → Prop} {p : Program} {l : Launch} {e : Env} {s : State} {m : MethodId} {args : Array Value} {below : List Frame} {meth : Method} {c : Code} {K : zK} {r : Int} {F9 : zF} {B9 : zB} (X : zX D ca L aS vS A p s m args meth c prog_11_method_3_code 9 (Option.none : Option Jvm.ClassFile.FieldType) "StaveHouse$Study") {rec29 : Int → Int → Int → zF → zB → zO} {rec68 : Int → Int → Int → Int → Int → zF → zB → zO} (hrec29 : ∀ {l2 : Int} {l0 : Int} {l1 : Int} {F : zF} {B : zB} {H : Heap} {locs : List Loc} {ls : Array Slot}, rec29 l2 l0 l1 F B = some (r, F9, B9) → zH D ca ad lnC K.2 L F B A H → va_S A s.heap H locs → lv_has ls 9 [(2, .int (iI l2)), (0, .ref (ad 9 l0 0)), (1, .ref (ad 6 l1 0))] → W p l e ({ frames := 1, cells := 0, slots := 0, locals := 27 } : Room) s m args below meth c H locs 0 0 (MQ below (Q_Study_findMoments K D ca ad L r F9 B9 A) args s 0 0 A) (F0 m 29 ls [])) (hrec68 : ∀ {l5 : Int} {l3 : Int} {l2 : Int} {l0 : Int} {l1 : Int} {F : zF} {B : zB} {H : Heap} {locs : List Loc} {ls : Array Slot}, rec68 l5 l3 l2 l0 l1 F B = some (r, F9, B9) → zH D ca ad lnC K.2 L F B A H → va_S A s.heap H locs → lv_has ls 9 [(5, .int (iI l5)), (3, .long (lI l3)), (2, .int (iI l2)), (0, .ref (ad 9 l0 0)), (1, .ref (ad 6 l1 0))] → W p l e ({ frames := 1, cells := 0, slots := 0, locals := 27 } : Room) s m args below meth c H locs 0 0 (MQ below (Q_Study_findMoments K D ca ad L r F9 B9 A) args s 0 0 A) (F0 m 68 ls [])) {l7 : Int} {l5 : Int} {l3 : Int} {l2 : Int} {l0 : Int} {l1 : Int} {s0 : Int} {F : zF} {B : zB} {H : Heap} {locs : List Loc} {ls : Array Slot} (hf : f_Study_findMoments_136 rec29 rec68 K l7 l5 l3 l2 l0 l1 s0 F B = some (r, F9, B9)) (hZ : zH D ca ad lnC K.2 L F B A H) (hS : va_S A s.heap H locs) (hl : lv_has ls 9 [(7, .int (iI l7)), (5, .int (iI l5)), (3, .long (lI l3)), (2, .int (iI l2)), (0, .ref (ad 9 l0 0)), (1, .ref (ad 6 l1 0))]) : W p l e ({ frames := 1, cells := 0, slots := 0, locals := 27 } : Room) s m args below meth c H locs 0 0 (MQ below (Q_Study_findMoments K D ca ad L r F9 B9 A) args s 0 0 A) (F0 m 136 ls [.int (iI s0)]) := by
  obtain ⟨hx, hb, hr, hml, hown, hts, hlk, hK, hA, hL, hX⟩ := id X
  replace hf : (if 0 ≤ l0 ∧ l0 < K.2 9 then if 0 ≤ l5 ∧ l5 < 4 then if r32 s0 then (if s0 = 0 then f_Study_findMoments_160 rec29 rec68 K l5 l3 l2 l0 l1 l0 l5 l2 (l7 - 1) F B else f_Study_findMoments_160 rec29 rec68 K l5 l3 l2 l0 l1 l0 l5 l2 l7 F B) else none else none else none) = some (r, F9, B9) := hf
  refine lv_istore (lv' := [(8, .int (iI s0)), (7, .int (iI l7)), (5, .int (iI l5)), (3, .long (lI l3)), (2, .int (iI l2)), (0, .ref (ad 9 l0 0)), (1, .ref (ad 6 l1 0))]) hx hb d_11_3_136 hl (by decide) rfl (fun ls hl => ?_)
  refine lv_aload_n hx hb d_11_3_138 rfl (lv_at hl 5 rfl) ?_
  obtain ⟨g37, hf⟩ := gif hf
  refine zget (ci := 9) (C := RX9) (T := TX9) (v := .ref (ad 9 l0 (4 + 1))) (k := 4) hx hb hts inW_9 hown hK hZ g37.1 g37.2 rfl (by decide) k_5_205 rfl d_11_3_139 ?_
  refine lv_iload hx hb d_11_3_142 (lv_at hl 2 rfl) ?_
  obtain ⟨g38, hf⟩ := gif hf
  refine zaldQ (t := 0) (ci := 9) (k := 4) hx hb hK rfl hZ g37.1 g37.2 rfl (Nat.le_of_ble_eq_true rfl) g38.1 g38.2 d_11_3_144 ?_
  refine W.eq (g2 := F0 m 145 ls [.ref (ad 9 l0 (280 + l5.toNat + 1))]) rfl ?_
  refine lv_iload_n hx hb d_11_3_145 rfl (lv_at hl 4 rfl) ?_
  refine lv_iload hx hb d_11_3_146 (lv_at hl 0 rfl) ?_
  obtain ⟨g39, hf⟩ := gif hf
  refine z0eq (tgt := 156) hx hb g39 d_11_3_148 (by decide) (fun h40 => ?_) (fun h40 => ?_)
  · replace hf := gpos hf h40
    refine lv_iload hx hb d_11_3_156 (lv_at hl 1 rfl) ?_
    refine lv_iconst (v := iI 1) hx hb d_11_3_158 rfl ?_
    refine zsub hx hb d_11_3_159 ?_
    exact b_Study_findMoments_160 X hrec29 hrec68 hf hZ hS (lv_sub hl [2, 3, 4, 5, 6] rfl)
  · replace hf := gneg hf h40
    refine lv_iload hx hb d_11_3_151 (lv_at hl 1 rfl) ?_
    refine lv_goto (tgt := 160) hx hb d_11_3_153 (by decide) ?_
    exact b_Study_findMoments_160 X hrec29 hrec68 hf hZ hS (lv_sub hl [2, 3, 4, 5, 6] rfl)

noncomputable def f_Study_findMoments_135 (rec29 : Int → Int → Int → zF → zB → zO) (rec68 : Int → Int → Int → Int → Int → zF → zB → zO) (K : zK) (l7 : Int) (l5 : Int) (l3 : Int) (l2 : Int) (l0 : Int) (l1 : Int) (F : zF) (B : zB) : zO := f_Study_findMoments_136 rec29 rec68 K l7 l5 l3 l2 l0 l1 0 F B
set_option maxHeartbeats 4000000 in
set_option maxRecDepth 100000 in
theorem b_Study_findMoments_135 {D : va_G} {ca : Nat → ClassId} {ad : Nat → Int → Nat → Nat} {L : List Nat} {aS vS : Nat → Nat} {A : Nat → Prop} {p : Program} {l : Launch} {e : Env} {s : State} {m : MethodId} {args : Array Value} {below : List Frame} {meth : Method} {c : Code} {K : zK} {r : Int} {F9 : zF} {B9 : zB} (X : zX D ca L aS vS A p s m args meth c prog_11_method_3_code 9 (Option.none : Option Jvm.ClassFile.FieldType) "StaveHouse$Study") {rec29 : Int → Int → Int → zF → zB → zO} {rec68 : Int → Int → Int → Int → Int → zF → zB → zO} (hrec29 : ∀ {l2 : Int} {l0 : Int} {l1 : Int} {F : zF} {B : zB} {H : Heap} {locs : List Loc} {ls : Array Slot}, rec29 l2 l0 l1 F B = some (r, F9, B9) → zH D ca ad lnC K.2 L F B A H → va_S A s.heap H locs → lv_has ls 9 [(2, .int (iI l2)), (0, .ref (ad 9 l0 0)), (1, .ref (ad 6 l1 0))] → W p l e ({ frames := 1, cells := 0, slots := 0, locals := 27 } : Room) s m args below meth c H locs 0 0 (MQ below (Q_Study_findMoments K D ca ad L r F9 B9 A) args s 0 0 A) (F0 m 29 ls [])) (hrec68 : ∀ {l5 : Int} {l3 : Int} {l2 : Int} {l0 : Int} {l1 : Int} {F : zF} {B : zB} {H : Heap} {locs : List Loc} {ls : Array Slot}, rec68 l5 l3 l2 l0 l1 F B = some (r, F9, B9) → zH D ca ad lnC K.2 L F B A H → va_S A s.heap H locs → lv_has ls 9 [(5, .int (iI l5)), (3, .long (lI l3)), (2, .int (iI l2)), (0, .ref (ad 9 l0 0)), (1, .ref (ad 6 l1 0))] → W p l e ({ frames := 1, cells := 0, slots := 0, locals := 27 } : Room) s m args below meth c H locs 0 0 (MQ below (Q_Study_findMoments K D ca ad L r F9 B9 A) args s 0 0 A) (F0 m 68 ls [])) {l7 : Int} {l5 : Int} {l3 : Int} {l2 : Int} {l0 : Int} {l1 : Int} {F : zF} {B : zB} {H : Heap} {locs : List Loc} {ls : Array Slot} (hf : f_Study_findMoments_135 rec29 rec68 K l7 l5 l3 l2 l0 l1 F B = some (r, F9, B9)) (hZ : zH D ca ad lnC K.2 L F B A H) (hS : va_S A s.heap H locs) (hl : lv_has ls 9 [(7, .int (iI l7)), (5, .int (iI l5)), (3, .long (lI l3)), (2, .int (iI l2)), (0, .ref (ad 9 l0 0)), (1, .ref (ad 6 l1 0))]) : W p l e ({ frames := 1, cells := 0, slots := 0, locals := 27 } : Room) s m args below meth c H locs 0 0 (MQ below (Q_Study_findMoments K D ca ad L r F9 B9 A) args s 0 0 A) (F0 m 135 ls []) := by
  obtain ⟨hx, hb, hr, hml, hown, hts, hlk, hK, hA, hL, hX⟩ := id X
  replace hf : (f_Study_findMoments_136 rec29 rec68 K l7 l5 l3 l2 l0 l1 0 F B) = some (r, F9, B9) := hf
  refine lv_iconst (v := iI 0) hx hb d_11_3_135 rfl ?_
  exact b_Study_findMoments_136 X hrec29 hrec68 hf hZ hS (lv_sub hl [0, 1, 2, 3, 4, 5] rfl)

noncomputable def f_Study_findMoments_68 (rec29 : Int → Int → Int → zF → zB → zO) (K : zK) : Nat → Int → Int → Int → Int → Int → zF → zB → zO
  | 0, _, _, _, _, _, _, _ => none
  | n + 1, l5, l3, l2, l0, l1, F, B => if 0 ≤ l1 ∧ l1 < K.2 6 then if r32 l5 then if r32 (F 6 l1 1) then (if (F 6 l1 1) ≤ l5 then if 0 ≤ l0 ∧ l0 < K.2 9 then rec29 (l2 + 1) l0 l1 (zup3 F 9 l0 0 (l2 + 1)) B else none else if 0 ≤ l5 ∧ l5 < 4 then if 0 ≤ l0 ∧ l0 < K.2 9 then if r32 (l2 - 1) then if 0 ≤ (zmax (l2 - 1) 0) ∧ (zmax (l2 - 1) 0) < 800 then if 0 ≤ (B 6 l1 0 l5) ∧ (B 6 l1 0 l5) < K.2 4 then if r32 ((B 9 l0 (280 + l5.toNat) (zmax (l2 - 1) 0)) + 1) then if r32 (F 4 (B 6 l1 0 l5) 6) then (if (F 4 (B 6 l1 0 l5) 6) ≤ ((B 9 l0 (280 + l5.toNat) (zmax (l2 - 1) 0)) + 1) then f_Study_findMoments_135 rec29 (f_Study_findMoments_68 rec29 K n) K ((B 9 l0 (280 + l5.toNat) (zmax (l2 - 1) 0)) + 1) l5 l3 l2 l0 l1 F B else if 0 ≤ ((B 9 l0 (280 + l5.toNat) (zmax (l2 - 1) 0)) + 1) ∧ ((B 9 l0 (280 + l5.toNat) (zmax (l2 - 1) 0)) + 1) < 200 then if 0 ≤ (B 4 (B 6 l1 0 l5) 5 ((B 9 l0 (280 + l5.toNat) (zmax (l2 - 1) 0)) + 1)) ∧ (B 4 (B 6 l1 0 l5) 5 ((B 9 l0 (280 + l5.toNat) (zmax (l2 - 1) 0)) + 1)) < K.2 1 then if r64 (F 1 (B 4 (B 6 l1 0 l5) 5 ((B 9 l0 (280 + l5.toNat) (zmax (l2 - 1) 0)) + 1)) 0) then if r64 l3 then (if (zcmp (F 1 (B 4 (B 6 l1 0 l5) 5 ((B 9 l0 (280 + l5.toNat) (zmax (l2 - 1) 0)) + 1)) 0) l3) = 0 then f_Study_findMoments_136 rec29 (f_Study_findMoments_68 rec29 K n) K ((B 9 l0 (280 + l5.toNat) (zmax (l2 - 1) 0)) + 1) l5 l3 l2 l0 l1 1 F B else f_Study_findMoments_135 rec29 (f_Study_findMoments_68 rec29 K n) K ((B 9 l0 (280 + l5.toNat) (zmax (l2 - 1) 0)) + 1) l5 l3 l2 l0 l1 F B) else none else none else none else none) else none else none else none else none else none else none else none) else none else none else none
