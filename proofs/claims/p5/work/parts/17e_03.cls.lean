noncomputable def f_Study_takeClasses_43 (rec23 : Int → Int → Int → Int → zF → zB → zO) (K : zK) : Nat → Int → Int → Int → Int → Int → Int → zF → zB → zO
  | 0, _, _, _, _, _, _, _, _ => none
  | n + 1, l5, l4, l3, l0, l1, l2, F, B => (if l4 < 0 then f_Study_takeClasses_95 rec23 K l3 l0 l1 l2 F B else if 0 ≤ l4 ∧ l4 < K.2 1 then if r32 l5 then if r32 (F 1 l4 10) then (if (F 1 l4 10) ≤ l5 then f_Study_takeClasses_95 rec23 K l3 l0 l1 l2 F B else if 0 ≤ l0 ∧ l0 < K.2 9 then if 0 ≤ l5 ∧ l5 < 6 then if 0 ≤ (zrm (B 1 l4 12 l5) 7) ∧ (zrm (B 1 l4 12 l5) 7) < 7 then f_Study_takeClasses_43 rec23 K n (l5 + 1) l4 l3 l0 l1 l2 F (zup4 B 9 l0 10 (zrm (B 1 l4 12 l5) 7) (zor (B 9 l0 10 (zrm (B 1 l4 12 l5) 7)) (zshl 1 ((B 1 l4 13 l5) + 2)))) else none else none else none) else none else none else none)
set_option maxHeartbeats 4000000 in
set_option maxRecDepth 100000 in
theorem b_Study_takeClasses_43 {D : va_G} {ca : Nat → ClassId} {ad : Nat → Int → Nat → Nat} {L : List Nat} {aS vS : Nat → Nat} {A : Nat → Prop} {p : Program} {l : Launch} {e : Env} {s : State} {m : MethodId} {args : Array Value} {below : List Frame} {meth : Method} {c : Code} {K : zK} {r : Int} {F9 : zF} {B9 : zB} (X : zX D ca L aS vS A p s m args meth c prog_11_method_13_code 6 (Option.none : Option Jvm.ClassFile.FieldType) "StaveHouse$Study") {rec23 : Int → Int → Int → Int → zF → zB → zO} (hrec23 : ∀ {l3 : Int} {l0 : Int} {l1 : Int} {l2 : Int} {F : zF} {B : zB} {H : Heap} {locs : List Loc} {ls : Array Slot}, rec23 l3 l0 l1 l2 F B = some (r, F9, B9) → zH D ca ad lnC K.2 L F B A H → va_S A s.heap H locs → lv_has ls 6 [(3, .int (iI l3)), (0, .ref (ad 9 l0 0)), (1, .ref (ad 6 l1 0)), (2, .int (iI l2))] → W p l e ({ frames := 1, cells := 0, slots := 0, locals := 24 } : Room) s m args below meth c H locs 0 0 (MQ below (Q_Study_takeClasses K D ca ad L r F9 B9 A) args s 0 0 A) (F0 m 23 ls [])) : ∀ {n : Nat} {l5 : Int} {l4 : Int} {l3 : Int} {l0 : Int} {l1 : Int} {l2 : Int} {F : zF} {B : zB} {H : Heap} {locs : List Loc} {ls : Array Slot}, f_Study_takeClasses_43 rec23 K n l5 l4 l3 l0 l1 l2 F B = some (r, F9, B9) → zH D ca ad lnC K.2 L F B A H → va_S A s.heap H locs → lv_has ls 6 [(5, .int (iI l5)), (4, va_rf (zrf ad 1 l4)), (3, .int (iI l3)), (0, .ref (ad 9 l0 0)), (1, .ref (ad 6 l1 0)), (2, .int (iI l2))] → W p l e ({ frames := 1, cells := 0, slots := 0, locals := 24 } : Room) s m args below meth c H locs 0 0 (MQ below (Q_Study_takeClasses K D ca ad L r F9 B9 A) args s 0 0 A) (F0 m 43 ls []) := by
  obtain ⟨hx, hb, hr, hml, hown, hts, hlk, hK, hA, hL, hX⟩ := id X
  intro n
  induction n with
  | zero =>
    intros
    rename_i hf _ _ _
    cases hf
  | succ n ih =>
    intro l5 l4 l3 l0 l1 l2 F B H locs ls hf hZ hS hl
    replace hf : ((if l4 < 0 then f_Study_takeClasses_95 rec23 K l3 l0 l1 l2 F B else if 0 ≤ l4 ∧ l4 < K.2 1 then if r32 l5 then if r32 (F 1 l4 10) then (if (F 1 l4 10) ≤ l5 then f_Study_takeClasses_95 rec23 K l3 l0 l1 l2 F B else if 0 ≤ l0 ∧ l0 < K.2 9 then if 0 ≤ l5 ∧ l5 < 6 then if 0 ≤ (zrm (B 1 l4 12 l5) 7) ∧ (zrm (B 1 l4 12 l5) 7) < 7 then f_Study_takeClasses_43 rec23 K n (l5 + 1) l4 l3 l0 l1 l2 F (zup4 B 9 l0 10 (zrm (B 1 l4 12 l5) 7) (zor (B 9 l0 10 (zrm (B 1 l4 12 l5) 7)) (zshl 1 ((B 1 l4 13 l5) + 2)))) else none else none else none) else none else none else none)) = some (r, F9, B9) := hf
    refine zaload hx hb d_11_13_43 (lv_at hl 1 rfl) ?_
    refine zifnull (tgt := 95) hx hb d_11_13_45 (by decide) (fun h12 => ?_) (fun h12 => ?_)
    · replace hf := gpos hf h12
      exact b_Study_takeClasses_95 X hrec23 hf hZ hS (lv_sub hl [2, 3, 4, 5] rfl)
    · replace hf := gneg hf h12
      refine lv_iload hx hb d_11_13_48 (lv_at hl 0 rfl) ?_
      refine zaload hx hb d_11_13_50 (lv_at hl 1 rfl) ?_
      obtain ⟨g13, hf⟩ := gif hf
      refine zunrf g13.1 ?_
      refine zget (ci := 1) (C := RX1) (T := TX1) (v := .int (iI (F 1 l4 10))) (k := 10) hx hb hts inW_1 hown hK hZ g13.1 g13.2 rfl (by decide) k_2_51 rfl d_11_13_52 ?_
      obtain ⟨g14, hf⟩ := gif hf
      obtain ⟨g15, hf⟩ := gif hf
      refine zge (tgt := 95) hx hb g14 g15 d_11_13_55 (by decide) (fun h16 => ?_) (fun h16 => ?_)
      · replace hf := gpos hf h16
        exact b_Study_takeClasses_95 X hrec23 hf hZ hS (lv_sub hl [2, 3, 4, 5] rfl)
      · replace hf := gneg hf h16
        refine lv_aload_n hx hb d_11_13_58 rfl (lv_at hl 3 rfl) ?_
        obtain ⟨g17, hf⟩ := gif hf
        refine zget (ci := 9) (C := RX9) (T := TX9) (v := .ref (ad 9 l0 (10 + 1))) (k := 10) hx hb hts inW_9 hown hK hZ g17.1 g17.2 rfl (by decide) k_5_211 rfl d_11_13_59 ?_
        refine zaload hx hb d_11_13_62 (lv_at hl 1 rfl) ?_
        refine zunrf g13.1 ?_
        refine zget (ci := 1) (C := RX1) (T := TX1) (v := .ref (ad 1 l4 (12 + 1))) (k := 12) hx hb hts inW_1 hown hK hZ g13.1 g13.2 rfl (by decide) k_2_58 rfl d_11_13_64 ?_
        refine lv_iload hx hb d_11_13_67 (lv_at hl 0 rfl) ?_
        obtain ⟨g18, hf⟩ := gif hf
        refine zald (ci := 1) (k := 12) hx hb hK rfl hZ g13.1 g13.2 rfl (Nat.le_of_ble_eq_true rfl) g18.1 g18.2 d_11_13_69 ?_
        refine lv_bipush (v := iI 7) hx hb d_11_13_70 (by decide) ?_
        refine zrm_r hx hb (by decide) d_11_13_72 ?_
        refine lv_dup2_11 hx hb d_11_13_73 rfl rfl ?_
        obtain ⟨g19, hf⟩ := gif hf
        refine zald (ci := 9) (k := 10) hx hb hK rfl hZ g17.1 g17.2 rfl (Nat.le_of_ble_eq_true rfl) g19.1 g19.2 d_11_13_74 ?_
        refine lv_iconst (v := iI 1) hx hb d_11_13_75 rfl ?_
        refine zaload hx hb d_11_13_76 (lv_at hl 1 rfl) ?_
        refine zunrf g13.1 ?_
        refine zget (ci := 1) (C := RX1) (T := TX1) (v := .ref (ad 1 l4 (13 + 1))) (k := 13) hx hb hts inW_1 hown hK hZ g13.1 g13.2 rfl (by decide) k_2_66 rfl d_11_13_78 ?_
        refine lv_iload hx hb d_11_13_81 (lv_at hl 0 rfl) ?_
        refine zald (ci := 1) (k := 13) hx hb hK rfl hZ g13.1 g13.2 rfl (Nat.le_of_ble_eq_true rfl) g18.1 g18.2 d_11_13_83 ?_
        refine lv_iconst (v := iI 2) hx hb d_11_13_84 rfl ?_
        refine zadd hx hb d_11_13_85 ?_
        refine zshl_r hx hb d_11_13_86 ?_
        refine zor_r hx hb d_11_13_87 ?_
        refine zast (ci := 9) (k := 10) hx hb hK rfl hZ hS g17.1 g17.2 rfl (Nat.le_of_ble_eq_true rfl) g19.1 g19.2 d_11_13_88 (fun H20 locs20 hZ20 hS20 => ?_)
        refine lv_iinc (v := iI (l5 + 1)) (lv' := [(5, .int (iI (l5 + 1))), (4, va_rf (zrf ad 1 l4)), (3, .int (iI l3)), (0, .ref (ad 9 l0 0)), (1, .ref (ad 6 l1 0)), (2, .int (iI l2))]) hx hb d_11_13_89 hl (k := 0) rfl (iI_add _ 1) (by decide) (by cases zrf ad 1 l4 <;> rfl) (fun ls hl => ?_)
        refine lv_goto (tgt := 43) hx hb d_11_13_92 (by decide) ?_
        exact ih hf hZ20 hS20 (lv_sub hl [0, 1, 2, 3, 4, 5] rfl)

noncomputable def f_Study_takeClasses_23 (K : zK) : Nat → Int → Int → Int → Int → zF → zB → zO
  | 0, _, _, _, _, _, _ => none
  | n + 1, l3, l0, l1, l2, F, B => if 0 ≤ l1 ∧ l1 < K.2 6 then if r32 l3 then if r32 (F 6 l1 1) then (if (F 6 l1 1) ≤ l3 then some (0, F, B) else if 0 ≤ l0 ∧ l0 < K.2 9 then zbind (f_Study_eventOf K l0 l1 l3 l2 F B) (fun r11 F11 B11 => f_Study_takeClasses_43 (f_Study_takeClasses_23 K n) K K.1 0 r11 l3 l0 l1 l2 F11 B11) else none) else none else none else none
set_option maxHeartbeats 4000000 in
set_option maxRecDepth 100000 in
theorem b_Study_takeClasses_23 {D : va_G} {ca : Nat → ClassId} {ad : Nat → Int → Nat → Nat} {L : List Nat} {aS vS : Nat → Nat} {A : Nat → Prop} {p : Program} {l : Launch} {e : Env} {s : State} {m : MethodId} {args : Array Value} {below : List Frame} {meth : Method} {c : Code} {K : zK} {r : Int} {F9 : zF} {B9 : zB} (X : zX D ca L aS vS A p s m args meth c prog_11_method_13_code 6 (Option.none : Option Jvm.ClassFile.FieldType) "StaveHouse$Study") : ∀ {n : Nat} {l3 : Int} {l0 : Int} {l1 : Int} {l2 : Int} {F : zF} {B : zB} {H : Heap} {locs : List Loc} {ls : Array Slot}, f_Study_takeClasses_23 K n l3 l0 l1 l2 F B = some (r, F9, B9) → zH D ca ad lnC K.2 L F B A H → va_S A s.heap H locs → lv_has ls 6 [(3, .int (iI l3)), (0, .ref (ad 9 l0 0)), (1, .ref (ad 6 l1 0)), (2, .int (iI l2))] → W p l e ({ frames := 1, cells := 0, slots := 0, locals := 24 } : Room) s m args below meth c H locs 0 0 (MQ below (Q_Study_takeClasses K D ca ad L r F9 B9 A) args s 0 0 A) (F0 m 23 ls []) := by
  obtain ⟨hx, hb, hr, hml, hown, hts, hlk, hK, hA, hL, hX⟩ := id X
  intro n
  induction n with
  | zero =>
    intros
    rename_i hf _ _ _
    cases hf
  | succ n ih =>
    intro l3 l0 l1 l2 F B H locs ls hf hZ hS hl
    replace hf : (if 0 ≤ l1 ∧ l1 < K.2 6 then if r32 l3 then if r32 (F 6 l1 1) then (if (F 6 l1 1) ≤ l3 then some (0, F, B) else if 0 ≤ l0 ∧ l0 < K.2 9 then zbind (f_Study_eventOf K l0 l1 l3 l2 F B) (fun r11 F11 B11 => f_Study_takeClasses_43 (f_Study_takeClasses_23 K n) K K.1 0 r11 l3 l0 l1 l2 F11 B11) else none) else none else none else none) = some (r, F9, B9) := hf
    refine lv_iload_n hx hb d_11_13_23 rfl (lv_at hl 0 rfl) ?_
    refine lv_aload_n hx hb d_11_13_24 rfl (lv_at hl 2 rfl) ?_
    obtain ⟨g6, hf⟩ := gif hf
    refine zget (ci := 6) (C := RX6) (T := TX6) (v := .int (iI (F 6 l1 1))) (k := 1) hx hb hts inW_6 hown hK hZ g6.1 g6.2 rfl (by decide) k_2_192 rfl d_11_13_25 ?_
    obtain ⟨g7, hf⟩ := gif hf
    obtain ⟨g8, hf⟩ := gif hf
    refine zge (tgt := 101) hx hb g7 g8 d_11_13_28 (by decide) (fun h9 => ?_) (fun h9 => ?_)
    · replace hf := gpos hf h9
      cases hf
      exact W.vret hx hb hr (fun t ht hW => ⟨⟨(), rfl, trivial, by rw [ht]; exact hZ, va_K.moved hW.alike hK⟩, hS.F ht⟩) hS.2.2 d_11_13_101 hlk
    · replace hf := gneg hf h9
      refine lv_aload_n hx hb d_11_13_31 rfl (lv_at hl 1 rfl) ?_
      refine lv_aload_n hx hb d_11_13_32 rfl (lv_at hl 2 rfl) ?_
      refine lv_iload_n hx hb d_11_13_33 rfl (lv_at hl 0 rfl) ?_
      refine lv_iload_n hx hb d_11_13_34 rfl (lv_at hl 3 rfl) ?_
      obtain ⟨g10, hf⟩ := gif hf
      obtain ⟨r11, F11, B11, hc11, hf⟩ := gbind hf
      refine va_callq (va_runV (As := [.ref (ad 6 l1 0), .int (iI l3), .int (iI l2)]) (rest := []) ⟨hx, hb, hml, hown, hts⟩ (c_Study_eventOf (l := l) hc11) (cwV 3 hts (gdV k_6_13 k_6_15 ks_69 k_1_19 k_6_16) rfl rfl rfl (by decide +kernel) ⟨Nat.le_of_ble_eq_true rfl, Nat.le_of_ble_eq_true rfl⟩) (zPV X hZ hS (ci := 9) g10.1 g10.2 (r := (RX9, TX9, 11)) rfl [.ref (ad 6 l1 0), .int (iI l3), .int (iI l2)]) rfl rfl hl.1 rfl (lv_room (Nat.le_of_ble_eq_true rfl)) d_11_13_35 ⟨Nat.le_of_ble_eq_true rfl, Nat.le_of_ble_eq_true rfl⟩) hS (fun q _ h => zAin X hS q h) (zAin X hS) (fun p11 u11 t11 H11 locs11 ht11 hv11 hw11 hB11 hz11 hk11 hS11 => ?_)
      have hZ11 := zBack X ht11 hB11
      subst hw11
      refine zastore (lv' := [(3, .int (iI l3)), (0, .ref (ad 9 l0 0)), (1, .ref (ad 6 l1 0)), (2, .int (iI l2))]) hx hb d_11_13_38 hl (by decide) (fun _ _ => rfl) (fun ls hl => ?_)
      refine lv_iconst (v := iI 0) hx hb d_11_13_40 rfl ?_
      refine lv_istore (lv' := [(5, .int (iI 0)), (4, va_rf (zrf ad 1 r11)), (3, .int (iI l3)), (0, .ref (ad 9 l0 0)), (1, .ref (ad 6 l1 0)), (2, .int (iI l2))]) hx hb d_11_13_41 hl (by decide) (by cases zrf ad 1 r11 <;> rfl) (fun ls hl => ?_)
      exact b_Study_takeClasses_43 X ih hf hZ11 hS11 (lv_sub hl [0, 1, 2, 3, 4, 5] rfl)

noncomputable def f_Study_takeClasses_2 (K : zK) : Nat → Int → Int → Int → Int → zF → zB → zO
  | 0, _, _, _, _, _, _ => none
  | n + 1, l3, l0, l1, l2, F, B => if r32 l3 then (if 7 ≤ l3 then f_Study_takeClasses_23 K K.1 0 l0 l1 l2 F B else if 0 ≤ l0 ∧ l0 < K.2 9 then if 0 ≤ l3 ∧ l3 < 7 then f_Study_takeClasses_2 K n (l3 + 1) l0 l1 l2 F (zup4 B 9 l0 10 l3 0) else none else none) else none
set_option maxHeartbeats 4000000 in
set_option maxRecDepth 100000 in
theorem b_Study_takeClasses_2 {D : va_G} {ca : Nat → ClassId} {ad : Nat → Int → Nat → Nat} {L : List Nat} {aS vS : Nat → Nat} {A : Nat → Prop} {p : Program} {l : Launch} {e : Env} {s : State} {m : MethodId} {args : Array Value} {below : List Frame} {meth : Method} {c : Code} {K : zK} {r : Int} {F9 : zF} {B9 : zB} (X : zX D ca L aS vS A p s m args meth c prog_11_method_13_code 6 (Option.none : Option Jvm.ClassFile.FieldType) "StaveHouse$Study") : ∀ {n : Nat} {l3 : Int} {l0 : Int} {l1 : Int} {l2 : Int} {F : zF} {B : zB} {H : Heap} {locs : List Loc} {ls : Array Slot}, f_Study_takeClasses_2 K n l3 l0 l1 l2 F B = some (r, F9, B9) → zH D ca ad lnC K.2 L F B A H → va_S A s.heap H locs → lv_has ls 6 [(3, .int (iI l3)), (0, .ref (ad 9 l0 0)), (1, .ref (ad 6 l1 0)), (2, .int (iI l2))] → W p l e ({ frames := 1, cells := 0, slots := 0, locals := 24 } : Room) s m args below meth c H locs 0 0 (MQ below (Q_Study_takeClasses K D ca ad L r F9 B9 A) args s 0 0 A) (F0 m 2 ls []) := by
  obtain ⟨hx, hb, hr, hml, hown, hts, hlk, hK, hA, hL, hX⟩ := id X
  intro n
  induction n with
  | zero =>
    intros
    rename_i hf _ _ _
    cases hf
  | succ n ih =>
    intro l3 l0 l1 l2 F B H locs ls hf hZ hS hl
    replace hf : (if r32 l3 then (if 7 ≤ l3 then f_Study_takeClasses_23 K K.1 0 l0 l1 l2 F B else if 0 ≤ l0 ∧ l0 < K.2 9 then if 0 ≤ l3 ∧ l3 < 7 then f_Study_takeClasses_2 K n (l3 + 1) l0 l1 l2 F (zup4 B 9 l0 10 l3 0) else none else none) else none) = some (r, F9, B9) := hf
    refine lv_iload_n hx hb d_11_13_2 rfl (lv_at hl 0 rfl) ?_
    refine lv_bipush (v := iI 7) hx hb d_11_13_3 (by decide) ?_
    obtain ⟨g1, hf⟩ := gif hf
    refine zge (tgt := 21) hx hb g1 (by decide) d_11_13_5 (by decide) (fun h2 => ?_) (fun h2 => ?_)
    · replace hf := gpos hf h2
      refine lv_iconst (v := iI 0) hx hb d_11_13_21 rfl ?_
      refine lv_istore_n (lv' := [(3, .int (iI 0)), (0, .ref (ad 9 l0 0)), (1, .ref (ad 6 l1 0)), (2, .int (iI l2))]) hx hb d_11_13_22 rfl hl (by decide) rfl (fun ls hl => ?_)
      exact b_Study_takeClasses_23 X hf hZ hS (lv_sub hl [0, 1, 2, 3] rfl)
    · replace hf := gneg hf h2
      refine lv_aload_n hx hb d_11_13_8 rfl (lv_at hl 1 rfl) ?_
      obtain ⟨g3, hf⟩ := gif hf
      refine zget (ci := 9) (C := RX9) (T := TX9) (v := .ref (ad 9 l0 (10 + 1))) (k := 10) hx hb hts inW_9 hown hK hZ g3.1 g3.2 rfl (by decide) k_5_211 rfl d_11_13_9 ?_
      refine lv_iload_n hx hb d_11_13_12 rfl (lv_at hl 0 rfl) ?_
      refine lv_iconst (v := iI 0) hx hb d_11_13_13 rfl ?_
      obtain ⟨g4, hf⟩ := gif hf
      refine zast (ci := 9) (k := 10) hx hb hK rfl hZ hS g3.1 g3.2 rfl (Nat.le_of_ble_eq_true rfl) g4.1 g4.2 d_11_13_14 (fun H5 locs5 hZ5 hS5 => ?_)
      refine lv_iinc (v := iI (l3 + 1)) (lv' := [(3, .int (iI (l3 + 1))), (0, .ref (ad 9 l0 0)), (1, .ref (ad 6 l1 0)), (2, .int (iI l2))]) hx hb d_11_13_15 hl (k := 0) rfl (iI_add _ 1) (by decide) rfl (fun ls hl => ?_)
      refine lv_goto (tgt := 2) hx hb d_11_13_18 (by decide) ?_
      exact ih hf hZ5 hS5 (lv_sub hl [0, 1, 2, 3] rfl)

noncomputable def f_Study_takeClasses (K : zK) (l0 : Int) (l1 : Int) (l2 : Int) (F : zF) (B : zB) : zO := f_Study_takeClasses_2 K K.1 0 l0 l1 l2 F B
set_option maxHeartbeats 4000000 in
set_option maxRecDepth 100000 in
theorem c_Study_takeClasses {l : Launch} {D : va_G} {ca : Nat → ClassId} {ad : Nat → Int → Nat → Nat} {L : List Nat} {aS vS : Nat → Nat} {sz : Nat} {K : zK}  {l0 : Int} {l1 : Int} {l2 : Int} {F F9 : zF} {B B9 : zB} {r : Int} (hf : f_Study_takeClasses K l0 l1 l2 F B = some (r, F9, B9)) : Met l ({ cls := "StaveHouse$Study", name := "takeClasses", desc := "(LStaveHouse$Piece;I)V" } : Jvm.MethodName) (Cond.code ({ cls := "StaveHouse$Study", name := "takeClasses", desc := "(LStaveHouse$Piece;I)V" } : Jvm.MethodName) prog_11_method_13_code 6 (Option.none : Option Jvm.ClassFile.FieldType) :: wAll) ({ frames := 1, cells := 0, slots := 0, locals := 24 } : Room) (va_Pc [.ref (ad 9 l0 0), .ref (ad 6 l1 0), .int (iI l2)] (zPre D ca ad lnC K.2 L aS vS F B sz)) (Q_Study_takeClasses K D ca ad L r F9 B9 (zA L sz)) 0 0 (zA L sz) := by
  refine zMet (Qc := Q_Study_takeClasses K D ca ad L r F9 B9) (lv := [(0, .ref (ad 9 l0 0)), (1, .ref (ad 6 l1 0)), (2, .int (iI l2))]) (by decide) (Nat.le_of_ble_eq_true rfl) rfl (fun A p e s m below meth c ls X hZ hS hl => ?_)
  obtain ⟨hx, hb, hr, hml, hown, hts, hlk, hK, hA, hL, hX⟩ := id X
  replace hf : (f_Study_takeClasses_2 K K.1 0 l0 l1 l2 F B) = some (r, F9, B9) := hf
  refine lv_iconst (v := iI 0) hx hb d_11_13_0 rfl ?_
  refine lv_istore_n (lv' := [(3, .int (iI 0)), (0, .ref (ad 9 l0 0)), (1, .ref (ad 6 l1 0)), (2, .int (iI l2))]) hx hb d_11_13_1 rfl hl (by decide) rfl (fun ls hl => ?_)
  exact b_Study_takeClasses_2 X hf hZ hS (lv_sub hl [0, 1, 2, 3] rfl)

noncomputable abbrev Q_Study_alterationOf (K : zK) (D : va_G) (ca : Nat → ClassId) (ad : Nat → Int → Nat → Nat) (L : List Nat) (r : Int) (F : zF) (B : zB) (A : Nat → Prop) : Array Value → State → Outcome → State → Prop := va_Qi (S := Unit) (fun p _ => p = iI r) (fun _ => zPo D ca ad lnC K.2 L F B A) A
noncomputable def f_Study_alterationOf (K : zK) (l0 : Int) (l1 : Int) (F : zF) (B : zB) : zO := if 0 ≤ l0 ∧ l0 < K.2 9 then if 0 ≤ l1 ∧ l1 < 7 then zbind (f_Integer_bitCount K ((B 9 l0 10 l1) - 1) F B) (fun r3 F3 B3 => some (r3 - 2, F3, B3)) else none else none
set_option maxHeartbeats 4000000 in
set_option maxRecDepth 100000 in
theorem c_Study_alterationOf {l : Launch} {D : va_G} {ca : Nat → ClassId} {ad : Nat → Int → Nat → Nat} {L : List Nat} {aS vS : Nat → Nat} {sz : Nat} {K : zK}  {l0 : Int} {l1 : Int} {F F9 : zF} {B B9 : zB} {r : Int} (hf : f_Study_alterationOf K l0 l1 F B = some (r, F9, B9)) : Met l ({ cls := "StaveHouse$Study", name := "alterationOf", desc := "(I)I" } : Jvm.MethodName) (Cond.code ({ cls := "StaveHouse$Study", name := "alterationOf", desc := "(I)I" } : Jvm.MethodName) prog_11_method_14_code 2 (Option.some Jvm.ClassFile.FieldType.int) :: wAll) ({ frames := 1, cells := 0, slots := 0, locals := 20 } : Room) (va_Pc [.ref (ad 9 l0 0), .int (iI l1)] (zPre D ca ad lnC K.2 L aS vS F B sz)) (Q_Study_alterationOf K D ca ad L r F9 B9 (zA L sz)) 0 0 (zA L sz) := by
  refine zMet (Qc := Q_Study_alterationOf K D ca ad L r F9 B9) (lv := [(0, .ref (ad 9 l0 0)), (1, .int (iI l1))]) (by decide) (Nat.le_of_ble_eq_true rfl) rfl (fun A p e s m below meth c ls X hZ hS hl => ?_)
  obtain ⟨hx, hb, hr, hml, hown, hts, hlk, hK, hA, hL, hX⟩ := id X
  replace hf : (if 0 ≤ l0 ∧ l0 < K.2 9 then if 0 ≤ l1 ∧ l1 < 7 then zbind (f_Integer_bitCount K ((B 9 l0 10 l1) - 1) F B) (fun r3 F3 B3 => some (r3 - 2, F3, B3)) else none else none) = some (r, F9, B9) := hf
  refine lv_aload_n hx hb d_11_14_0 rfl (lv_at hl 0 rfl) ?_
  obtain ⟨g1, hf⟩ := gif hf
  refine zget (ci := 9) (C := RX9) (T := TX9) (v := .ref (ad 9 l0 (10 + 1))) (k := 10) hx hb hts inW_9 hown hK hZ g1.1 g1.2 rfl (by decide) k_5_211 rfl d_11_14_1 ?_
  refine lv_iload_n hx hb d_11_14_4 rfl (lv_at hl 1 rfl) ?_
  obtain ⟨g2, hf⟩ := gif hf
  refine zald (ci := 9) (k := 10) hx hb hK rfl hZ g1.1 g1.2 rfl (Nat.le_of_ble_eq_true rfl) g2.1 g2.2 d_11_14_5 ?_
  refine lv_iconst (v := iI 1) hx hb d_11_14_6 rfl ?_
  refine zsub hx hb d_11_14_7 ?_
  obtain ⟨r3, F3, B3, hc3, hf⟩ := gbind hf
  refine va_calli (va_runS (As := [.int (iI ((B 9 l0 10 l1) - 1))]) (rest := []) ⟨hx, hb, hml, hown, hts⟩ (c_Integer_bitCount (l := l) hc3) (va_cwS 1 hts (gdS k_9_47 k_7_170 k_1_22 k_7_171) rfl rfl rfl (by decide +kernel) ⟨Nat.le_of_ble_eq_true rfl, Nat.le_of_ble_eq_true rfl⟩) (zPS X hZ hS [.int (iI ((B 9 l0 10 l1) - 1))]) rfl rfl hl.1 rfl (lv_room (Nat.le_of_ble_eq_true rfl)) d_11_14_8 ⟨Nat.le_of_ble_eq_true rfl, Nat.le_of_ble_eq_true rfl⟩) hS (fun q _ h => zAin X hS q h) (zAin X hS) (fun p3 u3 t3 H3 locs3 ht3 hv3 hw3 hB3 hz3 hk3 hS3 => ?_)
  have hZ3 := zBack X ht3 hB3
  subst hw3
  refine lv_iconst (v := iI 2) hx hb d_11_14_11 rfl ?_
  refine zsub hx hb d_11_14_12 ?_
  cases hf
  exact W.iret hx hb hr (fun t ht hW => ⟨⟨_, (), rfl, rfl, by rw [ht]; exact hZ3, va_K.moved hW.alike hK⟩, hS3.F ht⟩) hS3.2.2 d_11_14_13 hlk

noncomputable abbrev Q_Study_tonic (K : zK) (D : va_G) (ca : Nat → ClassId) (ad : Nat → Int → Nat → Nat) (L : List Nat) (r : Int) (F : zF) (B : zB) (A : Nat → Prop) : Array Value → State → Outcome → State → Prop := va_Qi (S := Unit) (fun p _ => p = iI r) (fun _ => zPo D ca ad lnC K.2 L F B A) A
noncomputable def f_Study_tonic_19 (K : zK) (s0 : Int) (s1 : Int) (F : zF) (B : zB) : zO := zbind (f_Math_floorMod K (s0 + s1) 7 F B) (fun r4 F4 B4 => some (r4, F4, B4))
set_option maxHeartbeats 4000000 in
set_option maxRecDepth 100000 in
theorem b_Study_tonic_19 {D : va_G} {ca : Nat → ClassId} {ad : Nat → Int → Nat → Nat} {L : List Nat} {aS vS : Nat → Nat} {A : Nat → Prop} {p : Program} {l : Launch} {e : Env} {s : State} {m : MethodId} {args : Array Value} {below : List Frame} {meth : Method} {c : Code} {K : zK} {r : Int} {F9 : zF} {B9 : zB} (X : zX D ca L aS vS A p s m args meth c prog_11_method_18_code 1 (Option.some Jvm.ClassFile.FieldType.int) "StaveHouse$Study") {s0 : Int} {s1 : Int} {F : zF} {B : zB} {H : Heap} {locs : List Loc} {ls : Array Slot} (hf : f_Study_tonic_19 K s0 s1 F B = some (r, F9, B9)) (hZ : zH D ca ad lnC K.2 L F B A H) (hS : va_S A s.heap H locs) (hl : lv_has ls 1 []) : W p l e ({ frames := 1, cells := 0, slots := 0, locals := 22 } : Room) s m args below meth c H locs 0 0 (MQ below (Q_Study_tonic K D ca ad L r F9 B9 A) args s 0 0 A) (F0 m 19 ls [.int (iI s1), .int (iI s0)]) := by
  obtain ⟨hx, hb, hr, hml, hown, hts, hlk, hK, hA, hL, hX⟩ := id X
  replace hf : (zbind (f_Math_floorMod K (s0 + s1) 7 F B) (fun r4 F4 B4 => some (r4, F4, B4))) = some (r, F9, B9) := hf
  refine zadd hx hb d_11_18_19 ?_
  refine lv_bipush (v := iI 7) hx hb d_11_18_20 (by decide) ?_
  obtain ⟨r4, F4, B4, hc4, hf⟩ := gbind hf
  refine va_calli (va_runS (As := [.int (iI (s0 + s1)), .int (iI 7)]) (rest := []) ⟨hx, hb, hml, hown, hts⟩ (c_Math_floorMod (l := l) hc4) (va_cwS 2 hts (gdS k_6_38 k_4_71 k_1_3 k_4_72) rfl rfl rfl (by decide +kernel) ⟨Nat.le_of_ble_eq_true rfl, Nat.le_of_ble_eq_true rfl⟩) (zPS X hZ hS [.int (iI (s0 + s1)), .int (iI 7)]) rfl rfl hl.1 rfl (lv_room (Nat.le_of_ble_eq_true rfl)) d_11_18_22 ⟨Nat.le_of_ble_eq_true rfl, Nat.le_of_ble_eq_true rfl⟩) hS (fun q _ h => zAin X hS q h) (zAin X hS) (fun p4 u4 t4 H4 locs4 ht4 hv4 hw4 hB4 hz4 hk4 hS4 => ?_)
  have hZ4 := zBack X ht4 hB4
  subst hw4
  cases hf
  exact W.iret hx hb hr (fun t ht hW => ⟨⟨_, (), rfl, rfl, by rw [ht]; exact hZ4, va_K.moved hW.alike hK⟩, hS4.F ht⟩) hS4.2.2 d_11_18_25 hlk

noncomputable def f_Study_tonic (K : zK) (l0 : Int) (F : zF) (B : zB) : zO := if 0 ≤ l0 ∧ l0 < K.2 6 then if r32 (F 6 l0 3) then (if (F 6 l0 3) = 1 then f_Study_tonic_19 K (4 * (F 6 l0 2)) 5 F B else f_Study_tonic_19 K (4 * (F 6 l0 2)) 0 F B) else none else none
set_option maxHeartbeats 4000000 in
set_option maxRecDepth 100000 in
theorem c_Study_tonic {l : Launch} {D : va_G} {ca : Nat → ClassId} {ad : Nat → Int → Nat → Nat} {L : List Nat} {aS vS : Nat → Nat} {sz : Nat} {K : zK}  {l0 : Int} {F F9 : zF} {B B9 : zB} {r : Int} (hf : f_Study_tonic K l0 F B = some (r, F9, B9)) : Met l ({ cls := "StaveHouse$Study", name := "tonic", desc := "(LStaveHouse$Piece;)I" } : Jvm.MethodName) (Cond.code ({ cls := "StaveHouse$Study", name := "tonic", desc := "(LStaveHouse$Piece;)I" } : Jvm.MethodName) prog_11_method_18_code 1 (Option.some Jvm.ClassFile.FieldType.int) :: wAll) ({ frames := 1, cells := 0, slots := 0, locals := 22 } : Room) (va_Pc [.ref (ad 6 l0 0)] (zPre D ca ad lnC K.2 L aS vS F B sz)) (Q_Study_tonic K D ca ad L r F9 B9 (zA L sz)) 0 0 (zA L sz) := by
  refine zMet (Qc := Q_Study_tonic K D ca ad L r F9 B9) (lv := [(0, .ref (ad 6 l0 0))]) (by decide) (Nat.le_of_ble_eq_true rfl) rfl (fun A p e s m below meth c ls X hZ hS hl => ?_)
  obtain ⟨hx, hb, hr, hml, hown, hts, hlk, hK, hA, hL, hX⟩ := id X
  replace hf : (if 0 ≤ l0 ∧ l0 < K.2 6 then if r32 (F 6 l0 3) then (if (F 6 l0 3) = 1 then f_Study_tonic_19 K (4 * (F 6 l0 2)) 5 F B else f_Study_tonic_19 K (4 * (F 6 l0 2)) 0 F B) else none else none) = some (r, F9, B9) := hf
  refine lv_iconst (v := iI 4) hx hb d_11_18_0 rfl ?_
  refine lv_aload_n hx hb d_11_18_1 rfl (lv_at hl 0 rfl) ?_
  obtain ⟨g1, hf⟩ := gif hf
  refine zget (ci := 6) (C := RX6) (T := TX6) (v := .int (iI (F 6 l0 2))) (k := 2) hx hb hts inW_6 hown hK hZ g1.1 g1.2 rfl (by decide) k_2_201 rfl d_11_18_2 ?_
  refine zmul hx hb d_11_18_5 ?_
  refine lv_aload_n hx hb d_11_18_6 rfl (lv_at hl 0 rfl) ?_
  refine zget (ci := 6) (C := RX6) (T := TX6) (v := .int (iI (F 6 l0 3))) (k := 3) hx hb hts inW_6 hown hK hZ g1.1 g1.2 rfl (by decide) k_2_205 rfl d_11_18_7 ?_
  refine lv_iconst (v := iI 1) hx hb d_11_18_10 rfl ?_
  obtain ⟨g2, hf⟩ := gif hf
  refine zne (tgt := 18) hx hb g2 (by decide) d_11_18_11 (by decide) (fun h3 => ?_) (fun h3 => ?_)
  · replace hf := gneg hf h3
    refine lv_iconst (v := iI 0) hx hb d_11_18_18 rfl ?_
    exact b_Study_tonic_19 X hf hZ hS (lv_sub hl [] rfl)
  · replace hf := gpos hf h3
    refine lv_iconst (v := iI 5) hx hb d_11_18_14 rfl ?_
    refine lv_goto (tgt := 19) hx hb d_11_18_15 (by decide) ?_
    exact b_Study_tonic_19 X hf hZ hS (lv_sub hl [] rfl)

noncomputable abbrev Q_Study_isForeign (K : zK) (D : va_G) (ca : Nat → ClassId) (ad : Nat → Int → Nat → Nat) (L : List Nat) (r : Int) (F : zF) (B : zB) (A : Nat → Prop) : Array Value → State → Outcome → State → Prop := va_Qi (S := Unit) (fun p _ => p = iI r) (fun _ => zPo D ca ad lnC K.2 L F B A) A
noncomputable def f_Study_isForeign_2 (K : zK) : Nat → Int → Int → Int → zF → zB → zO
  | 0, _, _, _, _, _ => none
  | n + 1, l2, l0, l1, F, B => if r32 l2 then (if 7 ≤ l2 then some (0, F, B) else if 0 ≤ l1 ∧ l1 < K.2 6 then zbind (f_S_keyAlteration K (F 6 l1 2) l2 F B) (fun r4 F4 B4 => if 0 ≤ l0 ∧ l0 < K.2 9 then if 0 ≤ l2 ∧ l2 < 7 then if r32 (zand (B4 9 l0 10 l2) (zxor (zshl 1 (r4 + 2)) (-1))) then (if (zand (B4 9 l0 10 l2) (zxor (zshl 1 (r4 + 2)) (-1))) = 0 then f_Study_isForeign_2 K n (l2 + 1) l0 l1 F4 B4 else some (1, F4, B4)) else none else none else none) else none) else none
set_option maxHeartbeats 4000000 in
set_option maxRecDepth 100000 in
theorem b_Study_isForeign_2 {D : va_G} {ca : Nat → ClassId} {ad : Nat → Int → Nat → Nat} {L : List Nat} {aS vS : Nat → Nat} {A : Nat → Prop} {p : Program} {l : Launch} {e : Env} {s : State} {m : MethodId} {args : Array Value} {below : List Frame} {meth : Method} {c : Code} {K : zK} {r : Int} {F9 : zF} {B9 : zB} (X : zX D ca L aS vS A p s m args meth c prog_11_method_19_code 4 (Option.some Jvm.ClassFile.FieldType.boolean) "StaveHouse$Study") : ∀ {n : Nat} {l2 : Int} {l0 : Int} {l1 : Int} {F : zF} {B : zB} {H : Heap} {locs : List Loc} {ls : Array Slot}, f_Study_isForeign_2 K n l2 l0 l1 F B = some (r, F9, B9) → zH D ca ad lnC K.2 L F B A H → va_S A s.heap H locs → lv_has ls 4 [(2, .int (iI l2)), (0, .ref (ad 9 l0 0)), (1, .ref (ad 6 l1 0))] → W p l e ({ frames := 2, cells := 0, slots := 0, locals := 44 } : Room) s m args below meth c H locs 0 0 (MQ below (Q_Study_isForeign K D ca ad L r F9 B9 A) args s 0 0 A) (F0 m 2 ls []) := by
  obtain ⟨hx, hb, hr, hml, hown, hts, hlk, hK, hA, hL, hX⟩ := id X
  intro n
  induction n with
  | zero =>
    intros
    rename_i hf _ _ _
    cases hf
  | succ n ih =>
    intro l2 l0 l1 F B H locs ls hf hZ hS hl
    replace hf : (if r32 l2 then (if 7 ≤ l2 then some (0, F, B) else if 0 ≤ l1 ∧ l1 < K.2 6 then zbind (f_S_keyAlteration K (F 6 l1 2) l2 F B) (fun r4 F4 B4 => if 0 ≤ l0 ∧ l0 < K.2 9 then if 0 ≤ l2 ∧ l2 < 7 then if r32 (zand (B4 9 l0 10 l2) (zxor (zshl 1 (r4 + 2)) (-1))) then (if (zand (B4 9 l0 10 l2) (zxor (zshl 1 (r4 + 2)) (-1))) = 0 then f_Study_isForeign_2 K n (l2 + 1) l0 l1 F4 B4 else some (1, F4, B4)) else none else none else none) else none) else none) = some (r, F9, B9) := hf
    refine lv_iload_n hx hb d_11_19_2 rfl (lv_at hl 0 rfl) ?_
    refine lv_bipush (v := iI 7) hx hb d_11_19_3 (by decide) ?_
    obtain ⟨g1, hf⟩ := gif hf
    refine zge (tgt := 42) hx hb g1 (by decide) d_11_19_5 (by decide) (fun h2 => ?_) (fun h2 => ?_)
    · replace hf := gpos hf h2
      refine lv_iconst (v := iI 0) hx hb d_11_19_42 rfl ?_
      cases hf
      exact W.zret hx hb hr rfl (fun t ht hW => ⟨⟨_, (), rfl, rfl, by rw [ht]; exact hZ, va_K.moved hW.alike hK⟩, hS.F ht⟩) hS.2.2 d_11_19_43 hlk
    · replace hf := gneg hf h2
      refine lv_iconst (v := iI 1) hx hb d_11_19_8 rfl ?_
      refine lv_aload_n hx hb d_11_19_9 rfl (lv_at hl 2 rfl) ?_
      obtain ⟨g3, hf⟩ := gif hf
      refine zget (ci := 6) (C := RX6) (T := TX6) (v := .int (iI (F 6 l1 2))) (k := 2) hx hb hts inW_6 hown hK hZ g3.1 g3.2 rfl (by decide) k_2_201 rfl d_11_19_10 ?_
      refine lv_iload_n hx hb d_11_19_13 rfl (lv_at hl 0 rfl) ?_
      obtain ⟨r4, F4, B4, hc4, hf⟩ := gbind hf
      refine va_calli (va_runSN (As := [.int (iI (F 6 l1 2)), .int (iI l2)]) (rest := [.int (iI 1)]) ⟨hx, hb, hml, hown, hts⟩ (c_S_keyAlteration (l := l) hc4) ⟨va_cnB 2 hts (gdC k_5_118) rfl rfl rfl (hX.1 _ (List.mem_of_getElem? (i := 24) rfl)) (hts _ k_1_1) (by decide +kernel) ⟨Nat.le_of_ble_eq_true rfl, Nat.le_of_ble_eq_true rfl⟩, hts _ k_5_117, trivial⟩ (zPS X hZ hS [.int (iI (F 6 l1 2)), .int (iI l2)]) rfl rfl hl.1 rfl (lv_room (Nat.le_of_ble_eq_true rfl)) d_11_19_14 ⟨Nat.le_of_ble_eq_true rfl, Nat.le_of_ble_eq_true rfl⟩) hS (fun q _ h => zAin X hS q h) (zAin X hS) (fun p4 u4 t4 H4 locs4 ht4 hv4 hw4 hB4 hz4 hk4 hS4 => ?_)
      have hZ4 := zBack X ht4 hB4
      subst hw4
      refine lv_iconst (v := iI 2) hx hb d_11_19_17 rfl ?_
      refine zadd hx hb d_11_19_18 ?_
      refine zshl_r hx hb d_11_19_19 ?_
      refine lv_istore_n (lv' := [(3, .int (iI (zshl 1 (r4 + 2)))), (2, .int (iI l2)), (0, .ref (ad 9 l0 0)), (1, .ref (ad 6 l1 0))]) hx hb d_11_19_20 rfl hl (by decide) rfl (fun ls hl => ?_)
      refine lv_aload_n hx hb d_11_19_21 rfl (lv_at hl 2 rfl) ?_
      obtain ⟨g5, hf⟩ := gif hf
      refine zget (ci := 9) (C := RX9) (T := TX9) (v := .ref (ad 9 l0 (10 + 1))) (k := 10) hx hb hts inW_9 hown hK hZ4 g5.1 g5.2 rfl (by decide) k_5_211 rfl d_11_19_22 ?_
      refine lv_iload_n hx hb d_11_19_25 rfl (lv_at hl 1 rfl) ?_
      obtain ⟨g6, hf⟩ := gif hf
      refine zald (ci := 9) (k := 10) hx hb hK rfl hZ4 g5.1 g5.2 rfl (Nat.le_of_ble_eq_true rfl) g6.1 g6.2 d_11_19_26 ?_
      refine lv_iload_n hx hb d_11_19_27 rfl (lv_at hl 0 rfl) ?_
      refine lv_iconst (v := iI (-1)) hx hb d_11_19_28 rfl ?_
      refine zxor_r hx hb d_11_19_29 ?_
      refine zand_r hx hb d_11_19_30 ?_
      obtain ⟨g7, hf⟩ := gif hf
      refine z0eq (tgt := 36) hx hb g7 d_11_19_31 (by decide) (fun h8 => ?_) (fun h8 => ?_)
      · replace hf := gpos hf h8
        refine lv_iinc (v := iI (l2 + 1)) (lv' := [(2, .int (iI (l2 + 1))), (3, .int (iI (zshl 1 (r4 + 2)))), (0, .ref (ad 9 l0 0)), (1, .ref (ad 6 l1 0))]) hx hb d_11_19_36 hl (k := 1) rfl (iI_add _ 1) (by decide) rfl (fun ls hl => ?_)
        refine lv_goto (tgt := 2) hx hb d_11_19_39 (by decide) ?_
        exact ih hf hZ4 hS4 (lv_sub hl [0, 2, 3] rfl)
      · replace hf := gneg hf h8
        refine lv_iconst (v := iI 1) hx hb d_11_19_34 rfl ?_
        cases hf
        exact W.zret hx hb hr rfl (fun t ht hW => ⟨⟨_, (), rfl, rfl, by rw [ht]; exact hZ4, va_K.moved hW.alike hK⟩, hS4.F ht⟩) hS4.2.2 d_11_19_35 hlk

noncomputable def f_Study_isForeign (K : zK) (l0 : Int) (l1 : Int) (F : zF) (B : zB) : zO := f_Study_isForeign_2 K K.1 0 l0 l1 F B
set_option maxHeartbeats 4000000 in
set_option maxRecDepth 100000 in
theorem c_Study_isForeign {l : Launch} {D : va_G} {ca : Nat → ClassId} {ad : Nat → Int → Nat → Nat} {L : List Nat} {aS vS : Nat → Nat} {sz : Nat} {K : zK}  {l0 : Int} {l1 : Int} {F F9 : zF} {B B9 : zB} {r : Int} (hf : f_Study_isForeign K l0 l1 F B = some (r, F9, B9)) : Met l ({ cls := "StaveHouse$Study", name := "isForeign", desc := "(LStaveHouse$Piece;)Z" } : Jvm.MethodName) (Cond.code ({ cls := "StaveHouse$Study", name := "isForeign", desc := "(LStaveHouse$Piece;)Z" } : Jvm.MethodName) prog_11_method_19_code 4 (Option.some Jvm.ClassFile.FieldType.boolean) :: wAll) ({ frames := 2, cells := 0, slots := 0, locals := 44 } : Room) (va_Pc [.ref (ad 9 l0 0), .ref (ad 6 l1 0)] (zPre D ca ad lnC K.2 L aS vS F B sz)) (Q_Study_isForeign K D ca ad L r F9 B9 (zA L sz)) 0 0 (zA L sz) := by
  refine zMet (Qc := Q_Study_isForeign K D ca ad L r F9 B9) (lv := [(0, .ref (ad 9 l0 0)), (1, .ref (ad 6 l1 0))]) (by decide) (Nat.le_of_ble_eq_true rfl) rfl (fun A p e s m below meth c ls X hZ hS hl => ?_)
  obtain ⟨hx, hb, hr, hml, hown, hts, hlk, hK, hA, hL, hX⟩ := id X
  replace hf : (f_Study_isForeign_2 K K.1 0 l0 l1 F B) = some (r, F9, B9) := hf
  refine lv_iconst (v := iI 0) hx hb d_11_19_0 rfl ?_
  refine lv_istore_n (lv' := [(2, .int (iI 0)), (0, .ref (ad 9 l0 0)), (1, .ref (ad 6 l1 0))]) hx hb d_11_19_1 rfl hl (by decide) rfl (fun ls hl => ?_)
  exact b_Study_isForeign_2 X hf hZ hS (lv_sub hl [0, 1, 2] rfl)

noncomputable abbrev Q_Part_firstSounding (K : zK) (D : va_G) (ca : Nat → ClassId) (ad : Nat → Int → Nat → Nat) (L : List Nat) (r : Int) (F : zF) (B : zB) (A : Nat → Prop) : Array Value → State → Outcome → State → Prop := va_Qi (S := Unit) (fun p _ => p = iI r) (fun _ => zPo D ca ad lnC K.2 L F B A) A
noncomputable def f_Part_firstSounding_2 (K : zK) : Nat → Int → Int → zF → zB → zO
  | 0, _, _, _, _ => none
  | n + 1, l1, l0, F, B => if 0 ≤ l0 ∧ l0 < K.2 4 then if r32 l1 then if r32 (F 4 l0 6) then (if (F 4 l0 6) ≤ l1 then some ((-1), F, B) else if 0 ≤ l1 ∧ l1 < 200 then if 0 ≤ (B 4 l0 5 l1) ∧ (B 4 l0 5 l1) < K.2 1 then zbind (f_Event_isRest K (B 4 l0 5 l1) F B) (fun r7 F7 B7 => if r32 r7 then (if r7 = 0 then some (l1, F7, B7) else f_Part_firstSounding_2 K n (l1 + 1) l0 F7 B7) else none) else none else none) else none else none else none
set_option maxHeartbeats 4000000 in
set_option maxRecDepth 100000 in
theorem b_Part_firstSounding_2 {D : va_G} {ca : Nat → ClassId} {ad : Nat → Int → Nat → Nat} {L : List Nat} {aS vS : Nat → Nat} {A : Nat → Prop} {p : Program} {l : Launch} {e : Env} {s : State} {m : MethodId} {args : Array Value} {below : List Frame} {meth : Method} {c : Code} {K : zK} {r : Int} {F9 : zF} {B9 : zB} (X : zX D ca L aS vS A p s m args meth c prog_6_method_26_code 2 (Option.some Jvm.ClassFile.FieldType.int) "StaveHouse$Part") : ∀ {n : Nat} {l1 : Int} {l0 : Int} {F : zF} {B : zB} {H : Heap} {locs : List Loc} {ls : Array Slot}, f_Part_firstSounding_2 K n l1 l0 F B = some (r, F9, B9) → zH D ca ad lnC K.2 L F B A H → va_S A s.heap H locs → lv_has ls 2 [(1, .int (iI l1)), (0, .ref (ad 4 l0 0))] → W p l e ({ frames := 1, cells := 0, slots := 0, locals := 20 } : Room) s m args below meth c H locs 0 0 (MQ below (Q_Part_firstSounding K D ca ad L r F9 B9 A) args s 0 0 A) (F0 m 2 ls []) := by
  obtain ⟨hx, hb, hr, hml, hown, hts, hlk, hK, hA, hL, hX⟩ := id X
  intro n
  induction n with
  | zero =>
    intros
    rename_i hf _ _ _
    cases hf
  | succ n ih =>
    intro l1 l0 F B H locs ls hf hZ hS hl
    replace hf : (if 0 ≤ l0 ∧ l0 < K.2 4 then if r32 l1 then if r32 (F 4 l0 6) then (if (F 4 l0 6) ≤ l1 then some ((-1), F, B) else if 0 ≤ l1 ∧ l1 < 200 then if 0 ≤ (B 4 l0 5 l1) ∧ (B 4 l0 5 l1) < K.2 1 then zbind (f_Event_isRest K (B 4 l0 5 l1) F B) (fun r7 F7 B7 => if r32 r7 then (if r7 = 0 then some (l1, F7, B7) else f_Part_firstSounding_2 K n (l1 + 1) l0 F7 B7) else none) else none else none) else none else none else none) = some (r, F9, B9) := hf
    refine lv_iload_n hx hb d_6_26_2 rfl (lv_at hl 0 rfl) ?_
    refine lv_aload_n hx hb d_6_26_3 rfl (lv_at hl 1 rfl) ?_
    obtain ⟨g1, hf⟩ := gif hf
    refine zget (ci := 4) (C := RX4) (T := TX4) (v := .int (iI (F 4 l0 6))) (k := 6) hx hb hts inW_4 hown hK hZ g1.1 g1.2 rfl (by decide) k_4_135 rfl d_6_26_4 ?_
    obtain ⟨g2, hf⟩ := gif hf
    obtain ⟨g3, hf⟩ := gif hf
    refine zge (tgt := 30) hx hb g2 g3 d_6_26_7 (by decide) (fun h4 => ?_) (fun h4 => ?_)
    · replace hf := gpos hf h4
      refine lv_iconst (v := iI (-1)) hx hb d_6_26_30 rfl ?_
      cases hf
      exact W.iret hx hb hr (fun t ht hW => ⟨⟨_, (), rfl, rfl, by rw [ht]; exact hZ, va_K.moved hW.alike hK⟩, hS.F ht⟩) hS.2.2 d_6_26_31 hlk
    · replace hf := gneg hf h4
      refine lv_aload_n hx hb d_6_26_10 rfl (lv_at hl 1 rfl) ?_
      refine zget (ci := 4) (C := RX4) (T := TX4) (v := .ref (ad 4 l0 (5 + 1))) (k := 5) hx hb hts inW_4 hown hK hZ g1.1 g1.2 rfl (by decide) k_4_130 rfl d_6_26_11 ?_
      refine lv_iload_n hx hb d_6_26_14 rfl (lv_at hl 0 rfl) ?_
      obtain ⟨g5, hf⟩ := gif hf
      refine zaldR (t := 1) (x := 7) (ci := 4) (k := 5) hx hb hK rfl rfl hZ g1.1 g1.2 rfl (Nat.le_of_ble_eq_true rfl) g5.1 g5.2 d_6_26_15 ?_
      obtain ⟨g6, hf⟩ := gif hf
      refine W.eq (g2 := F0 m 16 ls [.ref (ad 1 (B 4 l0 5 l1) 0)]) (by rw [zrf_pos (ad := ad) (t := 1) g6.1]; try rfl) ?_
      obtain ⟨r7, F7, B7, hc7, hf⟩ := gbind hf
      refine va_calli (va_runV (As := []) (rest := []) ⟨hx, hb, hml, hown, hts⟩ (c_Event_isRest (l := l) hc7) (cwV 0 hts (gdV k_5_78 k_5_79 k_5_80 k_1_8 k_5_81) rfl rfl rfl (by decide +kernel) ⟨Nat.le_of_ble_eq_true rfl, Nat.le_of_ble_eq_true rfl⟩) (zPV X hZ hS (ci := 1) g6.1 g6.2 (r := (RX1, TX1, 14)) rfl []) rfl rfl hl.1 rfl (lv_room (Nat.le_of_ble_eq_true rfl)) d_6_26_16 ⟨Nat.le_of_ble_eq_true rfl, Nat.le_of_ble_eq_true rfl⟩) hS (fun q _ h => zAin X hS q h) (zAin X hS) (fun p7 u7 t7 H7 locs7 ht7 hv7 hw7 hB7 hz7 hk7 hS7 => ?_)
      have hZ7 := zBack X ht7 hB7
      subst hw7
      obtain ⟨g8, hf⟩ := gif hf
      refine z0ne (tgt := 24) hx hb g8 d_6_26_19 (by decide) (fun h9 => ?_) (fun h9 => ?_)
      · replace hf := gneg hf h9
        refine lv_iinc (v := iI (l1 + 1)) (lv' := [(1, .int (iI (l1 + 1))), (0, .ref (ad 4 l0 0))]) hx hb d_6_26_24 hl (k := 0) rfl (iI_add _ 1) (by decide) rfl (fun ls hl => ?_)
        refine lv_goto (tgt := 2) hx hb d_6_26_27 (by decide) ?_
        exact ih hf hZ7 hS7 (lv_sub hl [0, 1] rfl)
      · replace hf := gpos hf h9
        refine lv_iload_n hx hb d_6_26_22 rfl (lv_at hl 0 rfl) ?_
        cases hf
        exact W.iret hx hb hr (fun t ht hW => ⟨⟨_, (), rfl, rfl, by rw [ht]; exact hZ7, va_K.moved hW.alike hK⟩, hS7.F ht⟩) hS7.2.2 d_6_26_23 hlk

noncomputable def f_Part_firstSounding (K : zK) (l0 : Int) (F : zF) (B : zB) : zO := f_Part_firstSounding_2 K K.1 0 l0 F B
set_option maxHeartbeats 4000000 in
set_option maxRecDepth 100000 in
theorem c_Part_firstSounding {l : Launch} {D : va_G} {ca : Nat → ClassId} {ad : Nat → Int → Nat → Nat} {L : List Nat} {aS vS : Nat → Nat} {sz : Nat} {K : zK}  {l0 : Int} {F F9 : zF} {B B9 : zB} {r : Int} (hf : f_Part_firstSounding K l0 F B = some (r, F9, B9)) : Met l ({ cls := "StaveHouse$Part", name := "firstSounding", desc := "()I" } : Jvm.MethodName) (Cond.code ({ cls := "StaveHouse$Part", name := "firstSounding", desc := "()I" } : Jvm.MethodName) prog_6_method_26_code 2 (Option.some Jvm.ClassFile.FieldType.int) :: wAll) ({ frames := 1, cells := 0, slots := 0, locals := 20 } : Room) (va_Pc [.ref (ad 4 l0 0)] (zPre D ca ad lnC K.2 L aS vS F B sz)) (Q_Part_firstSounding K D ca ad L r F9 B9 (zA L sz)) 0 0 (zA L sz) := by
  refine zMet (Qc := Q_Part_firstSounding K D ca ad L r F9 B9) (lv := [(0, .ref (ad 4 l0 0))]) (by decide) (Nat.le_of_ble_eq_true rfl) rfl (fun A p e s m below meth c ls X hZ hS hl => ?_)
  obtain ⟨hx, hb, hr, hml, hown, hts, hlk, hK, hA, hL, hX⟩ := id X
  replace hf : (f_Part_firstSounding_2 K K.1 0 l0 F B) = some (r, F9, B9) := hf
  refine lv_iconst (v := iI 0) hx hb d_6_26_0 rfl ?_
  refine lv_istore_n (lv' := [(1, .int (iI 0)), (0, .ref (ad 4 l0 0))]) hx hb d_6_26_1 rfl hl (by decide) rfl (fun ls hl => ?_)
  exact b_Part_firstSounding_2 X hf hZ hS (lv_sub hl [0, 1] rfl)

noncomputable abbrev Q_Part_sameFraction (K : zK) (D : va_G) (ca : Nat → ClassId) (ad : Nat → Int → Nat → Nat) (L : List Nat) (r : Int) (F : zF) (B : zB) (A : Nat → Prop) : Array Value → State → Outcome → State → Prop := va_Qi (S := Unit) (fun p _ => p = iI r) (fun _ => zPo D ca ad lnC K.2 L F B A) A
noncomputable def f_Part_sameFraction_75 (K : zK) (s0 : Int) (F : zF) (B : zB) : zO := if (s0 = 0 ∨ s0 = 1) then some (s0, F, B) else none
set_option maxHeartbeats 4000000 in
set_option maxRecDepth 100000 in
theorem b_Part_sameFraction_75 {D : va_G} {ca : Nat → ClassId} {ad : Nat → Int → Nat → Nat} {L : List Nat} {aS vS : Nat → Nat} {A : Nat → Prop} {p : Program} {l : Launch} {e : Env} {s : State} {m : MethodId} {args : Array Value} {below : List Frame} {meth : Method} {c : Code} {K : zK} {r : Int} {F9 : zF} {B9 : zB} (X : zX D ca L aS vS A p s m args meth c prog_6_method_29_code 8 (Option.some Jvm.ClassFile.FieldType.boolean) "StaveHouse$Part") {s0 : Int} {F : zF} {B : zB} {H : Heap} {locs : List Loc} {ls : Array Slot} (hf : f_Part_sameFraction_75 K s0 F B = some (r, F9, B9)) (hZ : zH D ca ad lnC K.2 L F B A H) (hS : va_S A s.heap H locs) (hl : lv_has ls 8 []) : W p l e ({ frames := 1, cells := 0, slots := 0, locals := 30 } : Room) s m args below meth c H locs 0 0 (MQ below (Q_Part_sameFraction K D ca ad L r F9 B9 A) args s 0 0 A) (F0 m 75 ls [.int (iI s0)]) := by
  obtain ⟨hx, hb, hr, hml, hown, hts, hlk, hK, hA, hL, hX⟩ := id X
  replace hf : (if (s0 = 0 ∨ s0 = 1) then some (s0, F, B) else none) = some (r, F9, B9) := hf
  obtain ⟨g17, hf⟩ := gif hf
  cases hf
  exact W.zret hx hb hr (zbool g17) (fun t ht hW => ⟨⟨_, (), rfl, rfl, by rw [ht]; exact hZ, va_K.moved hW.alike hK⟩, hS.F ht⟩) hS.2.2 d_6_29_75 hlk

noncomputable def f_Part_sameFraction_74 (K : zK)  (F : zF) (B : zB) : zO := f_Part_sameFraction_75 K 0 F B
set_option maxHeartbeats 4000000 in
set_option maxRecDepth 100000 in
theorem b_Part_sameFraction_74 {D : va_G} {ca : Nat → ClassId} {ad : Nat → Int → Nat → Nat} {L : List Nat} {aS vS : Nat → Nat} {A : Nat → Prop} {p : Program} {l : Launch} {e : Env} {s : State} {m : MethodId} {args : Array Value} {below : List Frame} {meth : Method} {c : Code} {K : zK} {r : Int} {F9 : zF} {B9 : zB} (X : zX D ca L aS vS A p s m args meth c prog_6_method_29_code 8 (Option.some Jvm.ClassFile.FieldType.boolean) "StaveHouse$Part")  {F : zF} {B : zB} {H : Heap} {locs : List Loc} {ls : Array Slot} (hf : f_Part_sameFraction_74 K  F B = some (r, F9, B9)) (hZ : zH D ca ad lnC K.2 L F B A H) (hS : va_S A s.heap H locs) (hl : lv_has ls 8 []) : W p l e ({ frames := 1, cells := 0, slots := 0, locals := 30 } : Room) s m args below meth c H locs 0 0 (MQ below (Q_Part_sameFraction K D ca ad L r F9 B9 A) args s 0 0 A) (F0 m 74 ls []) := by
  obtain ⟨hx, hb, hr, hml, hown, hts, hlk, hK, hA, hL, hX⟩ := id X
  replace hf : (f_Part_sameFraction_75 K 0 F B) = some (r, F9, B9) := hf
  refine lv_iconst (v := iI 0) hx hb d_6_29_74 rfl ?_
  exact b_Part_sameFraction_75 X hf hZ hS (lv_sub hl [] rfl)

noncomputable def f_Part_sameFraction (K : zK) (l0 : Int) (l1 : Int) (l2 : Int) (l3 : Int) (F : zF) (B : zB) : zO := if 0 ≤ l0 ∧ l0 < K.2 1 then if 0 ≤ l1 ∧ l1 < K.2 1 then zbind (f_S_gcd K (F 1 l0 1) (F 1 l1 1) F B) (fun r3 F3 B3 => if r64 r3 then if 0 ≤ l2 ∧ l2 < K.2 1 then if 0 ≤ l3 ∧ l3 < K.2 1 then zbind (f_S_gcd K (F3 1 l2 1) (F3 1 l3 1) F3 B3) (fun r7 F7 B7 => if r64 r7 then if ¬ lI (zmax r3 1) = 0 then if ¬ lI (zmax r7 1) = 0 then if r64 (zldv (F7 1 l0 1) (zmax r3 1)) then if r64 (zldv (F7 1 l2 1) (zmax r7 1)) then (if (zcmp (zldv (F7 1 l0 1) (zmax r3 1)) (zldv (F7 1 l2 1) (zmax r7 1))) = 0 then if r64 (zldv (F7 1 l1 1) (zmax r3 1)) then if r64 (zldv (F7 1 l3 1) (zmax r7 1)) then (if (zcmp (zldv (F7 1 l1 1) (zmax r3 1)) (zldv (F7 1 l3 1) (zmax r7 1))) = 0 then f_Part_sameFraction_75 K 1 F7 B7 else f_Part_sameFraction_74 K F7 B7) else none else none else f_Part_sameFraction_74 K F7 B7) else none else none else none else none else none) else none else none else none) else none else none
set_option maxHeartbeats 4000000 in
set_option maxRecDepth 100000 in
theorem c_Part_sameFraction {l : Launch} {D : va_G} {ca : Nat → ClassId} {ad : Nat → Int → Nat → Nat} {L : List Nat} {aS vS : Nat → Nat} {sz : Nat} {K : zK}  {l0 : Int} {l1 : Int} {l2 : Int} {l3 : Int} {F F9 : zF} {B B9 : zB} {r : Int} (hf : f_Part_sameFraction K l0 l1 l2 l3 F B = some (r, F9, B9)) : Met l ({ cls := "StaveHouse$Part", name := "sameFraction", desc := "(LStaveHouse$Event;LStaveHouse$Event;LStaveHouse$Event;LStaveHouse$Event;)Z" } : Jvm.MethodName) (Cond.code ({ cls := "StaveHouse$Part", name := "sameFraction", desc := "(LStaveHouse$Event;LStaveHouse$Event;LStaveHouse$Event;LStaveHouse$Event;)Z" } : Jvm.MethodName) prog_6_method_29_code 8 (Option.some Jvm.ClassFile.FieldType.boolean) :: wAll) ({ frames := 1, cells := 0, slots := 0, locals := 30 } : Room) (va_Pc [.ref (ad 1 l0 0), .ref (ad 1 l1 0), .ref (ad 1 l2 0), .ref (ad 1 l3 0)] (zPre D ca ad lnC K.2 L aS vS F B sz)) (Q_Part_sameFraction K D ca ad L r F9 B9 (zA L sz)) 0 0 (zA L sz) := by
  refine zMet (Qc := Q_Part_sameFraction K D ca ad L r F9 B9) (lv := [(0, .ref (ad 1 l0 0)), (1, .ref (ad 1 l1 0)), (2, .ref (ad 1 l2 0)), (3, .ref (ad 1 l3 0))]) (by decide) (Nat.le_of_ble_eq_true rfl) rfl (fun A p e s m below meth c ls X hZ hS hl => ?_)
  obtain ⟨hx, hb, hr, hml, hown, hts, hlk, hK, hA, hL, hX⟩ := id X
  replace hf : (if 0 ≤ l0 ∧ l0 < K.2 1 then if 0 ≤ l1 ∧ l1 < K.2 1 then zbind (f_S_gcd K (F 1 l0 1) (F 1 l1 1) F B) (fun r3 F3 B3 => if r64 r3 then if 0 ≤ l2 ∧ l2 < K.2 1 then if 0 ≤ l3 ∧ l3 < K.2 1 then zbind (f_S_gcd K (F3 1 l2 1) (F3 1 l3 1) F3 B3) (fun r7 F7 B7 => if r64 r7 then if ¬ lI (zmax r3 1) = 0 then if ¬ lI (zmax r7 1) = 0 then if r64 (zldv (F7 1 l0 1) (zmax r3 1)) then if r64 (zldv (F7 1 l2 1) (zmax r7 1)) then (if (zcmp (zldv (F7 1 l0 1) (zmax r3 1)) (zldv (F7 1 l2 1) (zmax r7 1))) = 0 then if r64 (zldv (F7 1 l1 1) (zmax r3 1)) then if r64 (zldv (F7 1 l3 1) (zmax r7 1)) then (if (zcmp (zldv (F7 1 l1 1) (zmax r3 1)) (zldv (F7 1 l3 1) (zmax r7 1))) = 0 then f_Part_sameFraction_75 K 1 F7 B7 else f_Part_sameFraction_74 K F7 B7) else none else none else f_Part_sameFraction_74 K F7 B7) else none else none else none else none else none) else none else none else none) else none else none) = some (r, F9, B9) := hf
  refine lv_aload_n hx hb d_6_29_0 rfl (lv_at hl 0 rfl) ?_
  obtain ⟨g1, hf⟩ := gif hf
  refine zget (ci := 1) (C := RX1) (T := TX1) (v := .long (lI (F 1 l0 1))) (k := 1) hx hb hts inW_1 hown hK hZ g1.1 g1.2 rfl (by decide) k_2_24 rfl d_6_29_1 ?_
  refine lv_aload_n hx hb d_6_29_4 rfl (lv_at hl 1 rfl) ?_
  obtain ⟨g2, hf⟩ := gif hf
  refine zget (ci := 1) (C := RX1) (T := TX1) (v := .long (lI (F 1 l1 1))) (k := 1) hx hb hts inW_1 hown hK hZ g2.1 g2.2 rfl (by decide) k_2_24 rfl d_6_29_5 ?_
  obtain ⟨r3, F3, B3, hc3, hf⟩ := gbind hf
  refine va_calll (va_runSN (As := [.long (lI (F 1 l0 1)), .long (lI (F 1 l1 1))]) (rest := []) ⟨hx, hb, hml, hown, hts⟩ (c_S_gcd (l := l) hc3) ⟨va_cnB 2 hts (gdC k_6_191) rfl rfl rfl (hX.1 _ (List.mem_of_getElem? (i := 25) rfl)) (hts _ k_1_1) (by decide +kernel) ⟨Nat.le_of_ble_eq_true rfl, Nat.le_of_ble_eq_true rfl⟩, hts _ k_6_190, trivial⟩ (zPS X hZ hS [.long (lI (F 1 l0 1)), .long (lI (F 1 l1 1))]) rfl rfl hl.1 rfl (lv_room (Nat.le_of_ble_eq_true rfl)) d_6_29_8 ⟨Nat.le_of_ble_eq_true rfl, Nat.le_of_ble_eq_true rfl⟩) hS (fun q _ h => zAin X hS q h) (zAin X hS) (fun p3 u3 t3 H3 locs3 ht3 hv3 hw3 hB3 hz3 hk3 hS3 => ?_)
  have hZ3 := zBack X ht3 hB3
  subst hw3
  refine lv_lconst (v := lI 1) hx hb d_6_29_11 (by decide) ?_
  obtain ⟨g4, hf⟩ := gif hf
  refine va_mmax_long hx hb (by rw [hml]; exact hl.1.symm) hown (hts _ k_9_111) (hts _ k_5_176) (hts _ k_1_3) (hts _ k_5_177) (Nat.le_of_ble_eq_true rfl) (Nat.le_of_ble_eq_true rfl) (Nat.le_of_ble_eq_true rfl) (Nat.le_of_ble_eq_true rfl) d_6_29_12 ?_
  rw [zlmax_e g4 (by decide)]
  refine lv_lstore (lv' := [(4, .long (lI (zmax r3 1))), (0, .ref (ad 1 l0 0)), (1, .ref (ad 1 l1 0)), (2, .ref (ad 1 l2 0)), (3, .ref (ad 1 l3 0))]) hx hb d_6_29_15 hl (by decide) rfl (fun ls hl => ?_)
  refine lv_aload_n hx hb d_6_29_17 rfl (lv_at hl 3 rfl) ?_
  obtain ⟨g5, hf⟩ := gif hf
  refine zget (ci := 1) (C := RX1) (T := TX1) (v := .long (lI (F3 1 l2 1))) (k := 1) hx hb hts inW_1 hown hK hZ3 g5.1 g5.2 rfl (by decide) k_2_24 rfl d_6_29_18 ?_
  refine lv_aload_n hx hb d_6_29_21 rfl (lv_at hl 4 rfl) ?_
  obtain ⟨g6, hf⟩ := gif hf
  refine zget (ci := 1) (C := RX1) (T := TX1) (v := .long (lI (F3 1 l3 1))) (k := 1) hx hb hts inW_1 hown hK hZ3 g6.1 g6.2 rfl (by decide) k_2_24 rfl d_6_29_22 ?_
  obtain ⟨r7, F7, B7, hc7, hf⟩ := gbind hf
  refine va_calll (va_runSN (As := [.long (lI (F3 1 l2 1)), .long (lI (F3 1 l3 1))]) (rest := []) ⟨hx, hb, hml, hown, hts⟩ (c_S_gcd (l := l) hc7) ⟨va_cnB 2 hts (gdC k_6_191) rfl rfl rfl (hX.1 _ (List.mem_of_getElem? (i := 25) rfl)) (hts _ k_1_1) (by decide +kernel) ⟨Nat.le_of_ble_eq_true rfl, Nat.le_of_ble_eq_true rfl⟩, hts _ k_6_190, trivial⟩ (zPS X hZ3 hS3 [.long (lI (F3 1 l2 1)), .long (lI (F3 1 l3 1))]) rfl rfl hl.1 rfl (lv_room (Nat.le_of_ble_eq_true rfl)) d_6_29_25 ⟨Nat.le_of_ble_eq_true rfl, Nat.le_of_ble_eq_true rfl⟩) hS3 (fun q _ h => zAin X hS3 q h) (zAin X hS3) (fun p7 u7 t7 H7 locs7 ht7 hv7 hw7 hB7 hz7 hk7 hS7 => ?_)
  have hZ7 := zBack X ht7 hB7
  subst hw7
  refine lv_lconst (v := lI 1) hx hb d_6_29_28 (by decide) ?_
  obtain ⟨g8, hf⟩ := gif hf
  refine va_mmax_long hx hb (by rw [hml]; exact hl.1.symm) hown (hts _ k_9_111) (hts _ k_5_176) (hts _ k_1_3) (hts _ k_5_177) (Nat.le_of_ble_eq_true rfl) (Nat.le_of_ble_eq_true rfl) (Nat.le_of_ble_eq_true rfl) (Nat.le_of_ble_eq_true rfl) d_6_29_29 ?_
  rw [zlmax_e g8 (by decide)]
  refine lv_lstore (lv' := [(6, .long (lI (zmax r7 1))), (4, .long (lI (zmax r3 1))), (0, .ref (ad 1 l0 0)), (1, .ref (ad 1 l1 0)), (2, .ref (ad 1 l2 0)), (3, .ref (ad 1 l3 0))]) hx hb d_6_29_32 hl (by decide) rfl (fun ls hl => ?_)
  refine lv_aload_n hx hb d_6_29_34 rfl (lv_at hl 2 rfl) ?_
  refine zget (ci := 1) (C := RX1) (T := TX1) (v := .long (lI (F7 1 l0 1))) (k := 1) hx hb hts inW_1 hown hK hZ7 g1.1 g1.2 rfl (by decide) k_2_24 rfl d_6_29_35 ?_
  refine lv_lload hx hb d_6_29_38 (lv_at hl 1 rfl) ?_
  obtain ⟨g9, hf⟩ := gif hf
  refine zldv_r hx hb g9 d_6_29_40 ?_
  refine lv_aload_n hx hb d_6_29_41 rfl (lv_at hl 4 rfl) ?_
  refine zget (ci := 1) (C := RX1) (T := TX1) (v := .long (lI (F7 1 l2 1))) (k := 1) hx hb hts inW_1 hown hK hZ7 g5.1 g5.2 rfl (by decide) k_2_24 rfl d_6_29_42 ?_
  refine lv_lload hx hb d_6_29_45 (lv_at hl 0 rfl) ?_
  obtain ⟨g10, hf⟩ := gif hf
  refine zldv_r hx hb g10 d_6_29_47 ?_
  obtain ⟨g11, hf⟩ := gif hf
  obtain ⟨g12, hf⟩ := gif hf
  refine zcmp_r hx hb g11 g12 d_6_29_48 ?_
  refine z0ne (tgt := 74) hx hb zcmp_32 d_6_29_49 (by decide) (fun h13 => ?_) (fun h13 => ?_)
  · replace hf := gneg hf h13
    exact b_Part_sameFraction_74 X hf hZ7 hS7 (lv_sub hl [] rfl)
  · replace hf := gpos hf h13
    refine lv_aload_n hx hb d_6_29_52 rfl (lv_at hl 3 rfl) ?_
    refine zget (ci := 1) (C := RX1) (T := TX1) (v := .long (lI (F7 1 l1 1))) (k := 1) hx hb hts inW_1 hown hK hZ7 g2.1 g2.2 rfl (by decide) k_2_24 rfl d_6_29_53 ?_
    refine lv_lload hx hb d_6_29_56 (lv_at hl 1 rfl) ?_
    refine zldv_r hx hb g9 d_6_29_58 ?_
    refine lv_aload_n hx hb d_6_29_59 rfl (lv_at hl 5 rfl) ?_
    refine zget (ci := 1) (C := RX1) (T := TX1) (v := .long (lI (F7 1 l3 1))) (k := 1) hx hb hts inW_1 hown hK hZ7 g6.1 g6.2 rfl (by decide) k_2_24 rfl d_6_29_60 ?_
    refine lv_lload hx hb d_6_29_63 (lv_at hl 0 rfl) ?_
    refine zldv_r hx hb g10 d_6_29_65 ?_
    obtain ⟨g14, hf⟩ := gif hf
    obtain ⟨g15, hf⟩ := gif hf
    refine zcmp_r hx hb g14 g15 d_6_29_66 ?_
    refine z0ne (tgt := 74) hx hb zcmp_32 d_6_29_67 (by decide) (fun h16 => ?_) (fun h16 => ?_)
    · replace hf := gneg hf h16
      exact b_Part_sameFraction_74 X hf hZ7 hS7 (lv_sub hl [] rfl)
    · replace hf := gpos hf h16
      refine lv_iconst (v := iI 1) hx hb d_6_29_70 rfl ?_
      refine lv_goto (tgt := 75) hx hb d_6_29_71 (by decide) ?_
      exact b_Part_sameFraction_75 X hf hZ7 hS7 (lv_sub hl [] rfl)

noncomputable abbrev Q_S_feed (K : zK) (D : va_G) (ca : Nat → ClassId) (ad : Nat → Int → Nat → Nat) (L : List Nat) (r : Int) (F : zF) (B : zB) (A : Nat → Prop) : Array Value → State → Outcome → State → Prop := va_Qv (S := Unit) (fun _ => True) (fun _ => zPo D ca ad lnC K.2 L F B A) A
noncomputable def f_S_feed (K : zK) (l0 : Int) (l1 : Int) (l2 : Int) (l3 : Int) (l4 : Int) (l5 : Int) (F : zF) (B : zB) : zO := if 0 ≤ l0 ∧ l0 < K.2 12 then zbind (f_S_waitWord K l0 0 l1 F B) (fun r2 F2 B2 => zbind (f_S_waitWord K l0 4 l2 F2 B2) (fun r3 F3 B3 => zbind (f_S_waitWord K l0 8 l3 F3 B3) (fun r4 F4 B4 => zbind (f_S_waitWord K l0 12 l4 F4 B4) (fun r5 F5 B5 => zbind (f_S_waitWord K l0 16 l5 F5 B5) (fun r6 F6 B6 => some (0, F6, B6)))))) else none
set_option maxHeartbeats 4000000 in
set_option maxRecDepth 100000 in
theorem c_S_feed {l : Launch} {D : va_G} {ca : Nat → ClassId} {ad : Nat → Int → Nat → Nat} {L : List Nat} {aS vS : Nat → Nat} {sz : Nat} {K : zK}  {l0 : Int} {l1 : Int} {l2 : Int} {l3 : Int} {l4 : Int} {l5 : Int} {F F9 : zF} {B B9 : zB} {r : Int} (hf : f_S_feed K l0 l1 l2 l3 l4 l5 F B = some (r, F9, B9)) : Met l ({ cls := "StaveHouse", name := "feed", desc := "(IIIII)V" } : Jvm.MethodName) (Cond.code ({ cls := "StaveHouse", name := "feed", desc := "(IIIII)V" } : Jvm.MethodName) prog_1_method_2_code 6 (Option.none : Option Jvm.ClassFile.FieldType) :: wAll) ({ frames := 1, cells := 0, slots := 0, locals := 23 } : Room) (va_Pc [.ref (ad 12 l0 0), .int (iI l1), .int (iI l2), .int (iI l3), .int (iI l4), .int (iI l5)] (zPre D ca ad lnC K.2 L aS vS F B sz)) (Q_S_feed K D ca ad L r F9 B9 (zA L sz)) 0 0 (zA L sz) := by
  refine zMet (Qc := Q_S_feed K D ca ad L r F9 B9) (lv := [(0, .ref (ad 12 l0 0)), (1, .int (iI l1)), (2, .int (iI l2)), (3, .int (iI l3)), (4, .int (iI l4)), (5, .int (iI l5))]) (by decide) (Nat.le_of_ble_eq_true rfl) rfl (fun A p e s m below meth c ls X hZ hS hl => ?_)
  obtain ⟨hx, hb, hr, hml, hown, hts, hlk, hK, hA, hL, hX⟩ := id X
  replace hf : (if 0 ≤ l0 ∧ l0 < K.2 12 then zbind (f_S_waitWord K l0 0 l1 F B) (fun r2 F2 B2 => zbind (f_S_waitWord K l0 4 l2 F2 B2) (fun r3 F3 B3 => zbind (f_S_waitWord K l0 8 l3 F3 B3) (fun r4 F4 B4 => zbind (f_S_waitWord K l0 12 l4 F4 B4) (fun r5 F5 B5 => zbind (f_S_waitWord K l0 16 l5 F5 B5) (fun r6 F6 B6 => some (0, F6, B6)))))) else none) = some (r, F9, B9) := hf
  refine lv_aload_n hx hb d_1_2_0 rfl (lv_at hl 0 rfl) ?_
  refine lv_iconst (v := iI 0) hx hb d_1_2_1 rfl ?_
  refine lv_iload_n hx hb d_1_2_2 rfl (lv_at hl 1 rfl) ?_
  obtain ⟨g1, hf⟩ := gif hf
  obtain ⟨r2, F2, B2, hc2, hf⟩ := gbind hf
  refine va_callv (va_runV (As := [.int (iI 0), .int (iI l1)]) (rest := []) ⟨hx, hb, hml, hown, hts⟩ (c_S_waitWord (l := l) hc2) (cwV 2 hts (gdV k_2_162 k_2_164 ks_0 k_1_1 k_2_165) rfl rfl rfl (by decide +kernel) ⟨Nat.le_of_ble_eq_true rfl, Nat.le_of_ble_eq_true rfl⟩) (zPV X hZ hS (ci := 12) g1.1 g1.2 (r := (RX12, TX12, 10)) rfl [.int (iI 0), .int (iI l1)]) rfl rfl hl.1 rfl (lv_room (Nat.le_of_ble_eq_true rfl)) d_1_2_3 ⟨Nat.le_of_ble_eq_true rfl, Nat.le_of_ble_eq_true rfl⟩) hS (fun q _ h => zAin X hS q h) (zAin X hS) (fun u2 t2 H2 locs2 ht2 hv2 hw2 hB2 hz2 hk2 hS2 => ?_)
  have hZ2 := zBack X ht2 hB2
  refine lv_aload_n hx hb d_1_2_6 rfl (lv_at hl 0 rfl) ?_
  refine lv_iconst (v := iI 4) hx hb d_1_2_7 rfl ?_
  refine lv_iload_n hx hb d_1_2_8 rfl (lv_at hl 2 rfl) ?_
  obtain ⟨r3, F3, B3, hc3, hf⟩ := gbind hf
  refine va_callv (va_runV (As := [.int (iI 4), .int (iI l2)]) (rest := []) ⟨hx, hb, hml, hown, hts⟩ (c_S_waitWord (l := l) hc3) (cwV 2 hts (gdV k_2_162 k_2_164 ks_0 k_1_1 k_2_165) rfl rfl rfl (by decide +kernel) ⟨Nat.le_of_ble_eq_true rfl, Nat.le_of_ble_eq_true rfl⟩) (zPV X hZ2 hS2 (ci := 12) g1.1 g1.2 (r := (RX12, TX12, 10)) rfl [.int (iI 4), .int (iI l2)]) rfl rfl hl.1 rfl (lv_room (Nat.le_of_ble_eq_true rfl)) d_1_2_9 ⟨Nat.le_of_ble_eq_true rfl, Nat.le_of_ble_eq_true rfl⟩) hS2 (fun q _ h => zAin X hS2 q h) (zAin X hS2) (fun u3 t3 H3 locs3 ht3 hv3 hw3 hB3 hz3 hk3 hS3 => ?_)
  have hZ3 := zBack X ht3 hB3
  refine lv_aload_n hx hb d_1_2_12 rfl (lv_at hl 0 rfl) ?_
  refine lv_bipush (v := iI 8) hx hb d_1_2_13 (by decide) ?_
  refine lv_iload_n hx hb d_1_2_15 rfl (lv_at hl 3 rfl) ?_
  obtain ⟨r4, F4, B4, hc4, hf⟩ := gbind hf
  refine va_callv (va_runV (As := [.int (iI 8), .int (iI l3)]) (rest := []) ⟨hx, hb, hml, hown, hts⟩ (c_S_waitWord (l := l) hc4) (cwV 2 hts (gdV k_2_162 k_2_164 ks_0 k_1_1 k_2_165) rfl rfl rfl (by decide +kernel) ⟨Nat.le_of_ble_eq_true rfl, Nat.le_of_ble_eq_true rfl⟩) (zPV X hZ3 hS3 (ci := 12) g1.1 g1.2 (r := (RX12, TX12, 10)) rfl [.int (iI 8), .int (iI l3)]) rfl rfl hl.1 rfl (lv_room (Nat.le_of_ble_eq_true rfl)) d_1_2_16 ⟨Nat.le_of_ble_eq_true rfl, Nat.le_of_ble_eq_true rfl⟩) hS3 (fun q _ h => zAin X hS3 q h) (zAin X hS3) (fun u4 t4 H4 locs4 ht4 hv4 hw4 hB4 hz4 hk4 hS4 => ?_)
  have hZ4 := zBack X ht4 hB4
  refine lv_aload_n hx hb d_1_2_19 rfl (lv_at hl 0 rfl) ?_
  refine lv_bipush (v := iI 12) hx hb d_1_2_20 (by decide) ?_
  refine lv_iload hx hb d_1_2_22 (lv_at hl 4 rfl) ?_
  obtain ⟨r5, F5, B5, hc5, hf⟩ := gbind hf
  refine va_callv (va_runV (As := [.int (iI 12), .int (iI l4)]) (rest := []) ⟨hx, hb, hml, hown, hts⟩ (c_S_waitWord (l := l) hc5) (cwV 2 hts (gdV k_2_162 k_2_164 ks_0 k_1_1 k_2_165) rfl rfl rfl (by decide +kernel) ⟨Nat.le_of_ble_eq_true rfl, Nat.le_of_ble_eq_true rfl⟩) (zPV X hZ4 hS4 (ci := 12) g1.1 g1.2 (r := (RX12, TX12, 10)) rfl [.int (iI 12), .int (iI l4)]) rfl rfl hl.1 rfl (lv_room (Nat.le_of_ble_eq_true rfl)) d_1_2_24 ⟨Nat.le_of_ble_eq_true rfl, Nat.le_of_ble_eq_true rfl⟩) hS4 (fun q _ h => zAin X hS4 q h) (zAin X hS4) (fun u5 t5 H5 locs5 ht5 hv5 hw5 hB5 hz5 hk5 hS5 => ?_)
  have hZ5 := zBack X ht5 hB5
  refine lv_aload_n hx hb d_1_2_27 rfl (lv_at hl 0 rfl) ?_
  refine lv_bipush (v := iI 16) hx hb d_1_2_28 (by decide) ?_
  refine lv_iload hx hb d_1_2_30 (lv_at hl 5 rfl) ?_
  obtain ⟨r6, F6, B6, hc6, hf⟩ := gbind hf
  refine va_callv (va_runV (As := [.int (iI 16), .int (iI l5)]) (rest := []) ⟨hx, hb, hml, hown, hts⟩ (c_S_waitWord (l := l) hc6) (cwV 2 hts (gdV k_2_162 k_2_164 ks_0 k_1_1 k_2_165) rfl rfl rfl (by decide +kernel) ⟨Nat.le_of_ble_eq_true rfl, Nat.le_of_ble_eq_true rfl⟩) (zPV X hZ5 hS5 (ci := 12) g1.1 g1.2 (r := (RX12, TX12, 10)) rfl [.int (iI 16), .int (iI l5)]) rfl rfl hl.1 rfl (lv_room (Nat.le_of_ble_eq_true rfl)) d_1_2_32 ⟨Nat.le_of_ble_eq_true rfl, Nat.le_of_ble_eq_true rfl⟩) hS5 (fun q _ h => zAin X hS5 q h) (zAin X hS5) (fun u6 t6 H6 locs6 ht6 hv6 hw6 hB6 hz6 hk6 hS6 => ?_)
  have hZ6 := zBack X ht6 hB6
  cases hf
  exact W.vret hx hb hr (fun t ht hW => ⟨⟨(), rfl, trivial, by rw [ht]; exact hZ6, va_K.moved hW.alike hK⟩, hS6.F ht⟩) hS6.2.2 d_1_2_35 hlk

noncomputable abbrev Q_S_end (K : zK) (D : va_G) (ca : Nat → ClassId) (ad : Nat → Int → Nat → Nat) (L : List Nat) (r : Int) (F : zF) (B : zB) (A : Nat → Prop) : Array Value → State → Outcome → State → Prop := va_Qi (S := Unit) (fun p _ => p = iI r) (fun _ => zPo D ca ad lnC K.2 L F B A) A
noncomputable def f_S_end_29 (K : zK) : Nat → Int → Int → Int → zF → zB → zO
  | 0, _, _, _, _, _ => none
  | n + 1, l2, l0, l1, F, B => if r32 l2 then if r32 l1 then (if l1 ≤ l2 then if 0 ≤ l0 ∧ l0 < K.2 12 then if 0 ≤ (F 12 l0 0) ∧ (F 12 l0 0) < K.2 0 then some (F 0 (F 12 l0 0) 1, F, B) else none else none else if 0 ≤ l0 ∧ l0 < K.2 12 then if 0 ≤ l2 ∧ l2 < 20 then if 0 ≤ (F 12 l0 0) ∧ (F 12 l0 0) < K.2 0 then zbind (f_ByteRow_put K (F 12 l0 0) (B 12 l0 1 l2) F B) (fun r16 F16 B16 => f_S_end_29 K n (l2 + 1) l0 l1 F16 B16) else none else none else none) else none else none
