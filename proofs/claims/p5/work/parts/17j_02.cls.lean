theorem d_10_12_101 : decode prog_10_method_12_code 101 = .ok (.lload_n 3, 1) := D_33 W_prog_10_method_12_code_96 5 rfl rfl
theorem d_10_12_102 : decode prog_10_method_12_code 102 = .ok (.ldc2_w 110, 3) := D_20 W_prog_10_method_12_code_96 6 rfl rfl rfl
theorem d_10_12_105 : decode prog_10_method_12_code 105 = .ok (.lsub, 1) := D_101 W_prog_10_method_12_code_96 9 rfl rfl
theorem d_10_12_106 : decode prog_10_method_12_code 106 = .ok (.invokevirtual 70, 3) := D_182 W_prog_10_method_12_code_96 10 rfl rfl rfl
theorem d_10_12_109 : decode prog_10_method_12_code 109 = .ok (.return_, 1) := D_177 W_prog_10_method_12_code_96 13 rfl rfl
noncomputable abbrev Q_Study_chordKind (K : zK) (D : va_G) (ca : Nat → ClassId) (ad : Nat → Int → Nat → Nat) (L : List Nat) (r : Int) (F : zF) (B : zB) (A : Nat → Prop) : Array Value → State → Outcome → State → Prop := va_Qi (S := Unit) (fun p _ => p = iI r) (fun _ => zPo D ca ad lnC K.2 L F B A) A
noncomputable def f_Study_chordKind_88 (K : zK) : Nat → Int → Int → zF → zB → zO
  | 0, _, _, _, _ => none
  | n + 1, l3, l2, F, B => if r32 l3 then if r32 (ztl 16) then (if (ztl 16) ≤ l3 then some ((-1), F, B) else if 0 ≤ l3 ∧ l3 < ztl 16 then if r32 (ztv 16 l3) then if r32 l2 then (if (ztv 16 l3) = l2 then if 0 ≤ l3 ∧ l3 < ztl 17 then some (ztv 17 l3, F, B) else none else f_Study_chordKind_88 K n (l3 + 1) l2 F B) else none else none else none) else none else none
set_option maxHeartbeats 4000000 in
set_option maxRecDepth 100000 in
theorem b_Study_chordKind_88 {D : va_G} {ca : Nat → ClassId} {ad : Nat → Int → Nat → Nat} {L : List Nat} {aS vS : Nat → Nat} {A : Nat → Prop} {p : Program} {l : Launch} {e : Env} {s : State} {m : MethodId} {args : Array Value} {below : List Frame} {meth : Method} {c : Code} {K : zK} {r : Int} {F9 : zF} {B9 : zB} (X : zX D ca L aS vS A p s m args meth c prog_11_method_15_code 4 (Option.some Jvm.ClassFile.FieldType.int) "StaveHouse$Study") : ∀ {n : Nat} {l3 : Int} {l2 : Int} {F : zF} {B : zB} {H : Heap} {locs : List Loc} {ls : Array Slot}, f_Study_chordKind_88 K n l3 l2 F B = some (r, F9, B9) → zH D ca ad lnC K.2 L F B A H → va_S A s.heap H locs → lv_has ls 4 [(3, .int (iI l3)), (2, .int (iI l2))] → W p l e ({ frames := 3, cells := 0, slots := 0, locals := 65 } : Room) s m args below meth c H locs 0 0 (MQ below (Q_Study_chordKind K D ca ad L r F9 B9 A) args s 0 0 A) (F0 m 88 ls []) := by
  obtain ⟨hx, hb, hr, hml, hown, hts, hlk, hK, hA, hL, hX⟩ := id X
  intro n
  induction n with
  | zero =>
    intros
    rename_i hf _ _ _
    cases hf
  | succ n ih =>
    intro l3 l2 F B H locs ls hf hZ hS hl
    replace hf : (if r32 l3 then if r32 (ztl 16) then (if (ztl 16) ≤ l3 then some ((-1), F, B) else if 0 ≤ l3 ∧ l3 < ztl 16 then if r32 (ztv 16 l3) then if r32 l2 then (if (ztv 16 l3) = l2 then if 0 ≤ l3 ∧ l3 < ztl 17 then some (ztv 17 l3, F, B) else none else f_Study_chordKind_88 K n (l3 + 1) l2 F B) else none else none else none) else none else none) = some (r, F9, B9) := hf
    refine lv_iload_n hx hb d_11_15_88 rfl (lv_at hl 0 rfl) ?_
    refine va_gets hx hb (hX.2.2.2.2.2.2 16 _ rfl).1 hS hown (hts _ k_9_61) (fun _ h => h) d_11_15_89 ?_
    refine W.eq (g2 := F0 m 92 ls [.ref (vS (1000 + 16)), .int (iI l3)]) rfl ?_
    refine va_tlen (v := iI (ztl 16)) hx hb (ztT hX (by decide)) hS (ztl_n _) d_11_15_92 ?_
    obtain ⟨g18, hf⟩ := gif hf
    obtain ⟨g19, hf⟩ := gif hf
    refine zge (tgt := 117) hx hb g18 g19 d_11_15_93 (by decide) (fun h20 => ?_) (fun h20 => ?_)
    · replace hf := gpos hf h20
      refine lv_iconst (v := iI (-1)) hx hb d_11_15_117 rfl ?_
      cases hf
      exact W.iret hx hb hr (fun t ht hW => ⟨⟨_, (), rfl, rfl, by rw [ht]; exact hZ, va_K.moved hW.alike hK⟩, hS.F ht⟩) hS.2.2 d_11_15_118 hlk
    · replace hf := gneg hf h20
      refine va_gets hx hb (hX.2.2.2.2.2.2 16 _ rfl).1 hS hown (hts _ k_9_61) (fun _ h => h) d_11_15_96 ?_
      refine W.eq (g2 := F0 m 99 ls [.ref (vS (1000 + 16))]) rfl ?_
      refine lv_iload_n hx hb d_11_15_99 rfl (lv_at hl 0 rfl) ?_
      obtain ⟨g21, hf⟩ := gif hf
      refine va_ti (v := .int (iI (ztv 16 l3))) hx hb (ztI hX (by decide) (by decide)) hS (zt_in (by decide) g21) (ztI_v (by decide) g21) d_11_15_100 ?_
      refine lv_iload_n hx hb d_11_15_101 rfl (lv_at hl 1 rfl) ?_
      obtain ⟨g22, hf⟩ := gif hf
      obtain ⟨g23, hf⟩ := gif hf
      refine zne (tgt := 111) hx hb g22 g23 d_11_15_102 (by decide) (fun h24 => ?_) (fun h24 => ?_)
      · replace hf := gneg hf h24
        refine lv_iinc (v := iI (l3 + 1)) (lv' := [(3, .int (iI (l3 + 1))), (2, .int (iI l2))]) hx hb d_11_15_111 hl (k := 0) rfl (iI_add _ 1) (by decide) rfl (fun ls hl => ?_)
        refine lv_goto (tgt := 88) hx hb d_11_15_114 (by decide) ?_
        exact ih hf hZ hS (lv_sub hl [0, 1] rfl)
      · replace hf := gpos hf h24
        refine va_gets hx hb (hX.2.2.2.2.2.2 17 _ rfl).1 hS hown (hts _ k_9_63) (fun _ h => h) d_11_15_105 ?_
        refine W.eq (g2 := F0 m 108 ls [.ref (vS (1000 + 17))]) rfl ?_
        refine lv_iload_n hx hb d_11_15_108 rfl (lv_at hl 0 rfl) ?_
        obtain ⟨g25, hf⟩ := gif hf
        refine va_ti (v := .int (iI (ztv 17 l3))) hx hb (ztI hX (by decide) (by decide)) hS (zt_in (by decide) g25) (ztI_v (by decide) g25) d_11_15_109 ?_
        cases hf
        exact W.iret hx hb hr (fun t ht hW => ⟨⟨_, (), rfl, rfl, by rw [ht]; exact hZ, va_K.moved hW.alike hK⟩, hS.F ht⟩) hS.2.2 d_11_15_110 hlk

noncomputable def f_Study_chordKind_19 (rec2 : Int → Int → Int → zF → zB → zO) (K : zK) (l2 : Int) (l0 : Int) (l1 : Int) (s0 : Int) (F : zF) (B : zB) : zO := if 0 ≤ l0 ∧ l0 < K.2 9 then if 0 ≤ (zrm (l1 + l2) 7) ∧ (zrm (l1 + l2) 7) < 7 then zbind (f_Integer_bitCount K (B 9 l0 10 (zrm (l1 + l2) 7)) F B) (fun r14 F14 B14 => if r32 r14 then if r32 s0 then (if r14 ≤ s0 then rec2 (l2 + 1) l0 l1 F14 B14 else some ((-1), F14, B14)) else none else none) else none else none
set_option maxHeartbeats 4000000 in
set_option maxRecDepth 100000 in
theorem b_Study_chordKind_19 {D : va_G} {ca : Nat → ClassId} {ad : Nat → Int → Nat → Nat} {L : List Nat} {aS vS : Nat → Nat} {A : Nat → Prop} {p : Program} {l : Launch} {e : Env} {s : State} {m : MethodId} {args : Array Value} {below : List Frame} {meth : Method} {c : Code} {K : zK} {r : Int} {F9 : zF} {B9 : zB} (X : zX D ca L aS vS A p s m args meth c prog_11_method_15_code 4 (Option.some Jvm.ClassFile.FieldType.int) "StaveHouse$Study") {rec2 : Int → Int → Int → zF → zB → zO} (hrec2 : ∀ {l2 : Int} {l0 : Int} {l1 : Int} {F : zF} {B : zB} {H : Heap} {locs : List Loc} {ls : Array Slot}, rec2 l2 l0 l1 F B = some (r, F9, B9) → zH D ca ad lnC K.2 L F B A H → va_S A s.heap H locs → lv_has ls 4 [(2, .int (iI l2)), (0, .ref (ad 9 l0 0)), (1, .int (iI l1))] → W p l e ({ frames := 3, cells := 0, slots := 0, locals := 65 } : Room) s m args below meth c H locs 0 0 (MQ below (Q_Study_chordKind K D ca ad L r F9 B9 A) args s 0 0 A) (F0 m 2 ls [])) {l2 : Int} {l0 : Int} {l1 : Int} {s0 : Int} {F : zF} {B : zB} {H : Heap} {locs : List Loc} {ls : Array Slot} (hf : f_Study_chordKind_19 rec2 K l2 l0 l1 s0 F B = some (r, F9, B9)) (hZ : zH D ca ad lnC K.2 L F B A H) (hS : va_S A s.heap H locs) (hl : lv_has ls 4 [(2, .int (iI l2)), (0, .ref (ad 9 l0 0)), (1, .int (iI l1))]) : W p l e ({ frames := 3, cells := 0, slots := 0, locals := 65 } : Room) s m args below meth c H locs 0 0 (MQ below (Q_Study_chordKind K D ca ad L r F9 B9 A) args s 0 0 A) (F0 m 19 ls [.int (iI s0)]) := by
  obtain ⟨hx, hb, hr, hml, hown, hts, hlk, hK, hA, hL, hX⟩ := id X
  replace hf : (if 0 ≤ l0 ∧ l0 < K.2 9 then if 0 ≤ (zrm (l1 + l2) 7) ∧ (zrm (l1 + l2) 7) < 7 then zbind (f_Integer_bitCount K (B 9 l0 10 (zrm (l1 + l2) 7)) F B) (fun r14 F14 B14 => if r32 r14 then if r32 s0 then (if r14 ≤ s0 then rec2 (l2 + 1) l0 l1 F14 B14 else some ((-1), F14, B14)) else none else none) else none else none) = some (r, F9, B9) := hf
  refine lv_istore_n (lv' := [(3, .int (iI s0)), (2, .int (iI l2)), (0, .ref (ad 9 l0 0)), (1, .int (iI l1))]) hx hb d_11_15_19 rfl hl (by decide) rfl (fun ls hl => ?_)
  refine lv_aload_n hx hb d_11_15_20 rfl (lv_at hl 2 rfl) ?_
  obtain ⟨g12, hf⟩ := gif hf
  refine zget (ci := 9) (C := RX9) (T := TX9) (v := .ref (ad 9 l0 (10 + 1))) (k := 10) hx hb hts inW_9 hown hK hZ g12.1 g12.2 rfl (by decide) k_5_211 rfl d_11_15_21 ?_
  refine lv_iload_n hx hb d_11_15_24 rfl (lv_at hl 3 rfl) ?_
  refine lv_iload_n hx hb d_11_15_25 rfl (lv_at hl 1 rfl) ?_
  refine zadd hx hb d_11_15_26 ?_
  refine lv_bipush (v := iI 7) hx hb d_11_15_27 (by decide) ?_
  refine zrm_r hx hb (by decide) d_11_15_29 ?_
  obtain ⟨g13, hf⟩ := gif hf
  refine zald (ci := 9) (k := 10) hx hb hK rfl hZ g12.1 g12.2 rfl (Nat.le_of_ble_eq_true rfl) g13.1 g13.2 d_11_15_30 ?_
  obtain ⟨r14, F14, B14, hc14, hf⟩ := gbind hf
  refine va_calli (va_runS (As := [.int (iI (B 9 l0 10 (zrm (l1 + l2) 7)))]) (rest := []) ⟨hx, hb, hml, hown, hts⟩ (c_Integer_bitCount (l := l) hc14) (va_cwS 1 hts (gdS k_9_47 k_7_170 k_1_22 k_7_171) rfl rfl rfl (by decide +kernel) ⟨Nat.le_of_ble_eq_true rfl, Nat.le_of_ble_eq_true rfl⟩) (zPS X hZ hS [.int (iI (B 9 l0 10 (zrm (l1 + l2) 7)))]) rfl rfl hl.1 rfl (lv_room (Nat.le_of_ble_eq_true rfl)) d_11_15_31 ⟨Nat.le_of_ble_eq_true rfl, Nat.le_of_ble_eq_true rfl⟩) hS (fun q _ h => zAin X hS q h) (zAin X hS) (fun p14 u14 t14 H14 locs14 ht14 hv14 hw14 hB14 hz14 hk14 hS14 => ?_)
  have hZ14 := zBack X ht14 hB14
  subst hw14
  refine lv_iload_n hx hb d_11_15_34 rfl (lv_at hl 0 rfl) ?_
  obtain ⟨g15, hf⟩ := gif hf
  obtain ⟨g16, hf⟩ := gif hf
  refine zle (tgt := 40) hx hb g15 g16 d_11_15_35 (by decide) (fun h17 => ?_) (fun h17 => ?_)
  · replace hf := gpos hf h17
    refine lv_iinc (v := iI (l2 + 1)) (lv' := [(2, .int (iI (l2 + 1))), (3, .int (iI s0)), (0, .ref (ad 9 l0 0)), (1, .int (iI l1))]) hx hb d_11_15_40 hl (k := 1) rfl (iI_add _ 1) (by decide) rfl (fun ls hl => ?_)
    refine lv_goto (tgt := 2) hx hb d_11_15_43 (by decide) ?_
    exact hrec2 hf hZ14 hS14 (lv_sub hl [0, 2, 3] rfl)
  · replace hf := gneg hf h17
    refine lv_iconst (v := iI (-1)) hx hb d_11_15_38 rfl ?_
    cases hf
    exact W.iret hx hb hr (fun t ht hW => ⟨⟨_, (), rfl, rfl, by rw [ht]; exact hZ14, va_K.moved hW.alike hK⟩, hS14.F ht⟩) hS14.2.2 d_11_15_39 hlk

noncomputable def f_Study_chordKind_2 (K : zK) : Nat → Int → Int → Int → zF → zB → zO
  | 0, _, _, _, _, _ => none
  | n + 1, l2, l0, l1, F, B => if r32 l2 then (if 7 ≤ l2 then if 0 ≤ l0 ∧ l0 < K.2 9 then if 0 ≤ l1 ∧ l1 < 7 then if r32 (B 9 l0 10 l1) then (if (B 9 l0 10 l1) = 0 then some ((-1), F, B) else zbind (f_Study_tonesAbove K l0 l1 2 F B) (fun r7 F7 B7 => zbind (f_Study_tonesAbove K l0 l1 4 F7 B7) (fun r8 F8 B8 => zbind (f_Study_tonesAbove K l0 l1 6 F8 B8) (fun r9 F9 B9 => f_Study_chordKind_88 K K.1 0 (((10000 * r7) + (100 * r8)) + r9) F9 B9)))) else none else none else none else if r32 (zrm l2 2) then (if (zrm l2 2) = 0 then f_Study_chordKind_19 (f_Study_chordKind_2 K n) K l2 l0 l1 1 F B else f_Study_chordKind_19 (f_Study_chordKind_2 K n) K l2 l0 l1 0 F B) else none) else none
set_option maxHeartbeats 4000000 in
set_option maxRecDepth 100000 in
theorem b_Study_chordKind_2 {D : va_G} {ca : Nat → ClassId} {ad : Nat → Int → Nat → Nat} {L : List Nat} {aS vS : Nat → Nat} {A : Nat → Prop} {p : Program} {l : Launch} {e : Env} {s : State} {m : MethodId} {args : Array Value} {below : List Frame} {meth : Method} {c : Code} {K : zK} {r : Int} {F9 : zF} {B9 : zB} (X : zX D ca L aS vS A p s m args meth c prog_11_method_15_code 4 (Option.some Jvm.ClassFile.FieldType.int) "StaveHouse$Study") : ∀ {n : Nat} {l2 : Int} {l0 : Int} {l1 : Int} {F : zF} {B : zB} {H : Heap} {locs : List Loc} {ls : Array Slot}, f_Study_chordKind_2 K n l2 l0 l1 F B = some (r, F9, B9) → zH D ca ad lnC K.2 L F B A H → va_S A s.heap H locs → lv_has ls 4 [(2, .int (iI l2)), (0, .ref (ad 9 l0 0)), (1, .int (iI l1))] → W p l e ({ frames := 3, cells := 0, slots := 0, locals := 65 } : Room) s m args below meth c H locs 0 0 (MQ below (Q_Study_chordKind K D ca ad L r F9 B9 A) args s 0 0 A) (F0 m 2 ls []) := by
  obtain ⟨hx, hb, hr, hml, hown, hts, hlk, hK, hA, hL, hX⟩ := id X
  intro n
  induction n with
  | zero =>
    intros
    rename_i hf _ _ _
    cases hf
  | succ n ih =>
    intro l2 l0 l1 F B H locs ls hf hZ hS hl
    replace hf : (if r32 l2 then (if 7 ≤ l2 then if 0 ≤ l0 ∧ l0 < K.2 9 then if 0 ≤ l1 ∧ l1 < 7 then if r32 (B 9 l0 10 l1) then (if (B 9 l0 10 l1) = 0 then some ((-1), F, B) else zbind (f_Study_tonesAbove K l0 l1 2 F B) (fun r7 F7 B7 => zbind (f_Study_tonesAbove K l0 l1 4 F7 B7) (fun r8 F8 B8 => zbind (f_Study_tonesAbove K l0 l1 6 F8 B8) (fun r9 F9 B9 => f_Study_chordKind_88 K K.1 0 (((10000 * r7) + (100 * r8)) + r9) F9 B9)))) else none else none else none else if r32 (zrm l2 2) then (if (zrm l2 2) = 0 then f_Study_chordKind_19 (f_Study_chordKind_2 K n) K l2 l0 l1 1 F B else f_Study_chordKind_19 (f_Study_chordKind_2 K n) K l2 l0 l1 0 F B) else none) else none) = some (r, F9, B9) := hf
    refine lv_iload_n hx hb d_11_15_2 rfl (lv_at hl 0 rfl) ?_
    refine lv_bipush (v := iI 7) hx hb d_11_15_3 (by decide) ?_
    obtain ⟨g1, hf⟩ := gif hf
    refine zge (tgt := 46) hx hb g1 (by decide) d_11_15_5 (by decide) (fun h2 => ?_) (fun h2 => ?_)
    · replace hf := gpos hf h2
      refine lv_aload_n hx hb d_11_15_46 rfl (lv_at hl 1 rfl) ?_
      obtain ⟨g3, hf⟩ := gif hf
      refine zget (ci := 9) (C := RX9) (T := TX9) (v := .ref (ad 9 l0 (10 + 1))) (k := 10) hx hb hts inW_9 hown hK hZ g3.1 g3.2 rfl (by decide) k_5_211 rfl d_11_15_47 ?_
      refine lv_iload_n hx hb d_11_15_50 rfl (lv_at hl 2 rfl) ?_
      obtain ⟨g4, hf⟩ := gif hf
      refine zald (ci := 9) (k := 10) hx hb hK rfl hZ g3.1 g3.2 rfl (Nat.le_of_ble_eq_true rfl) g4.1 g4.2 d_11_15_51 ?_
      obtain ⟨g5, hf⟩ := gif hf
      refine z0ne (tgt := 57) hx hb g5 d_11_15_52 (by decide) (fun h6 => ?_) (fun h6 => ?_)
      · replace hf := gneg hf h6
        refine lv_sipush (v := iI 10000) hx hb d_11_15_57 (by decide) ?_
        refine lv_aload_n hx hb d_11_15_60 rfl (lv_at hl 1 rfl) ?_
        refine lv_iload_n hx hb d_11_15_61 rfl (lv_at hl 2 rfl) ?_
        refine lv_iconst (v := iI 2) hx hb d_11_15_62 rfl ?_
        obtain ⟨r7, F7, B7, hc7, hf⟩ := gbind hf
        refine va_calli (va_runV (As := [.int (iI l1), .int (iI 2)]) (rest := [.int (iI 10000)]) ⟨hx, hb, hml, hown, hts⟩ (c_Study_tonesAbove (l := l) hc7) (cwV 2 hts (gdV k_9_52 k_9_54 ks_127 k_1_19 k_9_55) rfl rfl rfl (by decide +kernel) ⟨Nat.le_of_ble_eq_true rfl, Nat.le_of_ble_eq_true rfl⟩) (zPV X hZ hS (ci := 9) g3.1 g3.2 (r := (RX9, TX9, 11)) rfl [.int (iI l1), .int (iI 2)]) rfl rfl hl.1 rfl (lv_room (Nat.le_of_ble_eq_true rfl)) d_11_15_63 ⟨Nat.le_of_ble_eq_true rfl, Nat.le_of_ble_eq_true rfl⟩) hS (fun q _ h => zAin X hS q h) (zAin X hS) (fun p7 u7 t7 H7 locs7 ht7 hv7 hw7 hB7 hz7 hk7 hS7 => ?_)
        have hZ7 := zBack X ht7 hB7
        subst hw7
        refine zmul hx hb d_11_15_66 ?_
        refine lv_bipush (v := iI 100) hx hb d_11_15_67 (by decide) ?_
        refine lv_aload_n hx hb d_11_15_69 rfl (lv_at hl 1 rfl) ?_
        refine lv_iload_n hx hb d_11_15_70 rfl (lv_at hl 2 rfl) ?_
        refine lv_iconst (v := iI 4) hx hb d_11_15_71 rfl ?_
        obtain ⟨r8, F8, B8, hc8, hf⟩ := gbind hf
        refine va_calli (va_runV (As := [.int (iI l1), .int (iI 4)]) (rest := [.int (iI 100), .int (iI (10000 * r7))]) ⟨hx, hb, hml, hown, hts⟩ (c_Study_tonesAbove (l := l) hc8) (cwV 2 hts (gdV k_9_52 k_9_54 ks_127 k_1_19 k_9_55) rfl rfl rfl (by decide +kernel) ⟨Nat.le_of_ble_eq_true rfl, Nat.le_of_ble_eq_true rfl⟩) (zPV X hZ7 hS7 (ci := 9) g3.1 g3.2 (r := (RX9, TX9, 11)) rfl [.int (iI l1), .int (iI 4)]) rfl rfl hl.1 rfl (lv_room (Nat.le_of_ble_eq_true rfl)) d_11_15_72 ⟨Nat.le_of_ble_eq_true rfl, Nat.le_of_ble_eq_true rfl⟩) hS7 (fun q _ h => zAin X hS7 q h) (zAin X hS7) (fun p8 u8 t8 H8 locs8 ht8 hv8 hw8 hB8 hz8 hk8 hS8 => ?_)
        have hZ8 := zBack X ht8 hB8
        subst hw8
        refine zmul hx hb d_11_15_75 ?_
        refine zadd hx hb d_11_15_76 ?_
        refine lv_aload_n hx hb d_11_15_77 rfl (lv_at hl 1 rfl) ?_
        refine lv_iload_n hx hb d_11_15_78 rfl (lv_at hl 2 rfl) ?_
        refine lv_bipush (v := iI 6) hx hb d_11_15_79 (by decide) ?_
        obtain ⟨r9, F9, B9, hc9, hf⟩ := gbind hf
        refine va_calli (va_runV (As := [.int (iI l1), .int (iI 6)]) (rest := [.int (iI ((10000 * r7) + (100 * r8)))]) ⟨hx, hb, hml, hown, hts⟩ (c_Study_tonesAbove (l := l) hc9) (cwV 2 hts (gdV k_9_52 k_9_54 ks_127 k_1_19 k_9_55) rfl rfl rfl (by decide +kernel) ⟨Nat.le_of_ble_eq_true rfl, Nat.le_of_ble_eq_true rfl⟩) (zPV X hZ8 hS8 (ci := 9) g3.1 g3.2 (r := (RX9, TX9, 11)) rfl [.int (iI l1), .int (iI 6)]) rfl rfl hl.1 rfl (lv_room (Nat.le_of_ble_eq_true rfl)) d_11_15_81 ⟨Nat.le_of_ble_eq_true rfl, Nat.le_of_ble_eq_true rfl⟩) hS8 (fun q _ h => zAin X hS8 q h) (zAin X hS8) (fun p9 u9 t9 H9 locs9 ht9 hv9 hw9 hB9 hz9 hk9 hS9 => ?_)
        have hZ9 := zBack X ht9 hB9
        subst hw9
        refine zadd hx hb d_11_15_84 ?_
        refine lv_istore_n (lv' := [(2, .int (iI (((10000 * r7) + (100 * r8)) + r9))), (0, .ref (ad 9 l0 0)), (1, .int (iI l1))]) hx hb d_11_15_85 rfl hl (by decide) rfl (fun ls hl => ?_)
        refine lv_iconst (v := iI 0) hx hb d_11_15_86 rfl ?_
        refine lv_istore_n (lv' := [(3, .int (iI 0)), (2, .int (iI (((10000 * r7) + (100 * r8)) + r9))), (0, .ref (ad 9 l0 0)), (1, .int (iI l1))]) hx hb d_11_15_87 rfl hl (by decide) rfl (fun ls hl => ?_)
        exact b_Study_chordKind_88 X hf hZ9 hS9 (lv_sub hl [0, 1] rfl)
      · replace hf := gpos hf h6
        refine lv_iconst (v := iI (-1)) hx hb d_11_15_55 rfl ?_
        cases hf
        exact W.iret hx hb hr (fun t ht hW => ⟨⟨_, (), rfl, rfl, by rw [ht]; exact hZ, va_K.moved hW.alike hK⟩, hS.F ht⟩) hS.2.2 d_11_15_56 hlk
    · replace hf := gneg hf h2
      refine lv_iload_n hx hb d_11_15_8 rfl (lv_at hl 0 rfl) ?_
      refine lv_iconst (v := iI 2) hx hb d_11_15_9 rfl ?_
      refine zrm_r hx hb (by decide) d_11_15_10 ?_
      obtain ⟨g10, hf⟩ := gif hf
      refine z0ne (tgt := 18) hx hb g10 d_11_15_11 (by decide) (fun h11 => ?_) (fun h11 => ?_)
      · replace hf := gneg hf h11
        refine lv_iconst (v := iI 0) hx hb d_11_15_18 rfl ?_
        exact b_Study_chordKind_19 X ih hf hZ hS (lv_sub hl [0, 1, 2] rfl)
      · replace hf := gpos hf h11
        refine lv_iconst (v := iI 1) hx hb d_11_15_14 rfl ?_
        refine lv_goto (tgt := 19) hx hb d_11_15_15 (by decide) ?_
        exact b_Study_chordKind_19 X ih hf hZ hS (lv_sub hl [0, 1, 2] rfl)

noncomputable def f_Study_chordKind (K : zK) (l0 : Int) (l1 : Int) (F : zF) (B : zB) : zO := f_Study_chordKind_2 K K.1 0 l0 l1 F B
set_option maxHeartbeats 4000000 in
set_option maxRecDepth 100000 in
theorem c_Study_chordKind {l : Launch} {D : va_G} {ca : Nat → ClassId} {ad : Nat → Int → Nat → Nat} {L : List Nat} {aS vS : Nat → Nat} {sz : Nat} {K : zK}  {l0 : Int} {l1 : Int} {F F9 : zF} {B B9 : zB} {r : Int} (hf : f_Study_chordKind K l0 l1 F B = some (r, F9, B9)) : Met l ({ cls := "StaveHouse$Study", name := "chordKind", desc := "(I)I" } : Jvm.MethodName) (Cond.code ({ cls := "StaveHouse$Study", name := "chordKind", desc := "(I)I" } : Jvm.MethodName) prog_11_method_15_code 4 (Option.some Jvm.ClassFile.FieldType.int) :: wAll) ({ frames := 3, cells := 0, slots := 0, locals := 65 } : Room) (va_Pc [.ref (ad 9 l0 0), .int (iI l1)] (zPre D ca ad lnC K.2 L aS vS F B sz)) (Q_Study_chordKind K D ca ad L r F9 B9 (zA L sz)) 0 0 (zA L sz) := by
  refine zMet (Qc := Q_Study_chordKind K D ca ad L r F9 B9) (lv := [(0, .ref (ad 9 l0 0)), (1, .int (iI l1))]) (by decide) (Nat.le_of_ble_eq_true rfl) rfl (fun A p e s m below meth c ls X hZ hS hl => ?_)
  obtain ⟨hx, hb, hr, hml, hown, hts, hlk, hK, hA, hL, hX⟩ := id X
  replace hf : (f_Study_chordKind_2 K K.1 0 l0 l1 F B) = some (r, F9, B9) := hf
  refine lv_iconst (v := iI 0) hx hb d_11_15_0 rfl ?_
  refine lv_istore_n (lv' := [(2, .int (iI 0)), (0, .ref (ad 9 l0 0)), (1, .int (iI l1))]) hx hb d_11_15_1 rfl hl (by decide) rfl (fun ls hl => ?_)
  exact b_Study_chordKind_2 X hf hZ hS (lv_sub hl [0, 1, 2] rfl)

noncomputable abbrev Q_Event_topStep (K : zK) (D : va_G) (ca : Nat → ClassId) (ad : Nat → Int → Nat → Nat) (L : List Nat) (r : Int) (F : zF) (B : zB) (A : Nat → Prop) : Array Value → State → Outcome → State → Prop := va_Qi (S := Unit) (fun p _ => p = iI r) (fun _ => zPo D ca ad lnC K.2 L F B A) A
noncomputable def f_Event_topStep_20 (K : zK) (s0 : Int) (F : zF) (B : zB) : zO := some (s0, F, B)
set_option maxHeartbeats 4000000 in
set_option maxRecDepth 100000 in
theorem b_Event_topStep_20 {D : va_G} {ca : Nat → ClassId} {ad : Nat → Int → Nat → Nat} {L : List Nat} {aS vS : Nat → Nat} {A : Nat → Prop} {p : Program} {l : Launch} {e : Env} {s : State} {m : MethodId} {args : Array Value} {below : List Frame} {meth : Method} {c : Code} {K : zK} {r : Int} {F9 : zF} {B9 : zB} (X : zX D ca L aS vS A p s m args meth c prog_3_method_9_code 2 (Option.some Jvm.ClassFile.FieldType.int) "StaveHouse$Event") {s0 : Int} {F : zF} {B : zB} {H : Heap} {locs : List Loc} {ls : Array Slot} (hf : f_Event_topStep_20 K s0 F B = some (r, F9, B9)) (hZ : zH D ca ad lnC K.2 L F B A H) (hS : va_S A s.heap H locs) (hl : lv_has ls 2 []) : W p l e ({ frames := 4, cells := 0, slots := 0, locals := 85 } : Room) s m args below meth c H locs 0 0 (MQ below (Q_Event_topStep K D ca ad L r F9 B9 A) args s 0 0 A) (F0 m 20 ls [.int (iI s0)]) := by
  obtain ⟨hx, hb, hr, hml, hown, hts, hlk, hK, hA, hL, hX⟩ := id X
  replace hf : (some (s0, F, B)) = some (r, F9, B9) := hf
  cases hf
  exact W.iret hx hb hr (fun t ht hW => ⟨⟨_, (), rfl, rfl, by rw [ht]; exact hZ, va_K.moved hW.alike hK⟩, hS.F ht⟩) hS.2.2 d_3_9_20 hlk

noncomputable def f_Event_topStep (K : zK) (l0 : Int) (F : zF) (B : zB) : zO := if 0 ≤ l0 ∧ l0 < K.2 1 then zbind (f_Event_top K l0 F B) (fun r2 F2 B2 => if r32 r2 then (if r2 = (-1) then f_Event_topStep_20 K 0 F2 B2 else if 0 ≤ r2 ∧ r2 < 6 then f_Event_topStep_20 K (B2 1 l0 12 r2) F2 B2 else none) else none) else none
set_option maxHeartbeats 4000000 in
set_option maxRecDepth 100000 in
theorem c_Event_topStep {l : Launch} {D : va_G} {ca : Nat → ClassId} {ad : Nat → Int → Nat → Nat} {L : List Nat} {aS vS : Nat → Nat} {sz : Nat} {K : zK}  {l0 : Int} {F F9 : zF} {B B9 : zB} {r : Int} (hf : f_Event_topStep K l0 F B = some (r, F9, B9)) : Met l ({ cls := "StaveHouse$Event", name := "topStep", desc := "()I" } : Jvm.MethodName) (Cond.code ({ cls := "StaveHouse$Event", name := "topStep", desc := "()I" } : Jvm.MethodName) prog_3_method_9_code 2 (Option.some Jvm.ClassFile.FieldType.int) :: wAll) ({ frames := 4, cells := 0, slots := 0, locals := 85 } : Room) (va_Pc [.ref (ad 1 l0 0)] (zPre D ca ad lnC K.2 L aS vS F B sz)) (Q_Event_topStep K D ca ad L r F9 B9 (zA L sz)) 0 0 (zA L sz) := by
  refine zMet (Qc := Q_Event_topStep K D ca ad L r F9 B9) (lv := [(0, .ref (ad 1 l0 0))]) (by decide) (Nat.le_of_ble_eq_true rfl) rfl (fun A p e s m below meth c ls X hZ hS hl => ?_)
  obtain ⟨hx, hb, hr, hml, hown, hts, hlk, hK, hA, hL, hX⟩ := id X
  replace hf : (if 0 ≤ l0 ∧ l0 < K.2 1 then zbind (f_Event_top K l0 F B) (fun r2 F2 B2 => if r32 r2 then (if r2 = (-1) then f_Event_topStep_20 K 0 F2 B2 else if 0 ≤ r2 ∧ r2 < 6 then f_Event_topStep_20 K (B2 1 l0 12 r2) F2 B2 else none) else none) else none) = some (r, F9, B9) := hf
  refine lv_aload_n hx hb d_3_9_0 rfl (lv_at hl 0 rfl) ?_
  obtain ⟨g1, hf⟩ := gif hf
  obtain ⟨r2, F2, B2, hc2, hf⟩ := gbind hf
  refine va_calli (va_runV (As := []) (rest := []) ⟨hx, hb, hml, hown, hts⟩ (c_Event_top (l := l) hc2) (cwV 0 hts (gdV k_9_97 k_6_18 k_6_19 k_1_8 k_6_20) rfl rfl rfl (by decide +kernel) ⟨Nat.le_of_ble_eq_true rfl, Nat.le_of_ble_eq_true rfl⟩) (zPV X hZ hS (ci := 1) g1.1 g1.2 (r := (RX1, TX1, 14)) rfl []) rfl rfl hl.1 rfl (lv_room (Nat.le_of_ble_eq_true rfl)) d_3_9_1 ⟨Nat.le_of_ble_eq_true rfl, Nat.le_of_ble_eq_true rfl⟩) hS (fun q _ h => zAin X hS q h) (zAin X hS) (fun p2 u2 t2 H2 locs2 ht2 hv2 hw2 hB2 hz2 hk2 hS2 => ?_)
  have hZ2 := zBack X ht2 hB2
  subst hw2
  refine lv_istore_n (lv' := [(1, .int (iI r2)), (0, .ref (ad 1 l0 0))]) hx hb d_3_9_4 rfl hl (by decide) rfl (fun ls hl => ?_)
  refine lv_iload_n hx hb d_3_9_5 rfl (lv_at hl 0 rfl) ?_
  refine lv_iconst (v := iI (-1)) hx hb d_3_9_6 rfl ?_
  obtain ⟨g3, hf⟩ := gif hf
  refine zne (tgt := 14) hx hb g3 (by decide) d_3_9_7 (by decide) (fun h4 => ?_) (fun h4 => ?_)
  · replace hf := gneg hf h4
    refine lv_aload_n hx hb d_3_9_14 rfl (lv_at hl 1 rfl) ?_
    refine zget (ci := 1) (C := RX1) (T := TX1) (v := .ref (ad 1 l0 (12 + 1))) (k := 12) hx hb hts inW_1 hown hK hZ2 g1.1 g1.2 rfl (by decide) k_2_57 rfl d_3_9_15 ?_
    refine lv_iload_n hx hb d_3_9_18 rfl (lv_at hl 0 rfl) ?_
    obtain ⟨g5, hf⟩ := gif hf
    refine zald (ci := 1) (k := 12) hx hb hK rfl hZ2 g1.1 g1.2 rfl (Nat.le_of_ble_eq_true rfl) g5.1 g5.2 d_3_9_19 ?_
    exact b_Event_topStep_20 X hf hZ2 hS2 (lv_sub hl [] rfl)
  · replace hf := gpos hf h4
    refine lv_iconst (v := iI 0) hx hb d_3_9_10 rfl ?_
    refine lv_goto (tgt := 20) hx hb d_3_9_11 (by decide) ?_
    exact b_Event_topStep_20 X hf hZ2 hS2 (lv_sub hl [] rfl)

noncomputable abbrev Q_Part_hasShape (K : zK) (D : va_G) (ca : Nat → ClassId) (ad : Nat → Int → Nat → Nat) (L : List Nat) (r : Int) (F : zF) (B : zB) (A : Nat → Prop) : Array Value → State → Outcome → State → Prop := va_Qi (S := Unit) (fun p _ => p = iI r) (fun _ => zPo D ca ad lnC K.2 L F B A) A
noncomputable def f_Part_hasShape_268 (rec81 : Int → Int → Int → Int → Int → Int → Int → Int → Int → Int → Int → Int → Int → zF → zB → zO) (K : zK) (l13 : Int) (l12 : Int) (l11 : Int) (l10 : Int) (l9 : Int) (l8 : Int) (l7 : Int) (l6 : Int) (l0 : Int) (l1 : Int) (l2 : Int) (l3 : Int) (l4 : Int) (F : zF) (B : zB) : zO := rec81 (l13 + 1) l12 l11 l10 l9 l8 l7 l6 l0 l1 l2 l3 l4 F B
set_option maxHeartbeats 4000000 in
set_option maxRecDepth 100000 in
theorem b_Part_hasShape_268 {D : va_G} {ca : Nat → ClassId} {ad : Nat → Int → Nat → Nat} {L : List Nat} {aS vS : Nat → Nat} {A : Nat → Prop} {p : Program} {l : Launch} {e : Env} {s : State} {m : MethodId} {args : Array Value} {below : List Frame} {meth : Method} {c : Code} {K : zK} {r : Int} {F9 : zF} {B9 : zB} (X : zX D ca L aS vS A p s m args meth c prog_6_method_28_code 18 (Option.some Jvm.ClassFile.FieldType.boolean) "StaveHouse$Part") {rec81 : Int → Int → Int → Int → Int → Int → Int → Int → Int → Int → Int → Int → Int → zF → zB → zO} (hrec81 : ∀ {l13 : Int} {l12 : Int} {l11 : Int} {l10 : Int} {l9 : Int} {l8 : Int} {l7 : Int} {l6 : Int} {l0 : Int} {l1 : Int} {l2 : Int} {l3 : Int} {l4 : Int} {F : zF} {B : zB} {H : Heap} {locs : List Loc} {ls : Array Slot}, rec81 l13 l12 l11 l10 l9 l8 l7 l6 l0 l1 l2 l3 l4 F B = some (r, F9, B9) → zH D ca ad lnC K.2 L F B A H → va_S A s.heap H locs → lv_has ls 18 [(13, .int (iI l13)), (12, va_rf (zrf ad 1 l12)), (11, va_rf (zrf ad 1 l11)), (10, va_rf (zrf ad 1 l10)), (9, va_rf (zrf ad 1 l9)), (8, .int (iI l8)), (7, .int (iI l7)), (6, .int (iI l6)), (0, .ref (ad 4 l0 0)), (1, .int (iI l1)), (2, .ref (ad 4 l2 0)), (3, .int (iI l3)), (4, .int (iI l4))] → W p l e ({ frames := 5, cells := 0, slots := 0, locals := 106 } : Room) s m args below meth c H locs 0 0 (MQ below (Q_Part_hasShape K D ca ad L r F9 B9 A) args s 0 0 A) (F0 m 81 ls [])) {l13 : Int} {l12 : Int} {l11 : Int} {l10 : Int} {l9 : Int} {l8 : Int} {l7 : Int} {l6 : Int} {l0 : Int} {l1 : Int} {l2 : Int} {l3 : Int} {l4 : Int} {F : zF} {B : zB} {H : Heap} {locs : List Loc} {ls : Array Slot} (hf : f_Part_hasShape_268 rec81 K l13 l12 l11 l10 l9 l8 l7 l6 l0 l1 l2 l3 l4 F B = some (r, F9, B9)) (hZ : zH D ca ad lnC K.2 L F B A H) (hS : va_S A s.heap H locs) (hl : lv_has ls 18 [(13, .int (iI l13)), (12, va_rf (zrf ad 1 l12)), (11, va_rf (zrf ad 1 l11)), (10, va_rf (zrf ad 1 l10)), (9, va_rf (zrf ad 1 l9)), (8, .int (iI l8)), (7, .int (iI l7)), (6, .int (iI l6)), (0, .ref (ad 4 l0 0)), (1, .int (iI l1)), (2, .ref (ad 4 l2 0)), (3, .int (iI l3)), (4, .int (iI l4))]) : W p l e ({ frames := 5, cells := 0, slots := 0, locals := 106 } : Room) s m args below meth c H locs 0 0 (MQ below (Q_Part_hasShape K D ca ad L r F9 B9 A) args s 0 0 A) (F0 m 268 ls []) := by
  obtain ⟨hx, hb, hr, hml, hown, hts, hlk, hK, hA, hL, hX⟩ := id X
  replace hf : (rec81 (l13 + 1) l12 l11 l10 l9 l8 l7 l6 l0 l1 l2 l3 l4 F B) = some (r, F9, B9) := hf
  refine lv_iinc (v := iI (l13 + 1)) (lv' := [(13, .int (iI (l13 + 1))), (12, va_rf (zrf ad 1 l12)), (11, va_rf (zrf ad 1 l11)), (10, va_rf (zrf ad 1 l10)), (9, va_rf (zrf ad 1 l9)), (8, .int (iI l8)), (7, .int (iI l7)), (6, .int (iI l6)), (0, .ref (ad 4 l0 0)), (1, .int (iI l1)), (2, .ref (ad 4 l2 0)), (3, .int (iI l3)), (4, .int (iI l4))]) hx hb d_6_28_268 hl (k := 0) rfl (iI_add _ 1) (by decide) (by cases zrf ad 1 l12 <;> rfl) (fun ls hl => ?_)
  refine lv_goto (tgt := 81) hx hb d_6_28_271 (by decide) ?_
  exact hrec81 hf hZ hS (lv_sub hl [0, 1, 2, 3, 4, 5, 6, 7, 8, 9, 10, 11, 12] rfl)

noncomputable def f_Part_hasShape_263 (rec81 : Int → Int → Int → Int → Int → Int → Int → Int → Int → Int → Int → Int → Int → zF → zB → zO) (K : zK) (l13 : Int) (l12 : Int) (l11 : Int) (l10 : Int) (l9 : Int) (l8 : Int) (l7 : Int) (l6 : Int) (l0 : Int) (l1 : Int) (l2 : Int) (l3 : Int) (l4 : Int) (s0 : Int) (s1 : Int) (F : zF) (B : zB) : zO := if r32 s0 then if r32 s1 then (if s0 = s1 then f_Part_hasShape_268 rec81 K l13 l12 l11 l10 l9 l8 l7 l6 l0 l1 l2 l3 l4 F B else some (0, F, B)) else none else none
set_option maxHeartbeats 4000000 in
set_option maxRecDepth 100000 in
theorem b_Part_hasShape_263 {D : va_G} {ca : Nat → ClassId} {ad : Nat → Int → Nat → Nat} {L : List Nat} {aS vS : Nat → Nat} {A : Nat → Prop} {p : Program} {l : Launch} {e : Env} {s : State} {m : MethodId} {args : Array Value} {below : List Frame} {meth : Method} {c : Code} {K : zK} {r : Int} {F9 : zF} {B9 : zB} (X : zX D ca L aS vS A p s m args meth c prog_6_method_28_code 18 (Option.some Jvm.ClassFile.FieldType.boolean) "StaveHouse$Part") {rec81 : Int → Int → Int → Int → Int → Int → Int → Int → Int → Int → Int → Int → Int → zF → zB → zO} (hrec81 : ∀ {l13 : Int} {l12 : Int} {l11 : Int} {l10 : Int} {l9 : Int} {l8 : Int} {l7 : Int} {l6 : Int} {l0 : Int} {l1 : Int} {l2 : Int} {l3 : Int} {l4 : Int} {F : zF} {B : zB} {H : Heap} {locs : List Loc} {ls : Array Slot}, rec81 l13 l12 l11 l10 l9 l8 l7 l6 l0 l1 l2 l3 l4 F B = some (r, F9, B9) → zH D ca ad lnC K.2 L F B A H → va_S A s.heap H locs → lv_has ls 18 [(13, .int (iI l13)), (12, va_rf (zrf ad 1 l12)), (11, va_rf (zrf ad 1 l11)), (10, va_rf (zrf ad 1 l10)), (9, va_rf (zrf ad 1 l9)), (8, .int (iI l8)), (7, .int (iI l7)), (6, .int (iI l6)), (0, .ref (ad 4 l0 0)), (1, .int (iI l1)), (2, .ref (ad 4 l2 0)), (3, .int (iI l3)), (4, .int (iI l4))] → W p l e ({ frames := 5, cells := 0, slots := 0, locals := 106 } : Room) s m args below meth c H locs 0 0 (MQ below (Q_Part_hasShape K D ca ad L r F9 B9 A) args s 0 0 A) (F0 m 81 ls [])) {l13 : Int} {l12 : Int} {l11 : Int} {l10 : Int} {l9 : Int} {l8 : Int} {l7 : Int} {l6 : Int} {l0 : Int} {l1 : Int} {l2 : Int} {l3 : Int} {l4 : Int} {s0 : Int} {s1 : Int} {F : zF} {B : zB} {H : Heap} {locs : List Loc} {ls : Array Slot} (hf : f_Part_hasShape_263 rec81 K l13 l12 l11 l10 l9 l8 l7 l6 l0 l1 l2 l3 l4 s0 s1 F B = some (r, F9, B9)) (hZ : zH D ca ad lnC K.2 L F B A H) (hS : va_S A s.heap H locs) (hl : lv_has ls 18 [(13, .int (iI l13)), (12, va_rf (zrf ad 1 l12)), (11, va_rf (zrf ad 1 l11)), (10, va_rf (zrf ad 1 l10)), (9, va_rf (zrf ad 1 l9)), (8, .int (iI l8)), (7, .int (iI l7)), (6, .int (iI l6)), (0, .ref (ad 4 l0 0)), (1, .int (iI l1)), (2, .ref (ad 4 l2 0)), (3, .int (iI l3)), (4, .int (iI l4))]) : W p l e ({ frames := 5, cells := 0, slots := 0, locals := 106 } : Room) s m args below meth c H locs 0 0 (MQ below (Q_Part_hasShape K D ca ad L r F9 B9 A) args s 0 0 A) (F0 m 263 ls [.int (iI s1), .int (iI s0)]) := by
  obtain ⟨hx, hb, hr, hml, hown, hts, hlk, hK, hA, hL, hX⟩ := id X
  replace hf : (if r32 s0 then if r32 s1 then (if s0 = s1 then f_Part_hasShape_268 rec81 K l13 l12 l11 l10 l9 l8 l7 l6 l0 l1 l2 l3 l4 F B else some (0, F, B)) else none else none) = some (r, F9, B9) := hf
  obtain ⟨g66, hf⟩ := gif hf
  obtain ⟨g67, hf⟩ := gif hf
  refine zeq (tgt := 268) hx hb g66 g67 d_6_28_263 (by decide) (fun h68 => ?_) (fun h68 => ?_)
  · replace hf := gpos hf h68
    exact b_Part_hasShape_268 X hrec81 hf hZ hS (lv_sub hl [0, 1, 2, 3, 4, 5, 6, 7, 8, 9, 10, 11, 12] rfl)
  · replace hf := gneg hf h68
    refine lv_iconst (v := iI 0) hx hb d_6_28_266 rfl ?_
    cases hf
    exact W.zret hx hb hr rfl (fun t ht hW => ⟨⟨_, (), rfl, rfl, by rw [ht]; exact hZ, va_K.moved hW.alike hK⟩, hS.F ht⟩) hS.2.2 d_6_28_267 hlk

noncomputable def f_Part_hasShape_208 (rec81 : Int → Int → Int → Int → Int → Int → Int → Int → Int → Int → Int → Int → Int → zF → zB → zO) (K : zK) (l15 : Int) (l14 : Int) (l13 : Int) (l12 : Int) (l11 : Int) (l10 : Int) (l9 : Int) (l8 : Int) (l7 : Int) (l6 : Int) (l0 : Int) (l1 : Int) (l2 : Int) (l3 : Int) (l4 : Int) (F : zF) (B : zB) : zO := (if l12 < 0 then f_Part_hasShape_268 rec81 K l13 l12 l11 l10 l9 l8 l7 l6 l0 l1 l2 l3 l4 F B else (if l11 < 0 then f_Part_hasShape_268 rec81 K l13 l12 l11 l10 l9 l8 l7 l6 l0 l1 l2 l3 l4 F B else if 0 ≤ l14 ∧ l14 < K.2 1 then zbind (f_Event_isRest K l14 F B) (fun r53 F53 B53 => if r32 r53 then (if r53 = 0 then zbind (f_Event_topStep K l14 F53 B53) (fun r56 F56 B56 => if 0 ≤ l11 ∧ l11 < K.2 1 then zbind (f_Event_topStep K l11 F56 B56) (fun r58 F58 B58 => if 0 ≤ l15 ∧ l15 < K.2 1 then zbind (f_Event_topStep K l15 F58 B58) (fun r60 F60 B60 => if 0 ≤ l12 ∧ l12 < K.2 1 then zbind (f_Event_topStep K l12 F60 B60) (fun r62 F62 B62 => if r32 l6 then (if l6 = 0 then f_Part_hasShape_263 rec81 K l13 l12 l11 l10 l9 l8 l7 l6 l0 l1 l2 l3 l4 (r60 - r62) (r56 - r58) F62 B62 else f_Part_hasShape_263 rec81 K l13 l12 l11 l10 l9 l8 l7 l6 l0 l1 l2 l3 l4 (r60 - r62) (-(r56 - r58)) F62 B62) else none) else none) else none) else none) else f_Part_hasShape_268 rec81 K l13 l12 l11 l10 l9 l8 l7 l6 l0 l1 l2 l3 l4 F53 B53) else none) else none))
set_option maxHeartbeats 4000000 in
set_option maxRecDepth 100000 in
theorem b_Part_hasShape_208 {D : va_G} {ca : Nat → ClassId} {ad : Nat → Int → Nat → Nat} {L : List Nat} {aS vS : Nat → Nat} {A : Nat → Prop} {p : Program} {l : Launch} {e : Env} {s : State} {m : MethodId} {args : Array Value} {below : List Frame} {meth : Method} {c : Code} {K : zK} {r : Int} {F9 : zF} {B9 : zB} (X : zX D ca L aS vS A p s m args meth c prog_6_method_28_code 18 (Option.some Jvm.ClassFile.FieldType.boolean) "StaveHouse$Part") {rec81 : Int → Int → Int → Int → Int → Int → Int → Int → Int → Int → Int → Int → Int → zF → zB → zO} (hrec81 : ∀ {l13 : Int} {l12 : Int} {l11 : Int} {l10 : Int} {l9 : Int} {l8 : Int} {l7 : Int} {l6 : Int} {l0 : Int} {l1 : Int} {l2 : Int} {l3 : Int} {l4 : Int} {F : zF} {B : zB} {H : Heap} {locs : List Loc} {ls : Array Slot}, rec81 l13 l12 l11 l10 l9 l8 l7 l6 l0 l1 l2 l3 l4 F B = some (r, F9, B9) → zH D ca ad lnC K.2 L F B A H → va_S A s.heap H locs → lv_has ls 18 [(13, .int (iI l13)), (12, va_rf (zrf ad 1 l12)), (11, va_rf (zrf ad 1 l11)), (10, va_rf (zrf ad 1 l10)), (9, va_rf (zrf ad 1 l9)), (8, .int (iI l8)), (7, .int (iI l7)), (6, .int (iI l6)), (0, .ref (ad 4 l0 0)), (1, .int (iI l1)), (2, .ref (ad 4 l2 0)), (3, .int (iI l3)), (4, .int (iI l4))] → W p l e ({ frames := 5, cells := 0, slots := 0, locals := 106 } : Room) s m args below meth c H locs 0 0 (MQ below (Q_Part_hasShape K D ca ad L r F9 B9 A) args s 0 0 A) (F0 m 81 ls [])) {l15 : Int} {l14 : Int} {l13 : Int} {l12 : Int} {l11 : Int} {l10 : Int} {l9 : Int} {l8 : Int} {l7 : Int} {l6 : Int} {l0 : Int} {l1 : Int} {l2 : Int} {l3 : Int} {l4 : Int} {F : zF} {B : zB} {H : Heap} {locs : List Loc} {ls : Array Slot} (hf : f_Part_hasShape_208 rec81 K l15 l14 l13 l12 l11 l10 l9 l8 l7 l6 l0 l1 l2 l3 l4 F B = some (r, F9, B9)) (hZ : zH D ca ad lnC K.2 L F B A H) (hS : va_S A s.heap H locs) (hl : lv_has ls 18 [(15, va_rf (zrf ad 1 l15)), (14, va_rf (zrf ad 1 l14)), (13, .int (iI l13)), (12, va_rf (zrf ad 1 l12)), (11, va_rf (zrf ad 1 l11)), (10, va_rf (zrf ad 1 l10)), (9, va_rf (zrf ad 1 l9)), (8, .int (iI l8)), (7, .int (iI l7)), (6, .int (iI l6)), (0, .ref (ad 4 l0 0)), (1, .int (iI l1)), (2, .ref (ad 4 l2 0)), (3, .int (iI l3)), (4, .int (iI l4))]) : W p l e ({ frames := 5, cells := 0, slots := 0, locals := 106 } : Room) s m args below meth c H locs 0 0 (MQ below (Q_Part_hasShape K D ca ad L r F9 B9 A) args s 0 0 A) (F0 m 208 ls []) := by
  obtain ⟨hx, hb, hr, hml, hown, hts, hlk, hK, hA, hL, hX⟩ := id X
  replace hf : ((if l12 < 0 then f_Part_hasShape_268 rec81 K l13 l12 l11 l10 l9 l8 l7 l6 l0 l1 l2 l3 l4 F B else (if l11 < 0 then f_Part_hasShape_268 rec81 K l13 l12 l11 l10 l9 l8 l7 l6 l0 l1 l2 l3 l4 F B else if 0 ≤ l14 ∧ l14 < K.2 1 then zbind (f_Event_isRest K l14 F B) (fun r53 F53 B53 => if r32 r53 then (if r53 = 0 then zbind (f_Event_topStep K l14 F53 B53) (fun r56 F56 B56 => if 0 ≤ l11 ∧ l11 < K.2 1 then zbind (f_Event_topStep K l11 F56 B56) (fun r58 F58 B58 => if 0 ≤ l15 ∧ l15 < K.2 1 then zbind (f_Event_topStep K l15 F58 B58) (fun r60 F60 B60 => if 0 ≤ l12 ∧ l12 < K.2 1 then zbind (f_Event_topStep K l12 F60 B60) (fun r62 F62 B62 => if r32 l6 then (if l6 = 0 then f_Part_hasShape_263 rec81 K l13 l12 l11 l10 l9 l8 l7 l6 l0 l1 l2 l3 l4 (r60 - r62) (r56 - r58) F62 B62 else f_Part_hasShape_263 rec81 K l13 l12 l11 l10 l9 l8 l7 l6 l0 l1 l2 l3 l4 (r60 - r62) (-(r56 - r58)) F62 B62) else none) else none) else none) else none) else f_Part_hasShape_268 rec81 K l13 l12 l11 l10 l9 l8 l7 l6 l0 l1 l2 l3 l4 F53 B53) else none) else none))) = some (r, F9, B9) := hf
  refine zaload hx hb d_6_28_208 (lv_at hl 3 rfl) ?_
  refine zifnull (tgt := 268) hx hb d_6_28_210 (by decide) (fun h50 => ?_) (fun h50 => ?_)
  · replace hf := gpos hf h50
    exact b_Part_hasShape_268 X hrec81 hf hZ hS (lv_sub hl [2, 3, 4, 5, 6, 7, 8, 9, 10, 11, 12, 13, 14] rfl)
  · replace hf := gneg hf h50
    refine zaload hx hb d_6_28_213 (lv_at hl 4 rfl) ?_
    refine zifnull (tgt := 268) hx hb d_6_28_215 (by decide) (fun h51 => ?_) (fun h51 => ?_)
    · replace hf := gpos hf h51
      exact b_Part_hasShape_268 X hrec81 hf hZ hS (lv_sub hl [2, 3, 4, 5, 6, 7, 8, 9, 10, 11, 12, 13, 14] rfl)
    · replace hf := gneg hf h51
      refine zaload hx hb d_6_28_218 (lv_at hl 1 rfl) ?_
      obtain ⟨g52, hf⟩ := gif hf
      refine W.eq (g2 := F0 m 220 ls [.ref (ad 1 l14 0)]) (by rw [zrf_pos (ad := ad) (t := 1) g52.1]; try rfl) ?_
      obtain ⟨r53, F53, B53, hc53, hf⟩ := gbind hf
      refine va_calli (va_runV (As := []) (rest := []) ⟨hx, hb, hml, hown, hts⟩ (c_Event_isRest (l := l) hc53) (cwV 0 hts (gdV k_5_78 k_5_79 k_5_80 k_1_8 k_5_81) rfl rfl rfl (by decide +kernel) ⟨Nat.le_of_ble_eq_true rfl, Nat.le_of_ble_eq_true rfl⟩) (zPV X hZ hS (ci := 1) g52.1 g52.2 (r := (RX1, TX1, 14)) rfl []) rfl rfl hl.1 rfl (lv_room (Nat.le_of_ble_eq_true rfl)) d_6_28_220 ⟨Nat.le_of_ble_eq_true rfl, Nat.le_of_ble_eq_true rfl⟩) hS (fun q _ h => zAin X hS q h) (zAin X hS) (fun p53 u53 t53 H53 locs53 ht53 hv53 hw53 hB53 hz53 hk53 hS53 => ?_)
      have hZ53 := zBack X ht53 hB53
      subst hw53
      obtain ⟨g54, hf⟩ := gif hf
      refine z0ne (tgt := 268) hx hb g54 d_6_28_223 (by decide) (fun h55 => ?_) (fun h55 => ?_)
      · replace hf := gneg hf h55
        exact b_Part_hasShape_268 X hrec81 hf hZ53 hS53 (lv_sub hl [2, 3, 4, 5, 6, 7, 8, 9, 10, 11, 12, 13, 14] rfl)
      · replace hf := gpos hf h55
        refine zaload hx hb d_6_28_226 (lv_at hl 1 rfl) ?_
        refine W.eq (g2 := F0 m 228 ls [.ref (ad 1 l14 0)]) (by rw [zrf_pos (ad := ad) (t := 1) g52.1]; try rfl) ?_
        obtain ⟨r56, F56, B56, hc56, hf⟩ := gbind hf
        refine va_calli (va_runV (As := []) (rest := []) ⟨hx, hb, hml, hown, hts⟩ (c_Event_topStep (l := l) hc56) (cwV 0 hts (gdV k_9_93 k_9_94 k_9_95 k_1_8 k_9_96) rfl rfl rfl (by decide +kernel) ⟨Nat.le_of_ble_eq_true rfl, Nat.le_of_ble_eq_true rfl⟩) (zPV X hZ53 hS53 (ci := 1) g52.1 g52.2 (r := (RX1, TX1, 14)) rfl []) rfl rfl hl.1 rfl (lv_room (Nat.le_of_ble_eq_true rfl)) d_6_28_228 ⟨Nat.le_of_ble_eq_true rfl, Nat.le_of_ble_eq_true rfl⟩) hS53 (fun q _ h => zAin X hS53 q h) (zAin X hS53) (fun p56 u56 t56 H56 locs56 ht56 hv56 hw56 hB56 hz56 hk56 hS56 => ?_)
        have hZ56 := zBack X ht56 hB56
        subst hw56
        refine zaload hx hb d_6_28_231 (lv_at hl 4 rfl) ?_
        obtain ⟨g57, hf⟩ := gif hf
        refine W.eq (g2 := F0 m 233 ls [.ref (ad 1 l11 0), .int (iI r56)]) (by rw [zrf_pos (ad := ad) (t := 1) g57.1]; try rfl) ?_
        obtain ⟨r58, F58, B58, hc58, hf⟩ := gbind hf
        refine va_calli (va_runV (As := []) (rest := [.int (iI r56)]) ⟨hx, hb, hml, hown, hts⟩ (c_Event_topStep (l := l) hc58) (cwV 0 hts (gdV k_9_93 k_9_94 k_9_95 k_1_8 k_9_96) rfl rfl rfl (by decide +kernel) ⟨Nat.le_of_ble_eq_true rfl, Nat.le_of_ble_eq_true rfl⟩) (zPV X hZ56 hS56 (ci := 1) g57.1 g57.2 (r := (RX1, TX1, 14)) rfl []) rfl rfl hl.1 rfl (lv_room (Nat.le_of_ble_eq_true rfl)) d_6_28_233 ⟨Nat.le_of_ble_eq_true rfl, Nat.le_of_ble_eq_true rfl⟩) hS56 (fun q _ h => zAin X hS56 q h) (zAin X hS56) (fun p58 u58 t58 H58 locs58 ht58 hv58 hw58 hB58 hz58 hk58 hS58 => ?_)
        have hZ58 := zBack X ht58 hB58
        subst hw58
        refine zsub hx hb d_6_28_236 ?_
        refine lv_istore (lv' := [(17, .int (iI (r56 - r58))), (15, va_rf (zrf ad 1 l15)), (14, va_rf (zrf ad 1 l14)), (13, .int (iI l13)), (12, va_rf (zrf ad 1 l12)), (11, va_rf (zrf ad 1 l11)), (10, va_rf (zrf ad 1 l10)), (9, va_rf (zrf ad 1 l9)), (8, .int (iI l8)), (7, .int (iI l7)), (6, .int (iI l6)), (0, .ref (ad 4 l0 0)), (1, .int (iI l1)), (2, .ref (ad 4 l2 0)), (3, .int (iI l3)), (4, .int (iI l4))]) hx hb d_6_28_237 hl (by decide) rfl (fun ls hl => ?_)
        refine zaload hx hb d_6_28_239 (lv_at hl 1 rfl) ?_
        obtain ⟨g59, hf⟩ := gif hf
        refine W.eq (g2 := F0 m 241 ls [.ref (ad 1 l15 0)]) (by rw [zrf_pos (ad := ad) (t := 1) g59.1]; try rfl) ?_
        obtain ⟨r60, F60, B60, hc60, hf⟩ := gbind hf
        refine va_calli (va_runV (As := []) (rest := []) ⟨hx, hb, hml, hown, hts⟩ (c_Event_topStep (l := l) hc60) (cwV 0 hts (gdV k_9_93 k_9_94 k_9_95 k_1_8 k_9_96) rfl rfl rfl (by decide +kernel) ⟨Nat.le_of_ble_eq_true rfl, Nat.le_of_ble_eq_true rfl⟩) (zPV X hZ58 hS58 (ci := 1) g59.1 g59.2 (r := (RX1, TX1, 14)) rfl []) rfl rfl hl.1 rfl (lv_room (Nat.le_of_ble_eq_true rfl)) d_6_28_241 ⟨Nat.le_of_ble_eq_true rfl, Nat.le_of_ble_eq_true rfl⟩) hS58 (fun q _ h => zAin X hS58 q h) (zAin X hS58) (fun p60 u60 t60 H60 locs60 ht60 hv60 hw60 hB60 hz60 hk60 hS60 => ?_)
        have hZ60 := zBack X ht60 hB60
        subst hw60
        refine zaload hx hb d_6_28_244 (lv_at hl 4 rfl) ?_
        obtain ⟨g61, hf⟩ := gif hf
        refine W.eq (g2 := F0 m 246 ls [.ref (ad 1 l12 0), .int (iI r60)]) (by rw [zrf_pos (ad := ad) (t := 1) g61.1]; try rfl) ?_
        obtain ⟨r62, F62, B62, hc62, hf⟩ := gbind hf
        refine va_calli (va_runV (As := []) (rest := [.int (iI r60)]) ⟨hx, hb, hml, hown, hts⟩ (c_Event_topStep (l := l) hc62) (cwV 0 hts (gdV k_9_93 k_9_94 k_9_95 k_1_8 k_9_96) rfl rfl rfl (by decide +kernel) ⟨Nat.le_of_ble_eq_true rfl, Nat.le_of_ble_eq_true rfl⟩) (zPV X hZ60 hS60 (ci := 1) g61.1 g61.2 (r := (RX1, TX1, 14)) rfl []) rfl rfl hl.1 rfl (lv_room (Nat.le_of_ble_eq_true rfl)) d_6_28_246 ⟨Nat.le_of_ble_eq_true rfl, Nat.le_of_ble_eq_true rfl⟩) hS60 (fun q _ h => zAin X hS60 q h) (zAin X hS60) (fun p62 u62 t62 H62 locs62 ht62 hv62 hw62 hB62 hz62 hk62 hS62 => ?_)
        have hZ62 := zBack X ht62 hB62
        subst hw62
        refine zsub hx hb d_6_28_249 ?_
        refine lv_iload hx hb d_6_28_250 (lv_at hl 10 rfl) ?_
        obtain ⟨g63, hf⟩ := gif hf
        refine z0eq (tgt := 261) hx hb g63 d_6_28_252 (by decide) (fun h65 => ?_) (fun h65 => ?_)
        · replace hf := gpos hf h65
          refine lv_iload hx hb d_6_28_261 (lv_at hl 0 rfl) ?_
          exact b_Part_hasShape_263 X hrec81 hf hZ62 hS62 (lv_sub hl [3, 4, 5, 6, 7, 8, 9, 10, 11, 12, 13, 14, 15] rfl)
        · replace hf := gneg hf h65
          refine lv_iload hx hb d_6_28_255 (lv_at hl 0 rfl) ?_
          refine zneg hx hb d_6_28_257 ?_
          refine lv_goto (tgt := 263) hx hb d_6_28_258 (by decide) ?_
          exact b_Part_hasShape_263 X hrec81 hf hZ62 hS62 (lv_sub hl [3, 4, 5, 6, 7, 8, 9, 10, 11, 12, 13, 14, 15] rfl)

noncomputable def f_Part_hasShape_185 (K : zK)  (F : zF) (B : zB) : zO := some (0, F, B)
set_option maxHeartbeats 4000000 in
set_option maxRecDepth 100000 in
theorem b_Part_hasShape_185 {D : va_G} {ca : Nat → ClassId} {ad : Nat → Int → Nat → Nat} {L : List Nat} {aS vS : Nat → Nat} {A : Nat → Prop} {p : Program} {l : Launch} {e : Env} {s : State} {m : MethodId} {args : Array Value} {below : List Frame} {meth : Method} {c : Code} {K : zK} {r : Int} {F9 : zF} {B9 : zB} (X : zX D ca L aS vS A p s m args meth c prog_6_method_28_code 18 (Option.some Jvm.ClassFile.FieldType.boolean) "StaveHouse$Part")  {F : zF} {B : zB} {H : Heap} {locs : List Loc} {ls : Array Slot} (hf : f_Part_hasShape_185 K  F B = some (r, F9, B9)) (hZ : zH D ca ad lnC K.2 L F B A H) (hS : va_S A s.heap H locs) (hl : lv_has ls 18 []) : W p l e ({ frames := 5, cells := 0, slots := 0, locals := 106 } : Room) s m args below meth c H locs 0 0 (MQ below (Q_Part_hasShape K D ca ad L r F9 B9 A) args s 0 0 A) (F0 m 185 ls []) := by
  obtain ⟨hx, hb, hr, hml, hown, hts, hlk, hK, hA, hL, hX⟩ := id X
  replace hf : (some (0, F, B)) = some (r, F9, B9) := hf
  refine lv_iconst (v := iI 0) hx hb d_6_28_185 rfl ?_
  cases hf
  exact W.zret hx hb hr rfl (fun t ht hW => ⟨⟨_, (), rfl, rfl, by rw [ht]; exact hZ, va_K.moved hW.alike hK⟩, hS.F ht⟩) hS.2.2 d_6_28_186 hlk

noncomputable def f_Part_hasShape_165 (rec81 : Int → Int → Int → Int → Int → Int → Int → Int → Int → Int → Int → Int → Int → zF → zB → zO) (K : zK) (l15 : Int) (l14 : Int) (l13 : Int) (l12 : Int) (l11 : Int) (l10 : Int) (l9 : Int) (l8 : Int) (l7 : Int) (l6 : Int) (l0 : Int) (l1 : Int) (l2 : Int) (l3 : Int) (l4 : Int) (s0 : Int) (F : zF) (B : zB) : zO := if r32 s0 then (if s0 = 0 then f_Part_hasShape_185 K F B else if 0 ≤ l14 ∧ l14 < K.2 1 then zbind (f_Event_isRest K l14 F B) (fun r40 F40 B40 => if 0 ≤ l15 ∧ l15 < K.2 1 then zbind (f_Event_isRest K l15 F40 B40) (fun r42 F42 B42 => if r32 r40 then if r32 r42 then (if r40 = r42 then (if l12 < 0 then zbind (f_Event_isRest K l14 F42 B42) (fun r47 F47 B47 => if r32 r47 then (if r47 = 0 then f_Part_hasShape_208 rec81 K l15 l14 l13 l15 l14 l10 l9 l8 l7 l6 l0 l1 l2 l3 l4 F47 B47 else f_Part_hasShape_208 rec81 K l15 l14 l13 l12 l11 l10 l9 l8 l7 l6 l0 l1 l2 l3 l4 F47 B47) else none) else f_Part_hasShape_208 rec81 K l15 l14 l13 l12 l11 l10 l9 l8 l7 l6 l0 l1 l2 l3 l4 F42 B42) else f_Part_hasShape_185 K F42 B42) else none else none) else none) else none) else none
set_option maxHeartbeats 4000000 in
set_option maxRecDepth 100000 in
theorem b_Part_hasShape_165 {D : va_G} {ca : Nat → ClassId} {ad : Nat → Int → Nat → Nat} {L : List Nat} {aS vS : Nat → Nat} {A : Nat → Prop} {p : Program} {l : Launch} {e : Env} {s : State} {m : MethodId} {args : Array Value} {below : List Frame} {meth : Method} {c : Code} {K : zK} {r : Int} {F9 : zF} {B9 : zB} (X : zX D ca L aS vS A p s m args meth c prog_6_method_28_code 18 (Option.some Jvm.ClassFile.FieldType.boolean) "StaveHouse$Part") {rec81 : Int → Int → Int → Int → Int → Int → Int → Int → Int → Int → Int → Int → Int → zF → zB → zO} (hrec81 : ∀ {l13 : Int} {l12 : Int} {l11 : Int} {l10 : Int} {l9 : Int} {l8 : Int} {l7 : Int} {l6 : Int} {l0 : Int} {l1 : Int} {l2 : Int} {l3 : Int} {l4 : Int} {F : zF} {B : zB} {H : Heap} {locs : List Loc} {ls : Array Slot}, rec81 l13 l12 l11 l10 l9 l8 l7 l6 l0 l1 l2 l3 l4 F B = some (r, F9, B9) → zH D ca ad lnC K.2 L F B A H → va_S A s.heap H locs → lv_has ls 18 [(13, .int (iI l13)), (12, va_rf (zrf ad 1 l12)), (11, va_rf (zrf ad 1 l11)), (10, va_rf (zrf ad 1 l10)), (9, va_rf (zrf ad 1 l9)), (8, .int (iI l8)), (7, .int (iI l7)), (6, .int (iI l6)), (0, .ref (ad 4 l0 0)), (1, .int (iI l1)), (2, .ref (ad 4 l2 0)), (3, .int (iI l3)), (4, .int (iI l4))] → W p l e ({ frames := 5, cells := 0, slots := 0, locals := 106 } : Room) s m args below meth c H locs 0 0 (MQ below (Q_Part_hasShape K D ca ad L r F9 B9 A) args s 0 0 A) (F0 m 81 ls [])) {l15 : Int} {l14 : Int} {l13 : Int} {l12 : Int} {l11 : Int} {l10 : Int} {l9 : Int} {l8 : Int} {l7 : Int} {l6 : Int} {l0 : Int} {l1 : Int} {l2 : Int} {l3 : Int} {l4 : Int} {s0 : Int} {F : zF} {B : zB} {H : Heap} {locs : List Loc} {ls : Array Slot} (hf : f_Part_hasShape_165 rec81 K l15 l14 l13 l12 l11 l10 l9 l8 l7 l6 l0 l1 l2 l3 l4 s0 F B = some (r, F9, B9)) (hZ : zH D ca ad lnC K.2 L F B A H) (hS : va_S A s.heap H locs) (hl : lv_has ls 18 [(15, va_rf (zrf ad 1 l15)), (14, va_rf (zrf ad 1 l14)), (13, .int (iI l13)), (12, va_rf (zrf ad 1 l12)), (11, va_rf (zrf ad 1 l11)), (10, va_rf (zrf ad 1 l10)), (9, va_rf (zrf ad 1 l9)), (8, .int (iI l8)), (7, .int (iI l7)), (6, .int (iI l6)), (0, .ref (ad 4 l0 0)), (1, .int (iI l1)), (2, .ref (ad 4 l2 0)), (3, .int (iI l3)), (4, .int (iI l4))]) : W p l e ({ frames := 5, cells := 0, slots := 0, locals := 106 } : Room) s m args below meth c H locs 0 0 (MQ below (Q_Part_hasShape K D ca ad L r F9 B9 A) args s 0 0 A) (F0 m 165 ls [.int (iI s0)]) := by
  obtain ⟨hx, hb, hr, hml, hown, hts, hlk, hK, hA, hL, hX⟩ := id X
  replace hf : (if r32 s0 then (if s0 = 0 then f_Part_hasShape_185 K F B else if 0 ≤ l14 ∧ l14 < K.2 1 then zbind (f_Event_isRest K l14 F B) (fun r40 F40 B40 => if 0 ≤ l15 ∧ l15 < K.2 1 then zbind (f_Event_isRest K l15 F40 B40) (fun r42 F42 B42 => if r32 r40 then if r32 r42 then (if r40 = r42 then (if l12 < 0 then zbind (f_Event_isRest K l14 F42 B42) (fun r47 F47 B47 => if r32 r47 then (if r47 = 0 then f_Part_hasShape_208 rec81 K l15 l14 l13 l15 l14 l10 l9 l8 l7 l6 l0 l1 l2 l3 l4 F47 B47 else f_Part_hasShape_208 rec81 K l15 l14 l13 l12 l11 l10 l9 l8 l7 l6 l0 l1 l2 l3 l4 F47 B47) else none) else f_Part_hasShape_208 rec81 K l15 l14 l13 l12 l11 l10 l9 l8 l7 l6 l0 l1 l2 l3 l4 F42 B42) else f_Part_hasShape_185 K F42 B42) else none else none) else none) else none) else none) = some (r, F9, B9) := hf
  refine lv_istore (lv' := [(16, .int (iI s0)), (15, va_rf (zrf ad 1 l15)), (14, va_rf (zrf ad 1 l14)), (13, .int (iI l13)), (12, va_rf (zrf ad 1 l12)), (11, va_rf (zrf ad 1 l11)), (10, va_rf (zrf ad 1 l10)), (9, va_rf (zrf ad 1 l9)), (8, .int (iI l8)), (7, .int (iI l7)), (6, .int (iI l6)), (0, .ref (ad 4 l0 0)), (1, .int (iI l1)), (2, .ref (ad 4 l2 0)), (3, .int (iI l3)), (4, .int (iI l4))]) hx hb d_6_28_165 hl (by decide) (by cases zrf ad 1 l15 <;> rfl) (fun ls hl => ?_)
  refine lv_iload hx hb d_6_28_167 (lv_at hl 0 rfl) ?_
  obtain ⟨g37, hf⟩ := gif hf
  refine z0eq (tgt := 185) hx hb g37 d_6_28_169 (by decide) (fun h38 => ?_) (fun h38 => ?_)
  · replace hf := gpos hf h38
    exact b_Part_hasShape_185 X hf hZ hS (lv_sub hl [] rfl)
  · replace hf := gneg hf h38
    refine zaload hx hb d_6_28_172 (lv_at hl 2 rfl) ?_
    obtain ⟨g39, hf⟩ := gif hf
    refine W.eq (g2 := F0 m 174 ls [.ref (ad 1 l14 0)]) (by rw [zrf_pos (ad := ad) (t := 1) g39.1]; try rfl) ?_
    obtain ⟨r40, F40, B40, hc40, hf⟩ := gbind hf
    refine va_calli (va_runV (As := []) (rest := []) ⟨hx, hb, hml, hown, hts⟩ (c_Event_isRest (l := l) hc40) (cwV 0 hts (gdV k_5_78 k_5_79 k_5_80 k_1_8 k_5_81) rfl rfl rfl (by decide +kernel) ⟨Nat.le_of_ble_eq_true rfl, Nat.le_of_ble_eq_true rfl⟩) (zPV X hZ hS (ci := 1) g39.1 g39.2 (r := (RX1, TX1, 14)) rfl []) rfl rfl hl.1 rfl (lv_room (Nat.le_of_ble_eq_true rfl)) d_6_28_174 ⟨Nat.le_of_ble_eq_true rfl, Nat.le_of_ble_eq_true rfl⟩) hS (fun q _ h => zAin X hS q h) (zAin X hS) (fun p40 u40 t40 H40 locs40 ht40 hv40 hw40 hB40 hz40 hk40 hS40 => ?_)
    have hZ40 := zBack X ht40 hB40
    subst hw40
    refine zaload hx hb d_6_28_177 (lv_at hl 1 rfl) ?_
    obtain ⟨g41, hf⟩ := gif hf
    refine W.eq (g2 := F0 m 179 ls [.ref (ad 1 l15 0), .int (iI r40)]) (by rw [zrf_pos (ad := ad) (t := 1) g41.1]; try rfl) ?_
    obtain ⟨r42, F42, B42, hc42, hf⟩ := gbind hf
    refine va_calli (va_runV (As := []) (rest := [.int (iI r40)]) ⟨hx, hb, hml, hown, hts⟩ (c_Event_isRest (l := l) hc42) (cwV 0 hts (gdV k_5_78 k_5_79 k_5_80 k_1_8 k_5_81) rfl rfl rfl (by decide +kernel) ⟨Nat.le_of_ble_eq_true rfl, Nat.le_of_ble_eq_true rfl⟩) (zPV X hZ40 hS40 (ci := 1) g41.1 g41.2 (r := (RX1, TX1, 14)) rfl []) rfl rfl hl.1 rfl (lv_room (Nat.le_of_ble_eq_true rfl)) d_6_28_179 ⟨Nat.le_of_ble_eq_true rfl, Nat.le_of_ble_eq_true rfl⟩) hS40 (fun q _ h => zAin X hS40 q h) (zAin X hS40) (fun p42 u42 t42 H42 locs42 ht42 hv42 hw42 hB42 hz42 hk42 hS42 => ?_)
    have hZ42 := zBack X ht42 hB42
    subst hw42
    obtain ⟨g43, hf⟩ := gif hf
    obtain ⟨g44, hf⟩ := gif hf
    refine zeq (tgt := 187) hx hb g43 g44 d_6_28_182 (by decide) (fun h45 => ?_) (fun h45 => ?_)
    · replace hf := gpos hf h45
      refine zaload hx hb d_6_28_187 (lv_at hl 4 rfl) ?_
      refine zifnonnull (tgt := 208) hx hb d_6_28_189 (by decide) (fun h46 => ?_) (fun h46 => ?_)
      · replace hf := gneg hf h46
        exact b_Part_hasShape_208 X hrec81 hf hZ42 hS42 (lv_sub hl [1, 2, 3, 4, 5, 6, 7, 8, 9, 10, 11, 12, 13, 14, 15] rfl)
      · replace hf := gpos hf h46
        refine zaload hx hb d_6_28_192 (lv_at hl 2 rfl) ?_
        refine W.eq (g2 := F0 m 194 ls [.ref (ad 1 l14 0)]) (by rw [zrf_pos (ad := ad) (t := 1) g39.1]; try rfl) ?_
        obtain ⟨r47, F47, B47, hc47, hf⟩ := gbind hf
        refine va_calli (va_runV (As := []) (rest := []) ⟨hx, hb, hml, hown, hts⟩ (c_Event_isRest (l := l) hc47) (cwV 0 hts (gdV k_5_78 k_5_79 k_5_80 k_1_8 k_5_81) rfl rfl rfl (by decide +kernel) ⟨Nat.le_of_ble_eq_true rfl, Nat.le_of_ble_eq_true rfl⟩) (zPV X hZ42 hS42 (ci := 1) g39.1 g39.2 (r := (RX1, TX1, 14)) rfl []) rfl rfl hl.1 rfl (lv_room (Nat.le_of_ble_eq_true rfl)) d_6_28_194 ⟨Nat.le_of_ble_eq_true rfl, Nat.le_of_ble_eq_true rfl⟩) hS42 (fun q _ h => zAin X hS42 q h) (zAin X hS42) (fun p47 u47 t47 H47 locs47 ht47 hv47 hw47 hB47 hz47 hk47 hS47 => ?_)
        have hZ47 := zBack X ht47 hB47
        subst hw47
        obtain ⟨g48, hf⟩ := gif hf
        refine z0ne (tgt := 208) hx hb g48 d_6_28_197 (by decide) (fun h49 => ?_) (fun h49 => ?_)
        · replace hf := gneg hf h49
          exact b_Part_hasShape_208 X hrec81 hf hZ47 hS47 (lv_sub hl [1, 2, 3, 4, 5, 6, 7, 8, 9, 10, 11, 12, 13, 14, 15] rfl)
        · replace hf := gpos hf h49
          refine zaload hx hb d_6_28_200 (lv_at hl 2 rfl) ?_
          refine zastore (lv' := [(16, .int (iI s0)), (15, va_rf (zrf ad 1 l15)), (14, va_rf (zrf ad 1 l14)), (13, .int (iI l13)), (12, va_rf (zrf ad 1 l12)), (10, va_rf (zrf ad 1 l10)), (9, va_rf (zrf ad 1 l9)), (8, .int (iI l8)), (7, .int (iI l7)), (6, .int (iI l6)), (0, .ref (ad 4 l0 0)), (1, .int (iI l1)), (2, .ref (ad 4 l2 0)), (3, .int (iI l3)), (4, .int (iI l4))]) hx hb d_6_28_202 hl (by decide) (fun v hv => by cases zrf ad 1 l10 <;> rfl) (fun ls hl => ?_)
          refine zaload hx hb d_6_28_204 (lv_at hl 2 rfl) ?_
          refine zastore (lv' := [(11, va_rf (zrf ad 1 l14)), (16, .int (iI s0)), (15, va_rf (zrf ad 1 l15)), (14, va_rf (zrf ad 1 l14)), (13, .int (iI l13)), (10, va_rf (zrf ad 1 l10)), (9, va_rf (zrf ad 1 l9)), (8, .int (iI l8)), (7, .int (iI l7)), (6, .int (iI l6)), (0, .ref (ad 4 l0 0)), (1, .int (iI l1)), (2, .ref (ad 4 l2 0)), (3, .int (iI l3)), (4, .int (iI l4))]) hx hb d_6_28_206 hl (by decide) (fun v hv => by cases zrf ad 1 l14 <;> rfl) (fun ls hl => ?_)
          exact b_Part_hasShape_208 X hrec81 hf hZ47 hS47 (lv_sub hl [3, 4, 5, 0, 1, 6, 7, 8, 9, 10, 11, 12, 13, 14, 15] rfl)
    · replace hf := gneg hf h45
      exact b_Part_hasShape_185 X hf hZ42 hS42 (lv_sub hl [] rfl)

noncomputable def f_Part_hasShape_124 (rec81 : Int → Int → Int → Int → Int → Int → Int → Int → Int → Int → Int → Int → Int → zF → zB → zO) (K : zK) (l14 : Int) (l13 : Int) (l12 : Int) (l11 : Int) (l10 : Int) (l9 : Int) (l8 : Int) (l7 : Int) (l6 : Int) (l0 : Int) (l1 : Int) (l2 : Int) (l3 : Int) (l4 : Int) (s0 : Int) (s1 : Int) (F : zF) (B : zB) : zO := if 0 ≤ s0 ∧ s0 < K.2 4 then if 0 ≤ s1 ∧ s1 < 200 then if r32 l8 then (if l8 = 0 then if 0 ≤ l14 ∧ l14 < K.2 1 then if 0 ≤ (B 4 s0 5 s1) ∧ (B 4 s0 5 s1) < K.2 1 then if r64 (F 1 l14 1) then if r64 (F 1 (B 4 s0 5 s1) 1) then (if (zcmp (F 1 l14 1) (F 1 (B 4 s0 5 s1) 1)) = 0 then f_Part_hasShape_165 rec81 K (B 4 s0 5 s1) l14 l13 l12 l11 l10 l9 l8 l7 l6 l0 l1 l2 l3 l4 1 F B else f_Part_hasShape_165 rec81 K (B 4 s0 5 s1) l14 l13 l12 l11 l10 l9 l8 l7 l6 l0 l1 l2 l3 l4 0 F B) else none else none else none else none else if 0 ≤ l9 ∧ l9 < K.2 1 then if 0 ≤ l10 ∧ l10 < K.2 1 then if 0 ≤ l14 ∧ l14 < K.2 1 then if 0 ≤ (B 4 s0 5 s1) ∧ (B 4 s0 5 s1) < K.2 1 then zbind (f_Part_sameFraction K l9 l10 l14 (B 4 s0 5 s1) F B) (fun r36 F36 B36 => f_Part_hasShape_165 rec81 K (B 4 s0 5 s1) l14 l13 l12 l11 l10 l9 l8 l7 l6 l0 l1 l2 l3 l4 r36 F36 B36) else none else none else none else none) else none else none else none
