set_option maxHeartbeats 4000000 in
set_option maxRecDepth 100000 in
theorem b_Scribe_writeNote_191 {D : va_G} {ca : Nat → ClassId} {ad : Nat → Int → Nat → Nat} {L : List Nat} {aS vS : Nat → Nat} {A : Nat → Prop} {p : Program} {l : Launch} {e : Env} {s : State} {m : MethodId} {args : Array Value} {below : List Frame} {meth : Method} {c : Code} {K : zK} {r : Int} {F9 : zF} {B9 : zB} (X : zX D ca L aS vS A p s m args meth c prog_9_method_13_code 4 (Option.none : Option Jvm.ClassFile.FieldType) "StaveHouse$Scribe") {s0 : Int} {s1 : Nat} {F : zF} {B : zB} {H : Heap} {locs : List Loc} {ls : Array Slot} (hf : f_Scribe_writeNote_191 K s0 s1 F B = some (r, F9, B9)) (hZ : zH D ca ad lnC K.2 L F B A H) (hS : va_S A s.heap H locs) (hl : lv_has ls 4 []) : W p l e ({ frames := 5, cells := 0, slots := 0, locals := 108 } : Room) s m args below meth c H locs 0 0 (MQ below (Q_Scribe_writeNote K D ca ad L r F9 B9 A) args s 0 0 A) (F0 m 191 ls [.ref (aS s1), va_rf (zrf ad 0 s0)]) := by
  obtain ⟨hx, hb, hr, hml, hown, hts, hlk, hK, hA, hL, hX⟩ := id X
  replace hf : (if 0 ≤ s0 ∧ s0 < K.2 0 then zbind (f_ByteRow_putText K s0 s1 F B) (fun r48 F48 B48 => some (0, F48, B48)) else none) = some (r, F9, B9) := hf
  obtain ⟨g47, hf⟩ := gif hf
  refine W.eq (g2 := F0 m 191 ls [.ref (aS s1), .ref (ad 0 s0 0)]) (by rw [zrf_pos (ad := ad) (t := 0) g47.1]; try rfl) ?_
  obtain ⟨r48, F48, B48, hc48, hf⟩ := gbind hf
  refine va_callv (va_runV (As := [.ref (aS s1)]) (rest := []) ⟨hx, hb, hml, hown, hts⟩ (c_ByteRow_putText (l := l) hc48) (cwV 1 hts (gdV k_8_172 k_7_129 k_7_130 k_1_2 k_7_131) rfl rfl rfl (by decide +kernel) ⟨Nat.le_of_ble_eq_true rfl, Nat.le_of_ble_eq_true rfl⟩) (zPV X hZ hS (ci := 0) g47.1 g47.2 (r := (RX0, TX0, 3)) rfl [.ref (aS s1)]) rfl rfl hl.1 rfl (lv_room (Nat.le_of_ble_eq_true rfl)) d_9_13_191 ⟨Nat.le_of_ble_eq_true rfl, Nat.le_of_ble_eq_true rfl⟩) hS (fun q _ h => zAin X hS q h) (zAin X hS) (fun u48 t48 H48 locs48 ht48 hv48 hw48 hB48 hz48 hk48 hS48 => ?_)
  have hZ48 := zBack X ht48 hB48
  cases hf
  exact W.vret hx hb hr (fun t ht hW => ⟨⟨(), rfl, trivial, by rw [ht]; exact hZ48, va_K.moved hW.alike hK⟩, hS48.F ht⟩) hS48.2.2 d_9_13_194 hlk

noncomputable def f_Scribe_writeNote_189 (K : zK) (s0 : Int) (F : zF) (B : zB) : zO := f_Scribe_writeNote_191 K s0 16 F B
set_option maxHeartbeats 4000000 in
set_option maxRecDepth 100000 in
theorem b_Scribe_writeNote_189 {D : va_G} {ca : Nat → ClassId} {ad : Nat → Int → Nat → Nat} {L : List Nat} {aS vS : Nat → Nat} {A : Nat → Prop} {p : Program} {l : Launch} {e : Env} {s : State} {m : MethodId} {args : Array Value} {below : List Frame} {meth : Method} {c : Code} {K : zK} {r : Int} {F9 : zF} {B9 : zB} (X : zX D ca L aS vS A p s m args meth c prog_9_method_13_code 4 (Option.none : Option Jvm.ClassFile.FieldType) "StaveHouse$Scribe") {s0 : Int} {F : zF} {B : zB} {H : Heap} {locs : List Loc} {ls : Array Slot} (hf : f_Scribe_writeNote_189 K s0 F B = some (r, F9, B9)) (hZ : zH D ca ad lnC K.2 L F B A H) (hS : va_S A s.heap H locs) (hl : lv_has ls 4 []) : W p l e ({ frames := 5, cells := 0, slots := 0, locals := 108 } : Room) s m args below meth c H locs 0 0 (MQ below (Q_Scribe_writeNote K D ca ad L r F9 B9 A) args s 0 0 A) (F0 m 189 ls [va_rf (zrf ad 0 s0)]) := by
  obtain ⟨hx, hb, hr, hml, hown, hts, hlk, hK, hA, hL, hX⟩ := id X
  replace hf : (f_Scribe_writeNote_191 K s0 16 F B) = some (r, F9, B9) := hf
  refine va_ldcS hx hb hown (hX.2.2.2.2.1 16 _ rfl).1 d_9_13_189 ?_
  exact b_Scribe_writeNote_191 X hf hZ hS (lv_sub hl [] rfl)

noncomputable def f_Scribe_writeNote_142 (K : zK) : Nat → Int → Int → Int → Int → zF → zB → zO
  | 0, _, _, _, _, _, _ => none
  | n + 1, l3, l0, l1, l2, F, B => if r32 l3 then if r32 (2 - (zrm l1 3)) then (if (2 - (zrm l1 3)) ≤ l3 then if 0 ≤ l0 ∧ l0 < K.2 7 then if r32 l2 then (if l2 = 0 then f_Scribe_writeNote_189 K (F 7 l0 1) F B else if 0 ≤ (F 7 l0 1) ∧ (F 7 l0 1) < K.2 0 then if 0 ≤ (F 7 l0 4) ∧ (F 7 l0 4) < K.2 1 then zbind (f_Event_isRest K (F 7 l0 4) F B) (fun r41 F41 B41 => if r32 r41 then (if r41 = 0 then f_Scribe_writeNote_191 K (F 7 l0 1) 19 F41 B41 else f_Scribe_writeNote_189 K (F 7 l0 1) F41 B41) else none) else none else none) else none else none else if 0 ≤ l0 ∧ l0 < K.2 7 then if 0 ≤ (F 7 l0 1) ∧ (F 7 l0 1) < K.2 0 then zbind (f_ByteRow_put K (F 7 l0 1) 46 F B) (fun r46 F46 B46 => f_Scribe_writeNote_142 K n (l3 + 1) l0 l1 l2 F46 B46) else none else none) else none else none
set_option maxHeartbeats 4000000 in
set_option maxRecDepth 100000 in
theorem b_Scribe_writeNote_142 {D : va_G} {ca : Nat → ClassId} {ad : Nat → Int → Nat → Nat} {L : List Nat} {aS vS : Nat → Nat} {A : Nat → Prop} {p : Program} {l : Launch} {e : Env} {s : State} {m : MethodId} {args : Array Value} {below : List Frame} {meth : Method} {c : Code} {K : zK} {r : Int} {F9 : zF} {B9 : zB} (X : zX D ca L aS vS A p s m args meth c prog_9_method_13_code 4 (Option.none : Option Jvm.ClassFile.FieldType) "StaveHouse$Scribe") : ∀ {n : Nat} {l3 : Int} {l0 : Int} {l1 : Int} {l2 : Int} {F : zF} {B : zB} {H : Heap} {locs : List Loc} {ls : Array Slot}, f_Scribe_writeNote_142 K n l3 l0 l1 l2 F B = some (r, F9, B9) → zH D ca ad lnC K.2 L F B A H → va_S A s.heap H locs → lv_has ls 4 [(3, .int (iI l3)), (0, .ref (ad 7 l0 0)), (1, .int (iI l1)), (2, .int (iI l2))] → W p l e ({ frames := 5, cells := 0, slots := 0, locals := 108 } : Room) s m args below meth c H locs 0 0 (MQ below (Q_Scribe_writeNote K D ca ad L r F9 B9 A) args s 0 0 A) (F0 m 142 ls []) := by
  obtain ⟨hx, hb, hr, hml, hown, hts, hlk, hK, hA, hL, hX⟩ := id X
  intro n
  induction n with
  | zero =>
    intros
    rename_i hf _ _ _
    cases hf
  | succ n ih =>
    intro l3 l0 l1 l2 F B H locs ls hf hZ hS hl
    replace hf : (if r32 l3 then if r32 (2 - (zrm l1 3)) then (if (2 - (zrm l1 3)) ≤ l3 then if 0 ≤ l0 ∧ l0 < K.2 7 then if r32 l2 then (if l2 = 0 then f_Scribe_writeNote_189 K (F 7 l0 1) F B else if 0 ≤ (F 7 l0 1) ∧ (F 7 l0 1) < K.2 0 then if 0 ≤ (F 7 l0 4) ∧ (F 7 l0 4) < K.2 1 then zbind (f_Event_isRest K (F 7 l0 4) F B) (fun r41 F41 B41 => if r32 r41 then (if r41 = 0 then f_Scribe_writeNote_191 K (F 7 l0 1) 19 F41 B41 else f_Scribe_writeNote_189 K (F 7 l0 1) F41 B41) else none) else none else none) else none else none else if 0 ≤ l0 ∧ l0 < K.2 7 then if 0 ≤ (F 7 l0 1) ∧ (F 7 l0 1) < K.2 0 then zbind (f_ByteRow_put K (F 7 l0 1) 46 F B) (fun r46 F46 B46 => f_Scribe_writeNote_142 K n (l3 + 1) l0 l1 l2 F46 B46) else none else none) else none else none) = some (r, F9, B9) := hf
    refine lv_iload_n hx hb d_9_13_142 rfl (lv_at hl 0 rfl) ?_
    refine lv_iconst (v := iI 2) hx hb d_9_13_143 rfl ?_
    refine lv_iload_n hx hb d_9_13_144 rfl (lv_at hl 2 rfl) ?_
    refine lv_iconst (v := iI 3) hx hb d_9_13_145 rfl ?_
    refine zrm_r hx hb (by decide) d_9_13_146 ?_
    refine zsub hx hb d_9_13_147 ?_
    obtain ⟨g33, hf⟩ := gif hf
    obtain ⟨g34, hf⟩ := gif hf
    refine zge (tgt := 166) hx hb g33 g34 d_9_13_148 (by decide) (fun h35 => ?_) (fun h35 => ?_)
    · replace hf := gpos hf h35
      refine lv_aload_n hx hb d_9_13_166 rfl (lv_at hl 1 rfl) ?_
      obtain ⟨g36, hf⟩ := gif hf
      refine zget (ci := 7) (C := RX7) (T := TX7) (v := va_rf (zrf ad 0 (F 7 l0 1))) (k := 1) hx hb hts inW_7 hown hK hZ g36.1 g36.2 rfl (by decide) k_2_99 rfl d_9_13_167 ?_
      refine lv_iload_n hx hb d_9_13_170 rfl (lv_at hl 3 rfl) ?_
      obtain ⟨g37, hf⟩ := gif hf
      refine z0eq (tgt := 189) hx hb g37 d_9_13_171 (by decide) (fun h38 => ?_) (fun h38 => ?_)
      · replace hf := gpos hf h38
        exact b_Scribe_writeNote_189 X hf hZ hS (lv_sub hl [] rfl)
      · replace hf := gneg hf h38
        refine lv_aload_n hx hb d_9_13_174 rfl (lv_at hl 1 rfl) ?_
        refine zget (ci := 7) (C := RX7) (T := TX7) (v := va_rf (zrf ad 1 (F 7 l0 4))) (k := 4) hx hb hts inW_7 hown hK hZ g36.1 g36.2 rfl (by decide) k_2_102 rfl d_9_13_175 ?_
        obtain ⟨g39, hf⟩ := gif hf
        refine W.eq (g2 := F0 m 178 ls [va_rf (zrf ad 1 (F 7 l0 4)), .ref (ad 0 (F 7 l0 1) 0)]) (by rw [zrf_pos (ad := ad) (t := 0) g39.1]; try rfl) ?_
        obtain ⟨g40, hf⟩ := gif hf
        refine W.eq (g2 := F0 m 178 ls [.ref (ad 1 (F 7 l0 4) 0), .ref (ad 0 (F 7 l0 1) 0)]) (by rw [zrf_pos (ad := ad) (t := 1) g40.1]; try rfl) ?_
        obtain ⟨r41, F41, B41, hc41, hf⟩ := gbind hf
        refine va_calli (va_runV (As := []) (rest := [.ref (ad 0 (F 7 l0 1) 0)]) ⟨hx, hb, hml, hown, hts⟩ (c_Event_isRest (l := l) hc41) (cwV 0 hts (gdV k_8_207 k_5_79 k_5_80 k_1_8 k_5_81) rfl rfl rfl (by decide +kernel) ⟨Nat.le_of_ble_eq_true rfl, Nat.le_of_ble_eq_true rfl⟩) (zPV X hZ hS (ci := 1) g40.1 g40.2 (r := (RX1, TX1, 14)) rfl []) rfl rfl hl.1 rfl (lv_room (Nat.le_of_ble_eq_true rfl)) d_9_13_178 ⟨Nat.le_of_ble_eq_true rfl, Nat.le_of_ble_eq_true rfl⟩) hS (fun q _ h => zAin X hS q h) (zAin X hS) (fun p41 u41 t41 H41 locs41 ht41 hv41 hw41 hB41 hz41 hk41 hS41 => ?_)
        have hZ41 := zBack X ht41 hB41
        subst hw41
        obtain ⟨g42, hf⟩ := gif hf
        refine z0ne (tgt := 189) hx hb g42 d_9_13_181 (by decide) (fun h43 => ?_) (fun h43 => ?_)
        · replace hf := gneg hf h43
          refine W.eq (g2 := F0 m 189 ls [va_rf (zrf ad 0 (F 7 l0 1))]) (by rw [zrf_pos (ad := ad) (t := 0) g39.1]; try rfl) ?_
          exact b_Scribe_writeNote_189 X hf hZ41 hS41 (lv_sub hl [] rfl)
        · replace hf := gpos hf h43
          refine va_ldcS hx hb hown (hX.2.2.2.2.1 19 _ rfl).1 d_9_13_184 ?_
          refine lv_goto (tgt := 191) hx hb d_9_13_186 (by decide) ?_
          refine W.eq (g2 := F0 m 191 ls [.ref (aS 19), va_rf (zrf ad 0 (F 7 l0 1))]) (by rw [zrf_pos (ad := ad) (t := 0) g39.1]; try rfl) ?_
          exact b_Scribe_writeNote_191 X hf hZ41 hS41 (lv_sub hl [] rfl)
    · replace hf := gneg hf h35
      refine lv_aload_n hx hb d_9_13_151 rfl (lv_at hl 1 rfl) ?_
      obtain ⟨g44, hf⟩ := gif hf
      refine zget (ci := 7) (C := RX7) (T := TX7) (v := va_rf (zrf ad 0 (F 7 l0 1))) (k := 1) hx hb hts inW_7 hown hK hZ g44.1 g44.2 rfl (by decide) k_2_99 rfl d_9_13_152 ?_
      refine lv_bipush (v := iI 46) hx hb d_9_13_155 (by decide) ?_
      obtain ⟨g45, hf⟩ := gif hf
      refine W.eq (g2 := F0 m 157 ls [.int (iI 46), .ref (ad 0 (F 7 l0 1) 0)]) (by rw [zrf_pos (ad := ad) (t := 0) g45.1]; try rfl) ?_
      obtain ⟨r46, F46, B46, hc46, hf⟩ := gbind hf
      refine va_callv (va_runV (As := [.int (iI 46)]) (rest := []) ⟨hx, hb, hml, hown, hts⟩ (c_ByteRow_put (l := l) hc46) (cwV 1 hts (gdV k_8_180 k_2_171 k_2_172 k_1_2 k_2_173) rfl rfl rfl (by decide +kernel) ⟨Nat.le_of_ble_eq_true rfl, Nat.le_of_ble_eq_true rfl⟩) (zPV X hZ hS (ci := 0) g45.1 g45.2 (r := (RX0, TX0, 3)) rfl [.int (iI 46)]) rfl rfl hl.1 rfl (lv_room (Nat.le_of_ble_eq_true rfl)) d_9_13_157 ⟨Nat.le_of_ble_eq_true rfl, Nat.le_of_ble_eq_true rfl⟩) hS (fun q _ h => zAin X hS q h) (zAin X hS) (fun u46 t46 H46 locs46 ht46 hv46 hw46 hB46 hz46 hk46 hS46 => ?_)
      have hZ46 := zBack X ht46 hB46
      refine lv_iinc (v := iI (l3 + 1)) (lv' := [(3, .int (iI (l3 + 1))), (0, .ref (ad 7 l0 0)), (1, .int (iI l1)), (2, .int (iI l2))]) hx hb d_9_13_160 hl (k := 0) rfl (iI_add _ 1) (by decide) rfl (fun ls hl => ?_)
      refine lv_goto (tgt := 142) hx hb d_9_13_163 (by decide) ?_
      exact ih hf hZ46 hS46 (lv_sub hl [0, 1, 2, 3] rfl)

noncomputable def f_Scribe_writeNote_125 (K : zK) (l0 : Int) (l1 : Int) (l2 : Int) (s0 : Int) (s1 : Nat) (F : zF) (B : zB) : zO := if 0 ≤ s0 ∧ s0 < K.2 0 then zbind (f_ByteRow_putText K s0 s1 F B) (fun r28 F28 B28 => if 0 ≤ l0 ∧ l0 < K.2 7 then if 0 ≤ (F28 7 l0 1) ∧ (F28 7 l0 1) < K.2 0 then zbind (f_ByteRow_putDecimal K (F28 7 l0 1) (zshl 1 (zdv l1 3)) F28 B28) (fun r31 F31 B31 => f_Scribe_writeNote_142 K K.1 0 l0 l1 l2 F31 B31) else none else none) else none
set_option maxHeartbeats 4000000 in
set_option maxRecDepth 100000 in
theorem b_Scribe_writeNote_125 {D : va_G} {ca : Nat → ClassId} {ad : Nat → Int → Nat → Nat} {L : List Nat} {aS vS : Nat → Nat} {A : Nat → Prop} {p : Program} {l : Launch} {e : Env} {s : State} {m : MethodId} {args : Array Value} {below : List Frame} {meth : Method} {c : Code} {K : zK} {r : Int} {F9 : zF} {B9 : zB} (X : zX D ca L aS vS A p s m args meth c prog_9_method_13_code 4 (Option.none : Option Jvm.ClassFile.FieldType) "StaveHouse$Scribe") {l0 : Int} {l1 : Int} {l2 : Int} {s0 : Int} {s1 : Nat} {F : zF} {B : zB} {H : Heap} {locs : List Loc} {ls : Array Slot} (hf : f_Scribe_writeNote_125 K l0 l1 l2 s0 s1 F B = some (r, F9, B9)) (hZ : zH D ca ad lnC K.2 L F B A H) (hS : va_S A s.heap H locs) (hl : lv_has ls 4 [(0, .ref (ad 7 l0 0)), (1, .int (iI l1)), (2, .int (iI l2))]) : W p l e ({ frames := 5, cells := 0, slots := 0, locals := 108 } : Room) s m args below meth c H locs 0 0 (MQ below (Q_Scribe_writeNote K D ca ad L r F9 B9 A) args s 0 0 A) (F0 m 125 ls [.ref (aS s1), va_rf (zrf ad 0 s0)]) := by
  obtain ⟨hx, hb, hr, hml, hown, hts, hlk, hK, hA, hL, hX⟩ := id X
  replace hf : (if 0 ≤ s0 ∧ s0 < K.2 0 then zbind (f_ByteRow_putText K s0 s1 F B) (fun r28 F28 B28 => if 0 ≤ l0 ∧ l0 < K.2 7 then if 0 ≤ (F28 7 l0 1) ∧ (F28 7 l0 1) < K.2 0 then zbind (f_ByteRow_putDecimal K (F28 7 l0 1) (zshl 1 (zdv l1 3)) F28 B28) (fun r31 F31 B31 => f_Scribe_writeNote_142 K K.1 0 l0 l1 l2 F31 B31) else none else none) else none) = some (r, F9, B9) := hf
  obtain ⟨g27, hf⟩ := gif hf
  refine W.eq (g2 := F0 m 125 ls [.ref (aS s1), .ref (ad 0 s0 0)]) (by rw [zrf_pos (ad := ad) (t := 0) g27.1]; try rfl) ?_
  obtain ⟨r28, F28, B28, hc28, hf⟩ := gbind hf
  refine va_callv (va_runV (As := [.ref (aS s1)]) (rest := []) ⟨hx, hb, hml, hown, hts⟩ (c_ByteRow_putText (l := l) hc28) (cwV 1 hts (gdV k_8_172 k_7_129 k_7_130 k_1_2 k_7_131) rfl rfl rfl (by decide +kernel) ⟨Nat.le_of_ble_eq_true rfl, Nat.le_of_ble_eq_true rfl⟩) (zPV X hZ hS (ci := 0) g27.1 g27.2 (r := (RX0, TX0, 3)) rfl [.ref (aS s1)]) rfl rfl hl.1 rfl (lv_room (Nat.le_of_ble_eq_true rfl)) d_9_13_125 ⟨Nat.le_of_ble_eq_true rfl, Nat.le_of_ble_eq_true rfl⟩) hS (fun q _ h => zAin X hS q h) (zAin X hS) (fun u28 t28 H28 locs28 ht28 hv28 hw28 hB28 hz28 hk28 hS28 => ?_)
  have hZ28 := zBack X ht28 hB28
  refine lv_aload_n hx hb d_9_13_128 rfl (lv_at hl 0 rfl) ?_
  obtain ⟨g29, hf⟩ := gif hf
  refine zget (ci := 7) (C := RX7) (T := TX7) (v := va_rf (zrf ad 0 (F28 7 l0 1))) (k := 1) hx hb hts inW_7 hown hK hZ28 g29.1 g29.2 rfl (by decide) k_2_99 rfl d_9_13_129 ?_
  refine lv_iconst (v := iI 1) hx hb d_9_13_132 rfl ?_
  refine lv_iload_n hx hb d_9_13_133 rfl (lv_at hl 1 rfl) ?_
  refine lv_iconst (v := iI 3) hx hb d_9_13_134 rfl ?_
  refine zdv_r hx hb (by decide) d_9_13_135 ?_
  refine zshl_r hx hb d_9_13_136 ?_
  obtain ⟨g30, hf⟩ := gif hf
  refine W.eq (g2 := F0 m 137 ls [.int (iI (zshl 1 (zdv l1 3))), .ref (ad 0 (F28 7 l0 1) 0)]) (by rw [zrf_pos (ad := ad) (t := 0) g30.1]; try rfl) ?_
  obtain ⟨r31, F31, B31, hc31, hf⟩ := gbind hf
  refine va_callv (va_runV (As := [.int (iI (zshl 1 (zdv l1 3)))]) (rest := []) ⟨hx, hb, hml, hown, hts⟩ (c_ByteRow_putDecimal (l := l) hc31) (cwV 1 hts (gdV k_8_174 k_8_175 k_8_176 k_1_2 k_8_177) rfl rfl rfl (by decide +kernel) ⟨Nat.le_of_ble_eq_true rfl, Nat.le_of_ble_eq_true rfl⟩) (zPV X hZ28 hS28 (ci := 0) g30.1 g30.2 (r := (RX0, TX0, 3)) rfl [.int (iI (zshl 1 (zdv l1 3)))]) rfl rfl hl.1 rfl (lv_room (Nat.le_of_ble_eq_true rfl)) d_9_13_137 ⟨Nat.le_of_ble_eq_true rfl, Nat.le_of_ble_eq_true rfl⟩) hS28 (fun q _ h => zAin X hS28 q h) (zAin X hS28) (fun u31 t31 H31 locs31 ht31 hv31 hw31 hB31 hz31 hk31 hS31 => ?_)
  have hZ31 := zBack X ht31 hB31
  refine lv_iconst (v := iI 0) hx hb d_9_13_140 rfl ?_
  refine lv_istore_n (lv' := [(3, .int (iI 0)), (0, .ref (ad 7 l0 0)), (1, .int (iI l1)), (2, .int (iI l2))]) hx hb d_9_13_141 rfl hl (by decide) rfl (fun ls hl => ?_)
  exact b_Scribe_writeNote_142 X hf hZ31 hS31 (lv_sub hl [0, 1, 2, 3] rfl)

noncomputable def f_Scribe_writeNote_72 (rec46 : Int → Int → Int → Int → zF → zB → zO) (K : zK) (l3 : Int) (l0 : Int) (l1 : Int) (l2 : Int) (s0 : Int) (s1 : Nat) (F : zF) (B : zB) : zO := if 0 ≤ s0 ∧ s0 < K.2 0 then zbind (f_ByteRow_putText K s0 s1 F B) (fun r22 F22 B22 => if 0 ≤ l0 ∧ l0 < K.2 7 then if 0 ≤ (F22 7 l0 4) ∧ (F22 7 l0 4) < K.2 1 then if 0 ≤ l3 ∧ l3 < 6 then zbind (f_Scribe_writePitch K l0 (B22 1 (F22 7 l0 4) 12 l3) (B22 1 (F22 7 l0 4) 13 l3) F22 B22) (fun r26 F26 B26 => rec46 (l3 + 1) l0 l1 l2 F26 B26) else none else none else none) else none
set_option maxHeartbeats 4000000 in
set_option maxRecDepth 100000 in
theorem b_Scribe_writeNote_72 {D : va_G} {ca : Nat → ClassId} {ad : Nat → Int → Nat → Nat} {L : List Nat} {aS vS : Nat → Nat} {A : Nat → Prop} {p : Program} {l : Launch} {e : Env} {s : State} {m : MethodId} {args : Array Value} {below : List Frame} {meth : Method} {c : Code} {K : zK} {r : Int} {F9 : zF} {B9 : zB} (X : zX D ca L aS vS A p s m args meth c prog_9_method_13_code 4 (Option.none : Option Jvm.ClassFile.FieldType) "StaveHouse$Scribe") {rec46 : Int → Int → Int → Int → zF → zB → zO} (hrec46 : ∀ {l3 : Int} {l0 : Int} {l1 : Int} {l2 : Int} {F : zF} {B : zB} {H : Heap} {locs : List Loc} {ls : Array Slot}, rec46 l3 l0 l1 l2 F B = some (r, F9, B9) → zH D ca ad lnC K.2 L F B A H → va_S A s.heap H locs → lv_has ls 4 [(3, .int (iI l3)), (0, .ref (ad 7 l0 0)), (1, .int (iI l1)), (2, .int (iI l2))] → W p l e ({ frames := 5, cells := 0, slots := 0, locals := 108 } : Room) s m args below meth c H locs 0 0 (MQ below (Q_Scribe_writeNote K D ca ad L r F9 B9 A) args s 0 0 A) (F0 m 46 ls [])) {l3 : Int} {l0 : Int} {l1 : Int} {l2 : Int} {s0 : Int} {s1 : Nat} {F : zF} {B : zB} {H : Heap} {locs : List Loc} {ls : Array Slot} (hf : f_Scribe_writeNote_72 rec46 K l3 l0 l1 l2 s0 s1 F B = some (r, F9, B9)) (hZ : zH D ca ad lnC K.2 L F B A H) (hS : va_S A s.heap H locs) (hl : lv_has ls 4 [(3, .int (iI l3)), (0, .ref (ad 7 l0 0)), (1, .int (iI l1)), (2, .int (iI l2))]) : W p l e ({ frames := 5, cells := 0, slots := 0, locals := 108 } : Room) s m args below meth c H locs 0 0 (MQ below (Q_Scribe_writeNote K D ca ad L r F9 B9 A) args s 0 0 A) (F0 m 72 ls [.ref (aS s1), va_rf (zrf ad 0 s0)]) := by
  obtain ⟨hx, hb, hr, hml, hown, hts, hlk, hK, hA, hL, hX⟩ := id X
  replace hf : (if 0 ≤ s0 ∧ s0 < K.2 0 then zbind (f_ByteRow_putText K s0 s1 F B) (fun r22 F22 B22 => if 0 ≤ l0 ∧ l0 < K.2 7 then if 0 ≤ (F22 7 l0 4) ∧ (F22 7 l0 4) < K.2 1 then if 0 ≤ l3 ∧ l3 < 6 then zbind (f_Scribe_writePitch K l0 (B22 1 (F22 7 l0 4) 12 l3) (B22 1 (F22 7 l0 4) 13 l3) F22 B22) (fun r26 F26 B26 => rec46 (l3 + 1) l0 l1 l2 F26 B26) else none else none else none) else none) = some (r, F9, B9) := hf
  obtain ⟨g21, hf⟩ := gif hf
  refine W.eq (g2 := F0 m 72 ls [.ref (aS s1), .ref (ad 0 s0 0)]) (by rw [zrf_pos (ad := ad) (t := 0) g21.1]; try rfl) ?_
  obtain ⟨r22, F22, B22, hc22, hf⟩ := gbind hf
  refine va_callv (va_runV (As := [.ref (aS s1)]) (rest := []) ⟨hx, hb, hml, hown, hts⟩ (c_ByteRow_putText (l := l) hc22) (cwV 1 hts (gdV k_8_172 k_7_129 k_7_130 k_1_2 k_7_131) rfl rfl rfl (by decide +kernel) ⟨Nat.le_of_ble_eq_true rfl, Nat.le_of_ble_eq_true rfl⟩) (zPV X hZ hS (ci := 0) g21.1 g21.2 (r := (RX0, TX0, 3)) rfl [.ref (aS s1)]) rfl rfl hl.1 rfl (lv_room (Nat.le_of_ble_eq_true rfl)) d_9_13_72 ⟨Nat.le_of_ble_eq_true rfl, Nat.le_of_ble_eq_true rfl⟩) hS (fun q _ h => zAin X hS q h) (zAin X hS) (fun u22 t22 H22 locs22 ht22 hv22 hw22 hB22 hz22 hk22 hS22 => ?_)
  have hZ22 := zBack X ht22 hB22
  refine lv_aload_n hx hb d_9_13_75 rfl (lv_at hl 1 rfl) ?_
  refine lv_aload_n hx hb d_9_13_76 rfl (lv_at hl 1 rfl) ?_
  obtain ⟨g23, hf⟩ := gif hf
  refine zget (ci := 7) (C := RX7) (T := TX7) (v := va_rf (zrf ad 1 (F22 7 l0 4))) (k := 4) hx hb hts inW_7 hown hK hZ22 g23.1 g23.2 rfl (by decide) k_2_102 rfl d_9_13_77 ?_
  obtain ⟨g24, hf⟩ := gif hf
  refine zunrf g24.1 ?_
  refine zget (ci := 1) (C := RX1) (T := TX1) (v := .ref (ad 1 (F22 7 l0 4) (12 + 1))) (k := 12) hx hb hts inW_1 hown hK hZ22 g24.1 g24.2 rfl (by decide) k_2_61 rfl d_9_13_80 ?_
  refine lv_iload_n hx hb d_9_13_83 rfl (lv_at hl 0 rfl) ?_
  obtain ⟨g25, hf⟩ := gif hf
  refine zald (ci := 1) (k := 12) hx hb hK rfl hZ22 g24.1 g24.2 rfl (Nat.le_of_ble_eq_true rfl) g25.1 g25.2 d_9_13_84 ?_
  refine lv_aload_n hx hb d_9_13_85 rfl (lv_at hl 1 rfl) ?_
  refine zget (ci := 7) (C := RX7) (T := TX7) (v := va_rf (zrf ad 1 (F22 7 l0 4))) (k := 4) hx hb hts inW_7 hown hK hZ22 g23.1 g23.2 rfl (by decide) k_2_102 rfl d_9_13_86 ?_
  refine zunrf g24.1 ?_
  refine zget (ci := 1) (C := RX1) (T := TX1) (v := .ref (ad 1 (F22 7 l0 4) (13 + 1))) (k := 13) hx hb hts inW_1 hown hK hZ22 g24.1 g24.2 rfl (by decide) k_2_67 rfl d_9_13_89 ?_
  refine lv_iload_n hx hb d_9_13_92 rfl (lv_at hl 0 rfl) ?_
  refine zald (ci := 1) (k := 13) hx hb hK rfl hZ22 g24.1 g24.2 rfl (Nat.le_of_ble_eq_true rfl) g25.1 g25.2 d_9_13_93 ?_
  obtain ⟨r26, F26, B26, hc26, hf⟩ := gbind hf
  refine va_callv (va_runV (As := [.int (iI (B22 1 (F22 7 l0 4) 12 l3)), .int (iI (B22 1 (F22 7 l0 4) 13 l3))]) (rest := []) ⟨hx, hb, hml, hown, hts⟩ (c_Scribe_writePitch (l := l) hc26) (cwV 2 hts (gdV k_8_211 k_8_213 ks_120 k_1_7 k_8_214) rfl rfl rfl (by decide +kernel) ⟨Nat.le_of_ble_eq_true rfl, Nat.le_of_ble_eq_true rfl⟩) (zPV X hZ22 hS22 (ci := 7) g23.1 g23.2 (r := (RX7, TX7, 9)) rfl [.int (iI (B22 1 (F22 7 l0 4) 12 l3)), .int (iI (B22 1 (F22 7 l0 4) 13 l3))]) rfl rfl hl.1 rfl (lv_room (Nat.le_of_ble_eq_true rfl)) d_9_13_94 ⟨Nat.le_of_ble_eq_true rfl, Nat.le_of_ble_eq_true rfl⟩) hS22 (fun q _ h => zAin X hS22 q h) (zAin X hS22) (fun u26 t26 H26 locs26 ht26 hv26 hw26 hB26 hz26 hk26 hS26 => ?_)
  have hZ26 := zBack X ht26 hB26
  refine lv_iinc (v := iI (l3 + 1)) (lv' := [(3, .int (iI (l3 + 1))), (0, .ref (ad 7 l0 0)), (1, .int (iI l1)), (2, .int (iI l2))]) hx hb d_9_13_97 hl (k := 0) rfl (iI_add _ 1) (by decide) rfl (fun ls hl => ?_)
  refine lv_goto (tgt := 46) hx hb d_9_13_100 (by decide) ?_
  exact hrec46 hf hZ26 hS26 (lv_sub hl [0, 1, 2, 3] rfl)

noncomputable def f_Scribe_writeNote_46 (K : zK) : Nat → Int → Int → Int → Int → zF → zB → zO
  | 0, _, _, _, _, _, _ => none
  | n + 1, l3, l0, l1, l2, F, B => if 0 ≤ l0 ∧ l0 < K.2 7 then if 0 ≤ (F 7 l0 4) ∧ (F 7 l0 4) < K.2 1 then if r32 l3 then if r32 (F 1 (F 7 l0 4) 10) then (if (F 1 (F 7 l0 4) 10) ≤ l3 then (if (F 1 (F 7 l0 4) 10) ≤ 1 then f_Scribe_writeNote_125 K l0 l1 l2 (F 7 l0 1) 18 F B else f_Scribe_writeNote_125 K l0 l1 l2 (F 7 l0 1) 17 F B) else (if l3 ≤ 0 then f_Scribe_writeNote_72 (f_Scribe_writeNote_46 K n) K l3 l0 l1 l2 (F 7 l0 1) 15 F B else f_Scribe_writeNote_72 (f_Scribe_writeNote_46 K n) K l3 l0 l1 l2 (F 7 l0 1) 16 F B)) else none else none else none else none
set_option maxHeartbeats 4000000 in
set_option maxRecDepth 100000 in
theorem b_Scribe_writeNote_46 {D : va_G} {ca : Nat → ClassId} {ad : Nat → Int → Nat → Nat} {L : List Nat} {aS vS : Nat → Nat} {A : Nat → Prop} {p : Program} {l : Launch} {e : Env} {s : State} {m : MethodId} {args : Array Value} {below : List Frame} {meth : Method} {c : Code} {K : zK} {r : Int} {F9 : zF} {B9 : zB} (X : zX D ca L aS vS A p s m args meth c prog_9_method_13_code 4 (Option.none : Option Jvm.ClassFile.FieldType) "StaveHouse$Scribe") : ∀ {n : Nat} {l3 : Int} {l0 : Int} {l1 : Int} {l2 : Int} {F : zF} {B : zB} {H : Heap} {locs : List Loc} {ls : Array Slot}, f_Scribe_writeNote_46 K n l3 l0 l1 l2 F B = some (r, F9, B9) → zH D ca ad lnC K.2 L F B A H → va_S A s.heap H locs → lv_has ls 4 [(3, .int (iI l3)), (0, .ref (ad 7 l0 0)), (1, .int (iI l1)), (2, .int (iI l2))] → W p l e ({ frames := 5, cells := 0, slots := 0, locals := 108 } : Room) s m args below meth c H locs 0 0 (MQ below (Q_Scribe_writeNote K D ca ad L r F9 B9 A) args s 0 0 A) (F0 m 46 ls []) := by
  obtain ⟨hx, hb, hr, hml, hown, hts, hlk, hK, hA, hL, hX⟩ := id X
  intro n
  induction n with
  | zero =>
    intros
    rename_i hf _ _ _
    cases hf
  | succ n ih =>
    intro l3 l0 l1 l2 F B H locs ls hf hZ hS hl
    replace hf : (if 0 ≤ l0 ∧ l0 < K.2 7 then if 0 ≤ (F 7 l0 4) ∧ (F 7 l0 4) < K.2 1 then if r32 l3 then if r32 (F 1 (F 7 l0 4) 10) then (if (F 1 (F 7 l0 4) 10) ≤ l3 then (if (F 1 (F 7 l0 4) 10) ≤ 1 then f_Scribe_writeNote_125 K l0 l1 l2 (F 7 l0 1) 18 F B else f_Scribe_writeNote_125 K l0 l1 l2 (F 7 l0 1) 17 F B) else (if l3 ≤ 0 then f_Scribe_writeNote_72 (f_Scribe_writeNote_46 K n) K l3 l0 l1 l2 (F 7 l0 1) 15 F B else f_Scribe_writeNote_72 (f_Scribe_writeNote_46 K n) K l3 l0 l1 l2 (F 7 l0 1) 16 F B)) else none else none else none else none) = some (r, F9, B9) := hf
    refine lv_iload_n hx hb d_9_13_46 rfl (lv_at hl 0 rfl) ?_
    refine lv_aload_n hx hb d_9_13_47 rfl (lv_at hl 1 rfl) ?_
    obtain ⟨g14, hf⟩ := gif hf
    refine zget (ci := 7) (C := RX7) (T := TX7) (v := va_rf (zrf ad 1 (F 7 l0 4))) (k := 4) hx hb hts inW_7 hown hK hZ g14.1 g14.2 rfl (by decide) k_2_102 rfl d_9_13_48 ?_
    obtain ⟨g15, hf⟩ := gif hf
    refine zunrf g15.1 ?_
    refine zget (ci := 1) (C := RX1) (T := TX1) (v := .int (iI (F 1 (F 7 l0 4) 10))) (k := 10) hx hb hts inW_1 hown hK hZ g15.1 g15.2 rfl (by decide) k_2_50 rfl d_9_13_51 ?_
    obtain ⟨g16, hf⟩ := gif hf
    obtain ⟨g17, hf⟩ := gif hf
    refine zge (tgt := 103) hx hb g16 g17 d_9_13_54 (by decide) (fun h18 => ?_) (fun h18 => ?_)
    · replace hf := gpos hf h18
      refine lv_aload_n hx hb d_9_13_103 rfl (lv_at hl 1 rfl) ?_
      refine zget (ci := 7) (C := RX7) (T := TX7) (v := va_rf (zrf ad 0 (F 7 l0 1))) (k := 1) hx hb hts inW_7 hown hK hZ g14.1 g14.2 rfl (by decide) k_2_99 rfl d_9_13_104 ?_
      refine lv_aload_n hx hb d_9_13_107 rfl (lv_at hl 1 rfl) ?_
      refine zget (ci := 7) (C := RX7) (T := TX7) (v := va_rf (zrf ad 1 (F 7 l0 4))) (k := 4) hx hb hts inW_7 hown hK hZ g14.1 g14.2 rfl (by decide) k_2_102 rfl d_9_13_108 ?_
      refine zunrf g15.1 ?_
      refine zget (ci := 1) (C := RX1) (T := TX1) (v := .int (iI (F 1 (F 7 l0 4) 10))) (k := 10) hx hb hts inW_1 hown hK hZ g15.1 g15.2 rfl (by decide) k_2_50 rfl d_9_13_111 ?_
      refine lv_iconst (v := iI 1) hx hb d_9_13_114 rfl ?_
      refine zle (tgt := 123) hx hb g17 (by decide) d_9_13_115 (by decide) (fun h19 => ?_) (fun h19 => ?_)
      · replace hf := gpos hf h19
        refine va_ldcS hx hb hown (hX.2.2.2.2.1 18 _ rfl).1 d_9_13_123 ?_
        exact b_Scribe_writeNote_125 X hf hZ hS (lv_sub hl [1, 2, 3] rfl)
      · replace hf := gneg hf h19
        refine va_ldcS hx hb hown (hX.2.2.2.2.1 17 _ rfl).1 d_9_13_118 ?_
        refine lv_goto (tgt := 125) hx hb d_9_13_120 (by decide) ?_
        exact b_Scribe_writeNote_125 X hf hZ hS (lv_sub hl [1, 2, 3] rfl)
    · replace hf := gneg hf h18
      refine lv_aload_n hx hb d_9_13_57 rfl (lv_at hl 1 rfl) ?_
      refine zget (ci := 7) (C := RX7) (T := TX7) (v := va_rf (zrf ad 0 (F 7 l0 1))) (k := 1) hx hb hts inW_7 hown hK hZ g14.1 g14.2 rfl (by decide) k_2_99 rfl d_9_13_58 ?_
      refine lv_iload_n hx hb d_9_13_61 rfl (lv_at hl 0 rfl) ?_
      refine z0le (tgt := 70) hx hb g16 d_9_13_62 (by decide) (fun h20 => ?_) (fun h20 => ?_)
      · replace hf := gpos hf h20
        refine va_ldcS hx hb hown (hX.2.2.2.2.1 15 _ rfl).1 d_9_13_70 ?_
        exact b_Scribe_writeNote_72 X ih hf hZ hS (lv_sub hl [0, 1, 2, 3] rfl)
      · replace hf := gneg hf h20
        refine va_ldcS hx hb hown (hX.2.2.2.2.1 16 _ rfl).1 d_9_13_65 ?_
        refine lv_goto (tgt := 72) hx hb d_9_13_67 (by decide) ?_
        exact b_Scribe_writeNote_72 X ih hf hZ hS (lv_sub hl [0, 1, 2, 3] rfl)

noncomputable def f_Scribe_writeNote_41 (K : zK) (l0 : Int) (l1 : Int) (l2 : Int) (s0 : Int) (s1 : Nat) (F : zF) (B : zB) : zO := if 0 ≤ s0 ∧ s0 < K.2 0 then zbind (f_ByteRow_putText K s0 s1 F B) (fun r13 F13 B13 => f_Scribe_writeNote_46 K K.1 0 l0 l1 l2 F13 B13) else none
set_option maxHeartbeats 4000000 in
set_option maxRecDepth 100000 in
theorem b_Scribe_writeNote_41 {D : va_G} {ca : Nat → ClassId} {ad : Nat → Int → Nat → Nat} {L : List Nat} {aS vS : Nat → Nat} {A : Nat → Prop} {p : Program} {l : Launch} {e : Env} {s : State} {m : MethodId} {args : Array Value} {below : List Frame} {meth : Method} {c : Code} {K : zK} {r : Int} {F9 : zF} {B9 : zB} (X : zX D ca L aS vS A p s m args meth c prog_9_method_13_code 4 (Option.none : Option Jvm.ClassFile.FieldType) "StaveHouse$Scribe") {l0 : Int} {l1 : Int} {l2 : Int} {s0 : Int} {s1 : Nat} {F : zF} {B : zB} {H : Heap} {locs : List Loc} {ls : Array Slot} (hf : f_Scribe_writeNote_41 K l0 l1 l2 s0 s1 F B = some (r, F9, B9)) (hZ : zH D ca ad lnC K.2 L F B A H) (hS : va_S A s.heap H locs) (hl : lv_has ls 4 [(0, .ref (ad 7 l0 0)), (1, .int (iI l1)), (2, .int (iI l2))]) : W p l e ({ frames := 5, cells := 0, slots := 0, locals := 108 } : Room) s m args below meth c H locs 0 0 (MQ below (Q_Scribe_writeNote K D ca ad L r F9 B9 A) args s 0 0 A) (F0 m 41 ls [.ref (aS s1), va_rf (zrf ad 0 s0)]) := by
  obtain ⟨hx, hb, hr, hml, hown, hts, hlk, hK, hA, hL, hX⟩ := id X
  replace hf : (if 0 ≤ s0 ∧ s0 < K.2 0 then zbind (f_ByteRow_putText K s0 s1 F B) (fun r13 F13 B13 => f_Scribe_writeNote_46 K K.1 0 l0 l1 l2 F13 B13) else none) = some (r, F9, B9) := hf
  obtain ⟨g12, hf⟩ := gif hf
  refine W.eq (g2 := F0 m 41 ls [.ref (aS s1), .ref (ad 0 s0 0)]) (by rw [zrf_pos (ad := ad) (t := 0) g12.1]; try rfl) ?_
  obtain ⟨r13, F13, B13, hc13, hf⟩ := gbind hf
  refine va_callv (va_runV (As := [.ref (aS s1)]) (rest := []) ⟨hx, hb, hml, hown, hts⟩ (c_ByteRow_putText (l := l) hc13) (cwV 1 hts (gdV k_8_172 k_7_129 k_7_130 k_1_2 k_7_131) rfl rfl rfl (by decide +kernel) ⟨Nat.le_of_ble_eq_true rfl, Nat.le_of_ble_eq_true rfl⟩) (zPV X hZ hS (ci := 0) g12.1 g12.2 (r := (RX0, TX0, 3)) rfl [.ref (aS s1)]) rfl rfl hl.1 rfl (lv_room (Nat.le_of_ble_eq_true rfl)) d_9_13_41 ⟨Nat.le_of_ble_eq_true rfl, Nat.le_of_ble_eq_true rfl⟩) hS (fun q _ h => zAin X hS q h) (zAin X hS) (fun u13 t13 H13 locs13 ht13 hv13 hw13 hB13 hz13 hk13 hS13 => ?_)
  have hZ13 := zBack X ht13 hB13
  refine lv_iconst (v := iI 0) hx hb d_9_13_44 rfl ?_
  refine lv_istore_n (lv' := [(3, .int (iI 0)), (0, .ref (ad 7 l0 0)), (1, .int (iI l1)), (2, .int (iI l2))]) hx hb d_9_13_45 rfl hl (by decide) rfl (fun ls hl => ?_)
  exact b_Scribe_writeNote_46 X hf hZ13 hS13 (lv_sub hl [0, 1, 2, 3] rfl)

noncomputable def f_Scribe_writeNote_19 (K : zK) (l0 : Int) (l1 : Int) (l2 : Int) (F : zF) (B : zB) : zO := if 0 ≤ l0 ∧ l0 < K.2 7 then if 0 ≤ (F 7 l0 4) ∧ (F 7 l0 4) < K.2 1 then if r32 (F 1 (F 7 l0 4) 10) then (if (F 1 (F 7 l0 4) 10) ≤ 1 then f_Scribe_writeNote_41 K l0 l1 l2 (F 7 l0 1) 15 F B else f_Scribe_writeNote_41 K l0 l1 l2 (F 7 l0 1) 14 F B) else none else none else none
set_option maxHeartbeats 4000000 in
set_option maxRecDepth 100000 in
theorem b_Scribe_writeNote_19 {D : va_G} {ca : Nat → ClassId} {ad : Nat → Int → Nat → Nat} {L : List Nat} {aS vS : Nat → Nat} {A : Nat → Prop} {p : Program} {l : Launch} {e : Env} {s : State} {m : MethodId} {args : Array Value} {below : List Frame} {meth : Method} {c : Code} {K : zK} {r : Int} {F9 : zF} {B9 : zB} (X : zX D ca L aS vS A p s m args meth c prog_9_method_13_code 4 (Option.none : Option Jvm.ClassFile.FieldType) "StaveHouse$Scribe") {l0 : Int} {l1 : Int} {l2 : Int} {F : zF} {B : zB} {H : Heap} {locs : List Loc} {ls : Array Slot} (hf : f_Scribe_writeNote_19 K l0 l1 l2 F B = some (r, F9, B9)) (hZ : zH D ca ad lnC K.2 L F B A H) (hS : va_S A s.heap H locs) (hl : lv_has ls 4 [(0, .ref (ad 7 l0 0)), (1, .int (iI l1)), (2, .int (iI l2))]) : W p l e ({ frames := 5, cells := 0, slots := 0, locals := 108 } : Room) s m args below meth c H locs 0 0 (MQ below (Q_Scribe_writeNote K D ca ad L r F9 B9 A) args s 0 0 A) (F0 m 19 ls []) := by
  obtain ⟨hx, hb, hr, hml, hown, hts, hlk, hK, hA, hL, hX⟩ := id X
  replace hf : (if 0 ≤ l0 ∧ l0 < K.2 7 then if 0 ≤ (F 7 l0 4) ∧ (F 7 l0 4) < K.2 1 then if r32 (F 1 (F 7 l0 4) 10) then (if (F 1 (F 7 l0 4) 10) ≤ 1 then f_Scribe_writeNote_41 K l0 l1 l2 (F 7 l0 1) 15 F B else f_Scribe_writeNote_41 K l0 l1 l2 (F 7 l0 1) 14 F B) else none else none else none) = some (r, F9, B9) := hf
  refine lv_aload_n hx hb d_9_13_19 rfl (lv_at hl 0 rfl) ?_
  obtain ⟨g8, hf⟩ := gif hf
  refine zget (ci := 7) (C := RX7) (T := TX7) (v := va_rf (zrf ad 0 (F 7 l0 1))) (k := 1) hx hb hts inW_7 hown hK hZ g8.1 g8.2 rfl (by decide) k_2_99 rfl d_9_13_20 ?_
  refine lv_aload_n hx hb d_9_13_23 rfl (lv_at hl 0 rfl) ?_
  refine zget (ci := 7) (C := RX7) (T := TX7) (v := va_rf (zrf ad 1 (F 7 l0 4))) (k := 4) hx hb hts inW_7 hown hK hZ g8.1 g8.2 rfl (by decide) k_2_102 rfl d_9_13_24 ?_
  obtain ⟨g9, hf⟩ := gif hf
  refine zunrf g9.1 ?_
  refine zget (ci := 1) (C := RX1) (T := TX1) (v := .int (iI (F 1 (F 7 l0 4) 10))) (k := 10) hx hb hts inW_1 hown hK hZ g9.1 g9.2 rfl (by decide) k_2_50 rfl d_9_13_27 ?_
  refine lv_iconst (v := iI 1) hx hb d_9_13_30 rfl ?_
  obtain ⟨g10, hf⟩ := gif hf
  refine zle (tgt := 39) hx hb g10 (by decide) d_9_13_31 (by decide) (fun h11 => ?_) (fun h11 => ?_)
  · replace hf := gpos hf h11
    refine va_ldcS hx hb hown (hX.2.2.2.2.1 15 _ rfl).1 d_9_13_39 ?_
    exact b_Scribe_writeNote_41 X hf hZ hS (lv_sub hl [0, 1, 2] rfl)
  · replace hf := gneg hf h11
    refine va_ldcS hx hb hown (hX.2.2.2.2.1 14 _ rfl).1 d_9_13_34 ?_
    refine lv_goto (tgt := 41) hx hb d_9_13_36 (by decide) ?_
    exact b_Scribe_writeNote_41 X hf hZ hS (lv_sub hl [0, 1, 2] rfl)

noncomputable def f_Scribe_writeNote (K : zK) (l0 : Int) (l1 : Int) (l2 : Int) (F : zF) (B : zB) : zO := if 0 ≤ l0 ∧ l0 < K.2 7 then if 0 ≤ (F 7 l0 4) ∧ (F 7 l0 4) < K.2 1 then zbind (f_Event_isRest K (F 7 l0 4) F B) (fun r3 F3 B3 => if r32 r3 then (if r3 = 0 then f_Scribe_writeNote_19 K l0 l1 l2 F3 B3 else if 0 ≤ (F3 7 l0 1) ∧ (F3 7 l0 1) < K.2 0 then zbind (f_ByteRow_put K (F3 7 l0 1) 114 F3 B3) (fun r7 F7 B7 => f_Scribe_writeNote_19 K l0 l1 l2 F7 B7) else none) else none) else none else none
set_option maxHeartbeats 4000000 in
set_option maxRecDepth 100000 in
theorem c_Scribe_writeNote {l : Launch} {D : va_G} {ca : Nat → ClassId} {ad : Nat → Int → Nat → Nat} {L : List Nat} {aS vS : Nat → Nat} {sz : Nat} {K : zK}  {l0 : Int} {l1 : Int} {l2 : Int} {F F9 : zF} {B B9 : zB} {r : Int} (hf : f_Scribe_writeNote K l0 l1 l2 F B = some (r, F9, B9)) : Met l ({ cls := "StaveHouse$Scribe", name := "writeNote", desc := "(IZ)V" } : Jvm.MethodName) (Cond.code ({ cls := "StaveHouse$Scribe", name := "writeNote", desc := "(IZ)V" } : Jvm.MethodName) prog_9_method_13_code 4 (Option.none : Option Jvm.ClassFile.FieldType) :: wAll) ({ frames := 5, cells := 0, slots := 0, locals := 108 } : Room) (va_Pc [.ref (ad 7 l0 0), .int (iI l1), .int (iI l2)] (zPre D ca ad lnC K.2 L aS vS F B sz)) (Q_Scribe_writeNote K D ca ad L r F9 B9 (zA L sz)) 0 0 (zA L sz) := by
  refine zMet (Qc := Q_Scribe_writeNote K D ca ad L r F9 B9) (lv := [(0, .ref (ad 7 l0 0)), (1, .int (iI l1)), (2, .int (iI l2))]) (by decide) (Nat.le_of_ble_eq_true rfl) rfl (fun A p e s m below meth c ls X hZ hS hl => ?_)
  obtain ⟨hx, hb, hr, hml, hown, hts, hlk, hK, hA, hL, hX⟩ := id X
  replace hf : (if 0 ≤ l0 ∧ l0 < K.2 7 then if 0 ≤ (F 7 l0 4) ∧ (F 7 l0 4) < K.2 1 then zbind (f_Event_isRest K (F 7 l0 4) F B) (fun r3 F3 B3 => if r32 r3 then (if r3 = 0 then f_Scribe_writeNote_19 K l0 l1 l2 F3 B3 else if 0 ≤ (F3 7 l0 1) ∧ (F3 7 l0 1) < K.2 0 then zbind (f_ByteRow_put K (F3 7 l0 1) 114 F3 B3) (fun r7 F7 B7 => f_Scribe_writeNote_19 K l0 l1 l2 F7 B7) else none) else none) else none else none) = some (r, F9, B9) := hf
  refine lv_aload_n hx hb d_9_13_0 rfl (lv_at hl 0 rfl) ?_
  obtain ⟨g1, hf⟩ := gif hf
  refine zget (ci := 7) (C := RX7) (T := TX7) (v := va_rf (zrf ad 1 (F 7 l0 4))) (k := 4) hx hb hts inW_7 hown hK hZ g1.1 g1.2 rfl (by decide) k_2_102 rfl d_9_13_1 ?_
  obtain ⟨g2, hf⟩ := gif hf
  refine W.eq (g2 := F0 m 4 ls [.ref (ad 1 (F 7 l0 4) 0)]) (by rw [zrf_pos (ad := ad) (t := 1) g2.1]; try rfl) ?_
  obtain ⟨r3, F3, B3, hc3, hf⟩ := gbind hf
  refine va_calli (va_runV (As := []) (rest := []) ⟨hx, hb, hml, hown, hts⟩ (c_Event_isRest (l := l) hc3) (cwV 0 hts (gdV k_8_207 k_5_79 k_5_80 k_1_8 k_5_81) rfl rfl rfl (by decide +kernel) ⟨Nat.le_of_ble_eq_true rfl, Nat.le_of_ble_eq_true rfl⟩) (zPV X hZ hS (ci := 1) g2.1 g2.2 (r := (RX1, TX1, 14)) rfl []) rfl rfl hl.1 rfl (lv_room (Nat.le_of_ble_eq_true rfl)) d_9_13_4 ⟨Nat.le_of_ble_eq_true rfl, Nat.le_of_ble_eq_true rfl⟩) hS (fun q _ h => zAin X hS q h) (zAin X hS) (fun p3 u3 t3 H3 locs3 ht3 hv3 hw3 hB3 hz3 hk3 hS3 => ?_)
  have hZ3 := zBack X ht3 hB3
  subst hw3
  obtain ⟨g4, hf⟩ := gif hf
  refine z0eq (tgt := 19) hx hb g4 d_9_13_7 (by decide) (fun h5 => ?_) (fun h5 => ?_)
  · replace hf := gpos hf h5
    exact b_Scribe_writeNote_19 X hf hZ3 hS3 (lv_sub hl [0, 1, 2] rfl)
  · replace hf := gneg hf h5
    refine lv_aload_n hx hb d_9_13_10 rfl (lv_at hl 0 rfl) ?_
    refine zget (ci := 7) (C := RX7) (T := TX7) (v := va_rf (zrf ad 0 (F3 7 l0 1))) (k := 1) hx hb hts inW_7 hown hK hZ3 g1.1 g1.2 rfl (by decide) k_2_99 rfl d_9_13_11 ?_
    refine lv_bipush (v := iI 114) hx hb d_9_13_14 (by decide) ?_
    obtain ⟨g6, hf⟩ := gif hf
    refine W.eq (g2 := F0 m 16 ls [.int (iI 114), .ref (ad 0 (F3 7 l0 1) 0)]) (by rw [zrf_pos (ad := ad) (t := 0) g6.1]; try rfl) ?_
    obtain ⟨r7, F7, B7, hc7, hf⟩ := gbind hf
    refine va_callv (va_runV (As := [.int (iI 114)]) (rest := []) ⟨hx, hb, hml, hown, hts⟩ (c_ByteRow_put (l := l) hc7) (cwV 1 hts (gdV k_8_180 k_2_171 k_2_172 k_1_2 k_2_173) rfl rfl rfl (by decide +kernel) ⟨Nat.le_of_ble_eq_true rfl, Nat.le_of_ble_eq_true rfl⟩) (zPV X hZ3 hS3 (ci := 0) g6.1 g6.2 (r := (RX0, TX0, 3)) rfl [.int (iI 114)]) rfl rfl hl.1 rfl (lv_room (Nat.le_of_ble_eq_true rfl)) d_9_13_16 ⟨Nat.le_of_ble_eq_true rfl, Nat.le_of_ble_eq_true rfl⟩) hS3 (fun q _ h => zAin X hS3 q h) (zAin X hS3) (fun u7 t7 H7 locs7 ht7 hv7 hw7 hB7 hz7 hk7 hS7 => ?_)
    have hZ7 := zBack X ht7 hB7
    exact b_Scribe_writeNote_19 X hf hZ7 hS7 (lv_sub hl [0, 1, 2] rfl)

noncomputable abbrev Q_Performance_playOn (K : zK) (D : va_G) (ca : Nat → ClassId) (ad : Nat → Int → Nat → Nat) (L : List Nat) (r : Int) (F : zF) (B : zB) (A : Nat → Prop) : Array Value → State → Outcome → State → Prop := va_Qi (S := Unit) (fun p _ => p = iI r) (fun _ => zPo D ca ad lnC K.2 L F B A) A
noncomputable def f_Performance_playOn_45 (K : zK) : Nat → Int → Int → Int → zF → zB → zO
  | 0, _, _, _, _, _ => none
  | n + 1, l3, l0, l2, F, B => if r32 l3 then if r32 l2 then (if l2 ≤ l3 then if 0 ≤ l0 ∧ l0 < K.2 5 then some ((F 5 l0 2) + l2, (zup3 (zup3 F 5 l0 3 l2) 5 l0 2 ((F 5 l0 2) + l2)), B) else none else if 0 ≤ l0 ∧ l0 < K.2 5 then if 0 ≤ l3 ∧ l3 < 1000 then if r32 (B 5 l0 6 l3) then if r32 (zmin 32767 (B 5 l0 6 l3)) then zbind (f_Performance_nextCode K l0 (zup3 F 5 l0 11 ((F 5 l0 11) + (zdv ((zmax (-32768) (zmin 32767 (B 5 l0 6 l3))) - (F 5 l0 11)) 2))) (zup4 B 5 l0 4 l3 ((F 5 l0 11) + (zdv ((zmax (-32768) (zmin 32767 (B 5 l0 6 l3))) - (F 5 l0 11)) 2)))) (fun r24 F24 B24 => f_Performance_playOn_45 K n (l3 + 1) l0 l2 F24 (zup4 B24 5 l0 5 l3 r24)) else none else none else none else none) else none else none
set_option maxHeartbeats 4000000 in
set_option maxRecDepth 100000 in
theorem b_Performance_playOn_45 {D : va_G} {ca : Nat → ClassId} {ad : Nat → Int → Nat → Nat} {L : List Nat} {aS vS : Nat → Nat} {A : Nat → Prop} {p : Program} {l : Launch} {e : Env} {s : State} {m : MethodId} {args : Array Value} {below : List Frame} {meth : Method} {c : Code} {K : zK} {r : Int} {F9 : zF} {B9 : zB} (X : zX D ca L aS vS A p s m args meth c prog_7_method_24_code 5 (Option.some Jvm.ClassFile.FieldType.int) "StaveHouse$Performance") : ∀ {n : Nat} {l3 : Int} {l0 : Int} {l2 : Int} {F : zF} {B : zB} {H : Heap} {locs : List Loc} {ls : Array Slot}, f_Performance_playOn_45 K n l3 l0 l2 F B = some (r, F9, B9) → zH D ca ad lnC K.2 L F B A H → va_S A s.heap H locs → lv_has ls 5 [(3, .int (iI l3)), (0, .ref (ad 5 l0 0)), (2, .int (iI l2))] → W p l e ({ frames := 4, cells := 0, slots := 0, locals := 88 } : Room) s m args below meth c H locs 0 0 (MQ below (Q_Performance_playOn K D ca ad L r F9 B9 A) args s 0 0 A) (F0 m 45 ls []) := by
  obtain ⟨hx, hb, hr, hml, hown, hts, hlk, hK, hA, hL, hX⟩ := id X
  intro n
  induction n with
  | zero =>
    intros
    rename_i hf _ _ _
    cases hf
  | succ n ih =>
    intro l3 l0 l2 F B H locs ls hf hZ hS hl
    replace hf : (if r32 l3 then if r32 l2 then (if l2 ≤ l3 then if 0 ≤ l0 ∧ l0 < K.2 5 then some ((F 5 l0 2) + l2, (zup3 (zup3 F 5 l0 3 l2) 5 l0 2 ((F 5 l0 2) + l2)), B) else none else if 0 ≤ l0 ∧ l0 < K.2 5 then if 0 ≤ l3 ∧ l3 < 1000 then if r32 (B 5 l0 6 l3) then if r32 (zmin 32767 (B 5 l0 6 l3)) then zbind (f_Performance_nextCode K l0 (zup3 F 5 l0 11 ((F 5 l0 11) + (zdv ((zmax (-32768) (zmin 32767 (B 5 l0 6 l3))) - (F 5 l0 11)) 2))) (zup4 B 5 l0 4 l3 ((F 5 l0 11) + (zdv ((zmax (-32768) (zmin 32767 (B 5 l0 6 l3))) - (F 5 l0 11)) 2)))) (fun r24 F24 B24 => f_Performance_playOn_45 K n (l3 + 1) l0 l2 F24 (zup4 B24 5 l0 5 l3 r24)) else none else none else none else none) else none else none) = some (r, F9, B9) := hf
    refine lv_iload_n hx hb d_7_24_45 rfl (lv_at hl 0 rfl) ?_
    refine lv_iload_n hx hb d_7_24_46 rfl (lv_at hl 2 rfl) ?_
    obtain ⟨g12, hf⟩ := gif hf
    obtain ⟨g13, hf⟩ := gif hf
    refine zge (tgt := 114) hx hb g12 g13 d_7_24_47 (by decide) (fun h14 => ?_) (fun h14 => ?_)
    · replace hf := gpos hf h14
      refine lv_aload_n hx hb d_7_24_114 rfl (lv_at hl 1 rfl) ?_
      refine lv_iload_n hx hb d_7_24_115 rfl (lv_at hl 2 rfl) ?_
      obtain ⟨g15, hf⟩ := gif hf
      refine zput (ci := 5) (C := RX5) (T := TX5) (k := 3) (v := l2) (w := .int (iI l2)) hx hb hts inW_5 tyX5 tyX5_ok nmX5 hown hK hZ hS g15.1 g15.2 rfl (by decide) k_6_69 rfl (fun G h => congrArg (fun q => Value.int (iI q)) h) rfl rfl (zno (by decide)) d_7_24_116 (fun H16 locs16 hZ16 hS16 => ?_)
      refine lv_aload_n hx hb d_7_24_119 rfl (lv_at hl 1 rfl) ?_
      refine lv_dup hx hb d_7_24_120 rfl ?_
      refine zget (ci := 5) (C := RX5) (T := TX5) (v := .int (iI (F 5 l0 2))) (k := 2) hx hb hts inW_5 hown hK hZ16 g15.1 g15.2 rfl (by decide) k_6_68 (congrArg (fun q : Int => Value.int (iI q)) (show (zup3 F 5 l0 3 l2) 5 l0 2 = F 5 l0 2 by simp [zup3])) d_7_24_121 ?_
      refine lv_iload_n hx hb d_7_24_124 rfl (lv_at hl 2 rfl) ?_
      refine zadd hx hb d_7_24_125 ?_
      refine zput (ci := 5) (C := RX5) (T := TX5) (k := 2) (v := ((F 5 l0 2) + l2)) (w := .int (iI ((F 5 l0 2) + l2))) hx hb hts inW_5 tyX5 tyX5_ok nmX5 hown hK hZ16 hS16 g15.1 g15.2 rfl (by decide) k_6_68 rfl (fun G h => congrArg (fun q => Value.int (iI q)) h) rfl rfl (zno (by decide)) d_7_24_126 (fun H17 locs17 hZ17 hS17 => ?_)
      refine lv_aload_n hx hb d_7_24_129 rfl (lv_at hl 1 rfl) ?_
      refine zget (ci := 5) (C := RX5) (T := TX5) (v := .int (iI ((F 5 l0 2) + l2))) (k := 2) hx hb hts inW_5 hown hK hZ17 g15.1 g15.2 rfl (by decide) k_6_68 (congrArg (fun q : Int => Value.int (iI q)) (show (zup3 (zup3 F 5 l0 3 l2) 5 l0 2 ((F 5 l0 2) + l2)) 5 l0 2 = (F 5 l0 2) + l2 by simp [zup3])) d_7_24_130 ?_
      cases hf
      exact W.iret hx hb hr (fun t ht hW => ⟨⟨_, (), rfl, rfl, by rw [ht]; exact hZ17, va_K.moved hW.alike hK⟩, hS17.F ht⟩) hS17.2.2 d_7_24_133 hlk
    · replace hf := gneg hf h14
      refine lv_sipush (v := iI (-32768)) hx hb d_7_24_50 (by decide) ?_
      refine lv_sipush (v := iI 32767) hx hb d_7_24_53 (by decide) ?_
      refine lv_aload_n hx hb d_7_24_56 rfl (lv_at hl 1 rfl) ?_
      obtain ⟨g18, hf⟩ := gif hf
      refine zget (ci := 5) (C := RX5) (T := TX5) (v := .ref (ad 5 l0 (6 + 1))) (k := 6) hx hb hts inW_5 hown hK hZ g18.1 g18.2 rfl (by decide) k_6_75 rfl d_7_24_57 ?_
      refine lv_iload_n hx hb d_7_24_60 rfl (lv_at hl 0 rfl) ?_
      obtain ⟨g19, hf⟩ := gif hf
      refine zald (ci := 5) (k := 6) hx hb hK rfl hZ g18.1 g18.2 rfl (Nat.le_of_ble_eq_true rfl) g19.1 g19.2 d_7_24_61 ?_
      obtain ⟨g20, hf⟩ := gif hf
      refine va_mmin hx hb (by rw [hml]; exact hl.1.symm) hown (hts _ k_6_134) (hts _ k_3_97) (hts _ k_1_3) (hts _ k_3_98) (Nat.le_of_ble_eq_true rfl) (Nat.le_of_ble_eq_true rfl) (Nat.le_of_ble_eq_true rfl) (Nat.le_of_ble_eq_true rfl) d_7_24_62 ?_
      rw [zmin_e (by decide) g20]
      obtain ⟨g21, hf⟩ := gif hf
      refine va_mmax hx hb (by rw [hml]; exact hl.1.symm) hown (hts _ k_6_153) (hts _ k_1_39) (hts _ k_1_3) (hts _ k_1_40) (Nat.le_of_ble_eq_true rfl) (Nat.le_of_ble_eq_true rfl) (Nat.le_of_ble_eq_true rfl) (Nat.le_of_ble_eq_true rfl) d_7_24_65 ?_
      rw [zmax_e (by decide) g21]
      refine lv_istore (lv' := [(4, .int (iI (zmax (-32768) (zmin 32767 (B 5 l0 6 l3))))), (3, .int (iI l3)), (0, .ref (ad 5 l0 0)), (2, .int (iI l2))]) hx hb d_7_24_68 hl (by decide) rfl (fun ls hl => ?_)
      refine lv_aload_n hx hb d_7_24_70 rfl (lv_at hl 2 rfl) ?_
      refine lv_dup hx hb d_7_24_71 rfl ?_
      refine zget (ci := 5) (C := RX5) (T := TX5) (v := .int (iI (F 5 l0 11))) (k := 11) hx hb hts inW_5 hown hK hZ g18.1 g18.2 rfl (by decide) k_6_80 rfl d_7_24_72 ?_
      refine lv_iload hx hb d_7_24_75 (lv_at hl 0 rfl) ?_
      refine lv_aload_n hx hb d_7_24_77 rfl (lv_at hl 2 rfl) ?_
      refine zget (ci := 5) (C := RX5) (T := TX5) (v := .int (iI (F 5 l0 11))) (k := 11) hx hb hts inW_5 hown hK hZ g18.1 g18.2 rfl (by decide) k_6_80 rfl d_7_24_78 ?_
      refine zsub hx hb d_7_24_81 ?_
      refine lv_iconst (v := iI 2) hx hb d_7_24_82 rfl ?_
      refine zdv_r hx hb (by decide) d_7_24_83 ?_
      refine zadd hx hb d_7_24_84 ?_
      refine zput (ci := 5) (C := RX5) (T := TX5) (k := 11) (v := ((F 5 l0 11) + (zdv ((zmax (-32768) (zmin 32767 (B 5 l0 6 l3))) - (F 5 l0 11)) 2))) (w := .int (iI ((F 5 l0 11) + (zdv ((zmax (-32768) (zmin 32767 (B 5 l0 6 l3))) - (F 5 l0 11)) 2)))) hx hb hts inW_5 tyX5 tyX5_ok nmX5 hown hK hZ hS g18.1 g18.2 rfl (by decide) k_6_80 rfl (fun G h => congrArg (fun q => Value.int (iI q)) h) rfl rfl (zno (by decide)) d_7_24_85 (fun H22 locs22 hZ22 hS22 => ?_)
      refine lv_aload_n hx hb d_7_24_88 rfl (lv_at hl 2 rfl) ?_
      refine zget (ci := 5) (C := RX5) (T := TX5) (v := .ref (ad 5 l0 (4 + 1))) (k := 4) hx hb hts inW_5 hown hK hZ22 g18.1 g18.2 rfl (by decide) k_6_71 rfl d_7_24_89 ?_
      refine lv_iload_n hx hb d_7_24_92 rfl (lv_at hl 1 rfl) ?_
      refine lv_aload_n hx hb d_7_24_93 rfl (lv_at hl 2 rfl) ?_
      refine zget (ci := 5) (C := RX5) (T := TX5) (v := .int (iI ((F 5 l0 11) + (zdv ((zmax (-32768) (zmin 32767 (B 5 l0 6 l3))) - (F 5 l0 11)) 2)))) (k := 11) hx hb hts inW_5 hown hK hZ22 g18.1 g18.2 rfl (by decide) k_6_80 (congrArg (fun q : Int => Value.int (iI q)) (show (zup3 F 5 l0 11 ((F 5 l0 11) + (zdv ((zmax (-32768) (zmin 32767 (B 5 l0 6 l3))) - (F 5 l0 11)) 2))) 5 l0 11 = (F 5 l0 11) + (zdv ((zmax (-32768) (zmin 32767 (B 5 l0 6 l3))) - (F 5 l0 11)) 2) by simp [zup3])) d_7_24_94 ?_
      refine zast (ci := 5) (k := 4) hx hb hK rfl hZ22 hS22 g18.1 g18.2 rfl (Nat.le_of_ble_eq_true rfl) g19.1 g19.2 d_7_24_97 (fun H23 locs23 hZ23 hS23 => ?_)
      refine lv_aload_n hx hb d_7_24_98 rfl (lv_at hl 2 rfl) ?_
      refine zget (ci := 5) (C := RX5) (T := TX5) (v := .ref (ad 5 l0 (5 + 1))) (k := 5) hx hb hts inW_5 hown hK hZ23 g18.1 g18.2 rfl (by decide) k_6_73 rfl d_7_24_99 ?_
      refine lv_iload_n hx hb d_7_24_102 rfl (lv_at hl 1 rfl) ?_
      refine lv_aload_n hx hb d_7_24_103 rfl (lv_at hl 2 rfl) ?_
      obtain ⟨r24, F24, B24, hc24, hf⟩ := gbind hf
      refine va_calli (va_runV (As := []) (rest := [.int (iI l3), .ref (ad 5 l0 (5 + 1))]) ⟨hx, hb, hml, hown, hts⟩ (c_Performance_nextCode (l := l) hc24) (cwV 0 hts (gdV k_9_22 k_9_24 ks_124 k_1_20 k_9_25) rfl rfl rfl (by decide +kernel) ⟨Nat.le_of_ble_eq_true rfl, Nat.le_of_ble_eq_true rfl⟩) (zPV X hZ23 hS23 (ci := 5) g18.1 g18.2 (r := (RX5, TX5, 14)) rfl []) rfl rfl hl.1 rfl (lv_room (Nat.le_of_ble_eq_true rfl)) d_7_24_104 ⟨Nat.le_of_ble_eq_true rfl, Nat.le_of_ble_eq_true rfl⟩) hS23 (fun q _ h => zAin X hS23 q h) (zAin X hS23) (fun p24 u24 t24 H24 locs24 ht24 hv24 hw24 hB24 hz24 hk24 hS24 => ?_)
      have hZ24 := zBack X ht24 hB24
      subst hw24
      refine zast (ci := 5) (k := 5) hx hb hK rfl hZ24 hS24 g18.1 g18.2 rfl (Nat.le_of_ble_eq_true rfl) g19.1 g19.2 d_7_24_107 (fun H25 locs25 hZ25 hS25 => ?_)
      refine lv_iinc (v := iI (l3 + 1)) (lv' := [(3, .int (iI (l3 + 1))), (4, .int (iI (zmax (-32768) (zmin 32767 (B 5 l0 6 l3))))), (0, .ref (ad 5 l0 0)), (2, .int (iI l2))]) hx hb d_7_24_108 hl (k := 1) rfl (iI_add _ 1) (by decide) rfl (fun ls hl => ?_)
      refine lv_goto (tgt := 45) hx hb d_7_24_111 (by decide) ?_
      exact ih hf hZ25 hS25 (lv_sub hl [0, 2, 3] rfl)

noncomputable def f_Performance_playOn_22 (K : zK) : Nat → Int → Int → Int → Int → zF → zB → zO
  | 0, _, _, _, _, _, _ => none
  | n + 1, l3, l0, l1, l2, F, B => if 0 ≤ l0 ∧ l0 < K.2 5 then if r32 l3 then if r32 (F 5 l0 0) then (if (F 5 l0 0) ≤ l3 then f_Performance_playOn_45 K K.1 0 l0 l2 F B else zbind (f_Performance_mixSound K l0 l1 l3 l2 F B) (fun r11 F11 B11 => f_Performance_playOn_22 K n (l3 + 1) l0 l1 l2 F11 B11)) else none else none else none
set_option maxHeartbeats 4000000 in
set_option maxRecDepth 100000 in
theorem b_Performance_playOn_22 {D : va_G} {ca : Nat → ClassId} {ad : Nat → Int → Nat → Nat} {L : List Nat} {aS vS : Nat → Nat} {A : Nat → Prop} {p : Program} {l : Launch} {e : Env} {s : State} {m : MethodId} {args : Array Value} {below : List Frame} {meth : Method} {c : Code} {K : zK} {r : Int} {F9 : zF} {B9 : zB} (X : zX D ca L aS vS A p s m args meth c prog_7_method_24_code 5 (Option.some Jvm.ClassFile.FieldType.int) "StaveHouse$Performance") : ∀ {n : Nat} {l3 : Int} {l0 : Int} {l1 : Int} {l2 : Int} {F : zF} {B : zB} {H : Heap} {locs : List Loc} {ls : Array Slot}, f_Performance_playOn_22 K n l3 l0 l1 l2 F B = some (r, F9, B9) → zH D ca ad lnC K.2 L F B A H → va_S A s.heap H locs → lv_has ls 5 [(3, .int (iI l3)), (0, .ref (ad 5 l0 0)), (1, .ref (ad 6 l1 0)), (2, .int (iI l2))] → W p l e ({ frames := 4, cells := 0, slots := 0, locals := 88 } : Room) s m args below meth c H locs 0 0 (MQ below (Q_Performance_playOn K D ca ad L r F9 B9 A) args s 0 0 A) (F0 m 22 ls []) := by
  obtain ⟨hx, hb, hr, hml, hown, hts, hlk, hK, hA, hL, hX⟩ := id X
  intro n
  induction n with
  | zero =>
    intros
    rename_i hf _ _ _
    cases hf
  | succ n ih =>
    intro l3 l0 l1 l2 F B H locs ls hf hZ hS hl
    replace hf : (if 0 ≤ l0 ∧ l0 < K.2 5 then if r32 l3 then if r32 (F 5 l0 0) then (if (F 5 l0 0) ≤ l3 then f_Performance_playOn_45 K K.1 0 l0 l2 F B else zbind (f_Performance_mixSound K l0 l1 l3 l2 F B) (fun r11 F11 B11 => f_Performance_playOn_22 K n (l3 + 1) l0 l1 l2 F11 B11)) else none else none else none) = some (r, F9, B9) := hf
    refine lv_iload_n hx hb d_7_24_22 rfl (lv_at hl 0 rfl) ?_
    refine lv_aload_n hx hb d_7_24_23 rfl (lv_at hl 1 rfl) ?_
    obtain ⟨g7, hf⟩ := gif hf
    refine zget (ci := 5) (C := RX5) (T := TX5) (v := .int (iI (F 5 l0 0))) (k := 0) hx hb hts inW_5 hown hK hZ g7.1 g7.2 rfl (by decide) k_6_63 rfl d_7_24_24 ?_
    obtain ⟨g8, hf⟩ := gif hf
    obtain ⟨g9, hf⟩ := gif hf
    refine zge (tgt := 43) hx hb g8 g9 d_7_24_27 (by decide) (fun h10 => ?_) (fun h10 => ?_)
    · replace hf := gpos hf h10
      refine lv_iconst (v := iI 0) hx hb d_7_24_43 rfl ?_
      refine lv_istore_n (lv' := [(3, .int (iI 0)), (0, .ref (ad 5 l0 0)), (1, .ref (ad 6 l1 0)), (2, .int (iI l2))]) hx hb d_7_24_44 rfl hl (by decide) rfl (fun ls hl => ?_)
      exact b_Performance_playOn_45 X hf hZ hS (lv_sub hl [0, 1, 3] rfl)
    · replace hf := gneg hf h10
      refine lv_aload_n hx hb d_7_24_30 rfl (lv_at hl 1 rfl) ?_
      refine lv_aload_n hx hb d_7_24_31 rfl (lv_at hl 2 rfl) ?_
      refine lv_iload_n hx hb d_7_24_32 rfl (lv_at hl 0 rfl) ?_
      refine lv_iload_n hx hb d_7_24_33 rfl (lv_at hl 3 rfl) ?_
      obtain ⟨r11, F11, B11, hc11, hf⟩ := gbind hf
      refine va_callv (va_runV (As := [.ref (ad 6 l1 0), .int (iI l3), .int (iI l2)]) (rest := []) ⟨hx, hb, hml, hown, hts⟩ (c_Performance_mixSound (l := l) hc11) (cwV 3 hts (gdV k_9_2 k_9_4 ks_123 k_1_20 k_9_5) rfl rfl rfl (by decide +kernel) ⟨Nat.le_of_ble_eq_true rfl, Nat.le_of_ble_eq_true rfl⟩) (zPV X hZ hS (ci := 5) g7.1 g7.2 (r := (RX5, TX5, 14)) rfl [.ref (ad 6 l1 0), .int (iI l3), .int (iI l2)]) rfl rfl hl.1 rfl (lv_room (Nat.le_of_ble_eq_true rfl)) d_7_24_34 ⟨Nat.le_of_ble_eq_true rfl, Nat.le_of_ble_eq_true rfl⟩) hS (fun q _ h => zAin X hS q h) (zAin X hS) (fun u11 t11 H11 locs11 ht11 hv11 hw11 hB11 hz11 hk11 hS11 => ?_)
      have hZ11 := zBack X ht11 hB11
      refine lv_iinc (v := iI (l3 + 1)) (lv' := [(3, .int (iI (l3 + 1))), (0, .ref (ad 5 l0 0)), (1, .ref (ad 6 l1 0)), (2, .int (iI l2))]) hx hb d_7_24_37 hl (k := 0) rfl (iI_add _ 1) (by decide) rfl (fun ls hl => ?_)
      refine lv_goto (tgt := 22) hx hb d_7_24_40 (by decide) ?_
      exact ih hf hZ11 hS11 (lv_sub hl [0, 1, 2, 3] rfl)

noncomputable def f_Performance_playOn_2 (K : zK) : Nat → Int → Int → Int → Int → zF → zB → zO
  | 0, _, _, _, _, _, _ => none
  | n + 1, l3, l0, l1, l2, F, B => if r32 l3 then if r32 l2 then (if l2 ≤ l3 then f_Performance_playOn_22 K K.1 0 l0 l1 l2 F B else if 0 ≤ l0 ∧ l0 < K.2 5 then if 0 ≤ l3 ∧ l3 < 1000 then f_Performance_playOn_2 K n (l3 + 1) l0 l1 l2 F (zup4 B 5 l0 6 l3 0) else none else none) else none else none
set_option maxHeartbeats 4000000 in
set_option maxRecDepth 100000 in
theorem b_Performance_playOn_2 {D : va_G} {ca : Nat → ClassId} {ad : Nat → Int → Nat → Nat} {L : List Nat} {aS vS : Nat → Nat} {A : Nat → Prop} {p : Program} {l : Launch} {e : Env} {s : State} {m : MethodId} {args : Array Value} {below : List Frame} {meth : Method} {c : Code} {K : zK} {r : Int} {F9 : zF} {B9 : zB} (X : zX D ca L aS vS A p s m args meth c prog_7_method_24_code 5 (Option.some Jvm.ClassFile.FieldType.int) "StaveHouse$Performance") : ∀ {n : Nat} {l3 : Int} {l0 : Int} {l1 : Int} {l2 : Int} {F : zF} {B : zB} {H : Heap} {locs : List Loc} {ls : Array Slot}, f_Performance_playOn_2 K n l3 l0 l1 l2 F B = some (r, F9, B9) → zH D ca ad lnC K.2 L F B A H → va_S A s.heap H locs → lv_has ls 5 [(3, .int (iI l3)), (0, .ref (ad 5 l0 0)), (1, .ref (ad 6 l1 0)), (2, .int (iI l2))] → W p l e ({ frames := 4, cells := 0, slots := 0, locals := 88 } : Room) s m args below meth c H locs 0 0 (MQ below (Q_Performance_playOn K D ca ad L r F9 B9 A) args s 0 0 A) (F0 m 2 ls []) := by
  obtain ⟨hx, hb, hr, hml, hown, hts, hlk, hK, hA, hL, hX⟩ := id X
  intro n
  induction n with
  | zero =>
    intros
    rename_i hf _ _ _
    cases hf
  | succ n ih =>
    intro l3 l0 l1 l2 F B H locs ls hf hZ hS hl
    replace hf : (if r32 l3 then if r32 l2 then (if l2 ≤ l3 then f_Performance_playOn_22 K K.1 0 l0 l1 l2 F B else if 0 ≤ l0 ∧ l0 < K.2 5 then if 0 ≤ l3 ∧ l3 < 1000 then f_Performance_playOn_2 K n (l3 + 1) l0 l1 l2 F (zup4 B 5 l0 6 l3 0) else none else none) else none else none) = some (r, F9, B9) := hf
    refine lv_iload_n hx hb d_7_24_2 rfl (lv_at hl 0 rfl) ?_
    refine lv_iload_n hx hb d_7_24_3 rfl (lv_at hl 3 rfl) ?_
    obtain ⟨g1, hf⟩ := gif hf
    obtain ⟨g2, hf⟩ := gif hf
    refine zge (tgt := 20) hx hb g1 g2 d_7_24_4 (by decide) (fun h3 => ?_) (fun h3 => ?_)
    · replace hf := gpos hf h3
      refine lv_iconst (v := iI 0) hx hb d_7_24_20 rfl ?_
      refine lv_istore_n (lv' := [(3, .int (iI 0)), (0, .ref (ad 5 l0 0)), (1, .ref (ad 6 l1 0)), (2, .int (iI l2))]) hx hb d_7_24_21 rfl hl (by decide) rfl (fun ls hl => ?_)
      exact b_Performance_playOn_22 X hf hZ hS (lv_sub hl [0, 1, 2, 3] rfl)
    · replace hf := gneg hf h3
      refine lv_aload_n hx hb d_7_24_7 rfl (lv_at hl 1 rfl) ?_
      obtain ⟨g4, hf⟩ := gif hf
      refine zget (ci := 5) (C := RX5) (T := TX5) (v := .ref (ad 5 l0 (6 + 1))) (k := 6) hx hb hts inW_5 hown hK hZ g4.1 g4.2 rfl (by decide) k_6_75 rfl d_7_24_8 ?_
      refine lv_iload_n hx hb d_7_24_11 rfl (lv_at hl 0 rfl) ?_
      refine lv_iconst (v := iI 0) hx hb d_7_24_12 rfl ?_
      obtain ⟨g5, hf⟩ := gif hf
      refine zast (ci := 5) (k := 6) hx hb hK rfl hZ hS g4.1 g4.2 rfl (Nat.le_of_ble_eq_true rfl) g5.1 g5.2 d_7_24_13 (fun H6 locs6 hZ6 hS6 => ?_)
      refine lv_iinc (v := iI (l3 + 1)) (lv' := [(3, .int (iI (l3 + 1))), (0, .ref (ad 5 l0 0)), (1, .ref (ad 6 l1 0)), (2, .int (iI l2))]) hx hb d_7_24_14 hl (k := 0) rfl (iI_add _ 1) (by decide) rfl (fun ls hl => ?_)
      refine lv_goto (tgt := 2) hx hb d_7_24_17 (by decide) ?_
      exact ih hf hZ6 hS6 (lv_sub hl [0, 1, 2, 3] rfl)

noncomputable def f_Performance_playOn (K : zK) (l0 : Int) (l1 : Int) (l2 : Int) (F : zF) (B : zB) : zO := f_Performance_playOn_2 K K.1 0 l0 l1 l2 F B
set_option maxHeartbeats 4000000 in
set_option maxRecDepth 100000 in
theorem c_Performance_playOn {l : Launch} {D : va_G} {ca : Nat → ClassId} {ad : Nat → Int → Nat → Nat} {L : List Nat} {aS vS : Nat → Nat} {sz : Nat} {K : zK}  {l0 : Int} {l1 : Int} {l2 : Int} {F F9 : zF} {B B9 : zB} {r : Int} (hf : f_Performance_playOn K l0 l1 l2 F B = some (r, F9, B9)) : Met l ({ cls := "StaveHouse$Performance", name := "playOn", desc := "(LStaveHouse$Piece;I)I" } : Jvm.MethodName) (Cond.code ({ cls := "StaveHouse$Performance", name := "playOn", desc := "(LStaveHouse$Piece;I)I" } : Jvm.MethodName) prog_7_method_24_code 5 (Option.some Jvm.ClassFile.FieldType.int) :: wAll) ({ frames := 4, cells := 0, slots := 0, locals := 88 } : Room) (va_Pc [.ref (ad 5 l0 0), .ref (ad 6 l1 0), .int (iI l2)] (zPre D ca ad lnC K.2 L aS vS F B sz)) (Q_Performance_playOn K D ca ad L r F9 B9 (zA L sz)) 0 0 (zA L sz) := by
  refine zMet (Qc := Q_Performance_playOn K D ca ad L r F9 B9) (lv := [(0, .ref (ad 5 l0 0)), (1, .ref (ad 6 l1 0)), (2, .int (iI l2))]) (by decide) (Nat.le_of_ble_eq_true rfl) rfl (fun A p e s m below meth c ls X hZ hS hl => ?_)
  obtain ⟨hx, hb, hr, hml, hown, hts, hlk, hK, hA, hL, hX⟩ := id X
  replace hf : (f_Performance_playOn_2 K K.1 0 l0 l1 l2 F B) = some (r, F9, B9) := hf
  refine lv_iconst (v := iI 0) hx hb d_7_24_0 rfl ?_
  refine lv_istore_n (lv' := [(3, .int (iI 0)), (0, .ref (ad 5 l0 0)), (1, .ref (ad 6 l1 0)), (2, .int (iI l2))]) hx hb d_7_24_1 rfl hl (by decide) rfl (fun ls hl => ?_)
  exact b_Performance_playOn_2 X hf hZ hS (lv_sub hl [0, 1, 2, 3] rfl)

noncomputable abbrev Q_Study_chordTold (K : zK) (D : va_G) (ca : Nat → ClassId) (ad : Nat → Int → Nat → Nat) (L : List Nat) (r : Int) (F : zF) (B : zB) (A : Nat → Prop) : Array Value → State → Outcome → State → Prop := va_Ql (S := Unit) (fun p _ => p = lI r) (fun _ => zPo D ca ad lnC K.2 L F B A) A
noncomputable def f_Study_chordTold_189 (K : zK) (s0 : Int) (F : zF) (B : zB) : zO := some (s0, F, B)
set_option maxHeartbeats 4000000 in
set_option maxRecDepth 100000 in
theorem b_Study_chordTold_189 {D : va_G} {ca : Nat → ClassId} {ad : Nat → Int → Nat → Nat} {L : List Nat} {aS vS : Nat → Nat} {A : Nat → Prop} {p : Program} {l : Launch} {e : Env} {s : State} {m : MethodId} {args : Array Value} {below : List Frame} {meth : Method} {c : Code} {K : zK} {r : Int} {F9 : zF} {B9 : zB} (X : zX D ca L aS vS A p s m args meth c prog_11_method_12_code 7 (Option.some Jvm.ClassFile.FieldType.long) "StaveHouse$Study") {s0 : Int} {F : zF} {B : zB} {H : Heap} {locs : List Loc} {ls : Array Slot} (hf : f_Study_chordTold_189 K s0 F B = some (r, F9, B9)) (hZ : zH D ca ad lnC K.2 L F B A H) (hS : va_S A s.heap H locs) (hl : lv_has ls 7 []) : W p l e ({ frames := 4, cells := 0, slots := 0, locals := 91 } : Room) s m args below meth c H locs 0 0 (MQ below (Q_Study_chordTold K D ca ad L r F9 B9 A) args s 0 0 A) (F0 m 189 ls [.long (lI s0)]) := by
  obtain ⟨hx, hb, hr, hml, hown, hts, hlk, hK, hA, hL, hX⟩ := id X
  replace hf : (some (s0, F, B)) = some (r, F9, B9) := hf
  cases hf
  exact W.lret hx hb hr (fun t ht hW => ⟨⟨_, (), rfl, rfl, by rw [ht]; exact hZ, va_K.moved hW.alike hK⟩, hS.F ht⟩) hS.2.2 d_11_12_189 hlk

noncomputable def f_Study_chordTold_89 (K : zK) (s0 : Int) (F : zF) (B : zB) : zO := some (s0, F, B)
