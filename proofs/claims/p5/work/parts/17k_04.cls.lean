set_option maxHeartbeats 4000000 in
set_option maxRecDepth 100000 in
theorem b_Study_chordTold_89 {D : va_G} {ca : Nat → ClassId} {ad : Nat → Int → Nat → Nat} {L : List Nat} {aS vS : Nat → Nat} {A : Nat → Prop} {p : Program} {l : Launch} {e : Env} {s : State} {m : MethodId} {args : Array Value} {below : List Frame} {meth : Method} {c : Code} {K : zK} {r : Int} {F9 : zF} {B9 : zB} (X : zX D ca L aS vS A p s m args meth c prog_11_method_12_code 7 (Option.some Jvm.ClassFile.FieldType.long) "StaveHouse$Study") {s0 : Int} {F : zF} {B : zB} {H : Heap} {locs : List Loc} {ls : Array Slot} (hf : f_Study_chordTold_89 K s0 F B = some (r, F9, B9)) (hZ : zH D ca ad lnC K.2 L F B A H) (hS : va_S A s.heap H locs) (hl : lv_has ls 7 []) : W p l e ({ frames := 4, cells := 0, slots := 0, locals := 91 } : Room) s m args below meth c H locs 0 0 (MQ below (Q_Study_chordTold K D ca ad L r F9 B9 A) args s 0 0 A) (F0 m 89 ls [.long (lI s0)]) := by
  obtain ⟨hx, hb, hr, hml, hown, hts, hlk, hK, hA, hL, hX⟩ := id X
  replace hf : (some (s0, F, B)) = some (r, F9, B9) := hf
  cases hf
  exact W.lret hx hb hr (fun t ht hW => ⟨⟨_, (), rfl, rfl, by rw [ht]; exact hZ, va_K.moved hW.alike hK⟩, hS.F ht⟩) hS.2.2 d_11_12_89 hlk

noncomputable def f_Study_chordTold_54 (rec15 : Int → Int → Int → Int → Int → Int → Int → zF → zB → zO) (K : zK) (l4 : Int) (l6 : Int) (l0 : Int) (l1 : Int) (l2 : Int) (l3 : Int) (s0 : Int) (F : zF) (B : zB) : zO := rec15 (l6 + 1) s0 l4 l0 l1 l2 l3 F B
set_option maxHeartbeats 4000000 in
set_option maxRecDepth 100000 in
theorem b_Study_chordTold_54 {D : va_G} {ca : Nat → ClassId} {ad : Nat → Int → Nat → Nat} {L : List Nat} {aS vS : Nat → Nat} {A : Nat → Prop} {p : Program} {l : Launch} {e : Env} {s : State} {m : MethodId} {args : Array Value} {below : List Frame} {meth : Method} {c : Code} {K : zK} {r : Int} {F9 : zF} {B9 : zB} (X : zX D ca L aS vS A p s m args meth c prog_11_method_12_code 7 (Option.some Jvm.ClassFile.FieldType.long) "StaveHouse$Study") {rec15 : Int → Int → Int → Int → Int → Int → Int → zF → zB → zO} (hrec15 : ∀ {l6 : Int} {l5 : Int} {l4 : Int} {l0 : Int} {l1 : Int} {l2 : Int} {l3 : Int} {F : zF} {B : zB} {H : Heap} {locs : List Loc} {ls : Array Slot}, rec15 l6 l5 l4 l0 l1 l2 l3 F B = some (r, F9, B9) → zH D ca ad lnC K.2 L F B A H → va_S A s.heap H locs → lv_has ls 7 [(6, .int (iI l6)), (5, .int (iI l5)), (4, .int (iI l4)), (0, .ref (ad 9 l0 0)), (1, .ref (ad 6 l1 0)), (2, .int (iI l2)), (3, .int (iI l3))] → W p l e ({ frames := 4, cells := 0, slots := 0, locals := 91 } : Room) s m args below meth c H locs 0 0 (MQ below (Q_Study_chordTold K D ca ad L r F9 B9 A) args s 0 0 A) (F0 m 15 ls [])) {l4 : Int} {l6 : Int} {l0 : Int} {l1 : Int} {l2 : Int} {l3 : Int} {s0 : Int} {F : zF} {B : zB} {H : Heap} {locs : List Loc} {ls : Array Slot} (hf : f_Study_chordTold_54 rec15 K l4 l6 l0 l1 l2 l3 s0 F B = some (r, F9, B9)) (hZ : zH D ca ad lnC K.2 L F B A H) (hS : va_S A s.heap H locs) (hl : lv_has ls 7 [(4, .int (iI l4)), (6, .int (iI l6)), (0, .ref (ad 9 l0 0)), (1, .ref (ad 6 l1 0)), (2, .int (iI l2)), (3, .int (iI l3))]) : W p l e ({ frames := 4, cells := 0, slots := 0, locals := 91 } : Room) s m args below meth c H locs 0 0 (MQ below (Q_Study_chordTold K D ca ad L r F9 B9 A) args s 0 0 A) (F0 m 54 ls [.int (iI s0)]) := by
  obtain ⟨hx, hb, hr, hml, hown, hts, hlk, hK, hA, hL, hX⟩ := id X
  replace hf : (rec15 (l6 + 1) s0 l4 l0 l1 l2 l3 F B) = some (r, F9, B9) := hf
  refine lv_istore (lv' := [(5, .int (iI s0)), (4, .int (iI l4)), (6, .int (iI l6)), (0, .ref (ad 9 l0 0)), (1, .ref (ad 6 l1 0)), (2, .int (iI l2)), (3, .int (iI l3))]) hx hb d_11_12_54 hl (by decide) rfl (fun ls hl => ?_)
  refine lv_iinc (v := iI (l6 + 1)) (lv' := [(6, .int (iI (l6 + 1))), (5, .int (iI s0)), (4, .int (iI l4)), (0, .ref (ad 9 l0 0)), (1, .ref (ad 6 l1 0)), (2, .int (iI l2)), (3, .int (iI l3))]) hx hb d_11_12_56 hl (k := 2) rfl (iI_add _ 1) (by decide) rfl (fun ls hl => ?_)
  refine lv_goto (tgt := 15) hx hb d_11_12_59 (by decide) ?_
  exact hrec15 hf hZ hS (lv_sub hl [0, 1, 2, 3, 4, 5, 6] rfl)

noncomputable def f_Study_chordTold_15 (K : zK) : Nat → Int → Int → Int → Int → Int → Int → Int → zF → zB → zO
  | 0, _, _, _, _, _, _, _, _, _ => none
  | n + 1, l6, l5, l4, l0, l1, l2, l3, F, B => if r32 l6 then (if 7 ≤ l6 then if r32 l3 then (if l3 = 2 then if r32 l4 then some (l4, F, B) else none else if r32 l5 then (if l5 = (-1) then (if l3 = 3 then f_Study_chordTold_89 K (-1) F B else f_Study_chordTold_89 K 0 F B) else (if l3 = 3 then if 0 ≤ l0 ∧ l0 < K.2 9 then zbind (f_Study_chordKind K l0 l5 F B) (fun r11 F11 B11 => if r32 r11 then some (r11, F11, B11) else none) else none else (if l3 = 4 then some (l5, F, B) else (if l3 = 5 then if 0 ≤ l0 ∧ l0 < K.2 9 then zbind (f_Study_alterationOf K l0 l5 F B) (fun r16 F16 B16 => if r32 r16 then some (r16, F16, B16) else none) else none else (if l3 = 6 then if 0 ≤ l0 ∧ l0 < K.2 9 then zbind (f_Study_bassLetter K l0 l1 l2 F B) (fun r20 F20 B20 => zbind (f_Math_floorMod K (r20 - l5) 7 F20 B20) (fun r21 F21 B21 => if r32 (zdv r21 2) then some (zdv r21 2, F21, B21) else none)) else none else (if l3 = 7 then zbind (f_Study_tonic K l1 F B) (fun r24 F24 B24 => zbind (f_Math_floorMod K (l5 - r24) 7 F24 B24) (fun r25 F25 B25 => if r32 r25 then some (r25, F25, B25) else none)) else if 0 ≤ l0 ∧ l0 < K.2 9 then zbind (f_Study_isForeign K l0 l1 F B) (fun r28 F28 B28 => if r32 r28 then (if r28 = 0 then f_Study_chordTold_189 K 0 F28 B28 else f_Study_chordTold_189 K 1 F28 B28) else none) else none)))))) else none) else none else if 0 ≤ l0 ∧ l0 < K.2 9 then if 0 ≤ l6 ∧ l6 < 7 then zbind (f_Integer_bitCount K (B 9 l0 10 l6) F B) (fun r36 F36 B36 => zbind (f_Study_chordKind K l0 l6 F36 B36) (fun r37 F37 B37 => if r32 r37 then (if r37 = (-1) then f_Study_chordTold_54 (f_Study_chordTold_15 K n) K (l4 + r36) l6 l0 l1 l2 l3 l5 F37 B37 else f_Study_chordTold_54 (f_Study_chordTold_15 K n) K (l4 + r36) l6 l0 l1 l2 l3 l6 F37 B37) else none)) else none else none) else none
set_option maxHeartbeats 4000000 in
set_option maxRecDepth 100000 in
theorem b_Study_chordTold_15 {D : va_G} {ca : Nat → ClassId} {ad : Nat → Int → Nat → Nat} {L : List Nat} {aS vS : Nat → Nat} {A : Nat → Prop} {p : Program} {l : Launch} {e : Env} {s : State} {m : MethodId} {args : Array Value} {below : List Frame} {meth : Method} {c : Code} {K : zK} {r : Int} {F9 : zF} {B9 : zB} (X : zX D ca L aS vS A p s m args meth c prog_11_method_12_code 7 (Option.some Jvm.ClassFile.FieldType.long) "StaveHouse$Study") : ∀ {n : Nat} {l6 : Int} {l5 : Int} {l4 : Int} {l0 : Int} {l1 : Int} {l2 : Int} {l3 : Int} {F : zF} {B : zB} {H : Heap} {locs : List Loc} {ls : Array Slot}, f_Study_chordTold_15 K n l6 l5 l4 l0 l1 l2 l3 F B = some (r, F9, B9) → zH D ca ad lnC K.2 L F B A H → va_S A s.heap H locs → lv_has ls 7 [(6, .int (iI l6)), (5, .int (iI l5)), (4, .int (iI l4)), (0, .ref (ad 9 l0 0)), (1, .ref (ad 6 l1 0)), (2, .int (iI l2)), (3, .int (iI l3))] → W p l e ({ frames := 4, cells := 0, slots := 0, locals := 91 } : Room) s m args below meth c H locs 0 0 (MQ below (Q_Study_chordTold K D ca ad L r F9 B9 A) args s 0 0 A) (F0 m 15 ls []) := by
  obtain ⟨hx, hb, hr, hml, hown, hts, hlk, hK, hA, hL, hX⟩ := id X
  intro n
  induction n with
  | zero =>
    intros
    rename_i hf _ _ _
    cases hf
  | succ n ih =>
    intro l6 l5 l4 l0 l1 l2 l3 F B H locs ls hf hZ hS hl
    replace hf : (if r32 l6 then (if 7 ≤ l6 then if r32 l3 then (if l3 = 2 then if r32 l4 then some (l4, F, B) else none else if r32 l5 then (if l5 = (-1) then (if l3 = 3 then f_Study_chordTold_89 K (-1) F B else f_Study_chordTold_89 K 0 F B) else (if l3 = 3 then if 0 ≤ l0 ∧ l0 < K.2 9 then zbind (f_Study_chordKind K l0 l5 F B) (fun r11 F11 B11 => if r32 r11 then some (r11, F11, B11) else none) else none else (if l3 = 4 then some (l5, F, B) else (if l3 = 5 then if 0 ≤ l0 ∧ l0 < K.2 9 then zbind (f_Study_alterationOf K l0 l5 F B) (fun r16 F16 B16 => if r32 r16 then some (r16, F16, B16) else none) else none else (if l3 = 6 then if 0 ≤ l0 ∧ l0 < K.2 9 then zbind (f_Study_bassLetter K l0 l1 l2 F B) (fun r20 F20 B20 => zbind (f_Math_floorMod K (r20 - l5) 7 F20 B20) (fun r21 F21 B21 => if r32 (zdv r21 2) then some (zdv r21 2, F21, B21) else none)) else none else (if l3 = 7 then zbind (f_Study_tonic K l1 F B) (fun r24 F24 B24 => zbind (f_Math_floorMod K (l5 - r24) 7 F24 B24) (fun r25 F25 B25 => if r32 r25 then some (r25, F25, B25) else none)) else if 0 ≤ l0 ∧ l0 < K.2 9 then zbind (f_Study_isForeign K l0 l1 F B) (fun r28 F28 B28 => if r32 r28 then (if r28 = 0 then f_Study_chordTold_189 K 0 F28 B28 else f_Study_chordTold_189 K 1 F28 B28) else none) else none)))))) else none) else none else if 0 ≤ l0 ∧ l0 < K.2 9 then if 0 ≤ l6 ∧ l6 < 7 then zbind (f_Integer_bitCount K (B 9 l0 10 l6) F B) (fun r36 F36 B36 => zbind (f_Study_chordKind K l0 l6 F36 B36) (fun r37 F37 B37 => if r32 r37 then (if r37 = (-1) then f_Study_chordTold_54 (f_Study_chordTold_15 K n) K (l4 + r36) l6 l0 l1 l2 l3 l5 F37 B37 else f_Study_chordTold_54 (f_Study_chordTold_15 K n) K (l4 + r36) l6 l0 l1 l2 l3 l6 F37 B37) else none)) else none else none) else none) = some (r, F9, B9) := hf
    refine lv_iload hx hb d_11_12_15 (lv_at hl 0 rfl) ?_
    refine lv_bipush (v := iI 7) hx hb d_11_12_17 (by decide) ?_
    obtain ⟨g3, hf⟩ := gif hf
    refine zge (tgt := 62) hx hb g3 (by decide) d_11_12_19 (by decide) (fun h4 => ?_) (fun h4 => ?_)
    · replace hf := gpos hf h4
      refine lv_iload_n hx hb d_11_12_62 rfl (lv_at hl 6 rfl) ?_
      refine lv_iconst (v := iI 2) hx hb d_11_12_63 rfl ?_
      obtain ⟨g5, hf⟩ := gif hf
      refine zne (tgt := 71) hx hb g5 (by decide) d_11_12_64 (by decide) (fun h6 => ?_) (fun h6 => ?_)
      · replace hf := gneg hf h6
        refine lv_iload hx hb d_11_12_71 (lv_at hl 1 rfl) ?_
        refine lv_iconst (v := iI (-1)) hx hb d_11_12_73 rfl ?_
        obtain ⟨g7, hf⟩ := gif hf
        refine zne (tgt := 90) hx hb g7 (by decide) d_11_12_74 (by decide) (fun h8 => ?_) (fun h8 => ?_)
        · replace hf := gneg hf h8
          refine lv_iload_n hx hb d_11_12_90 rfl (lv_at hl 6 rfl) ?_
          by_cases h9 : l3 = 3
          · replace hf := gpos hf h9
            refine lv_tableIn (off := 33) (tgt := 124) hx hb d_11_12_91 (by rw [iI_to g5, h9]; decide) (by rw [iI_to g5, h9]; decide) (by rw [iI_to g5, h9]; rfl) (by decide) ?_
            refine lv_aload_n hx hb d_11_12_124 rfl (lv_at hl 3 rfl) ?_
            refine lv_iload hx hb d_11_12_125 (lv_at hl 1 rfl) ?_
            obtain ⟨g10, hf⟩ := gif hf
            obtain ⟨r11, F11, B11, hc11, hf⟩ := gbind hf
            refine va_calli (va_runV (As := [.int (iI l5)]) (rest := []) ⟨hx, hb, hml, hown, hts⟩ (c_Study_chordKind (l := l) hc11) (cwV 1 hts (gdV k_9_48 k_9_50 ks_126 k_1_19 k_9_51) rfl rfl rfl (by decide +kernel) ⟨Nat.le_of_ble_eq_true rfl, Nat.le_of_ble_eq_true rfl⟩) (zPV X hZ hS (ci := 9) g10.1 g10.2 (r := (RX9, TX9, 11)) rfl [.int (iI l5)]) rfl rfl hl.1 rfl (lv_room (Nat.le_of_ble_eq_true rfl)) d_11_12_127 ⟨Nat.le_of_ble_eq_true rfl, Nat.le_of_ble_eq_true rfl⟩) hS (fun q _ h => zAin X hS q h) (zAin X hS) (fun p11 u11 t11 H11 locs11 ht11 hv11 hw11 hB11 hz11 hk11 hS11 => ?_)
            have hZ11 := zBack X ht11 hB11
            subst hw11
            obtain ⟨g12, hf⟩ := gif hf
            refine zi2l hx hb g12 d_11_12_130 ?_
            cases hf
            exact W.lret hx hb hr (fun t ht hW => ⟨⟨_, (), rfl, rfl, by rw [ht]; exact hZ11, va_K.moved hW.alike hK⟩, hS11.F ht⟩) hS11.2.2 d_11_12_131 hlk
          replace hf := gneg hf h9
          by_cases h13 : l3 = 4
          · replace hf := gpos hf h13
            refine lv_tableIn (off := 41) (tgt := 132) hx hb d_11_12_91 (by rw [iI_to g5, h13]; decide) (by rw [iI_to g5, h13]; decide) (by rw [iI_to g5, h13]; rfl) (by decide) ?_
            refine lv_iload hx hb d_11_12_132 (lv_at hl 1 rfl) ?_
            refine zi2l hx hb g7 d_11_12_134 ?_
            cases hf
            exact W.lret hx hb hr (fun t ht hW => ⟨⟨_, (), rfl, rfl, by rw [ht]; exact hZ, va_K.moved hW.alike hK⟩, hS.F ht⟩) hS.2.2 d_11_12_135 hlk
          replace hf := gneg hf h13
          by_cases h14 : l3 = 5
          · replace hf := gpos hf h14
            refine lv_tableIn (off := 45) (tgt := 136) hx hb d_11_12_91 (by rw [iI_to g5, h14]; decide) (by rw [iI_to g5, h14]; decide) (by rw [iI_to g5, h14]; rfl) (by decide) ?_
            refine lv_aload_n hx hb d_11_12_136 rfl (lv_at hl 3 rfl) ?_
            refine lv_iload hx hb d_11_12_137 (lv_at hl 1 rfl) ?_
            obtain ⟨g15, hf⟩ := gif hf
            obtain ⟨r16, F16, B16, hc16, hf⟩ := gbind hf
            refine va_calli (va_runV (As := [.int (iI l5)]) (rest := []) ⟨hx, hb, hml, hown, hts⟩ (c_Study_alterationOf (l := l) hc16) (cwV 1 hts (gdV k_9_57 k_9_59 ks_128 k_1_19 k_9_60) rfl rfl rfl (by decide +kernel) ⟨Nat.le_of_ble_eq_true rfl, Nat.le_of_ble_eq_true rfl⟩) (zPV X hZ hS (ci := 9) g15.1 g15.2 (r := (RX9, TX9, 11)) rfl [.int (iI l5)]) rfl rfl hl.1 rfl (lv_room (Nat.le_of_ble_eq_true rfl)) d_11_12_139 ⟨Nat.le_of_ble_eq_true rfl, Nat.le_of_ble_eq_true rfl⟩) hS (fun q _ h => zAin X hS q h) (zAin X hS) (fun p16 u16 t16 H16 locs16 ht16 hv16 hw16 hB16 hz16 hk16 hS16 => ?_)
            have hZ16 := zBack X ht16 hB16
            subst hw16
            obtain ⟨g17, hf⟩ := gif hf
            refine zi2l hx hb g17 d_11_12_142 ?_
            cases hf
            exact W.lret hx hb hr (fun t ht hW => ⟨⟨_, (), rfl, rfl, by rw [ht]; exact hZ16, va_K.moved hW.alike hK⟩, hS16.F ht⟩) hS16.2.2 d_11_12_143 hlk
          replace hf := gneg hf h14
          by_cases h18 : l3 = 6
          · replace hf := gpos hf h18
            refine lv_tableIn (off := 53) (tgt := 144) hx hb d_11_12_91 (by rw [iI_to g5, h18]; decide) (by rw [iI_to g5, h18]; decide) (by rw [iI_to g5, h18]; rfl) (by decide) ?_
            refine lv_aload_n hx hb d_11_12_144 rfl (lv_at hl 3 rfl) ?_
            refine lv_aload_n hx hb d_11_12_145 rfl (lv_at hl 4 rfl) ?_
            refine lv_iload_n hx hb d_11_12_146 rfl (lv_at hl 5 rfl) ?_
            obtain ⟨g19, hf⟩ := gif hf
            obtain ⟨r20, F20, B20, hc20, hf⟩ := gbind hf
            refine va_calli (va_runV (As := [.ref (ad 6 l1 0), .int (iI l2)]) (rest := []) ⟨hx, hb, hml, hown, hts⟩ (c_Study_bassLetter (l := l) hc20) (cwV 2 hts (gdV k_9_65 k_9_67 ks_129 k_1_19 k_9_68) rfl rfl rfl (by decide +kernel) ⟨Nat.le_of_ble_eq_true rfl, Nat.le_of_ble_eq_true rfl⟩) (zPV X hZ hS (ci := 9) g19.1 g19.2 (r := (RX9, TX9, 11)) rfl [.ref (ad 6 l1 0), .int (iI l2)]) rfl rfl hl.1 rfl (lv_room (Nat.le_of_ble_eq_true rfl)) d_11_12_147 ⟨Nat.le_of_ble_eq_true rfl, Nat.le_of_ble_eq_true rfl⟩) hS (fun q _ h => zAin X hS q h) (zAin X hS) (fun p20 u20 t20 H20 locs20 ht20 hv20 hw20 hB20 hz20 hk20 hS20 => ?_)
            have hZ20 := zBack X ht20 hB20
            subst hw20
            refine lv_iload hx hb d_11_12_150 (lv_at hl 1 rfl) ?_
            refine zsub hx hb d_11_12_152 ?_
            refine lv_bipush (v := iI 7) hx hb d_11_12_153 (by decide) ?_
            obtain ⟨r21, F21, B21, hc21, hf⟩ := gbind hf
            refine va_calli (va_runS (As := [.int (iI (r20 - l5)), .int (iI 7)]) (rest := []) ⟨hx, hb, hml, hown, hts⟩ (c_Math_floorMod (l := l) hc21) (va_cwS 2 hts (gdS k_6_38 k_4_71 k_1_3 k_4_72) rfl rfl rfl (by decide +kernel) ⟨Nat.le_of_ble_eq_true rfl, Nat.le_of_ble_eq_true rfl⟩) (zPS X hZ20 hS20 [.int (iI (r20 - l5)), .int (iI 7)]) rfl rfl hl.1 rfl (lv_room (Nat.le_of_ble_eq_true rfl)) d_11_12_155 ⟨Nat.le_of_ble_eq_true rfl, Nat.le_of_ble_eq_true rfl⟩) hS20 (fun q _ h => zAin X hS20 q h) (zAin X hS20) (fun p21 u21 t21 H21 locs21 ht21 hv21 hw21 hB21 hz21 hk21 hS21 => ?_)
            have hZ21 := zBack X ht21 hB21
            subst hw21
            refine lv_iconst (v := iI 2) hx hb d_11_12_158 rfl ?_
            refine zdv_r hx hb (by decide) d_11_12_159 ?_
            obtain ⟨g22, hf⟩ := gif hf
            refine zi2l hx hb g22 d_11_12_160 ?_
            cases hf
            exact W.lret hx hb hr (fun t ht hW => ⟨⟨_, (), rfl, rfl, by rw [ht]; exact hZ21, va_K.moved hW.alike hK⟩, hS21.F ht⟩) hS21.2.2 d_11_12_161 hlk
          replace hf := gneg hf h18
          by_cases h23 : l3 = 7
          · replace hf := gpos hf h23
            refine lv_tableIn (off := 71) (tgt := 162) hx hb d_11_12_91 (by rw [iI_to g5, h23]; decide) (by rw [iI_to g5, h23]; decide) (by rw [iI_to g5, h23]; rfl) (by decide) ?_
            refine lv_iload hx hb d_11_12_162 (lv_at hl 1 rfl) ?_
            refine lv_aload_n hx hb d_11_12_164 rfl (lv_at hl 4 rfl) ?_
            obtain ⟨r24, F24, B24, hc24, hf⟩ := gbind hf
            refine va_calli (va_runS (As := [.ref (ad 6 l1 0)]) (rest := [.int (iI l5)]) ⟨hx, hb, hml, hown, hts⟩ (c_Study_tonic (l := l) hc24) (va_cwS 1 hts (gdS k_9_69 k_9_70 k_1_19 k_9_71) rfl rfl rfl (by decide +kernel) ⟨Nat.le_of_ble_eq_true rfl, Nat.le_of_ble_eq_true rfl⟩) (zPS X hZ hS [.ref (ad 6 l1 0)]) rfl rfl hl.1 rfl (lv_room (Nat.le_of_ble_eq_true rfl)) d_11_12_165 ⟨Nat.le_of_ble_eq_true rfl, Nat.le_of_ble_eq_true rfl⟩) hS (fun q _ h => zAin X hS q h) (zAin X hS) (fun p24 u24 t24 H24 locs24 ht24 hv24 hw24 hB24 hz24 hk24 hS24 => ?_)
            have hZ24 := zBack X ht24 hB24
            subst hw24
            refine zsub hx hb d_11_12_168 ?_
            refine lv_bipush (v := iI 7) hx hb d_11_12_169 (by decide) ?_
            obtain ⟨r25, F25, B25, hc25, hf⟩ := gbind hf
            refine va_calli (va_runS (As := [.int (iI (l5 - r24)), .int (iI 7)]) (rest := []) ⟨hx, hb, hml, hown, hts⟩ (c_Math_floorMod (l := l) hc25) (va_cwS 2 hts (gdS k_6_38 k_4_71 k_1_3 k_4_72) rfl rfl rfl (by decide +kernel) ⟨Nat.le_of_ble_eq_true rfl, Nat.le_of_ble_eq_true rfl⟩) (zPS X hZ24 hS24 [.int (iI (l5 - r24)), .int (iI 7)]) rfl rfl hl.1 rfl (lv_room (Nat.le_of_ble_eq_true rfl)) d_11_12_171 ⟨Nat.le_of_ble_eq_true rfl, Nat.le_of_ble_eq_true rfl⟩) hS24 (fun q _ h => zAin X hS24 q h) (zAin X hS24) (fun p25 u25 t25 H25 locs25 ht25 hv25 hw25 hB25 hz25 hk25 hS25 => ?_)
            have hZ25 := zBack X ht25 hB25
            subst hw25
            obtain ⟨g26, hf⟩ := gif hf
            refine zi2l hx hb g26 d_11_12_174 ?_
            cases hf
            exact W.lret hx hb hr (fun t ht hW => ⟨⟨_, (), rfl, rfl, by rw [ht]; exact hZ25, va_K.moved hW.alike hK⟩, hS25.F ht⟩) hS25.2.2 d_11_12_175 hlk
          replace hf := gneg hf h23
          refine lv_tableOut (tgt := 176) hx hb d_11_12_91 (by rw [iI_to g5]; omega) (by decide) ?_
          refine lv_aload_n hx hb d_11_12_176 rfl (lv_at hl 3 rfl) ?_
          refine lv_aload_n hx hb d_11_12_177 rfl (lv_at hl 4 rfl) ?_
          obtain ⟨g27, hf⟩ := gif hf
          obtain ⟨r28, F28, B28, hc28, hf⟩ := gbind hf
          refine va_calli (va_runV (As := [.ref (ad 6 l1 0)]) (rest := []) ⟨hx, hb, hml, hown, hts⟩ (c_Study_isForeign (l := l) hc28) (cwV 1 hts (gdV k_9_72 k_9_74 ks_130 k_1_19 k_9_75) rfl rfl rfl (by decide +kernel) ⟨Nat.le_of_ble_eq_true rfl, Nat.le_of_ble_eq_true rfl⟩) (zPV X hZ hS (ci := 9) g27.1 g27.2 (r := (RX9, TX9, 11)) rfl [.ref (ad 6 l1 0)]) rfl rfl hl.1 rfl (lv_room (Nat.le_of_ble_eq_true rfl)) d_11_12_178 ⟨Nat.le_of_ble_eq_true rfl, Nat.le_of_ble_eq_true rfl⟩) hS (fun q _ h => zAin X hS q h) (zAin X hS) (fun p28 u28 t28 H28 locs28 ht28 hv28 hw28 hB28 hz28 hk28 hS28 => ?_)
          have hZ28 := zBack X ht28 hB28
          subst hw28
          obtain ⟨g29, hf⟩ := gif hf
          refine z0eq (tgt := 188) hx hb g29 d_11_12_181 (by decide) (fun h30 => ?_) (fun h30 => ?_)
          · replace hf := gpos hf h30
            refine lv_lconst (v := lI 0) hx hb d_11_12_188 (by decide) ?_
            exact b_Study_chordTold_189 X hf hZ28 hS28 (lv_sub hl [] rfl)
          · replace hf := gneg hf h30
            refine lv_lconst (v := lI 1) hx hb d_11_12_184 (by decide) ?_
            refine lv_goto (tgt := 189) hx hb d_11_12_185 (by decide) ?_
            exact b_Study_chordTold_189 X hf hZ28 hS28 (lv_sub hl [] rfl)
        · replace hf := gpos hf h8
          refine lv_iload_n hx hb d_11_12_77 rfl (lv_at hl 6 rfl) ?_
          refine lv_iconst (v := iI 3) hx hb d_11_12_78 rfl ?_
          refine zne (tgt := 88) hx hb g5 (by decide) d_11_12_79 (by decide) (fun h31 => ?_) (fun h31 => ?_)
          · replace hf := gneg hf h31
            refine lv_lconst (v := lI 0) hx hb d_11_12_88 (by decide) ?_
            exact b_Study_chordTold_89 X hf hZ hS (lv_sub hl [] rfl)
          · replace hf := gpos hf h31
            refine lv_ldc2 hx hb hown (hts _ k_6_8) d_11_12_82 ?_
            refine W.eq (g2 := F0 m 85 ls [.long (lI (-1))]) rfl ?_
            refine lv_goto (tgt := 89) hx hb d_11_12_85 (by decide) ?_
            exact b_Study_chordTold_89 X hf hZ hS (lv_sub hl [] rfl)
      · replace hf := gpos hf h6
        refine lv_iload hx hb d_11_12_67 (lv_at hl 2 rfl) ?_
        obtain ⟨g33, hf⟩ := gif hf
        refine zi2l hx hb g33 d_11_12_69 ?_
        cases hf
        exact W.lret hx hb hr (fun t ht hW => ⟨⟨_, (), rfl, rfl, by rw [ht]; exact hZ, va_K.moved hW.alike hK⟩, hS.F ht⟩) hS.2.2 d_11_12_70 hlk
    · replace hf := gneg hf h4
      refine lv_iload hx hb d_11_12_22 (lv_at hl 2 rfl) ?_
      refine lv_aload_n hx hb d_11_12_24 rfl (lv_at hl 3 rfl) ?_
      obtain ⟨g34, hf⟩ := gif hf
      refine zget (ci := 9) (C := RX9) (T := TX9) (v := .ref (ad 9 l0 (10 + 1))) (k := 10) hx hb hts inW_9 hown hK hZ g34.1 g34.2 rfl (by decide) k_5_211 rfl d_11_12_25 ?_
      refine lv_iload hx hb d_11_12_28 (lv_at hl 0 rfl) ?_
      obtain ⟨g35, hf⟩ := gif hf
      refine zald (ci := 9) (k := 10) hx hb hK rfl hZ g34.1 g34.2 rfl (Nat.le_of_ble_eq_true rfl) g35.1 g35.2 d_11_12_30 ?_
      obtain ⟨r36, F36, B36, hc36, hf⟩ := gbind hf
      refine va_calli (va_runS (As := [.int (iI (B 9 l0 10 l6))]) (rest := [.int (iI l4)]) ⟨hx, hb, hml, hown, hts⟩ (c_Integer_bitCount (l := l) hc36) (va_cwS 1 hts (gdS k_9_47 k_7_170 k_1_22 k_7_171) rfl rfl rfl (by decide +kernel) ⟨Nat.le_of_ble_eq_true rfl, Nat.le_of_ble_eq_true rfl⟩) (zPS X hZ hS [.int (iI (B 9 l0 10 l6))]) rfl rfl hl.1 rfl (lv_room (Nat.le_of_ble_eq_true rfl)) d_11_12_31 ⟨Nat.le_of_ble_eq_true rfl, Nat.le_of_ble_eq_true rfl⟩) hS (fun q _ h => zAin X hS q h) (zAin X hS) (fun p36 u36 t36 H36 locs36 ht36 hv36 hw36 hB36 hz36 hk36 hS36 => ?_)
      have hZ36 := zBack X ht36 hB36
      subst hw36
      refine zadd hx hb d_11_12_34 ?_
      refine lv_istore (lv' := [(4, .int (iI (l4 + r36))), (6, .int (iI l6)), (5, .int (iI l5)), (0, .ref (ad 9 l0 0)), (1, .ref (ad 6 l1 0)), (2, .int (iI l2)), (3, .int (iI l3))]) hx hb d_11_12_35 hl (by decide) rfl (fun ls hl => ?_)
      refine lv_aload_n hx hb d_11_12_37 rfl (lv_at hl 3 rfl) ?_
      refine lv_iload hx hb d_11_12_38 (lv_at hl 1 rfl) ?_
      obtain ⟨r37, F37, B37, hc37, hf⟩ := gbind hf
      refine va_calli (va_runV (As := [.int (iI l6)]) (rest := []) ⟨hx, hb, hml, hown, hts⟩ (c_Study_chordKind (l := l) hc37) (cwV 1 hts (gdV k_9_48 k_9_50 ks_126 k_1_19 k_9_51) rfl rfl rfl (by decide +kernel) ⟨Nat.le_of_ble_eq_true rfl, Nat.le_of_ble_eq_true rfl⟩) (zPV X hZ36 hS36 (ci := 9) g34.1 g34.2 (r := (RX9, TX9, 11)) rfl [.int (iI l6)]) rfl rfl hl.1 rfl (lv_room (Nat.le_of_ble_eq_true rfl)) d_11_12_40 ⟨Nat.le_of_ble_eq_true rfl, Nat.le_of_ble_eq_true rfl⟩) hS36 (fun q _ h => zAin X hS36 q h) (zAin X hS36) (fun p37 u37 t37 H37 locs37 ht37 hv37 hw37 hB37 hz37 hk37 hS37 => ?_)
      have hZ37 := zBack X ht37 hB37
      subst hw37
      refine lv_iconst (v := iI (-1)) hx hb d_11_12_43 rfl ?_
      obtain ⟨g38, hf⟩ := gif hf
      refine zeq (tgt := 52) hx hb g38 (by decide) d_11_12_44 (by decide) (fun h39 => ?_) (fun h39 => ?_)
      · replace hf := gpos hf h39
        refine lv_iload hx hb d_11_12_52 (lv_at hl 2 rfl) ?_
        exact b_Study_chordTold_54 X ih hf hZ37 hS37 (lv_sub hl [0, 1, 3, 4, 5, 6] rfl)
      · replace hf := gneg hf h39
        refine lv_iload hx hb d_11_12_47 (lv_at hl 1 rfl) ?_
        refine lv_goto (tgt := 54) hx hb d_11_12_49 (by decide) ?_
        exact b_Study_chordTold_54 X ih hf hZ37 hS37 (lv_sub hl [0, 1, 3, 4, 5, 6] rfl)

noncomputable def f_Study_chordTold (K : zK) (l0 : Int) (l1 : Int) (l2 : Int) (l3 : Int) (F : zF) (B : zB) : zO := if 0 ≤ l0 ∧ l0 < K.2 9 then zbind (f_Study_takeClasses K l0 l1 l2 F B) (fun r2 F2 B2 => f_Study_chordTold_15 K K.1 0 (-1) 0 l0 l1 l2 l3 F2 B2) else none
set_option maxHeartbeats 4000000 in
set_option maxRecDepth 100000 in
theorem c_Study_chordTold {l : Launch} {D : va_G} {ca : Nat → ClassId} {ad : Nat → Int → Nat → Nat} {L : List Nat} {aS vS : Nat → Nat} {sz : Nat} {K : zK}  {l0 : Int} {l1 : Int} {l2 : Int} {l3 : Int} {F F9 : zF} {B B9 : zB} {r : Int} (hf : f_Study_chordTold K l0 l1 l2 l3 F B = some (r, F9, B9)) : Met l ({ cls := "StaveHouse$Study", name := "chordTold", desc := "(LStaveHouse$Piece;II)J" } : Jvm.MethodName) (Cond.code ({ cls := "StaveHouse$Study", name := "chordTold", desc := "(LStaveHouse$Piece;II)J" } : Jvm.MethodName) prog_11_method_12_code 7 (Option.some Jvm.ClassFile.FieldType.long) :: wAll) ({ frames := 4, cells := 0, slots := 0, locals := 91 } : Room) (va_Pc [.ref (ad 9 l0 0), .ref (ad 6 l1 0), .int (iI l2), .int (iI l3)] (zPre D ca ad lnC K.2 L aS vS F B sz)) (Q_Study_chordTold K D ca ad L r F9 B9 (zA L sz)) 0 0 (zA L sz) := by
  refine zMet (Qc := Q_Study_chordTold K D ca ad L r F9 B9) (lv := [(0, .ref (ad 9 l0 0)), (1, .ref (ad 6 l1 0)), (2, .int (iI l2)), (3, .int (iI l3))]) (by decide) (Nat.le_of_ble_eq_true rfl) rfl (fun A p e s m below meth c ls X hZ hS hl => ?_)
  obtain ⟨hx, hb, hr, hml, hown, hts, hlk, hK, hA, hL, hX⟩ := id X
  replace hf : (if 0 ≤ l0 ∧ l0 < K.2 9 then zbind (f_Study_takeClasses K l0 l1 l2 F B) (fun r2 F2 B2 => f_Study_chordTold_15 K K.1 0 (-1) 0 l0 l1 l2 l3 F2 B2) else none) = some (r, F9, B9) := hf
  refine lv_aload_n hx hb d_11_12_0 rfl (lv_at hl 0 rfl) ?_
  refine lv_aload_n hx hb d_11_12_1 rfl (lv_at hl 1 rfl) ?_
  refine lv_iload_n hx hb d_11_12_2 rfl (lv_at hl 2 rfl) ?_
  obtain ⟨g1, hf⟩ := gif hf
  obtain ⟨r2, F2, B2, hc2, hf⟩ := gbind hf
  refine va_callv (va_runV (As := [.ref (ad 6 l1 0), .int (iI l2)]) (rest := []) ⟨hx, hb, hml, hown, hts⟩ (c_Study_takeClasses (l := l) hc2) (cwV 2 hts (gdV k_9_43 k_9_45 ks_125 k_1_19 k_9_46) rfl rfl rfl (by decide +kernel) ⟨Nat.le_of_ble_eq_true rfl, Nat.le_of_ble_eq_true rfl⟩) (zPV X hZ hS (ci := 9) g1.1 g1.2 (r := (RX9, TX9, 11)) rfl [.ref (ad 6 l1 0), .int (iI l2)]) rfl rfl hl.1 rfl (lv_room (Nat.le_of_ble_eq_true rfl)) d_11_12_3 ⟨Nat.le_of_ble_eq_true rfl, Nat.le_of_ble_eq_true rfl⟩) hS (fun q _ h => zAin X hS q h) (zAin X hS) (fun u2 t2 H2 locs2 ht2 hv2 hw2 hB2 hz2 hk2 hS2 => ?_)
  have hZ2 := zBack X ht2 hB2
  refine lv_iconst (v := iI 0) hx hb d_11_12_6 rfl ?_
  refine lv_istore (lv' := [(4, .int (iI 0)), (0, .ref (ad 9 l0 0)), (1, .ref (ad 6 l1 0)), (2, .int (iI l2)), (3, .int (iI l3))]) hx hb d_11_12_7 hl (by decide) rfl (fun ls hl => ?_)
  refine lv_iconst (v := iI (-1)) hx hb d_11_12_9 rfl ?_
  refine lv_istore (lv' := [(5, .int (iI (-1))), (4, .int (iI 0)), (0, .ref (ad 9 l0 0)), (1, .ref (ad 6 l1 0)), (2, .int (iI l2)), (3, .int (iI l3))]) hx hb d_11_12_10 hl (by decide) rfl (fun ls hl => ?_)
  refine lv_iconst (v := iI 0) hx hb d_11_12_12 rfl ?_
  refine lv_istore (lv' := [(6, .int (iI 0)), (5, .int (iI (-1))), (4, .int (iI 0)), (0, .ref (ad 9 l0 0)), (1, .ref (ad 6 l1 0)), (2, .int (iI l2)), (3, .int (iI l3))]) hx hb d_11_12_13 hl (by decide) rfl (fun ls hl => ?_)
  exact b_Study_chordTold_15 X hf hZ2 hS2 (lv_sub hl [0, 1, 2, 3, 4, 5, 6] rfl)

noncomputable abbrev Q_Part_followedFor (K : zK) (D : va_G) (ca : Nat → ClassId) (ad : Nat → Int → Nat → Nat) (L : List Nat) (r : Int) (F : zF) (B : zB) (A : Nat → Prop) : Array Value → State → Outcome → State → Prop := va_Qi (S := Unit) (fun p _ => p = iI r) (fun _ => zPo D ca ad lnC K.2 L F B A) A
noncomputable def f_Part_followedFor_164 (K : zK) (l5 : Int) (F : zF) (B : zB) : zO := some (l5, F, B)
set_option maxHeartbeats 4000000 in
set_option maxRecDepth 100000 in
theorem b_Part_followedFor_164 {D : va_G} {ca : Nat → ClassId} {ad : Nat → Int → Nat → Nat} {L : List Nat} {aS vS : Nat → Nat} {A : Nat → Prop} {p : Program} {l : Launch} {e : Env} {s : State} {m : MethodId} {args : Array Value} {below : List Frame} {meth : Method} {c : Code} {K : zK} {r : Int} {F9 : zF} {B9 : zB} (X : zX D ca L aS vS A p s m args meth c prog_6_method_27_code 9 (Option.some Jvm.ClassFile.FieldType.int) "StaveHouse$Part") {l5 : Int} {F : zF} {B : zB} {H : Heap} {locs : List Loc} {ls : Array Slot} (hf : f_Part_followedFor_164 K l5 F B = some (r, F9, B9)) (hZ : zH D ca ad lnC K.2 L F B A H) (hS : va_S A s.heap H locs) (hl : lv_has ls 9 [(5, .int (iI l5))]) : W p l e ({ frames := 5, cells := 0, slots := 0, locals := 106 } : Room) s m args below meth c H locs 0 0 (MQ below (Q_Part_followedFor K D ca ad L r F9 B9 A) args s 0 0 A) (F0 m 164 ls []) := by
  obtain ⟨hx, hb, hr, hml, hown, hts, hlk, hK, hA, hL, hX⟩ := id X
  replace hf : (some (l5, F, B)) = some (r, F9, B9) := hf
  refine lv_iload hx hb d_6_27_164 (lv_at hl 0 rfl) ?_
  cases hf
  exact W.iret hx hb hr (fun t ht hW => ⟨⟨_, (), rfl, rfl, by rw [ht]; exact hZ, va_K.moved hW.alike hK⟩, hS.F ht⟩) hS.2.2 d_6_27_166 hlk

noncomputable def f_Part_followedFor_158 (rec48 : Int → Int → Int → Int → Int → Int → zF → zB → zO) (K : zK) (l5 : Int) (l4 : Int) (l0 : Int) (l1 : Int) (l2 : Int) (l3 : Int) (F : zF) (B : zB) : zO := rec48 (l5 + 1) l4 l0 l1 l2 l3 F B
set_option maxHeartbeats 4000000 in
set_option maxRecDepth 100000 in
theorem b_Part_followedFor_158 {D : va_G} {ca : Nat → ClassId} {ad : Nat → Int → Nat → Nat} {L : List Nat} {aS vS : Nat → Nat} {A : Nat → Prop} {p : Program} {l : Launch} {e : Env} {s : State} {m : MethodId} {args : Array Value} {below : List Frame} {meth : Method} {c : Code} {K : zK} {r : Int} {F9 : zF} {B9 : zB} (X : zX D ca L aS vS A p s m args meth c prog_6_method_27_code 9 (Option.some Jvm.ClassFile.FieldType.int) "StaveHouse$Part") {rec48 : Int → Int → Int → Int → Int → Int → zF → zB → zO} (hrec48 : ∀ {l5 : Int} {l4 : Int} {l0 : Int} {l1 : Int} {l2 : Int} {l3 : Int} {F : zF} {B : zB} {H : Heap} {locs : List Loc} {ls : Array Slot}, rec48 l5 l4 l0 l1 l2 l3 F B = some (r, F9, B9) → zH D ca ad lnC K.2 L F B A H → va_S A s.heap H locs → lv_has ls 9 [(5, .int (iI l5)), (4, .int (iI l4)), (0, .ref (ad 4 l0 0)), (1, .ref (ad 4 l1 0)), (2, .int (iI l2)), (3, .int (iI l3))] → W p l e ({ frames := 5, cells := 0, slots := 0, locals := 106 } : Room) s m args below meth c H locs 0 0 (MQ below (Q_Part_followedFor K D ca ad L r F9 B9 A) args s 0 0 A) (F0 m 48 ls [])) {l5 : Int} {l4 : Int} {l0 : Int} {l1 : Int} {l2 : Int} {l3 : Int} {F : zF} {B : zB} {H : Heap} {locs : List Loc} {ls : Array Slot} (hf : f_Part_followedFor_158 rec48 K l5 l4 l0 l1 l2 l3 F B = some (r, F9, B9)) (hZ : zH D ca ad lnC K.2 L F B A H) (hS : va_S A s.heap H locs) (hl : lv_has ls 9 [(5, .int (iI l5)), (4, .int (iI l4)), (0, .ref (ad 4 l0 0)), (1, .ref (ad 4 l1 0)), (2, .int (iI l2)), (3, .int (iI l3))]) : W p l e ({ frames := 5, cells := 0, slots := 0, locals := 106 } : Room) s m args below meth c H locs 0 0 (MQ below (Q_Part_followedFor K D ca ad L r F9 B9 A) args s 0 0 A) (F0 m 158 ls []) := by
  obtain ⟨hx, hb, hr, hml, hown, hts, hlk, hK, hA, hL, hX⟩ := id X
  replace hf : (rec48 (l5 + 1) l4 l0 l1 l2 l3 F B) = some (r, F9, B9) := hf
  refine lv_iinc (v := iI (l5 + 1)) (lv' := [(5, .int (iI (l5 + 1))), (4, .int (iI l4)), (0, .ref (ad 4 l0 0)), (1, .ref (ad 4 l1 0)), (2, .int (iI l2)), (3, .int (iI l3))]) hx hb d_6_27_158 hl (k := 0) rfl (iI_add _ 1) (by decide) rfl (fun ls hl => ?_)
  refine lv_goto (tgt := 48) hx hb d_6_27_161 (by decide) ?_
  exact hrec48 hf hZ hS (lv_sub hl [0, 1, 2, 3, 4, 5] rfl)

noncomputable def f_Part_followedFor_155 (K : zK) (l5 : Int) (F : zF) (B : zB) : zO := some (l5, F, B)
set_option maxHeartbeats 4000000 in
set_option maxRecDepth 100000 in
theorem b_Part_followedFor_155 {D : va_G} {ca : Nat → ClassId} {ad : Nat → Int → Nat → Nat} {L : List Nat} {aS vS : Nat → Nat} {A : Nat → Prop} {p : Program} {l : Launch} {e : Env} {s : State} {m : MethodId} {args : Array Value} {below : List Frame} {meth : Method} {c : Code} {K : zK} {r : Int} {F9 : zF} {B9 : zB} (X : zX D ca L aS vS A p s m args meth c prog_6_method_27_code 9 (Option.some Jvm.ClassFile.FieldType.int) "StaveHouse$Part") {l5 : Int} {F : zF} {B : zB} {H : Heap} {locs : List Loc} {ls : Array Slot} (hf : f_Part_followedFor_155 K l5 F B = some (r, F9, B9)) (hZ : zH D ca ad lnC K.2 L F B A H) (hS : va_S A s.heap H locs) (hl : lv_has ls 9 [(5, .int (iI l5))]) : W p l e ({ frames := 5, cells := 0, slots := 0, locals := 106 } : Room) s m args below meth c H locs 0 0 (MQ below (Q_Part_followedFor K D ca ad L r F9 B9 A) args s 0 0 A) (F0 m 155 ls []) := by
  obtain ⟨hx, hb, hr, hml, hown, hts, hlk, hK, hA, hL, hX⟩ := id X
  replace hf : (some (l5, F, B)) = some (r, F9, B9) := hf
  refine lv_iload hx hb d_6_27_155 (lv_at hl 0 rfl) ?_
  cases hf
  exact W.iret hx hb hr (fun t ht hW => ⟨⟨_, (), rfl, rfl, by rw [ht]; exact hZ, va_K.moved hW.alike hK⟩, hS.F ht⟩) hS.2.2 d_6_27_157 hlk

noncomputable def f_Part_followedFor_124 (rec48 : Int → Int → Int → Int → Int → Int → zF → zB → zO) (K : zK) (l7 : Int) (l6 : Int) (l5 : Int) (l4 : Int) (l0 : Int) (l1 : Int) (l2 : Int) (l3 : Int) (s0 : Int) (F : zF) (B : zB) : zO := if r32 s0 then (if s0 = 0 then f_Part_followedFor_155 K l5 F B else if 0 ≤ l6 ∧ l6 < K.2 1 then zbind (f_Event_isRest K l6 F B) (fun r37 F37 B37 => if r32 r37 then (if r37 = 0 then if 0 ≤ l7 ∧ l7 < K.2 1 then zbind (f_Event_topStep K l7 F37 B37) (fun r41 F41 B41 => zbind (f_Event_topStep K l6 F41 B41) (fun r42 F42 B42 => if r32 (r41 - r42) then if r32 l4 then (if (r41 - r42) = l4 then f_Part_followedFor_158 rec48 K l5 l4 l0 l1 l2 l3 F42 B42 else f_Part_followedFor_155 K l5 F42 B42) else none else none)) else none else f_Part_followedFor_158 rec48 K l5 l4 l0 l1 l2 l3 F37 B37) else none) else none) else none
set_option maxHeartbeats 4000000 in
set_option maxRecDepth 100000 in
theorem b_Part_followedFor_124 {D : va_G} {ca : Nat → ClassId} {ad : Nat → Int → Nat → Nat} {L : List Nat} {aS vS : Nat → Nat} {A : Nat → Prop} {p : Program} {l : Launch} {e : Env} {s : State} {m : MethodId} {args : Array Value} {below : List Frame} {meth : Method} {c : Code} {K : zK} {r : Int} {F9 : zF} {B9 : zB} (X : zX D ca L aS vS A p s m args meth c prog_6_method_27_code 9 (Option.some Jvm.ClassFile.FieldType.int) "StaveHouse$Part") {rec48 : Int → Int → Int → Int → Int → Int → zF → zB → zO} (hrec48 : ∀ {l5 : Int} {l4 : Int} {l0 : Int} {l1 : Int} {l2 : Int} {l3 : Int} {F : zF} {B : zB} {H : Heap} {locs : List Loc} {ls : Array Slot}, rec48 l5 l4 l0 l1 l2 l3 F B = some (r, F9, B9) → zH D ca ad lnC K.2 L F B A H → va_S A s.heap H locs → lv_has ls 9 [(5, .int (iI l5)), (4, .int (iI l4)), (0, .ref (ad 4 l0 0)), (1, .ref (ad 4 l1 0)), (2, .int (iI l2)), (3, .int (iI l3))] → W p l e ({ frames := 5, cells := 0, slots := 0, locals := 106 } : Room) s m args below meth c H locs 0 0 (MQ below (Q_Part_followedFor K D ca ad L r F9 B9 A) args s 0 0 A) (F0 m 48 ls [])) {l7 : Int} {l6 : Int} {l5 : Int} {l4 : Int} {l0 : Int} {l1 : Int} {l2 : Int} {l3 : Int} {s0 : Int} {F : zF} {B : zB} {H : Heap} {locs : List Loc} {ls : Array Slot} (hf : f_Part_followedFor_124 rec48 K l7 l6 l5 l4 l0 l1 l2 l3 s0 F B = some (r, F9, B9)) (hZ : zH D ca ad lnC K.2 L F B A H) (hS : va_S A s.heap H locs) (hl : lv_has ls 9 [(7, va_rf (zrf ad 1 l7)), (6, va_rf (zrf ad 1 l6)), (5, .int (iI l5)), (4, .int (iI l4)), (0, .ref (ad 4 l0 0)), (1, .ref (ad 4 l1 0)), (2, .int (iI l2)), (3, .int (iI l3))]) : W p l e ({ frames := 5, cells := 0, slots := 0, locals := 106 } : Room) s m args below meth c H locs 0 0 (MQ below (Q_Part_followedFor K D ca ad L r F9 B9 A) args s 0 0 A) (F0 m 124 ls [.int (iI s0)]) := by
  obtain ⟨hx, hb, hr, hml, hown, hts, hlk, hK, hA, hL, hX⟩ := id X
  replace hf : (if r32 s0 then (if s0 = 0 then f_Part_followedFor_155 K l5 F B else if 0 ≤ l6 ∧ l6 < K.2 1 then zbind (f_Event_isRest K l6 F B) (fun r37 F37 B37 => if r32 r37 then (if r37 = 0 then if 0 ≤ l7 ∧ l7 < K.2 1 then zbind (f_Event_topStep K l7 F37 B37) (fun r41 F41 B41 => zbind (f_Event_topStep K l6 F41 B41) (fun r42 F42 B42 => if r32 (r41 - r42) then if r32 l4 then (if (r41 - r42) = l4 then f_Part_followedFor_158 rec48 K l5 l4 l0 l1 l2 l3 F42 B42 else f_Part_followedFor_155 K l5 F42 B42) else none else none)) else none else f_Part_followedFor_158 rec48 K l5 l4 l0 l1 l2 l3 F37 B37) else none) else none) else none) = some (r, F9, B9) := hf
  refine lv_istore (lv' := [(8, .int (iI s0)), (7, va_rf (zrf ad 1 l7)), (6, va_rf (zrf ad 1 l6)), (5, .int (iI l5)), (4, .int (iI l4)), (0, .ref (ad 4 l0 0)), (1, .ref (ad 4 l1 0)), (2, .int (iI l2)), (3, .int (iI l3))]) hx hb d_6_27_124 hl (by decide) (by cases zrf ad 1 l7 <;> rfl) (fun ls hl => ?_)
  refine lv_iload hx hb d_6_27_126 (lv_at hl 0 rfl) ?_
  obtain ⟨g34, hf⟩ := gif hf
  refine z0eq (tgt := 155) hx hb g34 d_6_27_128 (by decide) (fun h35 => ?_) (fun h35 => ?_)
  · replace hf := gpos hf h35
    exact b_Part_followedFor_155 X hf hZ hS (lv_sub hl [3] rfl)
  · replace hf := gneg hf h35
    refine zaload hx hb d_6_27_131 (lv_at hl 2 rfl) ?_
    obtain ⟨g36, hf⟩ := gif hf
    refine W.eq (g2 := F0 m 133 ls [.ref (ad 1 l6 0)]) (by rw [zrf_pos (ad := ad) (t := 1) g36.1]; try rfl) ?_
    obtain ⟨r37, F37, B37, hc37, hf⟩ := gbind hf
    refine va_calli (va_runV (As := []) (rest := []) ⟨hx, hb, hml, hown, hts⟩ (c_Event_isRest (l := l) hc37) (cwV 0 hts (gdV k_5_78 k_5_79 k_5_80 k_1_8 k_5_81) rfl rfl rfl (by decide +kernel) ⟨Nat.le_of_ble_eq_true rfl, Nat.le_of_ble_eq_true rfl⟩) (zPV X hZ hS (ci := 1) g36.1 g36.2 (r := (RX1, TX1, 14)) rfl []) rfl rfl hl.1 rfl (lv_room (Nat.le_of_ble_eq_true rfl)) d_6_27_133 ⟨Nat.le_of_ble_eq_true rfl, Nat.le_of_ble_eq_true rfl⟩) hS (fun q _ h => zAin X hS q h) (zAin X hS) (fun p37 u37 t37 H37 locs37 ht37 hv37 hw37 hB37 hz37 hk37 hS37 => ?_)
    have hZ37 := zBack X ht37 hB37
    subst hw37
    obtain ⟨g38, hf⟩ := gif hf
    refine z0ne (tgt := 158) hx hb g38 d_6_27_136 (by decide) (fun h39 => ?_) (fun h39 => ?_)
    · replace hf := gneg hf h39
      exact b_Part_followedFor_158 X hrec48 hf hZ37 hS37 (lv_sub hl [3, 4, 5, 6, 7, 8] rfl)
    · replace hf := gpos hf h39
      refine zaload hx hb d_6_27_139 (lv_at hl 1 rfl) ?_
      obtain ⟨g40, hf⟩ := gif hf
      refine W.eq (g2 := F0 m 141 ls [.ref (ad 1 l7 0)]) (by rw [zrf_pos (ad := ad) (t := 1) g40.1]; try rfl) ?_
      obtain ⟨r41, F41, B41, hc41, hf⟩ := gbind hf
      refine va_calli (va_runV (As := []) (rest := []) ⟨hx, hb, hml, hown, hts⟩ (c_Event_topStep (l := l) hc41) (cwV 0 hts (gdV k_9_93 k_9_94 k_9_95 k_1_8 k_9_96) rfl rfl rfl (by decide +kernel) ⟨Nat.le_of_ble_eq_true rfl, Nat.le_of_ble_eq_true rfl⟩) (zPV X hZ37 hS37 (ci := 1) g40.1 g40.2 (r := (RX1, TX1, 14)) rfl []) rfl rfl hl.1 rfl (lv_room (Nat.le_of_ble_eq_true rfl)) d_6_27_141 ⟨Nat.le_of_ble_eq_true rfl, Nat.le_of_ble_eq_true rfl⟩) hS37 (fun q _ h => zAin X hS37 q h) (zAin X hS37) (fun p41 u41 t41 H41 locs41 ht41 hv41 hw41 hB41 hz41 hk41 hS41 => ?_)
      have hZ41 := zBack X ht41 hB41
      subst hw41
      refine zaload hx hb d_6_27_144 (lv_at hl 2 rfl) ?_
      refine W.eq (g2 := F0 m 146 ls [.ref (ad 1 l6 0), .int (iI r41)]) (by rw [zrf_pos (ad := ad) (t := 1) g36.1]; try rfl) ?_
      obtain ⟨r42, F42, B42, hc42, hf⟩ := gbind hf
      refine va_calli (va_runV (As := []) (rest := [.int (iI r41)]) ⟨hx, hb, hml, hown, hts⟩ (c_Event_topStep (l := l) hc42) (cwV 0 hts (gdV k_9_93 k_9_94 k_9_95 k_1_8 k_9_96) rfl rfl rfl (by decide +kernel) ⟨Nat.le_of_ble_eq_true rfl, Nat.le_of_ble_eq_true rfl⟩) (zPV X hZ41 hS41 (ci := 1) g36.1 g36.2 (r := (RX1, TX1, 14)) rfl []) rfl rfl hl.1 rfl (lv_room (Nat.le_of_ble_eq_true rfl)) d_6_27_146 ⟨Nat.le_of_ble_eq_true rfl, Nat.le_of_ble_eq_true rfl⟩) hS41 (fun q _ h => zAin X hS41 q h) (zAin X hS41) (fun p42 u42 t42 H42 locs42 ht42 hv42 hw42 hB42 hz42 hk42 hS42 => ?_)
      have hZ42 := zBack X ht42 hB42
      subst hw42
      refine zsub hx hb d_6_27_149 ?_
      refine lv_iload hx hb d_6_27_150 (lv_at hl 4 rfl) ?_
      obtain ⟨g43, hf⟩ := gif hf
      obtain ⟨g44, hf⟩ := gif hf
      refine zeq (tgt := 158) hx hb g43 g44 d_6_27_152 (by decide) (fun h45 => ?_) (fun h45 => ?_)
      · replace hf := gpos hf h45
        exact b_Part_followedFor_158 X hrec48 hf hZ42 hS42 (lv_sub hl [3, 4, 5, 6, 7, 8] rfl)
      · replace hf := gneg hf h45
        exact b_Part_followedFor_155 X hf hZ42 hS42 (lv_sub hl [3] rfl)

noncomputable def f_Part_followedFor_123 (rec48 : Int → Int → Int → Int → Int → Int → zF → zB → zO) (K : zK) (l7 : Int) (l6 : Int) (l5 : Int) (l4 : Int) (l0 : Int) (l1 : Int) (l2 : Int) (l3 : Int) (F : zF) (B : zB) : zO := f_Part_followedFor_124 rec48 K l7 l6 l5 l4 l0 l1 l2 l3 0 F B
set_option maxHeartbeats 4000000 in
set_option maxRecDepth 100000 in
theorem b_Part_followedFor_123 {D : va_G} {ca : Nat → ClassId} {ad : Nat → Int → Nat → Nat} {L : List Nat} {aS vS : Nat → Nat} {A : Nat → Prop} {p : Program} {l : Launch} {e : Env} {s : State} {m : MethodId} {args : Array Value} {below : List Frame} {meth : Method} {c : Code} {K : zK} {r : Int} {F9 : zF} {B9 : zB} (X : zX D ca L aS vS A p s m args meth c prog_6_method_27_code 9 (Option.some Jvm.ClassFile.FieldType.int) "StaveHouse$Part") {rec48 : Int → Int → Int → Int → Int → Int → zF → zB → zO} (hrec48 : ∀ {l5 : Int} {l4 : Int} {l0 : Int} {l1 : Int} {l2 : Int} {l3 : Int} {F : zF} {B : zB} {H : Heap} {locs : List Loc} {ls : Array Slot}, rec48 l5 l4 l0 l1 l2 l3 F B = some (r, F9, B9) → zH D ca ad lnC K.2 L F B A H → va_S A s.heap H locs → lv_has ls 9 [(5, .int (iI l5)), (4, .int (iI l4)), (0, .ref (ad 4 l0 0)), (1, .ref (ad 4 l1 0)), (2, .int (iI l2)), (3, .int (iI l3))] → W p l e ({ frames := 5, cells := 0, slots := 0, locals := 106 } : Room) s m args below meth c H locs 0 0 (MQ below (Q_Part_followedFor K D ca ad L r F9 B9 A) args s 0 0 A) (F0 m 48 ls [])) {l7 : Int} {l6 : Int} {l5 : Int} {l4 : Int} {l0 : Int} {l1 : Int} {l2 : Int} {l3 : Int} {F : zF} {B : zB} {H : Heap} {locs : List Loc} {ls : Array Slot} (hf : f_Part_followedFor_123 rec48 K l7 l6 l5 l4 l0 l1 l2 l3 F B = some (r, F9, B9)) (hZ : zH D ca ad lnC K.2 L F B A H) (hS : va_S A s.heap H locs) (hl : lv_has ls 9 [(7, va_rf (zrf ad 1 l7)), (6, va_rf (zrf ad 1 l6)), (5, .int (iI l5)), (4, .int (iI l4)), (0, .ref (ad 4 l0 0)), (1, .ref (ad 4 l1 0)), (2, .int (iI l2)), (3, .int (iI l3))]) : W p l e ({ frames := 5, cells := 0, slots := 0, locals := 106 } : Room) s m args below meth c H locs 0 0 (MQ below (Q_Part_followedFor K D ca ad L r F9 B9 A) args s 0 0 A) (F0 m 123 ls []) := by
  obtain ⟨hx, hb, hr, hml, hown, hts, hlk, hK, hA, hL, hX⟩ := id X
  replace hf : (f_Part_followedFor_124 rec48 K l7 l6 l5 l4 l0 l1 l2 l3 0 F B) = some (r, F9, B9) := hf
  refine lv_iconst (v := iI 0) hx hb d_6_27_123 rfl ?_
  exact b_Part_followedFor_124 X hrec48 hf hZ hS (lv_sub hl [0, 1, 2, 3, 4, 5, 6, 7] rfl)

noncomputable def f_Part_followedFor_48 (K : zK) : Nat → Int → Int → Int → Int → Int → Int → zF → zB → zO
  | 0, _, _, _, _, _, _, _, _ => none
  | n + 1, l5, l4, l0, l1, l2, l3, F, B => if 0 ≤ l1 ∧ l1 < K.2 4 then if r32 (l2 + l5) then if r32 (F 4 l1 6) then (if (F 4 l1 6) ≤ (l2 + l5) then f_Part_followedFor_164 K l5 F B else if 0 ≤ l0 ∧ l0 < K.2 4 then if r32 (l3 + l5) then if r32 (F 4 l0 6) then (if (F 4 l0 6) ≤ (l3 + l5) then f_Part_followedFor_164 K l5 F B else if 0 ≤ (l2 + l5) ∧ (l2 + l5) < 200 then if 0 ≤ (l3 + l5) ∧ (l3 + l5) < 200 then if 0 ≤ (B 4 l1 5 (l2 + l5)) ∧ (B 4 l1 5 (l2 + l5)) < K.2 1 then zbind (f_Event_isRest K (B 4 l1 5 (l2 + l5)) F B) (fun r24 F24 B24 => if 0 ≤ (B 4 l0 5 (l3 + l5)) ∧ (B 4 l0 5 (l3 + l5)) < K.2 1 then zbind (f_Event_isRest K (B 4 l0 5 (l3 + l5)) F24 B24) (fun r26 F26 B26 => if r32 r24 then if r32 r26 then (if r24 = r26 then if r64 (F26 1 (B 4 l1 5 (l2 + l5)) 1) then if r64 (F26 1 (B 4 l0 5 (l3 + l5)) 1) then (if (zcmp (F26 1 (B 4 l1 5 (l2 + l5)) 1) (F26 1 (B 4 l0 5 (l3 + l5)) 1)) = 0 then f_Part_followedFor_124 (f_Part_followedFor_48 K n) K (B 4 l0 5 (l3 + l5)) (B 4 l1 5 (l2 + l5)) l5 l4 l0 l1 l2 l3 1 F26 B26 else f_Part_followedFor_123 (f_Part_followedFor_48 K n) K (B 4 l0 5 (l3 + l5)) (B 4 l1 5 (l2 + l5)) l5 l4 l0 l1 l2 l3 F26 B26) else none else none else f_Part_followedFor_123 (f_Part_followedFor_48 K n) K (B 4 l0 5 (l3 + l5)) (B 4 l1 5 (l2 + l5)) l5 l4 l0 l1 l2 l3 F26 B26) else none else none) else none) else none else none else none) else none else none else none) else none else none else none
set_option maxHeartbeats 4000000 in
set_option maxRecDepth 100000 in
theorem b_Part_followedFor_48 {D : va_G} {ca : Nat → ClassId} {ad : Nat → Int → Nat → Nat} {L : List Nat} {aS vS : Nat → Nat} {A : Nat → Prop} {p : Program} {l : Launch} {e : Env} {s : State} {m : MethodId} {args : Array Value} {below : List Frame} {meth : Method} {c : Code} {K : zK} {r : Int} {F9 : zF} {B9 : zB} (X : zX D ca L aS vS A p s m args meth c prog_6_method_27_code 9 (Option.some Jvm.ClassFile.FieldType.int) "StaveHouse$Part") : ∀ {n : Nat} {l5 : Int} {l4 : Int} {l0 : Int} {l1 : Int} {l2 : Int} {l3 : Int} {F : zF} {B : zB} {H : Heap} {locs : List Loc} {ls : Array Slot}, f_Part_followedFor_48 K n l5 l4 l0 l1 l2 l3 F B = some (r, F9, B9) → zH D ca ad lnC K.2 L F B A H → va_S A s.heap H locs → lv_has ls 9 [(5, .int (iI l5)), (4, .int (iI l4)), (0, .ref (ad 4 l0 0)), (1, .ref (ad 4 l1 0)), (2, .int (iI l2)), (3, .int (iI l3))] → W p l e ({ frames := 5, cells := 0, slots := 0, locals := 106 } : Room) s m args below meth c H locs 0 0 (MQ below (Q_Part_followedFor K D ca ad L r F9 B9 A) args s 0 0 A) (F0 m 48 ls []) := by
  obtain ⟨hx, hb, hr, hml, hown, hts, hlk, hK, hA, hL, hX⟩ := id X
  intro n
  induction n with
  | zero =>
    intros
    rename_i hf _ _ _
    cases hf
  | succ n ih =>
    intro l5 l4 l0 l1 l2 l3 F B H locs ls hf hZ hS hl
    replace hf : (if 0 ≤ l1 ∧ l1 < K.2 4 then if r32 (l2 + l5) then if r32 (F 4 l1 6) then (if (F 4 l1 6) ≤ (l2 + l5) then f_Part_followedFor_164 K l5 F B else if 0 ≤ l0 ∧ l0 < K.2 4 then if r32 (l3 + l5) then if r32 (F 4 l0 6) then (if (F 4 l0 6) ≤ (l3 + l5) then f_Part_followedFor_164 K l5 F B else if 0 ≤ (l2 + l5) ∧ (l2 + l5) < 200 then if 0 ≤ (l3 + l5) ∧ (l3 + l5) < 200 then if 0 ≤ (B 4 l1 5 (l2 + l5)) ∧ (B 4 l1 5 (l2 + l5)) < K.2 1 then zbind (f_Event_isRest K (B 4 l1 5 (l2 + l5)) F B) (fun r24 F24 B24 => if 0 ≤ (B 4 l0 5 (l3 + l5)) ∧ (B 4 l0 5 (l3 + l5)) < K.2 1 then zbind (f_Event_isRest K (B 4 l0 5 (l3 + l5)) F24 B24) (fun r26 F26 B26 => if r32 r24 then if r32 r26 then (if r24 = r26 then if r64 (F26 1 (B 4 l1 5 (l2 + l5)) 1) then if r64 (F26 1 (B 4 l0 5 (l3 + l5)) 1) then (if (zcmp (F26 1 (B 4 l1 5 (l2 + l5)) 1) (F26 1 (B 4 l0 5 (l3 + l5)) 1)) = 0 then f_Part_followedFor_124 (f_Part_followedFor_48 K n) K (B 4 l0 5 (l3 + l5)) (B 4 l1 5 (l2 + l5)) l5 l4 l0 l1 l2 l3 1 F26 B26 else f_Part_followedFor_123 (f_Part_followedFor_48 K n) K (B 4 l0 5 (l3 + l5)) (B 4 l1 5 (l2 + l5)) l5 l4 l0 l1 l2 l3 F26 B26) else none else none else f_Part_followedFor_123 (f_Part_followedFor_48 K n) K (B 4 l0 5 (l3 + l5)) (B 4 l1 5 (l2 + l5)) l5 l4 l0 l1 l2 l3 F26 B26) else none else none) else none) else none else none else none) else none else none else none) else none else none else none) = some (r, F9, B9) := hf
    refine lv_iload_n hx hb d_6_27_48 rfl (lv_at hl 4 rfl) ?_
    refine lv_iload hx hb d_6_27_49 (lv_at hl 0 rfl) ?_
    refine zadd hx hb d_6_27_51 ?_
    refine lv_aload_n hx hb d_6_27_52 rfl (lv_at hl 3 rfl) ?_
    obtain ⟨g13, hf⟩ := gif hf
    refine zget (ci := 4) (C := RX4) (T := TX4) (v := .int (iI (F 4 l1 6))) (k := 6) hx hb hts inW_4 hown hK hZ g13.1 g13.2 rfl (by decide) k_4_135 rfl d_6_27_53 ?_
    obtain ⟨g14, hf⟩ := gif hf
    obtain ⟨g15, hf⟩ := gif hf
    refine zge (tgt := 164) hx hb g14 g15 d_6_27_56 (by decide) (fun h16 => ?_) (fun h16 => ?_)
    · replace hf := gpos hf h16
      exact b_Part_followedFor_164 X hf hZ hS (lv_sub hl [0] rfl)
    · replace hf := gneg hf h16
      refine lv_iload_n hx hb d_6_27_59 rfl (lv_at hl 5 rfl) ?_
      refine lv_iload hx hb d_6_27_60 (lv_at hl 0 rfl) ?_
      refine zadd hx hb d_6_27_62 ?_
      refine lv_aload_n hx hb d_6_27_63 rfl (lv_at hl 2 rfl) ?_
      obtain ⟨g17, hf⟩ := gif hf
      refine zget (ci := 4) (C := RX4) (T := TX4) (v := .int (iI (F 4 l0 6))) (k := 6) hx hb hts inW_4 hown hK hZ g17.1 g17.2 rfl (by decide) k_4_135 rfl d_6_27_64 ?_
      obtain ⟨g18, hf⟩ := gif hf
      obtain ⟨g19, hf⟩ := gif hf
      refine zge (tgt := 164) hx hb g18 g19 d_6_27_67 (by decide) (fun h20 => ?_) (fun h20 => ?_)
      · replace hf := gpos hf h20
        exact b_Part_followedFor_164 X hf hZ hS (lv_sub hl [0] rfl)
      · replace hf := gneg hf h20
        refine lv_aload_n hx hb d_6_27_70 rfl (lv_at hl 3 rfl) ?_
        refine zget (ci := 4) (C := RX4) (T := TX4) (v := .ref (ad 4 l1 (5 + 1))) (k := 5) hx hb hts inW_4 hown hK hZ g13.1 g13.2 rfl (by decide) k_4_130 rfl d_6_27_71 ?_
        refine lv_iload_n hx hb d_6_27_74 rfl (lv_at hl 4 rfl) ?_
        refine lv_iload hx hb d_6_27_75 (lv_at hl 0 rfl) ?_
        refine zadd hx hb d_6_27_77 ?_
        obtain ⟨g21, hf⟩ := gif hf
        refine zaldR (t := 1) (x := 7) (ci := 4) (k := 5) hx hb hK rfl rfl hZ g13.1 g13.2 rfl (Nat.le_of_ble_eq_true rfl) g21.1 g21.2 d_6_27_78 ?_
        refine zastore (lv' := [(5, .int (iI l5)), (4, .int (iI l4)), (0, .ref (ad 4 l0 0)), (1, .ref (ad 4 l1 0)), (2, .int (iI l2)), (3, .int (iI l3))]) hx hb d_6_27_79 hl (by decide) (fun _ _ => rfl) (fun ls hl => ?_)
        refine lv_aload_n hx hb d_6_27_81 rfl (lv_at hl 3 rfl) ?_
        refine zget (ci := 4) (C := RX4) (T := TX4) (v := .ref (ad 4 l0 (5 + 1))) (k := 5) hx hb hts inW_4 hown hK hZ g17.1 g17.2 rfl (by decide) k_4_130 rfl d_6_27_82 ?_
        refine lv_iload_n hx hb d_6_27_85 rfl (lv_at hl 6 rfl) ?_
        refine lv_iload hx hb d_6_27_86 (lv_at hl 1 rfl) ?_
        refine zadd hx hb d_6_27_88 ?_
        obtain ⟨g22, hf⟩ := gif hf
        refine zaldR (t := 1) (x := 7) (ci := 4) (k := 5) hx hb hK rfl rfl hZ g17.1 g17.2 rfl (Nat.le_of_ble_eq_true rfl) g22.1 g22.2 d_6_27_89 ?_
        refine zastore (lv' := [(6, va_rf (zrf ad 1 (B 4 l1 5 (l2 + l5)))), (5, .int (iI l5)), (4, .int (iI l4)), (0, .ref (ad 4 l0 0)), (1, .ref (ad 4 l1 0)), (2, .int (iI l2)), (3, .int (iI l3))]) hx hb d_6_27_90 hl (by decide) (fun v hv => by cases zrf ad 1 (B 4 l1 5 (l2 + l5)) <;> rfl) (fun ls hl => ?_)
        refine zaload hx hb d_6_27_92 (lv_at hl 1 rfl) ?_
        obtain ⟨g23, hf⟩ := gif hf
        refine W.eq (g2 := F0 m 94 ls [.ref (ad 1 (B 4 l1 5 (l2 + l5)) 0)]) (by rw [zrf_pos (ad := ad) (t := 1) g23.1]; try rfl) ?_
        obtain ⟨r24, F24, B24, hc24, hf⟩ := gbind hf
        refine va_calli (va_runV (As := []) (rest := []) ⟨hx, hb, hml, hown, hts⟩ (c_Event_isRest (l := l) hc24) (cwV 0 hts (gdV k_5_78 k_5_79 k_5_80 k_1_8 k_5_81) rfl rfl rfl (by decide +kernel) ⟨Nat.le_of_ble_eq_true rfl, Nat.le_of_ble_eq_true rfl⟩) (zPV X hZ hS (ci := 1) g23.1 g23.2 (r := (RX1, TX1, 14)) rfl []) rfl rfl hl.1 rfl (lv_room (Nat.le_of_ble_eq_true rfl)) d_6_27_94 ⟨Nat.le_of_ble_eq_true rfl, Nat.le_of_ble_eq_true rfl⟩) hS (fun q _ h => zAin X hS q h) (zAin X hS) (fun p24 u24 t24 H24 locs24 ht24 hv24 hw24 hB24 hz24 hk24 hS24 => ?_)
        have hZ24 := zBack X ht24 hB24
        subst hw24
        refine zaload hx hb d_6_27_97 (lv_at hl 0 rfl) ?_
        obtain ⟨g25, hf⟩ := gif hf
        refine W.eq (g2 := F0 m 99 ls [.ref (ad 1 (B 4 l0 5 (l3 + l5)) 0), .int (iI r24)]) (by rw [zrf_pos (ad := ad) (t := 1) g25.1]; try rfl) ?_
        obtain ⟨r26, F26, B26, hc26, hf⟩ := gbind hf
        refine va_calli (va_runV (As := []) (rest := [.int (iI r24)]) ⟨hx, hb, hml, hown, hts⟩ (c_Event_isRest (l := l) hc26) (cwV 0 hts (gdV k_5_78 k_5_79 k_5_80 k_1_8 k_5_81) rfl rfl rfl (by decide +kernel) ⟨Nat.le_of_ble_eq_true rfl, Nat.le_of_ble_eq_true rfl⟩) (zPV X hZ24 hS24 (ci := 1) g25.1 g25.2 (r := (RX1, TX1, 14)) rfl []) rfl rfl hl.1 rfl (lv_room (Nat.le_of_ble_eq_true rfl)) d_6_27_99 ⟨Nat.le_of_ble_eq_true rfl, Nat.le_of_ble_eq_true rfl⟩) hS24 (fun q _ h => zAin X hS24 q h) (zAin X hS24) (fun p26 u26 t26 H26 locs26 ht26 hv26 hw26 hB26 hz26 hk26 hS26 => ?_)
        have hZ26 := zBack X ht26 hB26
        subst hw26
        obtain ⟨g27, hf⟩ := gif hf
        obtain ⟨g28, hf⟩ := gif hf
        refine zne (tgt := 123) hx hb g27 g28 d_6_27_102 (by decide) (fun h29 => ?_) (fun h29 => ?_)
        · replace hf := gneg hf h29
          exact b_Part_followedFor_123 X ih hf hZ26 hS26 (lv_sub hl [0, 1, 2, 3, 4, 5, 6, 7] rfl)
        · replace hf := gpos hf h29
          refine zaload hx hb d_6_27_105 (lv_at hl 1 rfl) ?_
          refine zunrf g23.1 ?_
          refine zget (ci := 1) (C := RX1) (T := TX1) (v := .long (lI (F26 1 (B 4 l1 5 (l2 + l5)) 1))) (k := 1) hx hb hts inW_1 hown hK hZ26 g23.1 g23.2 rfl (by decide) k_2_24 rfl d_6_27_107 ?_
          refine zaload hx hb d_6_27_110 (lv_at hl 0 rfl) ?_
          refine zunrf g25.1 ?_
          refine zget (ci := 1) (C := RX1) (T := TX1) (v := .long (lI (F26 1 (B 4 l0 5 (l3 + l5)) 1))) (k := 1) hx hb hts inW_1 hown hK hZ26 g25.1 g25.2 rfl (by decide) k_2_24 rfl d_6_27_112 ?_
          obtain ⟨g30, hf⟩ := gif hf
          obtain ⟨g31, hf⟩ := gif hf
          refine zcmp_r hx hb g30 g31 d_6_27_115 ?_
          refine z0ne (tgt := 123) hx hb zcmp_32 d_6_27_116 (by decide) (fun h33 => ?_) (fun h33 => ?_)
          · replace hf := gneg hf h33
            exact b_Part_followedFor_123 X ih hf hZ26 hS26 (lv_sub hl [0, 1, 2, 3, 4, 5, 6, 7] rfl)
          · replace hf := gpos hf h33
            refine lv_iconst (v := iI 1) hx hb d_6_27_119 rfl ?_
            refine lv_goto (tgt := 124) hx hb d_6_27_120 (by decide) ?_
            exact b_Part_followedFor_124 X ih hf hZ26 hS26 (lv_sub hl [0, 1, 2, 3, 4, 5, 6, 7] rfl)

noncomputable def f_Part_followedFor (K : zK) (l0 : Int) (l1 : Int) (l2 : Int) (l3 : Int) (F : zF) (B : zB) : zO := if 0 ≤ l0 ∧ l0 < K.2 4 then if 0 ≤ l3 ∧ l3 < 200 then if 0 ≤ (B 4 l0 5 l3) ∧ (B 4 l0 5 l3) < K.2 1 then if 0 ≤ l1 ∧ l1 < K.2 4 then if 0 ≤ l2 ∧ l2 < 200 then if 0 ≤ (B 4 l1 5 l2) ∧ (B 4 l1 5 l2) < K.2 1 then if r64 (F 1 (B 4 l0 5 l3) 0) then if r64 (F 1 (B 4 l1 5 l2) 0) then (if 0 < (zcmp (F 1 (B 4 l0 5 l3) 0) (F 1 (B 4 l1 5 l2) 0)) then zbind (f_Event_topStep K (B 4 l0 5 l3) F B) (fun r10 F10 B10 => if 0 ≤ (B10 4 l1 5 l2) ∧ (B10 4 l1 5 l2) < K.2 1 then zbind (f_Event_topStep K (B10 4 l1 5 l2) F10 B10) (fun r12 F12 B12 => f_Part_followedFor_48 K K.1 0 (r10 - r12) l0 l1 l2 l3 F12 B12) else none) else some (0, F, B)) else none else none else none else none else none else none else none else none
