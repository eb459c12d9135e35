set_option maxHeartbeats 4000000 in
set_option maxRecDepth 100000 in
theorem b_SoundFile_takeOnly_15 {D : va_G} {ca : Nat → ClassId} {ad : Nat → Int → Nat → Nat} {L : List Nat} {aS vS : Nat → Nat} {A : Nat → Prop} {p : Program} {l : Launch} {e : Env} {s : State} {m : MethodId} {args : Array Value} {below : List Frame} {meth : Method} {c : Code} {K : zK} {r : Int} {F9 : zF} {B9 : zB} (X : zX D ca L aS vS A p s m args meth c prog_10_method_6_code 4 (Option.none : Option Jvm.ClassFile.FieldType) "StaveHouse$SoundFile") {l0 : Int} {F : zF} {B : zB} {H : Heap} {locs : List Loc} {ls : Array Slot} (hf : f_SoundFile_takeOnly_15 K l0 F B = some (r, F9, B9)) (hZ : zH D ca ad lnC K.2 L F B A H) (hS : va_S A s.heap H locs) (hl : lv_has ls 4 [(0, .ref (ad 8 l0 0))]) : W p l e ({ frames := 2, cells := 0, slots := 0, locals := 42 } : Room) s m args below meth c H locs 0 0 (MQ below (Q_SoundFile_takeOnly K D ca ad L r F9 B9 A) args s 0 0 A) (F0 m 15 ls []) := by
  obtain ⟨hx, hb, hr, hml, hown, hts, hlk, hK, hA, hL, hX⟩ := id X
  replace hf : (if 0 ≤ l0 ∧ l0 < K.2 8 then zbind (f_SoundFile_refuse K l0 1 ((F 8 l0 5) - 1) F B) (fun r9 F9 B9 => f_SoundFile_takeOnly_26 K F9 B9) else none) = some (r, F9, B9) := hf
  refine lv_aload_n hx hb d_10_6_15 rfl (lv_at hl 0 rfl) ?_
  refine lv_iconst (v := iI 1) hx hb d_10_6_16 rfl ?_
  refine lv_aload_n hx hb d_10_6_17 rfl (lv_at hl 0 rfl) ?_
  obtain ⟨g8, hf⟩ := gif hf
  refine zget (ci := 8) (C := RX8) (T := TX8) (v := .int (iI (F 8 l0 5))) (k := 5) hx hb hts inW_8 hown hK hZ g8.1 g8.2 rfl (by decide) k_7_229 rfl d_10_6_18 ?_
  refine lv_iconst (v := iI 1) hx hb d_10_6_21 rfl ?_
  refine zsub hx hb d_10_6_22 ?_
  obtain ⟨r9, F9, B9, hc9, hf⟩ := gbind hf
  refine va_callv (va_runV (As := [.int (iI 1), .int (iI ((F 8 l0 5) - 1))]) (rest := []) ⟨hx, hb, hml, hown, hts⟩ (c_SoundFile_refuse (l := l) hc9) (cwV 2 hts (gdV k_8_53 k_8_55 ks_96 k_1_23 k_8_56) rfl rfl rfl (by decide +kernel) ⟨Nat.le_of_ble_eq_true rfl, Nat.le_of_ble_eq_true rfl⟩) (zPV X hZ hS (ci := 8) g8.1 g8.2 (r := (RX8, TX8, 15)) rfl [.int (iI 1), .int (iI ((F 8 l0 5) - 1))]) rfl rfl hl.1 rfl (lv_room (Nat.le_of_ble_eq_true rfl)) d_10_6_23 ⟨Nat.le_of_ble_eq_true rfl, Nat.le_of_ble_eq_true rfl⟩) hS (fun q _ h => zAin X hS q h) (zAin X hS) (fun u9 t9 H9 locs9 ht9 hv9 hw9 hB9 hz9 hk9 hS9 => ?_)
  have hZ9 := zBack X ht9 hB9
  exact b_SoundFile_takeOnly_26 X hf hZ9 hS9 (lv_sub hl [] rfl)

noncomputable def f_SoundFile_takeOnly (K : zK) (l0 : Int) (l1 : Int) (l2 : Int) (F : zF) (B : zB) : zO := if 0 ≤ l0 ∧ l0 < K.2 8 then zbind (f_SoundFile_take K l0 F B) (fun r2 F2 B2 => if r32 r2 then if r32 l1 then (if r2 < l1 then f_SoundFile_takeOnly_15 K l0 F2 B2 else if r32 l2 then (if r2 ≤ l2 then f_SoundFile_takeOnly_26 K F2 B2 else f_SoundFile_takeOnly_15 K l0 F2 B2) else none) else none else none) else none
set_option maxHeartbeats 4000000 in
set_option maxRecDepth 100000 in
theorem c_SoundFile_takeOnly {l : Launch} {D : va_G} {ca : Nat → ClassId} {ad : Nat → Int → Nat → Nat} {L : List Nat} {aS vS : Nat → Nat} {sz : Nat} {K : zK}  {l0 : Int} {l1 : Int} {l2 : Int} {F F9 : zF} {B B9 : zB} {r : Int} (hf : f_SoundFile_takeOnly K l0 l1 l2 F B = some (r, F9, B9)) : Met l ({ cls := "StaveHouse$SoundFile", name := "takeOnly", desc := "(II)V" } : Jvm.MethodName) (Cond.code ({ cls := "StaveHouse$SoundFile", name := "takeOnly", desc := "(II)V" } : Jvm.MethodName) prog_10_method_6_code 4 (Option.none : Option Jvm.ClassFile.FieldType) :: wAll) ({ frames := 2, cells := 0, slots := 0, locals := 42 } : Room) (va_Pc [.ref (ad 8 l0 0), .int (iI l1), .int (iI l2)] (zPre D ca ad lnC K.2 L aS vS F B sz)) (Q_SoundFile_takeOnly K D ca ad L r F9 B9 (zA L sz)) 0 0 (zA L sz) := by
  refine zMet (Qc := Q_SoundFile_takeOnly K D ca ad L r F9 B9) (lv := [(0, .ref (ad 8 l0 0)), (1, .int (iI l1)), (2, .int (iI l2))]) (by decide) (Nat.le_of_ble_eq_true rfl) rfl (fun A p e s m below meth c ls X hZ hS hl => ?_)
  obtain ⟨hx, hb, hr, hml, hown, hts, hlk, hK, hA, hL, hX⟩ := id X
  replace hf : (if 0 ≤ l0 ∧ l0 < K.2 8 then zbind (f_SoundFile_take K l0 F B) (fun r2 F2 B2 => if r32 r2 then if r32 l1 then (if r2 < l1 then f_SoundFile_takeOnly_15 K l0 F2 B2 else if r32 l2 then (if r2 ≤ l2 then f_SoundFile_takeOnly_26 K F2 B2 else f_SoundFile_takeOnly_15 K l0 F2 B2) else none) else none else none) else none) = some (r, F9, B9) := hf
  refine lv_aload_n hx hb d_10_6_0 rfl (lv_at hl 0 rfl) ?_
  obtain ⟨g1, hf⟩ := gif hf
  obtain ⟨r2, F2, B2, hc2, hf⟩ := gbind hf
  refine va_calli (va_runV (As := []) (rest := []) ⟨hx, hb, hml, hown, hts⟩ (c_SoundFile_take (l := l) hc2) (cwV 0 hts (gdV k_8_49 k_8_51 ks_95 k_1_23 k_8_52) rfl rfl rfl (by decide +kernel) ⟨Nat.le_of_ble_eq_true rfl, Nat.le_of_ble_eq_true rfl⟩) (zPV X hZ hS (ci := 8) g1.1 g1.2 (r := (RX8, TX8, 15)) rfl []) rfl rfl hl.1 rfl (lv_room (Nat.le_of_ble_eq_true rfl)) d_10_6_1 ⟨Nat.le_of_ble_eq_true rfl, Nat.le_of_ble_eq_true rfl⟩) hS (fun q _ h => zAin X hS q h) (zAin X hS) (fun p2 u2 t2 H2 locs2 ht2 hv2 hw2 hB2 hz2 hk2 hS2 => ?_)
  have hZ2 := zBack X ht2 hB2
  subst hw2
  refine lv_istore_n (lv' := [(3, .int (iI r2)), (0, .ref (ad 8 l0 0)), (1, .int (iI l1)), (2, .int (iI l2))]) hx hb d_10_6_4 rfl hl (by decide) rfl (fun ls hl => ?_)
  refine lv_iload_n hx hb d_10_6_5 rfl (lv_at hl 0 rfl) ?_
  refine lv_iload_n hx hb d_10_6_6 rfl (lv_at hl 2 rfl) ?_
  obtain ⟨g3, hf⟩ := gif hf
  obtain ⟨g4, hf⟩ := gif hf
  refine zlt (tgt := 15) hx hb g3 g4 d_10_6_7 (by decide) (fun h5 => ?_) (fun h5 => ?_)
  · replace hf := gpos hf h5
    exact b_SoundFile_takeOnly_15 X hf hZ2 hS2 (lv_sub hl [1] rfl)
  · replace hf := gneg hf h5
    refine lv_iload_n hx hb d_10_6_10 rfl (lv_at hl 0 rfl) ?_
    refine lv_iload_n hx hb d_10_6_11 rfl (lv_at hl 3 rfl) ?_
    obtain ⟨g6, hf⟩ := gif hf
    refine zle (tgt := 26) hx hb g3 g6 d_10_6_12 (by decide) (fun h7 => ?_) (fun h7 => ?_)
    · replace hf := gpos hf h7
      exact b_SoundFile_takeOnly_26 X hf hZ2 hS2 (lv_sub hl [] rfl)
    · replace hf := gneg hf h7
      exact b_SoundFile_takeOnly_15 X hf hZ2 hS2 (lv_sub hl [1] rfl)

noncomputable abbrev Q_SoundFile_loadMeta (K : zK) (D : va_G) (ca : Nat → ClassId) (ad : Nat → Int → Nat → Nat) (L : List Nat) (r : Int) (F : zF) (B : zB) (A : Nat → Prop) : Array Value → State → Outcome → State → Prop := va_Qv (S := Unit) (fun _ => True) (fun _ => zPo D ca ad lnC K.2 L F B A) A
noncomputable def f_SoundFile_loadMeta_153 (K : zK) (s0 : Int) (s1 : Int) (F : zF) (B : zB) : zO := if 0 ≤ s0 ∧ s0 < K.2 8 then if (s1 = 0 ∨ s1 = 1) then some (0, (zup3 F 8 s0 11 s1), B) else none else none
set_option maxHeartbeats 4000000 in
set_option maxRecDepth 100000 in
theorem b_SoundFile_loadMeta_153 {D : va_G} {ca : Nat → ClassId} {ad : Nat → Int → Nat → Nat} {L : List Nat} {aS vS : Nat → Nat} {A : Nat → Prop} {p : Program} {l : Launch} {e : Env} {s : State} {m : MethodId} {args : Array Value} {below : List Frame} {meth : Method} {c : Code} {K : zK} {r : Int} {F9 : zF} {B9 : zB} (X : zX D ca L aS vS A p s m args meth c prog_10_method_18_code 6 (Option.none : Option Jvm.ClassFile.FieldType) "StaveHouse$SoundFile") {s0 : Int} {s1 : Int} {F : zF} {B : zB} {H : Heap} {locs : List Loc} {ls : Array Slot} (hf : f_SoundFile_loadMeta_153 K s0 s1 F B = some (r, F9, B9)) (hZ : zH D ca ad lnC K.2 L F B A H) (hS : va_S A s.heap H locs) (hl : lv_has ls 6 []) : W p l e ({ frames := 3, cells := 0, slots := 0, locals := 65 } : Room) s m args below meth c H locs 0 0 (MQ below (Q_SoundFile_loadMeta K D ca ad L r F9 B9 A) args s 0 0 A) (F0 m 153 ls [.int (iI s1), va_rf (zrf ad 8 s0)]) := by
  obtain ⟨hx, hb, hr, hml, hown, hts, hlk, hK, hA, hL, hX⟩ := id X
  replace hf : (if 0 ≤ s0 ∧ s0 < K.2 8 then if (s1 = 0 ∨ s1 = 1) then some (0, (zup3 F 8 s0 11 s1), B) else none else none) = some (r, F9, B9) := hf
  obtain ⟨g21, hf⟩ := gif hf
  refine W.eq (g2 := F0 m 153 ls [.int (iI s1), .ref (ad 8 s0 0)]) (by rw [zrf_pos (ad := ad) (t := 8) g21.1]; try rfl) ?_
  obtain ⟨g22, hf⟩ := gif hf
  refine zput (ci := 8) (C := RX8) (T := TX8) (k := 11) (v := s1) (w := .int (iI s1)) hx hb hts inW_8 tyX8 tyX8_ok nmX8 hown hK hZ hS g21.1 g21.2 rfl (by decide) k_7_235 rfl (fun G h => congrArg (fun q => Value.int (iI q)) h) (zbool g22) (zboolF g22) (zno (by decide)) d_10_18_153 (fun H23 locs23 hZ23 hS23 => ?_)
  cases hf
  exact W.vret hx hb hr (fun t ht hW => ⟨⟨(), rfl, trivial, by rw [ht]; exact hZ23, va_K.moved hW.alike hK⟩, hS23.F ht⟩) hS23.2.2 d_10_18_156 hlk

noncomputable def f_SoundFile_loadMeta_141 (K : zK) (l1 : Int) (l0 : Int) (F : zF) (B : zB) : zO := if r32 l1 then (if l1 = 47 then if 0 ≤ l0 ∧ l0 < K.2 8 then f_SoundFile_loadMeta_153 K l0 1 F B else none else if 0 ≤ l0 ∧ l0 < K.2 8 then f_SoundFile_loadMeta_153 K l0 0 F B else none) else none
set_option maxHeartbeats 4000000 in
set_option maxRecDepth 100000 in
theorem b_SoundFile_loadMeta_141 {D : va_G} {ca : Nat → ClassId} {ad : Nat → Int → Nat → Nat} {L : List Nat} {aS vS : Nat → Nat} {A : Nat → Prop} {p : Program} {l : Launch} {e : Env} {s : State} {m : MethodId} {args : Array Value} {below : List Frame} {meth : Method} {c : Code} {K : zK} {r : Int} {F9 : zF} {B9 : zB} (X : zX D ca L aS vS A p s m args meth c prog_10_method_18_code 6 (Option.none : Option Jvm.ClassFile.FieldType) "StaveHouse$SoundFile") {l1 : Int} {l0 : Int} {F : zF} {B : zB} {H : Heap} {locs : List Loc} {ls : Array Slot} (hf : f_SoundFile_loadMeta_141 K l1 l0 F B = some (r, F9, B9)) (hZ : zH D ca ad lnC K.2 L F B A H) (hS : va_S A s.heap H locs) (hl : lv_has ls 6 [(1, .int (iI l1)), (0, .ref (ad 8 l0 0))]) : W p l e ({ frames := 3, cells := 0, slots := 0, locals := 65 } : Room) s m args below meth c H locs 0 0 (MQ below (Q_SoundFile_loadMeta K D ca ad L r F9 B9 A) args s 0 0 A) (F0 m 141 ls []) := by
  obtain ⟨hx, hb, hr, hml, hown, hts, hlk, hK, hA, hL, hX⟩ := id X
  replace hf : (if r32 l1 then (if l1 = 47 then if 0 ≤ l0 ∧ l0 < K.2 8 then f_SoundFile_loadMeta_153 K l0 1 F B else none else if 0 ≤ l0 ∧ l0 < K.2 8 then f_SoundFile_loadMeta_153 K l0 0 F B else none) else none) = some (r, F9, B9) := hf
  refine lv_aload_n hx hb d_10_18_141 rfl (lv_at hl 1 rfl) ?_
  refine lv_iload_n hx hb d_10_18_142 rfl (lv_at hl 0 rfl) ?_
  refine lv_bipush (v := iI 47) hx hb d_10_18_143 (by decide) ?_
  obtain ⟨g17, hf⟩ := gif hf
  refine zne (tgt := 152) hx hb g17 (by decide) d_10_18_145 (by decide) (fun h18 => ?_) (fun h18 => ?_)
  · replace hf := gneg hf h18
    refine lv_iconst (v := iI 0) hx hb d_10_18_152 rfl ?_
    obtain ⟨g19, hf⟩ := gif hf
    refine W.eq (g2 := F0 m 153 ls [.int (iI 0), va_rf (zrf ad 8 l0)]) (by rw [zrf_pos (ad := ad) (t := 8) g19.1]; try rfl) ?_
    exact b_SoundFile_loadMeta_153 X hf hZ hS (lv_sub hl [] rfl)
  · replace hf := gpos hf h18
    refine lv_iconst (v := iI 1) hx hb d_10_18_148 rfl ?_
    refine lv_goto (tgt := 153) hx hb d_10_18_149 (by decide) ?_
    obtain ⟨g20, hf⟩ := gif hf
    refine W.eq (g2 := F0 m 153 ls [.int (iI 1), va_rf (zrf ad 8 l0)]) (by rw [zrf_pos (ad := ad) (t := 8) g20.1]; try rfl) ?_
    exact b_SoundFile_loadMeta_153 X hf hZ hS (lv_sub hl [] rfl)

noncomputable def f_SoundFile_loadMeta_103 (K : zK) (l5 : Int) (l4 : Int) (l3 : Int) (l2 : Int) (l1 : Int) (l0 : Int) (F : zF) (B : zB) : zO := if r32 l1 then (if l1 = 81 then if r32 l2 then (if l2 = 3 then if 0 ≤ l0 ∧ l0 < K.2 8 then if 0 ≤ (F 8 l0 4) ∧ (F 8 l0 4) < K.2 0 then zbind (f_ByteRow_at K (F 8 l0 4) (l3 + 2) F B) (fun r37 F37 B37 => zbind (f_SoundFile_tellTempo K l0 (((65536 * l4) + (256 * l5)) + r37) F37 B37) (fun r38 F38 B38 => f_SoundFile_loadMeta_141 K l1 l0 F38 B38)) else none else none else f_SoundFile_loadMeta_141 K l1 l0 F B) else none else f_SoundFile_loadMeta_141 K l1 l0 F B) else none
set_option maxHeartbeats 4000000 in
set_option maxRecDepth 100000 in
theorem b_SoundFile_loadMeta_103 {D : va_G} {ca : Nat → ClassId} {ad : Nat → Int → Nat → Nat} {L : List Nat} {aS vS : Nat → Nat} {A : Nat → Prop} {p : Program} {l : Launch} {e : Env} {s : State} {m : MethodId} {args : Array Value} {below : List Frame} {meth : Method} {c : Code} {K : zK} {r : Int} {F9 : zF} {B9 : zB} (X : zX D ca L aS vS A p s m args meth c prog_10_method_18_code 6 (Option.none : Option Jvm.ClassFile.FieldType) "StaveHouse$SoundFile") {l5 : Int} {l4 : Int} {l3 : Int} {l2 : Int} {l1 : Int} {l0 : Int} {F : zF} {B : zB} {H : Heap} {locs : List Loc} {ls : Array Slot} (hf : f_SoundFile_loadMeta_103 K l5 l4 l3 l2 l1 l0 F B = some (r, F9, B9)) (hZ : zH D ca ad lnC K.2 L F B A H) (hS : va_S A s.heap H locs) (hl : lv_has ls 6 [(5, .int (iI l5)), (4, .int (iI l4)), (3, .int (iI l3)), (2, .int (iI l2)), (1, .int (iI l1)), (0, .ref (ad 8 l0 0))]) : W p l e ({ frames := 3, cells := 0, slots := 0, locals := 65 } : Room) s m args below meth c H locs 0 0 (MQ below (Q_SoundFile_loadMeta K D ca ad L r F9 B9 A) args s 0 0 A) (F0 m 103 ls []) := by
  obtain ⟨hx, hb, hr, hml, hown, hts, hlk, hK, hA, hL, hX⟩ := id X
  replace hf : (if r32 l1 then (if l1 = 81 then if r32 l2 then (if l2 = 3 then if 0 ≤ l0 ∧ l0 < K.2 8 then if 0 ≤ (F 8 l0 4) ∧ (F 8 l0 4) < K.2 0 then zbind (f_ByteRow_at K (F 8 l0 4) (l3 + 2) F B) (fun r37 F37 B37 => zbind (f_SoundFile_tellTempo K l0 (((65536 * l4) + (256 * l5)) + r37) F37 B37) (fun r38 F38 B38 => f_SoundFile_loadMeta_141 K l1 l0 F38 B38)) else none else none else f_SoundFile_loadMeta_141 K l1 l0 F B) else none else f_SoundFile_loadMeta_141 K l1 l0 F B) else none) = some (r, F9, B9) := hf
  refine lv_iload_n hx hb d_10_18_103 rfl (lv_at hl 4 rfl) ?_
  refine lv_bipush (v := iI 81) hx hb d_10_18_104 (by decide) ?_
  obtain ⟨g30, hf⟩ := gif hf
  refine zne (tgt := 141) hx hb g30 (by decide) d_10_18_106 (by decide) (fun h31 => ?_) (fun h31 => ?_)
  · replace hf := gneg hf h31
    exact b_SoundFile_loadMeta_141 X hf hZ hS (lv_sub hl [4, 5] rfl)
  · replace hf := gpos hf h31
    refine lv_iload_n hx hb d_10_18_109 rfl (lv_at hl 3 rfl) ?_
    refine lv_iconst (v := iI 3) hx hb d_10_18_110 rfl ?_
    obtain ⟨g33, hf⟩ := gif hf
    refine zne (tgt := 141) hx hb g33 (by decide) d_10_18_111 (by decide) (fun h34 => ?_) (fun h34 => ?_)
    · replace hf := gneg hf h34
      exact b_SoundFile_loadMeta_141 X hf hZ hS (lv_sub hl [4, 5] rfl)
    · replace hf := gpos hf h34
      refine lv_aload_n hx hb d_10_18_114 rfl (lv_at hl 5 rfl) ?_
      refine lv_ldc hx hb hown (hts _ k_8_105) d_10_18_115 ?_
      refine W.eq (g2 := F0 m 117 ls [.int (iI 65536), .ref (ad 8 l0 0)]) rfl ?_
      refine lv_iload hx hb d_10_18_117 (lv_at hl 1 rfl) ?_
      refine zmul hx hb d_10_18_119 ?_
      refine lv_sipush (v := iI 256) hx hb d_10_18_120 (by decide) ?_
      refine lv_iload hx hb d_10_18_123 (lv_at hl 0 rfl) ?_
      refine zmul hx hb d_10_18_125 ?_
      refine zadd hx hb d_10_18_126 ?_
      refine lv_aload_n hx hb d_10_18_127 rfl (lv_at hl 5 rfl) ?_
      obtain ⟨g35, hf⟩ := gif hf
      refine zget (ci := 8) (C := RX8) (T := TX8) (v := va_rf (zrf ad 0 (F 8 l0 4))) (k := 4) hx hb hts inW_8 hown hK hZ g35.1 g35.2 rfl (by decide) k_7_228 rfl d_10_18_128 ?_
      refine lv_iload_n hx hb d_10_18_131 rfl (lv_at hl 2 rfl) ?_
      refine lv_iconst (v := iI 2) hx hb d_10_18_132 rfl ?_
      refine zadd hx hb d_10_18_133 ?_
      obtain ⟨g36, hf⟩ := gif hf
      refine W.eq (g2 := F0 m 134 ls [.int (iI (l3 + 2)), .ref (ad 0 (F 8 l0 4) 0), .int (iI ((65536 * l4) + (256 * l5))), .ref (ad 8 l0 0)]) (by rw [zrf_pos (ad := ad) (t := 0) g36.1]; try rfl) ?_
      obtain ⟨r37, F37, B37, hc37, hf⟩ := gbind hf
      refine va_calli (va_runV (As := [.int (iI (l3 + 2))]) (rest := [.int (iI ((65536 * l4) + (256 * l5))), .ref (ad 8 l0 0)]) ⟨hx, hb, hml, hown, hts⟩ (c_ByteRow_at (l := l) hc37) (cwV 1 hts (gdV k_8_57 k_3_35 k_3_36 k_1_2 k_3_37) rfl rfl rfl (by decide +kernel) ⟨Nat.le_of_ble_eq_true rfl, Nat.le_of_ble_eq_true rfl⟩) (zPV X hZ hS (ci := 0) g36.1 g36.2 (r := (RX0, TX0, 3)) rfl [.int (iI (l3 + 2))]) rfl rfl hl.1 rfl (lv_room (Nat.le_of_ble_eq_true rfl)) d_10_18_134 ⟨Nat.le_of_ble_eq_true rfl, Nat.le_of_ble_eq_true rfl⟩) hS (fun q _ h => zAin X hS q h) (zAin X hS) (fun p37 u37 t37 H37 locs37 ht37 hv37 hw37 hB37 hz37 hk37 hS37 => ?_)
      have hZ37 := zBack X ht37 hB37
      subst hw37
      refine zadd hx hb d_10_18_137 ?_
      obtain ⟨r38, F38, B38, hc38, hf⟩ := gbind hf
      refine va_callv (va_runV (As := [.int (iI (((65536 * l4) + (256 * l5)) + r37))]) (rest := []) ⟨hx, hb, hml, hown, hts⟩ (c_SoundFile_tellTempo (l := l) hc38) (cwV 1 hts (gdV k_8_106 k_8_108 ks_107 k_1_23 k_8_109) rfl rfl rfl (by decide +kernel) ⟨Nat.le_of_ble_eq_true rfl, Nat.le_of_ble_eq_true rfl⟩) (zPV X hZ37 hS37 (ci := 8) g35.1 g35.2 (r := (RX8, TX8, 15)) rfl [.int (iI (((65536 * l4) + (256 * l5)) + r37))]) rfl rfl hl.1 rfl (lv_room (Nat.le_of_ble_eq_true rfl)) d_10_18_138 ⟨Nat.le_of_ble_eq_true rfl, Nat.le_of_ble_eq_true rfl⟩) hS37 (fun q _ h => zAin X hS37 q h) (zAin X hS37) (fun u38 t38 H38 locs38 ht38 hv38 hw38 hB38 hz38 hk38 hS38 => ?_)
      have hZ38 := zBack X ht38 hB38
      exact b_SoundFile_loadMeta_141 X hf hZ38 hS38 (lv_sub hl [4, 5] rfl)

noncomputable def f_SoundFile_loadMeta_80 (K : zK) (l5 : Int) (l4 : Int) (l3 : Int) (l2 : Int) (l1 : Int) (l0 : Int) (F : zF) (B : zB) : zO := if r32 l1 then (if l1 = 89 then if r32 l2 then (if l2 < 2 then f_SoundFile_loadMeta_103 K l5 l4 l3 l2 l1 l0 F B else if 0 ≤ l0 ∧ l0 < K.2 8 then zbind (f_SoundFile_tellKey K l0 (zi2b l4) l5 F B) (fun r29 F29 B29 => f_SoundFile_loadMeta_141 K l1 l0 F29 B29) else none) else none else f_SoundFile_loadMeta_103 K l5 l4 l3 l2 l1 l0 F B) else none
set_option maxHeartbeats 4000000 in
set_option maxRecDepth 100000 in
theorem b_SoundFile_loadMeta_80 {D : va_G} {ca : Nat → ClassId} {ad : Nat → Int → Nat → Nat} {L : List Nat} {aS vS : Nat → Nat} {A : Nat → Prop} {p : Program} {l : Launch} {e : Env} {s : State} {m : MethodId} {args : Array Value} {below : List Frame} {meth : Method} {c : Code} {K : zK} {r : Int} {F9 : zF} {B9 : zB} (X : zX D ca L aS vS A p s m args meth c prog_10_method_18_code 6 (Option.none : Option Jvm.ClassFile.FieldType) "StaveHouse$SoundFile") {l5 : Int} {l4 : Int} {l3 : Int} {l2 : Int} {l1 : Int} {l0 : Int} {F : zF} {B : zB} {H : Heap} {locs : List Loc} {ls : Array Slot} (hf : f_SoundFile_loadMeta_80 K l5 l4 l3 l2 l1 l0 F B = some (r, F9, B9)) (hZ : zH D ca ad lnC K.2 L F B A H) (hS : va_S A s.heap H locs) (hl : lv_has ls 6 [(5, .int (iI l5)), (4, .int (iI l4)), (3, .int (iI l3)), (2, .int (iI l2)), (1, .int (iI l1)), (0, .ref (ad 8 l0 0))]) : W p l e ({ frames := 3, cells := 0, slots := 0, locals := 65 } : Room) s m args below meth c H locs 0 0 (MQ below (Q_SoundFile_loadMeta K D ca ad L r F9 B9 A) args s 0 0 A) (F0 m 80 ls []) := by
  obtain ⟨hx, hb, hr, hml, hown, hts, hlk, hK, hA, hL, hX⟩ := id X
  replace hf : (if r32 l1 then (if l1 = 89 then if r32 l2 then (if l2 < 2 then f_SoundFile_loadMeta_103 K l5 l4 l3 l2 l1 l0 F B else if 0 ≤ l0 ∧ l0 < K.2 8 then zbind (f_SoundFile_tellKey K l0 (zi2b l4) l5 F B) (fun r29 F29 B29 => f_SoundFile_loadMeta_141 K l1 l0 F29 B29) else none) else none else f_SoundFile_loadMeta_103 K l5 l4 l3 l2 l1 l0 F B) else none) = some (r, F9, B9) := hf
  refine lv_iload_n hx hb d_10_18_80 rfl (lv_at hl 4 rfl) ?_
  refine lv_bipush (v := iI 89) hx hb d_10_18_81 (by decide) ?_
  obtain ⟨g24, hf⟩ := gif hf
  refine zne (tgt := 103) hx hb g24 (by decide) d_10_18_83 (by decide) (fun h25 => ?_) (fun h25 => ?_)
  · replace hf := gneg hf h25
    exact b_SoundFile_loadMeta_103 X hf hZ hS (lv_sub hl [0, 1, 2, 3, 4, 5] rfl)
  · replace hf := gpos hf h25
    refine lv_iload_n hx hb d_10_18_86 rfl (lv_at hl 3 rfl) ?_
    refine lv_iconst (v := iI 2) hx hb d_10_18_87 rfl ?_
    obtain ⟨g26, hf⟩ := gif hf
    refine zlt (tgt := 103) hx hb g26 (by decide) d_10_18_88 (by decide) (fun h27 => ?_) (fun h27 => ?_)
    · replace hf := gpos hf h27
      exact b_SoundFile_loadMeta_103 X hf hZ hS (lv_sub hl [0, 1, 2, 3, 4, 5] rfl)
    · replace hf := gneg hf h27
      refine lv_aload_n hx hb d_10_18_91 rfl (lv_at hl 5 rfl) ?_
      refine lv_iload hx hb d_10_18_92 (lv_at hl 1 rfl) ?_
      refine zi2b_r hx hb d_10_18_94 ?_
      refine lv_iload hx hb d_10_18_95 (lv_at hl 0 rfl) ?_
      obtain ⟨g28, hf⟩ := gif hf
      obtain ⟨r29, F29, B29, hc29, hf⟩ := gbind hf
      refine va_callv (va_runV (As := [.int (iI (zi2b l4)), .int (iI l5)]) (rest := []) ⟨hx, hb, hml, hown, hts⟩ (c_SoundFile_tellKey (l := l) hc29) (cwV 2 hts (gdV k_8_100 k_8_102 ks_106 k_1_23 k_8_103) rfl rfl rfl (by decide +kernel) ⟨Nat.le_of_ble_eq_true rfl, Nat.le_of_ble_eq_true rfl⟩) (zPV X hZ hS (ci := 8) g28.1 g28.2 (r := (RX8, TX8, 15)) rfl [.int (iI (zi2b l4)), .int (iI l5)]) rfl rfl hl.1 rfl (lv_room (Nat.le_of_ble_eq_true rfl)) d_10_18_97 ⟨Nat.le_of_ble_eq_true rfl, Nat.le_of_ble_eq_true rfl⟩) hS (fun q _ h => zAin X hS q h) (zAin X hS) (fun u29 t29 H29 locs29 ht29 hv29 hw29 hB29 hz29 hk29 hS29 => ?_)
      have hZ29 := zBack X ht29 hB29
      refine lv_goto (tgt := 141) hx hb d_10_18_100 (by decide) ?_
      exact b_SoundFile_loadMeta_141 X hf hZ29 hS29 (lv_sub hl [4, 5] rfl)

noncomputable def f_SoundFile_loadMeta_35 (K : zK)  (F : zF) (B : zB) : zO := some (0, F, B)
set_option maxHeartbeats 4000000 in
set_option maxRecDepth 100000 in
theorem b_SoundFile_loadMeta_35 {D : va_G} {ca : Nat → ClassId} {ad : Nat → Int → Nat → Nat} {L : List Nat} {aS vS : Nat → Nat} {A : Nat → Prop} {p : Program} {l : Launch} {e : Env} {s : State} {m : MethodId} {args : Array Value} {below : List Frame} {meth : Method} {c : Code} {K : zK} {r : Int} {F9 : zF} {B9 : zB} (X : zX D ca L aS vS A p s m args meth c prog_10_method_18_code 6 (Option.none : Option Jvm.ClassFile.FieldType) "StaveHouse$SoundFile")  {F : zF} {B : zB} {H : Heap} {locs : List Loc} {ls : Array Slot} (hf : f_SoundFile_loadMeta_35 K  F B = some (r, F9, B9)) (hZ : zH D ca ad lnC K.2 L F B A H) (hS : va_S A s.heap H locs) (hl : lv_has ls 6 []) : W p l e ({ frames := 3, cells := 0, slots := 0, locals := 65 } : Room) s m args below meth c H locs 0 0 (MQ below (Q_SoundFile_loadMeta K D ca ad L r F9 B9 A) args s 0 0 A) (F0 m 35 ls []) := by
  obtain ⟨hx, hb, hr, hml, hown, hts, hlk, hK, hA, hL, hX⟩ := id X
  replace hf : (some (0, F, B)) = some (r, F9, B9) := hf
  cases hf
  exact W.vret hx hb hr (fun t ht hW => ⟨⟨(), rfl, trivial, by rw [ht]; exact hZ, va_K.moved hW.alike hK⟩, hS.F ht⟩) hS.2.2 d_10_18_35 hlk

noncomputable def f_SoundFile_loadMeta (K : zK) (l0 : Int) (F : zF) (B : zB) : zO := if 0 ≤ l0 ∧ l0 < K.2 8 then zbind (f_SoundFile_takeData K l0 F B) (fun r2 F2 B2 => zbind (f_SoundFile_takeDelta K l0 F2 B2) (fun r3 F3 B3 => if r32 r3 then zbind (f_SoundFile_skip K l0 r3 F3 B3) (fun r5 F5 B5 => if r32 (F5 8 l0 7) then (if (F5 8 l0 7) = 0 then (if (F5 8 l0 4) < 0 then f_SoundFile_loadMeta_35 K F5 B5 else if 0 ≤ (F5 8 l0 4) ∧ (F5 8 l0 4) < K.2 0 then zbind (f_ByteRow_at K (F5 8 l0 4) (F3 8 l0 5) F5 B5) (fun r10 F10 B10 => if 0 ≤ (F10 8 l0 4) ∧ (F10 8 l0 4) < K.2 0 then zbind (f_ByteRow_at K (F10 8 l0 4) ((F3 8 l0 5) + 1) F10 B10) (fun r12 F12 B12 => if r32 r2 then (if r2 = 88 then (if r3 < 4 then f_SoundFile_loadMeta_80 K r12 r10 (F3 8 l0 5) r3 r2 l0 F12 B12 else zbind (f_SoundFile_tellTime K l0 r10 r12 F12 B12) (fun r16 F16 B16 => f_SoundFile_loadMeta_141 K r2 l0 F16 B16)) else f_SoundFile_loadMeta_80 K r12 r10 (F3 8 l0 5) r3 r2 l0 F12 B12) else none) else none) else none) else f_SoundFile_loadMeta_35 K F5 B5) else none) else none)) else none
set_option maxHeartbeats 4000000 in
set_option maxRecDepth 100000 in
theorem c_SoundFile_loadMeta {l : Launch} {D : va_G} {ca : Nat → ClassId} {ad : Nat → Int → Nat → Nat} {L : List Nat} {aS vS : Nat → Nat} {sz : Nat} {K : zK}  {l0 : Int} {F F9 : zF} {B B9 : zB} {r : Int} (hf : f_SoundFile_loadMeta K l0 F B = some (r, F9, B9)) : Met l ({ cls := "StaveHouse$SoundFile", name := "loadMeta", desc := "()V" } : Jvm.MethodName) (Cond.code ({ cls := "StaveHouse$SoundFile", name := "loadMeta", desc := "()V" } : Jvm.MethodName) prog_10_method_18_code 6 (Option.none : Option Jvm.ClassFile.FieldType) :: wAll) ({ frames := 3, cells := 0, slots := 0, locals := 65 } : Room) (va_Pc [.ref (ad 8 l0 0)] (zPre D ca ad lnC K.2 L aS vS F B sz)) (Q_SoundFile_loadMeta K D ca ad L r F9 B9 (zA L sz)) 0 0 (zA L sz) := by
  refine zMet (Qc := Q_SoundFile_loadMeta K D ca ad L r F9 B9) (lv := [(0, .ref (ad 8 l0 0))]) (by decide) (Nat.le_of_ble_eq_true rfl) rfl (fun A p e s m below meth c ls X hZ hS hl => ?_)
  obtain ⟨hx, hb, hr, hml, hown, hts, hlk, hK, hA, hL, hX⟩ := id X
  replace hf : (if 0 ≤ l0 ∧ l0 < K.2 8 then zbind (f_SoundFile_takeData K l0 F B) (fun r2 F2 B2 => zbind (f_SoundFile_takeDelta K l0 F2 B2) (fun r3 F3 B3 => if r32 r3 then zbind (f_SoundFile_skip K l0 r3 F3 B3) (fun r5 F5 B5 => if r32 (F5 8 l0 7) then (if (F5 8 l0 7) = 0 then (if (F5 8 l0 4) < 0 then f_SoundFile_loadMeta_35 K F5 B5 else if 0 ≤ (F5 8 l0 4) ∧ (F5 8 l0 4) < K.2 0 then zbind (f_ByteRow_at K (F5 8 l0 4) (F3 8 l0 5) F5 B5) (fun r10 F10 B10 => if 0 ≤ (F10 8 l0 4) ∧ (F10 8 l0 4) < K.2 0 then zbind (f_ByteRow_at K (F10 8 l0 4) ((F3 8 l0 5) + 1) F10 B10) (fun r12 F12 B12 => if r32 r2 then (if r2 = 88 then (if r3 < 4 then f_SoundFile_loadMeta_80 K r12 r10 (F3 8 l0 5) r3 r2 l0 F12 B12 else zbind (f_SoundFile_tellTime K l0 r10 r12 F12 B12) (fun r16 F16 B16 => f_SoundFile_loadMeta_141 K r2 l0 F16 B16)) else f_SoundFile_loadMeta_80 K r12 r10 (F3 8 l0 5) r3 r2 l0 F12 B12) else none) else none) else none) else f_SoundFile_loadMeta_35 K F5 B5) else none) else none)) else none) = some (r, F9, B9) := hf
  refine lv_aload_n hx hb d_10_18_0 rfl (lv_at hl 0 rfl) ?_
  obtain ⟨g1, hf⟩ := gif hf
  obtain ⟨r2, F2, B2, hc2, hf⟩ := gbind hf
  refine va_calli (va_runV (As := []) (rest := []) ⟨hx, hb, hml, hown, hts⟩ (c_SoundFile_takeData (l := l) hc2) (cwV 0 hts (gdV k_8_92 k_8_94 ks_104 k_1_23 k_8_95) rfl rfl rfl (by decide +kernel) ⟨Nat.le_of_ble_eq_true rfl, Nat.le_of_ble_eq_true rfl⟩) (zPV X hZ hS (ci := 8) g1.1 g1.2 (r := (RX8, TX8, 15)) rfl []) rfl rfl hl.1 rfl (lv_room (Nat.le_of_ble_eq_true rfl)) d_10_18_1 ⟨Nat.le_of_ble_eq_true rfl, Nat.le_of_ble_eq_true rfl⟩) hS (fun q _ h => zAin X hS q h) (zAin X hS) (fun p2 u2 t2 H2 locs2 ht2 hv2 hw2 hB2 hz2 hk2 hS2 => ?_)
  have hZ2 := zBack X ht2 hB2
  subst hw2
  refine lv_istore_n (lv' := [(1, .int (iI r2)), (0, .ref (ad 8 l0 0))]) hx hb d_10_18_4 rfl hl (by decide) rfl (fun ls hl => ?_)
  refine lv_aload_n hx hb d_10_18_5 rfl (lv_at hl 1 rfl) ?_
  obtain ⟨r3, F3, B3, hc3, hf⟩ := gbind hf
  refine va_calli (va_runV (As := []) (rest := []) ⟨hx, hb, hml, hown, hts⟩ (c_SoundFile_takeDelta (l := l) hc3) (cwV 0 hts (gdV k_8_84 k_8_86 ks_102 k_1_23 k_8_87) rfl rfl rfl (by decide +kernel) ⟨Nat.le_of_ble_eq_true rfl, Nat.le_of_ble_eq_true rfl⟩) (zPV X hZ2 hS2 (ci := 8) g1.1 g1.2 (r := (RX8, TX8, 15)) rfl []) rfl rfl hl.1 rfl (lv_room (Nat.le_of_ble_eq_true rfl)) d_10_18_6 ⟨Nat.le_of_ble_eq_true rfl, Nat.le_of_ble_eq_true rfl⟩) hS2 (fun q _ h => zAin X hS2 q h) (zAin X hS2) (fun p3 u3 t3 H3 locs3 ht3 hv3 hw3 hB3 hz3 hk3 hS3 => ?_)
  have hZ3 := zBack X ht3 hB3
  subst hw3
  refine lv_istore_n (lv' := [(2, .int (iI r3)), (1, .int (iI r2)), (0, .ref (ad 8 l0 0))]) hx hb d_10_18_9 rfl hl (by decide) rfl (fun ls hl => ?_)
  refine lv_aload_n hx hb d_10_18_10 rfl (lv_at hl 2 rfl) ?_
  refine zget (ci := 8) (C := RX8) (T := TX8) (v := .int (iI (F3 8 l0 5))) (k := 5) hx hb hts inW_8 hown hK hZ3 g1.1 g1.2 rfl (by decide) k_7_229 rfl d_10_18_11 ?_
  refine lv_istore_n (lv' := [(3, .int (iI (F3 8 l0 5))), (2, .int (iI r3)), (1, .int (iI r2)), (0, .ref (ad 8 l0 0))]) hx hb d_10_18_14 rfl hl (by decide) rfl (fun ls hl => ?_)
  refine lv_aload_n hx hb d_10_18_15 rfl (lv_at hl 3 rfl) ?_
  refine lv_iload_n hx hb d_10_18_16 rfl (lv_at hl 1 rfl) ?_
  obtain ⟨g4, hf⟩ := gif hf
  refine zi2l hx hb g4 d_10_18_17 ?_
  obtain ⟨r5, F5, B5, hc5, hf⟩ := gbind hf
  refine va_callv (va_runV (As := [.long (lI r3)]) (rest := []) ⟨hx, hb, hml, hown, hts⟩ (c_SoundFile_skip (l := l) hc5) (cwV 1 hts (gdV k_8_70 k_8_72 ks_99 k_1_23 k_8_73) rfl rfl rfl (by decide +kernel) ⟨Nat.le_of_ble_eq_true rfl, Nat.le_of_ble_eq_true rfl⟩) (zPV X hZ3 hS3 (ci := 8) g1.1 g1.2 (r := (RX8, TX8, 15)) rfl [.long (lI r3)]) rfl rfl hl.1 rfl (lv_room (Nat.le_of_ble_eq_true rfl)) d_10_18_18 ⟨Nat.le_of_ble_eq_true rfl, Nat.le_of_ble_eq_true rfl⟩) hS3 (fun q _ h => zAin X hS3 q h) (zAin X hS3) (fun u5 t5 H5 locs5 ht5 hv5 hw5 hB5 hz5 hk5 hS5 => ?_)
  have hZ5 := zBack X ht5 hB5
  refine lv_aload_n hx hb d_10_18_21 rfl (lv_at hl 3 rfl) ?_
  refine zget (ci := 8) (C := RX8) (T := TX8) (v := .int (iI (F5 8 l0 7))) (k := 7) hx hb hts inW_8 hown hK hZ5 g1.1 g1.2 rfl (by decide) k_7_231 rfl d_10_18_22 ?_
  obtain ⟨g6, hf⟩ := gif hf
  refine z0ne (tgt := 35) hx hb g6 d_10_18_25 (by decide) (fun h7 => ?_) (fun h7 => ?_)
  · replace hf := gneg hf h7
    exact b_SoundFile_loadMeta_35 X hf hZ5 hS5 (lv_sub hl [] rfl)
  · replace hf := gpos hf h7
    refine lv_aload_n hx hb d_10_18_28 rfl (lv_at hl 3 rfl) ?_
    refine zget (ci := 8) (C := RX8) (T := TX8) (v := va_rf (zrf ad 0 (F5 8 l0 4))) (k := 4) hx hb hts inW_8 hown hK hZ5 g1.1 g1.2 rfl (by decide) k_7_228 rfl d_10_18_29 ?_
    refine zifnonnull (tgt := 36) hx hb d_10_18_32 (by decide) (fun h8 => ?_) (fun h8 => ?_)
    · replace hf := gneg hf h8
      refine lv_aload_n hx hb d_10_18_36 rfl (lv_at hl 3 rfl) ?_
      refine zget (ci := 8) (C := RX8) (T := TX8) (v := va_rf (zrf ad 0 (F5 8 l0 4))) (k := 4) hx hb hts inW_8 hown hK hZ5 g1.1 g1.2 rfl (by decide) k_7_228 rfl d_10_18_37 ?_
      refine lv_iload_n hx hb d_10_18_40 rfl (lv_at hl 0 rfl) ?_
      obtain ⟨g9, hf⟩ := gif hf
      refine W.eq (g2 := F0 m 41 ls [.int (iI (F3 8 l0 5)), .ref (ad 0 (F5 8 l0 4) 0)]) (by rw [zrf_pos (ad := ad) (t := 0) g9.1]; try rfl) ?_
      obtain ⟨r10, F10, B10, hc10, hf⟩ := gbind hf
      refine va_calli (va_runV (As := [.int (iI (F3 8 l0 5))]) (rest := []) ⟨hx, hb, hml, hown, hts⟩ (c_ByteRow_at (l := l) hc10) (cwV 1 hts (gdV k_8_57 k_3_35 k_3_36 k_1_2 k_3_37) rfl rfl rfl (by decide +kernel) ⟨Nat.le_of_ble_eq_true rfl, Nat.le_of_ble_eq_true rfl⟩) (zPV X hZ5 hS5 (ci := 0) g9.1 g9.2 (r := (RX0, TX0, 3)) rfl [.int (iI (F3 8 l0 5))]) rfl rfl hl.1 rfl (lv_room (Nat.le_of_ble_eq_true rfl)) d_10_18_41 ⟨Nat.le_of_ble_eq_true rfl, Nat.le_of_ble_eq_true rfl⟩) hS5 (fun q _ h => zAin X hS5 q h) (zAin X hS5) (fun p10 u10 t10 H10 locs10 ht10 hv10 hw10 hB10 hz10 hk10 hS10 => ?_)
      have hZ10 := zBack X ht10 hB10
      subst hw10
      refine lv_istore (lv' := [(4, .int (iI r10)), (3, .int (iI (F3 8 l0 5))), (2, .int (iI r3)), (1, .int (iI r2)), (0, .ref (ad 8 l0 0))]) hx hb d_10_18_44 hl (by decide) rfl (fun ls hl => ?_)
      refine lv_aload_n hx hb d_10_18_46 rfl (lv_at hl 4 rfl) ?_
      refine zget (ci := 8) (C := RX8) (T := TX8) (v := va_rf (zrf ad 0 (F10 8 l0 4))) (k := 4) hx hb hts inW_8 hown hK hZ10 g1.1 g1.2 rfl (by decide) k_7_228 rfl d_10_18_47 ?_
      refine lv_iload_n hx hb d_10_18_50 rfl (lv_at hl 1 rfl) ?_
      refine lv_iconst (v := iI 1) hx hb d_10_18_51 rfl ?_
      refine zadd hx hb d_10_18_52 ?_
      obtain ⟨g11, hf⟩ := gif hf
      refine W.eq (g2 := F0 m 53 ls [.int (iI ((F3 8 l0 5) + 1)), .ref (ad 0 (F10 8 l0 4) 0)]) (by rw [zrf_pos (ad := ad) (t := 0) g11.1]; try rfl) ?_
      obtain ⟨r12, F12, B12, hc12, hf⟩ := gbind hf
      refine va_calli (va_runV (As := [.int (iI ((F3 8 l0 5) + 1))]) (rest := []) ⟨hx, hb, hml, hown, hts⟩ (c_ByteRow_at (l := l) hc12) (cwV 1 hts (gdV k_8_57 k_3_35 k_3_36 k_1_2 k_3_37) rfl rfl rfl (by decide +kernel) ⟨Nat.le_of_ble_eq_true rfl, Nat.le_of_ble_eq_true rfl⟩) (zPV X hZ10 hS10 (ci := 0) g11.1 g11.2 (r := (RX0, TX0, 3)) rfl [.int (iI ((F3 8 l0 5) + 1))]) rfl rfl hl.1 rfl (lv_room (Nat.le_of_ble_eq_true rfl)) d_10_18_53 ⟨Nat.le_of_ble_eq_true rfl, Nat.le_of_ble_eq_true rfl⟩) hS10 (fun q _ h => zAin X hS10 q h) (zAin X hS10) (fun p12 u12 t12 H12 locs12 ht12 hv12 hw12 hB12 hz12 hk12 hS12 => ?_)
      have hZ12 := zBack X ht12 hB12
      subst hw12
      refine lv_istore (lv' := [(5, .int (iI r12)), (4, .int (iI r10)), (3, .int (iI (F3 8 l0 5))), (2, .int (iI r3)), (1, .int (iI r2)), (0, .ref (ad 8 l0 0))]) hx hb d_10_18_56 hl (by decide) rfl (fun ls hl => ?_)
      refine lv_iload_n hx hb d_10_18_58 rfl (lv_at hl 4 rfl) ?_
      refine lv_bipush (v := iI 88) hx hb d_10_18_59 (by decide) ?_
      obtain ⟨g13, hf⟩ := gif hf
      refine zne (tgt := 80) hx hb g13 (by decide) d_10_18_61 (by decide) (fun h14 => ?_) (fun h14 => ?_)
      · replace hf := gneg hf h14
        exact b_SoundFile_loadMeta_80 X hf hZ12 hS12 (lv_sub hl [0, 1, 2, 3, 4, 5] rfl)
      · replace hf := gpos hf h14
        refine lv_iload_n hx hb d_10_18_64 rfl (lv_at hl 3 rfl) ?_
        refine lv_iconst (v := iI 4) hx hb d_10_18_65 rfl ?_
        refine zlt (tgt := 80) hx hb g4 (by decide) d_10_18_66 (by decide) (fun h15 => ?_) (fun h15 => ?_)
        · replace hf := gpos hf h15
          exact b_SoundFile_loadMeta_80 X hf hZ12 hS12 (lv_sub hl [0, 1, 2, 3, 4, 5] rfl)
        · replace hf := gneg hf h15
          refine lv_aload_n hx hb d_10_18_69 rfl (lv_at hl 5 rfl) ?_
          refine lv_iload hx hb d_10_18_70 (lv_at hl 1 rfl) ?_
          refine lv_iload hx hb d_10_18_72 (lv_at hl 0 rfl) ?_
          obtain ⟨r16, F16, B16, hc16, hf⟩ := gbind hf
          refine va_callv (va_runV (As := [.int (iI r10), .int (iI r12)]) (rest := []) ⟨hx, hb, hml, hown, hts⟩ (c_SoundFile_tellTime (l := l) hc16) (cwV 2 hts (gdV k_8_96 k_8_98 ks_105 k_1_23 k_8_99) rfl rfl rfl (by decide +kernel) ⟨Nat.le_of_ble_eq_true rfl, Nat.le_of_ble_eq_true rfl⟩) (zPV X hZ12 hS12 (ci := 8) g1.1 g1.2 (r := (RX8, TX8, 15)) rfl [.int (iI r10), .int (iI r12)]) rfl rfl hl.1 rfl (lv_room (Nat.le_of_ble_eq_true rfl)) d_10_18_74 ⟨Nat.le_of_ble_eq_true rfl, Nat.le_of_ble_eq_true rfl⟩) hS12 (fun q _ h => zAin X hS12 q h) (zAin X hS12) (fun u16 t16 H16 locs16 ht16 hv16 hw16 hB16 hz16 hk16 hS16 => ?_)
          have hZ16 := zBack X ht16 hB16
          refine lv_goto (tgt := 141) hx hb d_10_18_77 (by decide) ?_
          exact b_SoundFile_loadMeta_141 X hf hZ16 hS16 (lv_sub hl [4, 5] rfl)
    · replace hf := gpos hf h8
      exact b_SoundFile_loadMeta_35 X hf hZ5 hS5 (lv_sub hl [] rfl)

noncomputable abbrev Q_Scribe_lastPlace (K : zK) (D : va_G) (ca : Nat → ClassId) (ad : Nat → Int → Nat → Nat) (L : List Nat) (r : Int) (F : zF) (B : zB) (A : Nat → Prop) : Array Value → State → Outcome → State → Prop := va_Ql (S := Unit) (fun p _ => p = lI r) (fun _ => zPo D ca ad lnC K.2 L F B A) A
noncomputable def f_Scribe_lastPlace_101 (K : zK) (l1 : Int) (F : zF) (B : zB) : zO := some (l1, F, B)
set_option maxHeartbeats 4000000 in
set_option maxRecDepth 100000 in
theorem b_Scribe_lastPlace_101 {D : va_G} {ca : Nat → ClassId} {ad : Nat → Int → Nat → Nat} {L : List Nat} {aS vS : Nat → Nat} {A : Nat → Prop} {p : Program} {l : Launch} {e : Env} {s : State} {m : MethodId} {args : Array Value} {below : List Frame} {meth : Method} {c : Code} {K : zK} {r : Int} {F9 : zF} {B9 : zB} (X : zX D ca L aS vS A p s m args meth c prog_9_method_5_code 7 (Option.some Jvm.ClassFile.FieldType.long) "StaveHouse$Scribe") {l1 : Int} {F : zF} {B : zB} {H : Heap} {locs : List Loc} {ls : Array Slot} (hf : f_Scribe_lastPlace_101 K l1 F B = some (r, F9, B9)) (hZ : zH D ca ad lnC K.2 L F B A H) (hS : va_S A s.heap H locs) (hl : lv_has ls 7 [(1, .long (lI l1))]) : W p l e ({ frames := 3, cells := 0, slots := 0, locals := 60 } : Room) s m args below meth c H locs 0 0 (MQ below (Q_Scribe_lastPlace K D ca ad L r F9 B9 A) args s 0 0 A) (F0 m 101 ls []) := by
  obtain ⟨hx, hb, hr, hml, hown, hts, hlk, hK, hA, hL, hX⟩ := id X
  replace hf : (some (l1, F, B)) = some (r, F9, B9) := hf
  refine lv_lload_n hx hb d_9_5_101 rfl (lv_at hl 0 rfl) ?_
  cases hf
  exact W.lret hx hb hr (fun t ht hW => ⟨⟨_, (), rfl, rfl, by rw [ht]; exact hZ, va_K.moved hW.alike hK⟩, hS.F ht⟩) hS.2.2 d_9_5_102 hlk

noncomputable def f_Scribe_lastPlace_78 (rec7 : Int → Int → Int → Int → zF → zB → zO) (K : zK) (l4 : Int) (l3 : Int) (l1 : Int) (l0 : Int) (F : zF) (B : zB) : zO := if 0 ≤ l0 ∧ l0 < K.2 7 then if r64 l1 then if r64 (F 7 l0 6) then zbind (f_Scribe_trackEnd K l0 l4 F B) (fun r22 F22 B22 => rec7 r22 (l3 + 1) (zmax l1 (F 7 l0 6)) l0 F22 B22) else none else none else none
set_option maxHeartbeats 4000000 in
set_option maxRecDepth 100000 in
theorem b_Scribe_lastPlace_78 {D : va_G} {ca : Nat → ClassId} {ad : Nat → Int → Nat → Nat} {L : List Nat} {aS vS : Nat → Nat} {A : Nat → Prop} {p : Program} {l : Launch} {e : Env} {s : State} {m : MethodId} {args : Array Value} {below : List Frame} {meth : Method} {c : Code} {K : zK} {r : Int} {F9 : zF} {B9 : zB} (X : zX D ca L aS vS A p s m args meth c prog_9_method_5_code 7 (Option.some Jvm.ClassFile.FieldType.long) "StaveHouse$Scribe") {rec7 : Int → Int → Int → Int → zF → zB → zO} (hrec7 : ∀ {l4 : Int} {l3 : Int} {l1 : Int} {l0 : Int} {F : zF} {B : zB} {H : Heap} {locs : List Loc} {ls : Array Slot}, rec7 l4 l3 l1 l0 F B = some (r, F9, B9) → zH D ca ad lnC K.2 L F B A H → va_S A s.heap H locs → lv_has ls 7 [(4, .int (iI l4)), (3, .int (iI l3)), (1, .long (lI l1)), (0, .ref (ad 7 l0 0))] → W p l e ({ frames := 3, cells := 0, slots := 0, locals := 60 } : Room) s m args below meth c H locs 0 0 (MQ below (Q_Scribe_lastPlace K D ca ad L r F9 B9 A) args s 0 0 A) (F0 m 7 ls [])) {l4 : Int} {l3 : Int} {l1 : Int} {l0 : Int} {F : zF} {B : zB} {H : Heap} {locs : List Loc} {ls : Array Slot} (hf : f_Scribe_lastPlace_78 rec7 K l4 l3 l1 l0 F B = some (r, F9, B9)) (hZ : zH D ca ad lnC K.2 L F B A H) (hS : va_S A s.heap H locs) (hl : lv_has ls 7 [(4, .int (iI l4)), (3, .int (iI l3)), (1, .long (lI l1)), (0, .ref (ad 7 l0 0))]) : W p l e ({ frames := 3, cells := 0, slots := 0, locals := 60 } : Room) s m args below meth c H locs 0 0 (MQ below (Q_Scribe_lastPlace K D ca ad L r F9 B9 A) args s 0 0 A) (F0 m 78 ls []) := by
  obtain ⟨hx, hb, hr, hml, hown, hts, hlk, hK, hA, hL, hX⟩ := id X
  replace hf : (if 0 ≤ l0 ∧ l0 < K.2 7 then if r64 l1 then if r64 (F 7 l0 6) then zbind (f_Scribe_trackEnd K l0 l4 F B) (fun r22 F22 B22 => rec7 r22 (l3 + 1) (zmax l1 (F 7 l0 6)) l0 F22 B22) else none else none else none) = some (r, F9, B9) := hf
  refine lv_lload_n hx hb d_9_5_78 rfl (lv_at hl 2 rfl) ?_
  refine lv_aload_n hx hb d_9_5_79 rfl (lv_at hl 3 rfl) ?_
  obtain ⟨g19, hf⟩ := gif hf
  refine zget (ci := 7) (C := RX7) (T := TX7) (v := .long (lI (F 7 l0 6))) (k := 6) hx hb hts inW_7 hown hK hZ g19.1 g19.2 rfl (by decide) k_2_104 rfl d_9_5_80 ?_
  obtain ⟨g20, hf⟩ := gif hf
  obtain ⟨g21, hf⟩ := gif hf
  refine va_mmax_long hx hb (by rw [hml]; exact hl.1.symm) hown (hts _ k_8_163) (hts _ k_5_176) (hts _ k_1_3) (hts _ k_5_177) (Nat.le_of_ble_eq_true rfl) (Nat.le_of_ble_eq_true rfl) (Nat.le_of_ble_eq_true rfl) (Nat.le_of_ble_eq_true rfl) d_9_5_83 ?_
  rw [zlmax_e g20 g21]
  refine lv_lstore_n (lv' := [(1, .long (lI (zmax l1 (F 7 l0 6)))), (4, .int (iI l4)), (3, .int (iI l3)), (0, .ref (ad 7 l0 0))]) hx hb d_9_5_86 rfl hl (by decide) rfl (fun ls hl => ?_)
  refine lv_iinc (v := iI (l3 + 1)) (lv' := [(3, .int (iI (l3 + 1))), (1, .long (lI (zmax l1 (F 7 l0 6)))), (4, .int (iI l4)), (0, .ref (ad 7 l0 0))]) hx hb d_9_5_87 hl (k := 2) rfl (iI_add _ 1) (by decide) rfl (fun ls hl => ?_)
  refine lv_aload_n hx hb d_9_5_90 rfl (lv_at hl 3 rfl) ?_
  refine lv_iload hx hb d_9_5_91 (lv_at hl 2 rfl) ?_
  obtain ⟨r22, F22, B22, hc22, hf⟩ := gbind hf
  refine va_calli (va_runV (As := [.int (iI l4)]) (rest := []) ⟨hx, hb, hml, hown, hts⟩ (c_Scribe_trackEnd (l := l) hc22) (cwV 1 hts (gdV k_8_148 k_8_150 ks_112 k_1_7 k_8_151) rfl rfl rfl (by decide +kernel) ⟨Nat.le_of_ble_eq_true rfl, Nat.le_of_ble_eq_true rfl⟩) (zPV X hZ hS (ci := 7) g19.1 g19.2 (r := (RX7, TX7, 9)) rfl [.int (iI l4)]) rfl rfl hl.1 rfl (lv_room (Nat.le_of_ble_eq_true rfl)) d_9_5_93 ⟨Nat.le_of_ble_eq_true rfl, Nat.le_of_ble_eq_true rfl⟩) hS (fun q _ h => zAin X hS q h) (zAin X hS) (fun p22 u22 t22 H22 locs22 ht22 hv22 hw22 hB22 hz22 hk22 hS22 => ?_)
  have hZ22 := zBack X ht22 hB22
  subst hw22
  refine lv_istore (lv' := [(4, .int (iI r22)), (3, .int (iI (l3 + 1))), (1, .long (lI (zmax l1 (F 7 l0 6)))), (0, .ref (ad 7 l0 0))]) hx hb d_9_5_96 hl (by decide) rfl (fun ls hl => ?_)
  refine lv_goto (tgt := 7) hx hb d_9_5_98 (by decide) ?_
  exact hrec7 hf hZ22 hS22 (lv_sub hl [0, 1, 2, 3] rfl)

noncomputable def f_Scribe_lastPlace_41 (rec7 : Int → Int → Int → Int → zF → zB → zO) (K : zK) : Nat → Int → Int → Int → Int → Int → Int → zF → zB → zO
  | 0, _, _, _, _, _, _, _, _ => none
  | n + 1, l6, l5, l4, l3, l1, l0, F, B => if 0 ≤ l0 ∧ l0 < K.2 7 then if 0 ≤ (F 7 l0 0) ∧ (F 7 l0 0) < K.2 8 then if r32 l6 then if r32 (F 8 (F 7 l0 0) 2) then (if (F 8 (F 7 l0 0) 2) ≤ l6 then f_Scribe_lastPlace_78 rec7 K l4 l3 l1 l0 F B else if r32 (F 7 l0 7) then if r32 l5 then (if l5 ≤ (F 7 l0 7) then f_Scribe_lastPlace_78 rec7 K l4 l3 l1 l0 F B else zbind (f_Scribe_gatherEvent K l0 (F 7 l0 7) l5 F B) (fun r18 F18 B18 => f_Scribe_lastPlace_41 rec7 K n (l6 + 1) l5 l4 l3 l1 l0 F18 B18)) else none else none) else none else none else none else none
set_option maxHeartbeats 4000000 in
set_option maxRecDepth 100000 in
theorem b_Scribe_lastPlace_41 {D : va_G} {ca : Nat → ClassId} {ad : Nat → Int → Nat → Nat} {L : List Nat} {aS vS : Nat → Nat} {A : Nat → Prop} {p : Program} {l : Launch} {e : Env} {s : State} {m : MethodId} {args : Array Value} {below : List Frame} {meth : Method} {c : Code} {K : zK} {r : Int} {F9 : zF} {B9 : zB} (X : zX D ca L aS vS A p s m args meth c prog_9_method_5_code 7 (Option.some Jvm.ClassFile.FieldType.long) "StaveHouse$Scribe") {rec7 : Int → Int → Int → Int → zF → zB → zO} (hrec7 : ∀ {l4 : Int} {l3 : Int} {l1 : Int} {l0 : Int} {F : zF} {B : zB} {H : Heap} {locs : List Loc} {ls : Array Slot}, rec7 l4 l3 l1 l0 F B = some (r, F9, B9) → zH D ca ad lnC K.2 L F B A H → va_S A s.heap H locs → lv_has ls 7 [(4, .int (iI l4)), (3, .int (iI l3)), (1, .long (lI l1)), (0, .ref (ad 7 l0 0))] → W p l e ({ frames := 3, cells := 0, slots := 0, locals := 60 } : Room) s m args below meth c H locs 0 0 (MQ below (Q_Scribe_lastPlace K D ca ad L r F9 B9 A) args s 0 0 A) (F0 m 7 ls [])) : ∀ {n : Nat} {l6 : Int} {l5 : Int} {l4 : Int} {l3 : Int} {l1 : Int} {l0 : Int} {F : zF} {B : zB} {H : Heap} {locs : List Loc} {ls : Array Slot}, f_Scribe_lastPlace_41 rec7 K n l6 l5 l4 l3 l1 l0 F B = some (r, F9, B9) → zH D ca ad lnC K.2 L F B A H → va_S A s.heap H locs → lv_has ls 7 [(6, .int (iI l6)), (5, .int (iI l5)), (4, .int (iI l4)), (3, .int (iI l3)), (1, .long (lI l1)), (0, .ref (ad 7 l0 0))] → W p l e ({ frames := 3, cells := 0, slots := 0, locals := 60 } : Room) s m args below meth c H locs 0 0 (MQ below (Q_Scribe_lastPlace K D ca ad L r F9 B9 A) args s 0 0 A) (F0 m 41 ls []) := by
  obtain ⟨hx, hb, hr, hml, hown, hts, hlk, hK, hA, hL, hX⟩ := id X
  intro n
  induction n with
  | zero =>
    intros
    rename_i hf _ _ _
    cases hf
  | succ n ih =>
    intro l6 l5 l4 l3 l1 l0 F B H locs ls hf hZ hS hl
    replace hf : (if 0 ≤ l0 ∧ l0 < K.2 7 then if 0 ≤ (F 7 l0 0) ∧ (F 7 l0 0) < K.2 8 then if r32 l6 then if r32 (F 8 (F 7 l0 0) 2) then (if (F 8 (F 7 l0 0) 2) ≤ l6 then f_Scribe_lastPlace_78 rec7 K l4 l3 l1 l0 F B else if r32 (F 7 l0 7) then if r32 l5 then (if l5 ≤ (F 7 l0 7) then f_Scribe_lastPlace_78 rec7 K l4 l3 l1 l0 F B else zbind (f_Scribe_gatherEvent K l0 (F 7 l0 7) l5 F B) (fun r18 F18 B18 => f_Scribe_lastPlace_41 rec7 K n (l6 + 1) l5 l4 l3 l1 l0 F18 B18)) else none else none) else none else none else none else none) = some (r, F9, B9) := hf
    refine lv_iload hx hb d_9_5_41 (lv_at hl 0 rfl) ?_
    refine lv_aload_n hx hb d_9_5_43 rfl (lv_at hl 5 rfl) ?_
    obtain ⟨g10, hf⟩ := gif hf
    refine zget (ci := 7) (C := RX7) (T := TX7) (v := va_rf (zrf ad 8 (F 7 l0 0))) (k := 0) hx hb hts inW_7 hown hK hZ g10.1 g10.2 rfl (by decide) k_2_98 rfl d_9_5_44 ?_
    obtain ⟨g11, hf⟩ := gif hf
    refine zunrf g11.1 ?_
    refine zget (ci := 8) (C := RX8) (T := TX8) (v := .int (iI (F 8 (F 7 l0 0) 2))) (k := 2) hx hb hts inW_8 hown hK hZ g11.1 g11.2 rfl (by decide) k_7_224 rfl d_9_5_47 ?_
    obtain ⟨g12, hf⟩ := gif hf
    obtain ⟨g13, hf⟩ := gif hf
    refine zge (tgt := 78) hx hb g12 g13 d_9_5_50 (by decide) (fun h14 => ?_) (fun h14 => ?_)
    · replace hf := gpos hf h14
      exact b_Scribe_lastPlace_78 X hrec7 hf hZ hS (lv_sub hl [2, 3, 4, 5] rfl)
    · replace hf := gneg hf h14
      refine lv_aload_n hx hb d_9_5_53 rfl (lv_at hl 5 rfl) ?_
      refine zget (ci := 7) (C := RX7) (T := TX7) (v := .int (iI (F 7 l0 7))) (k := 7) hx hb hts inW_7 hown hK hZ g10.1 g10.2 rfl (by decide) k_2_105 rfl d_9_5_54 ?_
      refine lv_iload hx hb d_9_5_57 (lv_at hl 1 rfl) ?_
      obtain ⟨g15, hf⟩ := gif hf
      obtain ⟨g16, hf⟩ := gif hf
      refine zge (tgt := 78) hx hb g15 g16 d_9_5_59 (by decide) (fun h17 => ?_) (fun h17 => ?_)
      · replace hf := gpos hf h17
        exact b_Scribe_lastPlace_78 X hrec7 hf hZ hS (lv_sub hl [2, 3, 4, 5] rfl)
      · replace hf := gneg hf h17
        refine lv_aload_n hx hb d_9_5_62 rfl (lv_at hl 5 rfl) ?_
        refine lv_aload_n hx hb d_9_5_63 rfl (lv_at hl 5 rfl) ?_
        refine zget (ci := 7) (C := RX7) (T := TX7) (v := .int (iI (F 7 l0 7))) (k := 7) hx hb hts inW_7 hown hK hZ g10.1 g10.2 rfl (by decide) k_2_105 rfl d_9_5_64 ?_
        refine lv_iload hx hb d_9_5_67 (lv_at hl 1 rfl) ?_
        obtain ⟨r18, F18, B18, hc18, hf⟩ := gbind hf
        refine va_callv (va_runV (As := [.int (iI (F 7 l0 7)), .int (iI l5)]) (rest := []) ⟨hx, hb, hml, hown, hts⟩ (c_Scribe_gatherEvent (l := l) hc18) (cwV 2 hts (gdV k_8_152 k_8_154 ks_113 k_1_7 k_8_155) rfl rfl rfl (by decide +kernel) ⟨Nat.le_of_ble_eq_true rfl, Nat.le_of_ble_eq_true rfl⟩) (zPV X hZ hS (ci := 7) g10.1 g10.2 (r := (RX7, TX7, 9)) rfl [.int (iI (F 7 l0 7)), .int (iI l5)]) rfl rfl hl.1 rfl (lv_room (Nat.le_of_ble_eq_true rfl)) d_9_5_69 ⟨Nat.le_of_ble_eq_true rfl, Nat.le_of_ble_eq_true rfl⟩) hS (fun q _ h => zAin X hS q h) (zAin X hS) (fun u18 t18 H18 locs18 ht18 hv18 hw18 hB18 hz18 hk18 hS18 => ?_)
        have hZ18 := zBack X ht18 hB18
        refine lv_iinc (v := iI (l6 + 1)) (lv' := [(6, .int (iI (l6 + 1))), (5, .int (iI l5)), (4, .int (iI l4)), (3, .int (iI l3)), (1, .long (lI l1)), (0, .ref (ad 7 l0 0))]) hx hb d_9_5_72 hl (k := 0) rfl (iI_add _ 1) (by decide) rfl (fun ls hl => ?_)
        refine lv_goto (tgt := 41) hx hb d_9_5_75 (by decide) ?_
        exact ih hf hZ18 hS18 (lv_sub hl [0, 1, 2, 3, 4, 5] rfl)

noncomputable def f_Scribe_lastPlace_7 (K : zK) : Nat → Int → Int → Int → Int → zF → zB → zO
  | 0, _, _, _, _, _, _ => none
  | n + 1, l4, l3, l1, l0, F, B => if 0 ≤ l0 ∧ l0 < K.2 7 then if 0 ≤ (F 7 l0 0) ∧ (F 7 l0 0) < K.2 8 then if r32 l4 then if r32 (F 8 (F 7 l0 0) 2) then (if (F 8 (F 7 l0 0) 2) ≤ l4 then f_Scribe_lastPlace_101 K l1 F B else if r32 l3 then (if 4 ≤ l3 then f_Scribe_lastPlace_101 K l1 F B else zbind (f_Scribe_trackEnd K l0 l4 F B) (fun r8 F8 B8 => f_Scribe_lastPlace_41 (f_Scribe_lastPlace_7 K n) K K.1 0 r8 l4 l3 l1 l0 (zup3 F8 7 l0 7 l4) B8)) else none) else none else none else none else none
set_option maxHeartbeats 4000000 in
set_option maxRecDepth 100000 in
theorem b_Scribe_lastPlace_7 {D : va_G} {ca : Nat → ClassId} {ad : Nat → Int → Nat → Nat} {L : List Nat} {aS vS : Nat → Nat} {A : Nat → Prop} {p : Program} {l : Launch} {e : Env} {s : State} {m : MethodId} {args : Array Value} {below : List Frame} {meth : Method} {c : Code} {K : zK} {r : Int} {F9 : zF} {B9 : zB} (X : zX D ca L aS vS A p s m args meth c prog_9_method_5_code 7 (Option.some Jvm.ClassFile.FieldType.long) "StaveHouse$Scribe") : ∀ {n : Nat} {l4 : Int} {l3 : Int} {l1 : Int} {l0 : Int} {F : zF} {B : zB} {H : Heap} {locs : List Loc} {ls : Array Slot}, f_Scribe_lastPlace_7 K n l4 l3 l1 l0 F B = some (r, F9, B9) → zH D ca ad lnC K.2 L F B A H → va_S A s.heap H locs → lv_has ls 7 [(4, .int (iI l4)), (3, .int (iI l3)), (1, .long (lI l1)), (0, .ref (ad 7 l0 0))] → W p l e ({ frames := 3, cells := 0, slots := 0, locals := 60 } : Room) s m args below meth c H locs 0 0 (MQ below (Q_Scribe_lastPlace K D ca ad L r F9 B9 A) args s 0 0 A) (F0 m 7 ls []) := by
  obtain ⟨hx, hb, hr, hml, hown, hts, hlk, hK, hA, hL, hX⟩ := id X
  intro n
  induction n with
  | zero =>
    intros
    rename_i hf _ _ _
    cases hf
  | succ n ih =>
    intro l4 l3 l1 l0 F B H locs ls hf hZ hS hl
    replace hf : (if 0 ≤ l0 ∧ l0 < K.2 7 then if 0 ≤ (F 7 l0 0) ∧ (F 7 l0 0) < K.2 8 then if r32 l4 then if r32 (F 8 (F 7 l0 0) 2) then (if (F 8 (F 7 l0 0) 2) ≤ l4 then f_Scribe_lastPlace_101 K l1 F B else if r32 l3 then (if 4 ≤ l3 then f_Scribe_lastPlace_101 K l1 F B else zbind (f_Scribe_trackEnd K l0 l4 F B) (fun r8 F8 B8 => f_Scribe_lastPlace_41 (f_Scribe_lastPlace_7 K n) K K.1 0 r8 l4 l3 l1 l0 (zup3 F8 7 l0 7 l4) B8)) else none) else none else none else none else none) = some (r, F9, B9) := hf
    refine lv_iload hx hb d_9_5_7 (lv_at hl 0 rfl) ?_
    refine lv_aload_n hx hb d_9_5_9 rfl (lv_at hl 3 rfl) ?_
    obtain ⟨g1, hf⟩ := gif hf
    refine zget (ci := 7) (C := RX7) (T := TX7) (v := va_rf (zrf ad 8 (F 7 l0 0))) (k := 0) hx hb hts inW_7 hown hK hZ g1.1 g1.2 rfl (by decide) k_2_98 rfl d_9_5_10 ?_
    obtain ⟨g2, hf⟩ := gif hf
    refine zunrf g2.1 ?_
    refine zget (ci := 8) (C := RX8) (T := TX8) (v := .int (iI (F 8 (F 7 l0 0) 2))) (k := 2) hx hb hts inW_8 hown hK hZ g2.1 g2.2 rfl (by decide) k_7_224 rfl d_9_5_13 ?_
    obtain ⟨g3, hf⟩ := gif hf
    obtain ⟨g4, hf⟩ := gif hf
    refine zge (tgt := 101) hx hb g3 g4 d_9_5_16 (by decide) (fun h5 => ?_) (fun h5 => ?_)
    · replace hf := gpos hf h5
      exact b_Scribe_lastPlace_101 X hf hZ hS (lv_sub hl [2] rfl)
    · replace hf := gneg hf h5
      refine lv_iload_n hx hb d_9_5_19 rfl (lv_at hl 1 rfl) ?_
      refine lv_iconst (v := iI 4) hx hb d_9_5_20 rfl ?_
      obtain ⟨g6, hf⟩ := gif hf
      refine zge (tgt := 101) hx hb g6 (by decide) d_9_5_21 (by decide) (fun h7 => ?_) (fun h7 => ?_)
      · replace hf := gpos hf h7
        exact b_Scribe_lastPlace_101 X hf hZ hS (lv_sub hl [2] rfl)
      · replace hf := gneg hf h7
        refine lv_aload_n hx hb d_9_5_24 rfl (lv_at hl 3 rfl) ?_
        refine lv_iload hx hb d_9_5_25 (lv_at hl 0 rfl) ?_
        obtain ⟨r8, F8, B8, hc8, hf⟩ := gbind hf
        refine va_calli (va_runV (As := [.int (iI l4)]) (rest := []) ⟨hx, hb, hml, hown, hts⟩ (c_Scribe_trackEnd (l := l) hc8) (cwV 1 hts (gdV k_8_148 k_8_150 ks_112 k_1_7 k_8_151) rfl rfl rfl (by decide +kernel) ⟨Nat.le_of_ble_eq_true rfl, Nat.le_of_ble_eq_true rfl⟩) (zPV X hZ hS (ci := 7) g1.1 g1.2 (r := (RX7, TX7, 9)) rfl [.int (iI l4)]) rfl rfl hl.1 rfl (lv_room (Nat.le_of_ble_eq_true rfl)) d_9_5_27 ⟨Nat.le_of_ble_eq_true rfl, Nat.le_of_ble_eq_true rfl⟩) hS (fun q _ h => zAin X hS q h) (zAin X hS) (fun p8 u8 t8 H8 locs8 ht8 hv8 hw8 hB8 hz8 hk8 hS8 => ?_)
        have hZ8 := zBack X ht8 hB8
        subst hw8
        refine lv_istore (lv' := [(5, .int (iI r8)), (4, .int (iI l4)), (3, .int (iI l3)), (1, .long (lI l1)), (0, .ref (ad 7 l0 0))]) hx hb d_9_5_30 hl (by decide) rfl (fun ls hl => ?_)
        refine lv_aload_n hx hb d_9_5_32 rfl (lv_at hl 4 rfl) ?_
        refine lv_iload hx hb d_9_5_33 (lv_at hl 1 rfl) ?_
        refine zput (ci := 7) (C := RX7) (T := TX7) (k := 7) (v := l4) (w := .int (iI l4)) hx hb hts inW_7 tyX7 tyX7_ok nmX7 hown hK hZ8 hS8 g1.1 g1.2 rfl (by decide) k_2_105 rfl (fun G h => congrArg (fun q => Value.int (iI q)) h) rfl rfl (zno (by decide)) d_9_5_35 (fun H9 locs9 hZ9 hS9 => ?_)
        refine lv_iconst (v := iI 0) hx hb d_9_5_38 rfl ?_
        refine lv_istore (lv' := [(6, .int (iI 0)), (5, .int (iI r8)), (4, .int (iI l4)), (3, .int (iI l3)), (1, .long (lI l1)), (0, .ref (ad 7 l0 0))]) hx hb d_9_5_39 hl (by decide) rfl (fun ls hl => ?_)
        exact b_Scribe_lastPlace_41 X ih hf hZ9 hS9 (lv_sub hl [0, 1, 2, 3, 4, 5] rfl)

noncomputable def f_Scribe_lastPlace (K : zK) (l0 : Int) (F : zF) (B : zB) : zO := f_Scribe_lastPlace_7 K K.1 0 0 0 l0 F B
set_option maxHeartbeats 4000000 in
set_option maxRecDepth 100000 in
theorem c_Scribe_lastPlace {l : Launch} {D : va_G} {ca : Nat → ClassId} {ad : Nat → Int → Nat → Nat} {L : List Nat} {aS vS : Nat → Nat} {sz : Nat} {K : zK}  {l0 : Int} {F F9 : zF} {B B9 : zB} {r : Int} (hf : f_Scribe_lastPlace K l0 F B = some (r, F9, B9)) : Met l ({ cls := "StaveHouse$Scribe", name := "lastPlace", desc := "()J" } : Jvm.MethodName) (Cond.code ({ cls := "StaveHouse$Scribe", name := "lastPlace", desc := "()J" } : Jvm.MethodName) prog_9_method_5_code 7 (Option.some Jvm.ClassFile.FieldType.long) :: wAll) ({ frames := 3, cells := 0, slots := 0, locals := 60 } : Room) (va_Pc [.ref (ad 7 l0 0)] (zPre D ca ad lnC K.2 L aS vS F B sz)) (Q_Scribe_lastPlace K D ca ad L r F9 B9 (zA L sz)) 0 0 (zA L sz) := by
  refine zMet (Qc := Q_Scribe_lastPlace K D ca ad L r F9 B9) (lv := [(0, .ref (ad 7 l0 0))]) (by decide) (Nat.le_of_ble_eq_true rfl) rfl (fun A p e s m below meth c ls X hZ hS hl => ?_)
  obtain ⟨hx, hb, hr, hml, hown, hts, hlk, hK, hA, hL, hX⟩ := id X
  replace hf : (f_Scribe_lastPlace_7 K K.1 0 0 0 l0 F B) = some (r, F9, B9) := hf
  refine lv_lconst (v := lI 0) hx hb d_9_5_0 (by decide) ?_
  refine lv_lstore_n (lv' := [(1, .long (lI 0)), (0, .ref (ad 7 l0 0))]) hx hb d_9_5_1 rfl hl (by decide) rfl (fun ls hl => ?_)
  refine lv_iconst (v := iI 0) hx hb d_9_5_2 rfl ?_
  refine lv_istore_n (lv' := [(3, .int (iI 0)), (1, .long (lI 0)), (0, .ref (ad 7 l0 0))]) hx hb d_9_5_3 rfl hl (by decide) rfl (fun ls hl => ?_)
  refine lv_iconst (v := iI 0) hx hb d_9_5_4 rfl ?_
  refine lv_istore (lv' := [(4, .int (iI 0)), (3, .int (iI 0)), (1, .long (lI 0)), (0, .ref (ad 7 l0 0))]) hx hb d_9_5_5 hl (by decide) rfl (fun ls hl => ?_)
  exact b_Scribe_lastPlace_7 X hf hZ hS (lv_sub hl [0, 1, 2, 3] rfl)

noncomputable abbrev Q_Scribe_writePitch (K : zK) (D : va_G) (ca : Nat → ClassId) (ad : Nat → Int → Nat → Nat) (L : List Nat) (r : Int) (F : zF) (B : zB) (A : Nat → Prop) : Array Value → State → Outcome → State → Prop := va_Qv (S := Unit) (fun _ => True) (fun _ => zPo D ca ad lnC K.2 L F B A) A
noncomputable def f_Scribe_writePitch_43 (rec20 : Int → Int → Int → Int → zF → zB → zO) (K : zK) (l3 : Int) (l0 : Int) (l1 : Int) (l2 : Int) (s0 : Int) (s1 : Int) (F : zF) (B : zB) : zO := if 0 ≤ s0 ∧ s0 < K.2 0 then zbind (f_ByteRow_put K s0 s1 F B) (fun r16 F16 B16 => rec20 (l3 + 1) l0 l1 l2 F16 B16) else none
set_option maxHeartbeats 4000000 in
set_option maxRecDepth 100000 in
theorem b_Scribe_writePitch_43 {D : va_G} {ca : Nat → ClassId} {ad : Nat → Int → Nat → Nat} {L : List Nat} {aS vS : Nat → Nat} {A : Nat → Prop} {p : Program} {l : Launch} {e : Env} {s : State} {m : MethodId} {args : Array Value} {below : List Frame} {meth : Method} {c : Code} {K : zK} {r : Int} {F9 : zF} {B9 : zB} (X : zX D ca L aS vS A p s m args meth c prog_9_method_14_code 4 (Option.none : Option Jvm.ClassFile.FieldType) "StaveHouse$Scribe") {rec20 : Int → Int → Int → Int → zF → zB → zO} (hrec20 : ∀ {l3 : Int} {l0 : Int} {l1 : Int} {l2 : Int} {F : zF} {B : zB} {H : Heap} {locs : List Loc} {ls : Array Slot}, rec20 l3 l0 l1 l2 F B = some (r, F9, B9) → zH D ca ad lnC K.2 L F B A H → va_S A s.heap H locs → lv_has ls 4 [(3, .int (iI l3)), (0, .ref (ad 7 l0 0)), (1, .int (iI l1)), (2, .int (iI l2))] → W p l e ({ frames := 4, cells := 0, slots := 0, locals := 85 } : Room) s m args below meth c H locs 0 0 (MQ below (Q_Scribe_writePitch K D ca ad L r F9 B9 A) args s 0 0 A) (F0 m 20 ls [])) {l3 : Int} {l0 : Int} {l1 : Int} {l2 : Int} {s0 : Int} {s1 : Int} {F : zF} {B : zB} {H : Heap} {locs : List Loc} {ls : Array Slot} (hf : f_Scribe_writePitch_43 rec20 K l3 l0 l1 l2 s0 s1 F B = some (r, F9, B9)) (hZ : zH D ca ad lnC K.2 L F B A H) (hS : va_S A s.heap H locs) (hl : lv_has ls 4 [(3, .int (iI l3)), (0, .ref (ad 7 l0 0)), (1, .int (iI l1)), (2, .int (iI l2))]) : W p l e ({ frames := 4, cells := 0, slots := 0, locals := 85 } : Room) s m args below meth c H locs 0 0 (MQ below (Q_Scribe_writePitch K D ca ad L r F9 B9 A) args s 0 0 A) (F0 m 43 ls [.int (iI s1), va_rf (zrf ad 0 s0)]) := by
  obtain ⟨hx, hb, hr, hml, hown, hts, hlk, hK, hA, hL, hX⟩ := id X
  replace hf : (if 0 ≤ s0 ∧ s0 < K.2 0 then zbind (f_ByteRow_put K s0 s1 F B) (fun r16 F16 B16 => rec20 (l3 + 1) l0 l1 l2 F16 B16) else none) = some (r, F9, B9) := hf
  obtain ⟨g15, hf⟩ := gif hf
  refine W.eq (g2 := F0 m 43 ls [.int (iI s1), .ref (ad 0 s0 0)]) (by rw [zrf_pos (ad := ad) (t := 0) g15.1]; try rfl) ?_
  obtain ⟨r16, F16, B16, hc16, hf⟩ := gbind hf
  refine va_callv (va_runV (As := [.int (iI s1)]) (rest := []) ⟨hx, hb, hml, hown, hts⟩ (c_ByteRow_put (l := l) hc16) (cwV 1 hts (gdV k_8_180 k_2_171 k_2_172 k_1_2 k_2_173) rfl rfl rfl (by decide +kernel) ⟨Nat.le_of_ble_eq_true rfl, Nat.le_of_ble_eq_true rfl⟩) (zPV X hZ hS (ci := 0) g15.1 g15.2 (r := (RX0, TX0, 3)) rfl [.int (iI s1)]) rfl rfl hl.1 rfl (lv_room (Nat.le_of_ble_eq_true rfl)) d_9_14_43 ⟨Nat.le_of_ble_eq_true rfl, Nat.le_of_ble_eq_true rfl⟩) hS (fun q _ h => zAin X hS q h) (zAin X hS) (fun u16 t16 H16 locs16 ht16 hv16 hw16 hB16 hz16 hk16 hS16 => ?_)
  have hZ16 := zBack X ht16 hB16
  refine lv_iinc (v := iI (l3 + 1)) (lv' := [(3, .int (iI (l3 + 1))), (0, .ref (ad 7 l0 0)), (1, .int (iI l1)), (2, .int (iI l2))]) hx hb d_9_14_46 hl (k := 0) rfl (iI_add _ 1) (by decide) rfl (fun ls hl => ?_)
  refine lv_goto (tgt := 20) hx hb d_9_14_49 (by decide) ?_
  exact hrec20 hf hZ16 hS16 (lv_sub hl [0, 1, 2, 3] rfl)

noncomputable def f_Scribe_writePitch_20 (K : zK) : Nat → Int → Int → Int → Int → zF → zB → zO
  | 0, _, _, _, _, _, _ => none
  | n + 1, l3, l0, l1, l2, F, B => if r32 l2 then if r32 l3 then if r32 (zabs l2) then (if (zabs l2) ≤ l3 then if 0 ≤ l0 ∧ l0 < K.2 7 then if 0 ≤ (F 7 l0 1) ∧ (F 7 l0 1) < K.2 0 then zbind (f_ByteRow_put K (F 7 l0 1) (48 + (zdv l1 7)) F B) (fun r12 F12 B12 => some (0, F12, B12)) else none else none else if 0 ≤ l0 ∧ l0 < K.2 7 then (if l2 ≤ 0 then f_Scribe_writePitch_43 (f_Scribe_writePitch_20 K n) K l3 l0 l1 l2 (F 7 l0 1) 98 F B else f_Scribe_writePitch_43 (f_Scribe_writePitch_20 K n) K l3 l0 l1 l2 (F 7 l0 1) 35 F B) else none) else none else none else none
