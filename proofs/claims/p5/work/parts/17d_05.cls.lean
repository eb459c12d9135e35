set_option maxHeartbeats 4000000 in
set_option maxRecDepth 100000 in
theorem c_SoundFile_tellKey {l : Launch} {D : va_G} {ca : Nat → ClassId} {ad : Nat → Int → Nat → Nat} {L : List Nat} {aS vS : Nat → Nat} {sz : Nat} {K : zK}  {l0 : Int} {l1 : Int} {l2 : Int} {F F9 : zF} {B B9 : zB} {r : Int} (hf : f_SoundFile_tellKey K l0 l1 l2 F B = some (r, F9, B9)) : Met l ({ cls := "StaveHouse$SoundFile", name := "tellKey", desc := "(II)V" } : Jvm.MethodName) (Cond.code ({ cls := "StaveHouse$SoundFile", name := "tellKey", desc := "(II)V" } : Jvm.MethodName) prog_10_method_20_code 3 (Option.none : Option Jvm.ClassFile.FieldType) :: wAll) ({ frames := 1, cells := 0, slots := 0, locals := 13 } : Room) (va_Pc [.ref (ad 8 l0 0), .int (iI l1), .int (iI l2)] (zPre D ca ad lnC K.2 L aS vS F B sz)) (Q_SoundFile_tellKey K D ca ad L r F9 B9 (zA L sz)) 0 0 (zA L sz) := by
  refine zMet (Qc := Q_SoundFile_tellKey K D ca ad L r F9 B9) (lv := [(0, .ref (ad 8 l0 0)), (1, .int (iI l1)), (2, .int (iI l2))]) (by decide) (Nat.le_of_ble_eq_true rfl) rfl (fun A p e s m below meth c ls X hZ hS hl => ?_)
  obtain ⟨hx, hb, hr, hml, hown, hts, hlk, hK, hA, hL, hX⟩ := id X
  replace hf : (if 0 ≤ l0 ∧ l0 < K.2 8 then if r32 (F 8 l0 12) then (if (F 8 l0 12) = 0 then if r32 l1 then if r32 (zabs l1) then (if 7 < (zabs l1) then f_SoundFile_tellKey_40 K F B else if r32 l2 then (if 1 < l2 then f_SoundFile_tellKey_40 K F B else f_SoundFile_tellKey_40 K (zup3 F 8 l0 12 1) (zup4 (zup4 B 8 l0 0 2 l1) 8 l0 0 3 l2)) else none) else none else none else f_SoundFile_tellKey_40 K F B) else none else none) = some (r, F9, B9) := hf
  refine lv_aload_n hx hb d_10_20_0 rfl (lv_at hl 0 rfl) ?_
  obtain ⟨g1, hf⟩ := gif hf
  refine zget (ci := 8) (C := RX8) (T := TX8) (v := .int (iI (F 8 l0 12))) (k := 12) hx hb hts inW_8 hown hK hZ g1.1 g1.2 rfl (by decide) k_7_236 rfl d_10_20_1 ?_
  obtain ⟨g2, hf⟩ := gif hf
  refine z0ne (tgt := 40) hx hb g2 d_10_20_4 (by decide) (fun h3 => ?_) (fun h3 => ?_)
  · replace hf := gneg hf h3
    exact b_SoundFile_tellKey_40 X hf hZ hS (lv_sub hl [] rfl)
  · replace hf := gpos hf h3
    refine lv_iload_n hx hb d_10_20_7 rfl (lv_at hl 1 rfl) ?_
    obtain ⟨g4, hf⟩ := gif hf
    refine va_mabs hx hb (by rw [hml]; exact hl.1.symm) hown (hts _ k_8_104) (hts _ k_4_229) (hts _ k_1_3) (hts _ k_4_230) (Nat.le_of_ble_eq_true rfl) (Nat.le_of_ble_eq_true rfl) (Nat.le_of_ble_eq_true rfl) (Nat.le_of_ble_eq_true rfl) d_10_20_8 ?_
    rw [zabs_e g4]
    refine lv_bipush (v := iI 7) hx hb d_10_20_11 (by decide) ?_
    obtain ⟨g5, hf⟩ := gif hf
    refine zgt (tgt := 40) hx hb g5 (by decide) d_10_20_13 (by decide) (fun h6 => ?_) (fun h6 => ?_)
    · replace hf := gpos hf h6
      exact b_SoundFile_tellKey_40 X hf hZ hS (lv_sub hl [] rfl)
    · replace hf := gneg hf h6
      refine lv_iload_n hx hb d_10_20_16 rfl (lv_at hl 2 rfl) ?_
      refine lv_iconst (v := iI 1) hx hb d_10_20_17 rfl ?_
      obtain ⟨g7, hf⟩ := gif hf
      refine zgt (tgt := 40) hx hb g7 (by decide) d_10_20_18 (by decide) (fun h8 => ?_) (fun h8 => ?_)
      · replace hf := gpos hf h8
        exact b_SoundFile_tellKey_40 X hf hZ hS (lv_sub hl [] rfl)
      · replace hf := gneg hf h8
        refine lv_aload_n hx hb d_10_20_21 rfl (lv_at hl 0 rfl) ?_
        refine zget (ci := 8) (C := RX8) (T := TX8) (v := .ref (ad 8 l0 (0 + 1))) (k := 0) hx hb hts inW_8 hown hK hZ g1.1 g1.2 rfl (by decide) k_7_217 rfl d_10_20_22 ?_
        refine lv_iconst (v := iI 2) hx hb d_10_20_25 rfl ?_
        refine lv_iload_n hx hb d_10_20_26 rfl (lv_at hl 1 rfl) ?_
        refine zast (ci := 8) (k := 0) hx hb hK rfl hZ hS g1.1 g1.2 rfl (Nat.le_of_ble_eq_true rfl) (by decide) (show (2 : Int) < 7 by decide) d_10_20_27 (fun H9 locs9 hZ9 hS9 => ?_)
        refine lv_aload_n hx hb d_10_20_28 rfl (lv_at hl 0 rfl) ?_
        refine zget (ci := 8) (C := RX8) (T := TX8) (v := .ref (ad 8 l0 (0 + 1))) (k := 0) hx hb hts inW_8 hown hK hZ9 g1.1 g1.2 rfl (by decide) k_7_217 rfl d_10_20_29 ?_
        refine lv_iconst (v := iI 3) hx hb d_10_20_32 rfl ?_
        refine lv_iload_n hx hb d_10_20_33 rfl (lv_at hl 2 rfl) ?_
        refine zast (ci := 8) (k := 0) hx hb hK rfl hZ9 hS9 g1.1 g1.2 rfl (Nat.le_of_ble_eq_true rfl) (by decide) (show (3 : Int) < 7 by decide) d_10_20_34 (fun H10 locs10 hZ10 hS10 => ?_)
        refine lv_aload_n hx hb d_10_20_35 rfl (lv_at hl 0 rfl) ?_
        refine lv_iconst (v := iI 1) hx hb d_10_20_36 rfl ?_
        refine zput (ci := 8) (C := RX8) (T := TX8) (k := 12) (v := 1) (w := .int (iI 1)) hx hb hts inW_8 tyX8 tyX8_ok nmX8 hown hK hZ10 hS10 g1.1 g1.2 rfl (by decide) k_7_236 rfl (fun G h => congrArg (fun q => Value.int (iI q)) h) rfl rfl (zno (by decide)) d_10_20_37 (fun H11 locs11 hZ11 hS11 => ?_)
        exact b_SoundFile_tellKey_40 X hf hZ11 hS11 (lv_sub hl [] rfl)

noncomputable abbrev Q_SoundFile_tellTempo (K : zK) (D : va_G) (ca : Nat → ClassId) (ad : Nat → Int → Nat → Nat) (L : List Nat) (r : Int) (F : zF) (B : zB) (A : Nat → Prop) : Array Value → State → Outcome → State → Prop := va_Qv (S := Unit) (fun _ => True) (fun _ => zPo D ca ad lnC K.2 L F B A) A
noncomputable def f_SoundFile_tellTempo_45 (K : zK)  (F : zF) (B : zB) : zO := some (0, F, B)
set_option maxHeartbeats 4000000 in
set_option maxRecDepth 100000 in
theorem b_SoundFile_tellTempo_45 {D : va_G} {ca : Nat → ClassId} {ad : Nat → Int → Nat → Nat} {L : List Nat} {aS vS : Nat → Nat} {A : Nat → Prop} {p : Program} {l : Launch} {e : Env} {s : State} {m : MethodId} {args : Array Value} {below : List Frame} {meth : Method} {c : Code} {K : zK} {r : Int} {F9 : zF} {B9 : zB} (X : zX D ca L aS vS A p s m args meth c prog_10_method_21_code 2 (Option.none : Option Jvm.ClassFile.FieldType) "StaveHouse$SoundFile")  {F : zF} {B : zB} {H : Heap} {locs : List Loc} {ls : Array Slot} (hf : f_SoundFile_tellTempo_45 K  F B = some (r, F9, B9)) (hZ : zH D ca ad lnC K.2 L F B A H) (hS : va_S A s.heap H locs) (hl : lv_has ls 2 []) : W p l e ({ frames := 1, cells := 0, slots := 0, locals := 16 } : Room) s m args below meth c H locs 0 0 (MQ below (Q_SoundFile_tellTempo K D ca ad L r F9 B9 A) args s 0 0 A) (F0 m 45 ls []) := by
  obtain ⟨hx, hb, hr, hml, hown, hts, hlk, hK, hA, hL, hX⟩ := id X
  replace hf : (some (0, F, B)) = some (r, F9, B9) := hf
  cases hf
  exact W.vret hx hb hr (fun t ht hW => ⟨⟨(), rfl, trivial, by rw [ht]; exact hZ, va_K.moved hW.alike hK⟩, hS.F ht⟩) hS.2.2 d_10_21_45 hlk

noncomputable def f_SoundFile_tellTempo_39 (K : zK) (l0 : Int) (s0 : Int) (s1 : Int) (s2 : Int) (F : zF) (B : zB) : zO := if 0 ≤ s0 ∧ s0 < K.2 8 then if 0 ≤ s1 ∧ s1 < 7 then if 0 ≤ l0 ∧ l0 < K.2 8 then f_SoundFile_tellTempo_45 K (zup3 F 8 l0 14 1) (zup4 B 8 s0 0 s1 s2) else none else none else none
set_option maxHeartbeats 4000000 in
set_option maxRecDepth 100000 in
theorem b_SoundFile_tellTempo_39 {D : va_G} {ca : Nat → ClassId} {ad : Nat → Int → Nat → Nat} {L : List Nat} {aS vS : Nat → Nat} {A : Nat → Prop} {p : Program} {l : Launch} {e : Env} {s : State} {m : MethodId} {args : Array Value} {below : List Frame} {meth : Method} {c : Code} {K : zK} {r : Int} {F9 : zF} {B9 : zB} (X : zX D ca L aS vS A p s m args meth c prog_10_method_21_code 2 (Option.none : Option Jvm.ClassFile.FieldType) "StaveHouse$SoundFile") {l0 : Int} {s0 : Int} {s1 : Int} {s2 : Int} {F : zF} {B : zB} {H : Heap} {locs : List Loc} {ls : Array Slot} (hf : f_SoundFile_tellTempo_39 K l0 s0 s1 s2 F B = some (r, F9, B9)) (hZ : zH D ca ad lnC K.2 L F B A H) (hS : va_S A s.heap H locs) (hl : lv_has ls 2 [(0, .ref (ad 8 l0 0))]) : W p l e ({ frames := 1, cells := 0, slots := 0, locals := 16 } : Room) s m args below meth c H locs 0 0 (MQ below (Q_SoundFile_tellTempo K D ca ad L r F9 B9 A) args s 0 0 A) (F0 m 39 ls [.int (iI s2), .int (iI s1), .ref (ad 8 s0 (0 + 1))]) := by
  obtain ⟨hx, hb, hr, hml, hown, hts, hlk, hK, hA, hL, hX⟩ := id X
  replace hf : (if 0 ≤ s0 ∧ s0 < K.2 8 then if 0 ≤ s1 ∧ s1 < 7 then if 0 ≤ l0 ∧ l0 < K.2 8 then f_SoundFile_tellTempo_45 K (zup3 F 8 l0 14 1) (zup4 B 8 s0 0 s1 s2) else none else none else none) = some (r, F9, B9) := hf
  obtain ⟨g9, hf⟩ := gif hf
  obtain ⟨g10, hf⟩ := gif hf
  refine zast (ci := 8) (k := 0) hx hb hK rfl hZ hS g9.1 g9.2 rfl (Nat.le_of_ble_eq_true rfl) g10.1 g10.2 d_10_21_39 (fun H11 locs11 hZ11 hS11 => ?_)
  refine lv_aload_n hx hb d_10_21_40 rfl (lv_at hl 0 rfl) ?_
  refine lv_iconst (v := iI 1) hx hb d_10_21_41 rfl ?_
  obtain ⟨g12, hf⟩ := gif hf
  refine zput (ci := 8) (C := RX8) (T := TX8) (k := 14) (v := 1) (w := .int (iI 1)) hx hb hts inW_8 tyX8 tyX8_ok nmX8 hown hK hZ11 hS11 g12.1 g12.2 rfl (by decide) k_7_238 rfl (fun G h => congrArg (fun q => Value.int (iI q)) h) rfl rfl (zno (by decide)) d_10_21_42 (fun H13 locs13 hZ13 hS13 => ?_)
  exact b_SoundFile_tellTempo_45 X hf hZ13 hS13 (lv_sub hl [] rfl)

noncomputable def f_SoundFile_tellTempo (K : zK) (l0 : Int) (l1 : Int) (F : zF) (B : zB) : zO := if 0 ≤ l0 ∧ l0 < K.2 8 then if r32 (F 8 l0 14) then (if (F 8 l0 14) = 0 then if r32 l1 then (if 1 ≤ l1 then if ¬ iI l1 = 0 then if r32 (zdv 60000000 l1) then if r32 (zmin 300 (zdv 60000000 l1)) then f_SoundFile_tellTempo_39 K l0 l0 6 (zmax 20 (zmin 300 (zdv 60000000 l1))) F B else none else none else none else f_SoundFile_tellTempo_39 K l0 l0 6 300 F B) else none else f_SoundFile_tellTempo_45 K F B) else none else none
set_option maxHeartbeats 4000000 in
set_option maxRecDepth 100000 in
theorem c_SoundFile_tellTempo {l : Launch} {D : va_G} {ca : Nat → ClassId} {ad : Nat → Int → Nat → Nat} {L : List Nat} {aS vS : Nat → Nat} {sz : Nat} {K : zK}  {l0 : Int} {l1 : Int} {F F9 : zF} {B B9 : zB} {r : Int} (hf : f_SoundFile_tellTempo K l0 l1 F B = some (r, F9, B9)) : Met l ({ cls := "StaveHouse$SoundFile", name := "tellTempo", desc := "(I)V" } : Jvm.MethodName) (Cond.code ({ cls := "StaveHouse$SoundFile", name := "tellTempo", desc := "(I)V" } : Jvm.MethodName) prog_10_method_21_code 2 (Option.none : Option Jvm.ClassFile.FieldType) :: wAll) ({ frames := 1, cells := 0, slots := 0, locals := 16 } : Room) (va_Pc [.ref (ad 8 l0 0), .int (iI l1)] (zPre D ca ad lnC K.2 L aS vS F B sz)) (Q_SoundFile_tellTempo K D ca ad L r F9 B9 (zA L sz)) 0 0 (zA L sz) := by
  refine zMet (Qc := Q_SoundFile_tellTempo K D ca ad L r F9 B9) (lv := [(0, .ref (ad 8 l0 0)), (1, .int (iI l1))]) (by decide) (Nat.le_of_ble_eq_true rfl) rfl (fun A p e s m below meth c ls X hZ hS hl => ?_)
  obtain ⟨hx, hb, hr, hml, hown, hts, hlk, hK, hA, hL, hX⟩ := id X
  replace hf : (if 0 ≤ l0 ∧ l0 < K.2 8 then if r32 (F 8 l0 14) then (if (F 8 l0 14) = 0 then if r32 l1 then (if 1 ≤ l1 then if ¬ iI l1 = 0 then if r32 (zdv 60000000 l1) then if r32 (zmin 300 (zdv 60000000 l1)) then f_SoundFile_tellTempo_39 K l0 l0 6 (zmax 20 (zmin 300 (zdv 60000000 l1))) F B else none else none else none else f_SoundFile_tellTempo_39 K l0 l0 6 300 F B) else none else f_SoundFile_tellTempo_45 K F B) else none else none) = some (r, F9, B9) := hf
  refine lv_aload_n hx hb d_10_21_0 rfl (lv_at hl 0 rfl) ?_
  obtain ⟨g1, hf⟩ := gif hf
  refine zget (ci := 8) (C := RX8) (T := TX8) (v := .int (iI (F 8 l0 14))) (k := 14) hx hb hts inW_8 hown hK hZ g1.1 g1.2 rfl (by decide) k_7_238 rfl d_10_21_1 ?_
  obtain ⟨g2, hf⟩ := gif hf
  refine z0ne (tgt := 45) hx hb g2 d_10_21_4 (by decide) (fun h3 => ?_) (fun h3 => ?_)
  · replace hf := gneg hf h3
    exact b_SoundFile_tellTempo_45 X hf hZ hS (lv_sub hl [] rfl)
  · replace hf := gpos hf h3
    refine lv_aload_n hx hb d_10_21_7 rfl (lv_at hl 0 rfl) ?_
    refine zget (ci := 8) (C := RX8) (T := TX8) (v := .ref (ad 8 l0 (0 + 1))) (k := 0) hx hb hts inW_8 hown hK hZ g1.1 g1.2 rfl (by decide) k_7_217 rfl d_10_21_8 ?_
    refine lv_bipush (v := iI 6) hx hb d_10_21_11 (by decide) ?_
    refine lv_iload_n hx hb d_10_21_13 rfl (lv_at hl 1 rfl) ?_
    refine lv_iconst (v := iI 1) hx hb d_10_21_14 rfl ?_
    obtain ⟨g4, hf⟩ := gif hf
    refine zge (tgt := 24) hx hb g4 (by decide) d_10_21_15 (by decide) (fun h5 => ?_) (fun h5 => ?_)
    · replace hf := gpos hf h5
      refine lv_bipush (v := iI 20) hx hb d_10_21_24 (by decide) ?_
      refine lv_sipush (v := iI 300) hx hb d_10_21_26 (by decide) ?_
      refine lv_ldc hx hb hown (hts _ k_8_110) d_10_21_29 ?_
      refine W.eq (g2 := F0 m 31 ls [.int (iI 60000000), .int (iI 300), .int (iI 20), .int (iI 6), .ref (ad 8 l0 (0 + 1))]) rfl ?_
      refine lv_iload_n hx hb d_10_21_31 rfl (lv_at hl 1 rfl) ?_
      obtain ⟨g6, hf⟩ := gif hf
      refine zdv_r hx hb g6 d_10_21_32 ?_
      obtain ⟨g7, hf⟩ := gif hf
      refine va_mmin hx hb (by rw [hml]; exact hl.1.symm) hown (hts _ k_8_111) (hts _ k_3_97) (hts _ k_1_3) (hts _ k_3_98) (Nat.le_of_ble_eq_true rfl) (Nat.le_of_ble_eq_true rfl) (Nat.le_of_ble_eq_true rfl) (Nat.le_of_ble_eq_true rfl) d_10_21_33 ?_
      rw [zmin_e (by decide) g7]
      obtain ⟨g8, hf⟩ := gif hf
      refine va_mmax hx hb (by rw [hml]; exact hl.1.symm) hown (hts _ k_8_112) (hts _ k_1_39) (hts _ k_1_3) (hts _ k_1_40) (Nat.le_of_ble_eq_true rfl) (Nat.le_of_ble_eq_true rfl) (Nat.le_of_ble_eq_true rfl) (Nat.le_of_ble_eq_true rfl) d_10_21_36 ?_
      rw [zmax_e (by decide) g8]
      exact b_SoundFile_tellTempo_39 X hf hZ hS (lv_sub hl [0] rfl)
    · replace hf := gneg hf h5
      refine lv_sipush (v := iI 300) hx hb d_10_21_18 (by decide) ?_
      refine lv_goto (tgt := 39) hx hb d_10_21_21 (by decide) ?_
      exact b_SoundFile_tellTempo_39 X hf hZ hS (lv_sub hl [0] rfl)

noncomputable abbrev Q_SoundFile_beginSound (K : zK) (D : va_G) (ca : Nat → ClassId) (ad : Nat → Int → Nat → Nat) (L : List Nat) (r : Int) (F : zF) (B : zB) (A : Nat → Prop) : Array Value → State → Outcome → State → Prop := va_Qv (S := Unit) (fun _ => True) (fun _ => zPo D ca ad lnC K.2 L F B A) A
noncomputable def f_SoundFile_beginSound (K : zK) (l0 : Int) (l1 : Int) (l2 : Int) (l3 : Int) (F : zF) (B : zB) : zO := if 0 ≤ l0 ∧ l0 < K.2 8 then if r32 (F 8 l0 2) then (if (F 8 l0 2) < 400 then if r32 (F 8 l0 8) then if 0 ≤ (F 8 l0 2) ∧ (F 8 l0 2) < 400 then if r32 (zrm (F 8 l0 9) 16) then if r32 l1 then if r32 l2 then some (0, (zup3 F 8 l0 2 ((F 8 l0 2) + 1)), (zup4 (zup4 (zup4 (zup4 (zup4 (zup4 B 8 l0 220 (F 8 l0 2) (F 8 l0 8)) 8 l0 221 (F 8 l0 2) (zrm (F 8 l0 9) 16)) 8 l0 222 (F 8 l0 2) l1) 8 l0 223 (F 8 l0 2) l2) 8 l0 224 (F 8 l0 2) (F 8 l0 10)) 8 l0 225 (F 8 l0 2) (-1))) else none else none else none else none else none else zbind (f_SoundFile_refuse K l0 3 l3 F B) (fun r16 F16 B16 => some (0, F16, B16))) else none else none
set_option maxHeartbeats 4000000 in
set_option maxRecDepth 100000 in
theorem c_SoundFile_beginSound {l : Launch} {D : va_G} {ca : Nat → ClassId} {ad : Nat → Int → Nat → Nat} {L : List Nat} {aS vS : Nat → Nat} {sz : Nat} {K : zK}  {l0 : Int} {l1 : Int} {l2 : Int} {l3 : Int} {F F9 : zF} {B B9 : zB} {r : Int} (hf : f_SoundFile_beginSound K l0 l1 l2 l3 F B = some (r, F9, B9)) : Met l ({ cls := "StaveHouse$SoundFile", name := "beginSound", desc := "(III)V" } : Jvm.MethodName) (Cond.code ({ cls := "StaveHouse$SoundFile", name := "beginSound", desc := "(III)V" } : Jvm.MethodName) prog_10_method_16_code 4 (Option.none : Option Jvm.ClassFile.FieldType) :: wAll) ({ frames := 1, cells := 0, slots := 0, locals := 22 } : Room) (va_Pc [.ref (ad 8 l0 0), .int (iI l1), .int (iI l2), .int (iI l3)] (zPre D ca ad lnC K.2 L aS vS F B sz)) (Q_SoundFile_beginSound K D ca ad L r F9 B9 (zA L sz)) 0 0 (zA L sz) := by
  refine zMet (Qc := Q_SoundFile_beginSound K D ca ad L r F9 B9) (lv := [(0, .ref (ad 8 l0 0)), (1, .int (iI l1)), (2, .int (iI l2)), (3, .int (iI l3))]) (by decide) (Nat.le_of_ble_eq_true rfl) rfl (fun A p e s m below meth c ls X hZ hS hl => ?_)
  obtain ⟨hx, hb, hr, hml, hown, hts, hlk, hK, hA, hL, hX⟩ := id X
  replace hf : (if 0 ≤ l0 ∧ l0 < K.2 8 then if r32 (F 8 l0 2) then (if (F 8 l0 2) < 400 then if r32 (F 8 l0 8) then if 0 ≤ (F 8 l0 2) ∧ (F 8 l0 2) < 400 then if r32 (zrm (F 8 l0 9) 16) then if r32 l1 then if r32 l2 then some (0, (zup3 F 8 l0 2 ((F 8 l0 2) + 1)), (zup4 (zup4 (zup4 (zup4 (zup4 (zup4 B 8 l0 220 (F 8 l0 2) (F 8 l0 8)) 8 l0 221 (F 8 l0 2) (zrm (F 8 l0 9) 16)) 8 l0 222 (F 8 l0 2) l1) 8 l0 223 (F 8 l0 2) l2) 8 l0 224 (F 8 l0 2) (F 8 l0 10)) 8 l0 225 (F 8 l0 2) (-1))) else none else none else none else none else none else zbind (f_SoundFile_refuse K l0 3 l3 F B) (fun r16 F16 B16 => some (0, F16, B16))) else none else none) = some (r, F9, B9) := hf
  refine lv_aload_n hx hb d_10_16_0 rfl (lv_at hl 0 rfl) ?_
  obtain ⟨g1, hf⟩ := gif hf
  refine zget (ci := 8) (C := RX8) (T := TX8) (v := .int (iI (F 8 l0 2))) (k := 2) hx hb hts inW_8 hown hK hZ g1.1 g1.2 rfl (by decide) k_7_223 rfl d_10_16_1 ?_
  refine lv_sipush (v := iI 400) hx hb d_10_16_4 (by decide) ?_
  obtain ⟨g2, hf⟩ := gif hf
  refine zlt (tgt := 17) hx hb g2 (by decide) d_10_16_7 (by decide) (fun h3 => ?_) (fun h3 => ?_)
  · replace hf := gpos hf h3
    refine lv_aload_n hx hb d_10_16_17 rfl (lv_at hl 0 rfl) ?_
    refine zget (ci := 8) (C := RX8) (T := TX8) (v := .ref (ad 8 l0 (1 + 1))) (k := 1) hx hb hts inW_8 hown hK hZ g1.1 g1.2 rfl (by decide) k_7_220 rfl d_10_16_18 ?_
    refine lv_iconst (v := iI 0) hx hb d_10_16_21 rfl ?_
    refine zaldQ (t := 1) (ci := 8) (k := 1) hx hb hK rfl hZ g1.1 g1.2 rfl (Nat.le_of_ble_eq_true rfl) (by decide) (by decide) d_10_16_22 ?_
    refine W.eq (g2 := F0 m 23 ls [.ref (ad 8 l0 (220 + 1))]) rfl ?_
    refine lv_aload_n hx hb d_10_16_23 rfl (lv_at hl 0 rfl) ?_
    refine zget (ci := 8) (C := RX8) (T := TX8) (v := .int (iI (F 8 l0 2))) (k := 2) hx hb hts inW_8 hown hK hZ g1.1 g1.2 rfl (by decide) k_7_223 rfl d_10_16_24 ?_
    refine lv_aload_n hx hb d_10_16_27 rfl (lv_at hl 0 rfl) ?_
    refine zget (ci := 8) (C := RX8) (T := TX8) (v := .int (iI (F 8 l0 8))) (k := 8) hx hb hts inW_8 hown hK hZ g1.1 g1.2 rfl (by decide) k_7_232 rfl d_10_16_28 ?_
    obtain ⟨g4, hf⟩ := gif hf
    refine zi2l hx hb g4 d_10_16_31 ?_
    obtain ⟨g5, hf⟩ := gif hf
    refine zlast (ci := 8) (k := 220) hx hb hK rfl hZ hS g1.1 g1.2 rfl (Nat.le_of_ble_eq_true rfl) g5.1 g5.2 d_10_16_32 (fun H6 locs6 hZ6 hS6 => ?_)
    refine lv_aload_n hx hb d_10_16_33 rfl (lv_at hl 0 rfl) ?_
    refine zget (ci := 8) (C := RX8) (T := TX8) (v := .ref (ad 8 l0 (1 + 1))) (k := 1) hx hb hts inW_8 hown hK hZ6 g1.1 g1.2 rfl (by decide) k_7_220 rfl d_10_16_34 ?_
    refine lv_iconst (v := iI 1) hx hb d_10_16_37 rfl ?_
    refine zaldQ (t := 1) (ci := 8) (k := 1) hx hb hK rfl hZ6 g1.1 g1.2 rfl (Nat.le_of_ble_eq_true rfl) (by decide) (by decide) d_10_16_38 ?_
    refine W.eq (g2 := F0 m 39 ls [.ref (ad 8 l0 (221 + 1))]) rfl ?_
    refine lv_aload_n hx hb d_10_16_39 rfl (lv_at hl 0 rfl) ?_
    refine zget (ci := 8) (C := RX8) (T := TX8) (v := .int (iI (F 8 l0 2))) (k := 2) hx hb hts inW_8 hown hK hZ6 g1.1 g1.2 rfl (by decide) k_7_223 rfl d_10_16_40 ?_
    refine lv_aload_n hx hb d_10_16_43 rfl (lv_at hl 0 rfl) ?_
    refine zget (ci := 8) (C := RX8) (T := TX8) (v := .int (iI (F 8 l0 9))) (k := 9) hx hb hts inW_8 hown hK hZ6 g1.1 g1.2 rfl (by decide) k_7_233 rfl d_10_16_44 ?_
    refine lv_bipush (v := iI 16) hx hb d_10_16_47 (by decide) ?_
    refine zrm_r hx hb (by decide) d_10_16_49 ?_
    obtain ⟨g7, hf⟩ := gif hf
    refine zi2l hx hb g7 d_10_16_50 ?_
    refine zlast (ci := 8) (k := 221) hx hb hK rfl hZ6 hS6 g1.1 g1.2 rfl (Nat.le_of_ble_eq_true rfl) g5.1 g5.2 d_10_16_51 (fun H8 locs8 hZ8 hS8 => ?_)
    refine lv_aload_n hx hb d_10_16_52 rfl (lv_at hl 0 rfl) ?_
    refine zget (ci := 8) (C := RX8) (T := TX8) (v := .ref (ad 8 l0 (1 + 1))) (k := 1) hx hb hts inW_8 hown hK hZ8 g1.1 g1.2 rfl (by decide) k_7_220 rfl d_10_16_53 ?_
    refine lv_iconst (v := iI 2) hx hb d_10_16_56 rfl ?_
    refine zaldQ (t := 1) (ci := 8) (k := 1) hx hb hK rfl hZ8 g1.1 g1.2 rfl (Nat.le_of_ble_eq_true rfl) (by decide) (by decide) d_10_16_57 ?_
    refine W.eq (g2 := F0 m 58 ls [.ref (ad 8 l0 (222 + 1))]) rfl ?_
    refine lv_aload_n hx hb d_10_16_58 rfl (lv_at hl 0 rfl) ?_
    refine zget (ci := 8) (C := RX8) (T := TX8) (v := .int (iI (F 8 l0 2))) (k := 2) hx hb hts inW_8 hown hK hZ8 g1.1 g1.2 rfl (by decide) k_7_223 rfl d_10_16_59 ?_
    refine lv_iload_n hx hb d_10_16_62 rfl (lv_at hl 1 rfl) ?_
    obtain ⟨g9, hf⟩ := gif hf
    refine zi2l hx hb g9 d_10_16_63 ?_
    refine zlast (ci := 8) (k := 222) hx hb hK rfl hZ8 hS8 g1.1 g1.2 rfl (Nat.le_of_ble_eq_true rfl) g5.1 g5.2 d_10_16_64 (fun H10 locs10 hZ10 hS10 => ?_)
    refine lv_aload_n hx hb d_10_16_65 rfl (lv_at hl 0 rfl) ?_
    refine zget (ci := 8) (C := RX8) (T := TX8) (v := .ref (ad 8 l0 (1 + 1))) (k := 1) hx hb hts inW_8 hown hK hZ10 g1.1 g1.2 rfl (by decide) k_7_220 rfl d_10_16_66 ?_
    refine lv_iconst (v := iI 3) hx hb d_10_16_69 rfl ?_
    refine zaldQ (t := 1) (ci := 8) (k := 1) hx hb hK rfl hZ10 g1.1 g1.2 rfl (Nat.le_of_ble_eq_true rfl) (by decide) (by decide) d_10_16_70 ?_
    refine W.eq (g2 := F0 m 71 ls [.ref (ad 8 l0 (223 + 1))]) rfl ?_
    refine lv_aload_n hx hb d_10_16_71 rfl (lv_at hl 0 rfl) ?_
    refine zget (ci := 8) (C := RX8) (T := TX8) (v := .int (iI (F 8 l0 2))) (k := 2) hx hb hts inW_8 hown hK hZ10 g1.1 g1.2 rfl (by decide) k_7_223 rfl d_10_16_72 ?_
    refine lv_iload_n hx hb d_10_16_75 rfl (lv_at hl 2 rfl) ?_
    obtain ⟨g11, hf⟩ := gif hf
    refine zi2l hx hb g11 d_10_16_76 ?_
    refine zlast (ci := 8) (k := 223) hx hb hK rfl hZ10 hS10 g1.1 g1.2 rfl (Nat.le_of_ble_eq_true rfl) g5.1 g5.2 d_10_16_77 (fun H12 locs12 hZ12 hS12 => ?_)
    refine lv_aload_n hx hb d_10_16_78 rfl (lv_at hl 0 rfl) ?_
    refine zget (ci := 8) (C := RX8) (T := TX8) (v := .ref (ad 8 l0 (1 + 1))) (k := 1) hx hb hts inW_8 hown hK hZ12 g1.1 g1.2 rfl (by decide) k_7_220 rfl d_10_16_79 ?_
    refine lv_iconst (v := iI 4) hx hb d_10_16_82 rfl ?_
    refine zaldQ (t := 1) (ci := 8) (k := 1) hx hb hK rfl hZ12 g1.1 g1.2 rfl (Nat.le_of_ble_eq_true rfl) (by decide) (by decide) d_10_16_83 ?_
    refine W.eq (g2 := F0 m 84 ls [.ref (ad 8 l0 (224 + 1))]) rfl ?_
    refine lv_aload_n hx hb d_10_16_84 rfl (lv_at hl 0 rfl) ?_
    refine zget (ci := 8) (C := RX8) (T := TX8) (v := .int (iI (F 8 l0 2))) (k := 2) hx hb hts inW_8 hown hK hZ12 g1.1 g1.2 rfl (by decide) k_7_223 rfl d_10_16_85 ?_
    refine lv_aload_n hx hb d_10_16_88 rfl (lv_at hl 0 rfl) ?_
    refine zget (ci := 8) (C := RX8) (T := TX8) (v := .long (lI (F 8 l0 10))) (k := 10) hx hb hts inW_8 hown hK hZ12 g1.1 g1.2 rfl (by decide) k_7_234 rfl d_10_16_89 ?_
    refine zlast (ci := 8) (k := 224) hx hb hK rfl hZ12 hS12 g1.1 g1.2 rfl (Nat.le_of_ble_eq_true rfl) g5.1 g5.2 d_10_16_92 (fun H13 locs13 hZ13 hS13 => ?_)
    refine lv_aload_n hx hb d_10_16_93 rfl (lv_at hl 0 rfl) ?_
    refine zget (ci := 8) (C := RX8) (T := TX8) (v := .ref (ad 8 l0 (1 + 1))) (k := 1) hx hb hts inW_8 hown hK hZ13 g1.1 g1.2 rfl (by decide) k_7_220 rfl d_10_16_94 ?_
    refine lv_iconst (v := iI 5) hx hb d_10_16_97 rfl ?_
    refine zaldQ (t := 1) (ci := 8) (k := 1) hx hb hK rfl hZ13 g1.1 g1.2 rfl (Nat.le_of_ble_eq_true rfl) (by decide) (by decide) d_10_16_98 ?_
    refine W.eq (g2 := F0 m 99 ls [.ref (ad 8 l0 (225 + 1))]) rfl ?_
    refine lv_aload_n hx hb d_10_16_99 rfl (lv_at hl 0 rfl) ?_
    refine zget (ci := 8) (C := RX8) (T := TX8) (v := .int (iI (F 8 l0 2))) (k := 2) hx hb hts inW_8 hown hK hZ13 g1.1 g1.2 rfl (by decide) k_7_223 rfl d_10_16_100 ?_
    refine lv_ldc2 hx hb hown (hts _ k_8_121) d_10_16_103 ?_
    refine W.eq (g2 := F0 m 106 ls [.long (lI (-1)), .int (iI (F 8 l0 2)), .ref (ad 8 l0 (225 + 1))]) rfl ?_
    refine zlast (ci := 8) (k := 225) hx hb hK rfl hZ13 hS13 g1.1 g1.2 rfl (Nat.le_of_ble_eq_true rfl) g5.1 g5.2 d_10_16_106 (fun H14 locs14 hZ14 hS14 => ?_)
    refine lv_aload_n hx hb d_10_16_107 rfl (lv_at hl 0 rfl) ?_
    refine lv_dup hx hb d_10_16_108 rfl ?_
    refine zget (ci := 8) (C := RX8) (T := TX8) (v := .int (iI (F 8 l0 2))) (k := 2) hx hb hts inW_8 hown hK hZ14 g1.1 g1.2 rfl (by decide) k_7_223 rfl d_10_16_109 ?_
    refine lv_iconst (v := iI 1) hx hb d_10_16_112 rfl ?_
    refine zadd hx hb d_10_16_113 ?_
    refine zput (ci := 8) (C := RX8) (T := TX8) (k := 2) (v := ((F 8 l0 2) + 1)) (w := .int (iI ((F 8 l0 2) + 1))) hx hb hts inW_8 tyX8 tyX8_ok nmX8 hown hK hZ14 hS14 g1.1 g1.2 rfl (by decide) k_7_223 rfl (fun G h => congrArg (fun q => Value.int (iI q)) h) rfl rfl (zno (by decide)) d_10_16_114 (fun H15 locs15 hZ15 hS15 => ?_)
    cases hf
    exact W.vret hx hb hr (fun t ht hW => ⟨⟨(), rfl, trivial, by rw [ht]; exact hZ15, va_K.moved hW.alike hK⟩, hS15.F ht⟩) hS15.2.2 d_10_16_117 hlk
  · replace hf := gneg hf h3
    refine lv_aload_n hx hb d_10_16_10 rfl (lv_at hl 0 rfl) ?_
    refine lv_iconst (v := iI 3) hx hb d_10_16_11 rfl ?_
    refine lv_iload_n hx hb d_10_16_12 rfl (lv_at hl 3 rfl) ?_
    obtain ⟨r16, F16, B16, hc16, hf⟩ := gbind hf
    refine va_callv (va_runV (As := [.int (iI 3), .int (iI l3)]) (rest := []) ⟨hx, hb, hml, hown, hts⟩ (c_SoundFile_refuse (l := l) hc16) (cwV 2 hts (gdV k_8_53 k_8_55 ks_96 k_1_23 k_8_56) rfl rfl rfl (by decide +kernel) ⟨Nat.le_of_ble_eq_true rfl, Nat.le_of_ble_eq_true rfl⟩) (zPV X hZ hS (ci := 8) g1.1 g1.2 (r := (RX8, TX8, 15)) rfl [.int (iI 3), .int (iI l3)]) rfl rfl hl.1 rfl (lv_room (Nat.le_of_ble_eq_true rfl)) d_10_16_13 ⟨Nat.le_of_ble_eq_true rfl, Nat.le_of_ble_eq_true rfl⟩) hS (fun q _ h => zAin X hS q h) (zAin X hS) (fun u16 t16 H16 locs16 ht16 hv16 hw16 hB16 hz16 hk16 hS16 => ?_)
    have hZ16 := zBack X ht16 hB16
    cases hf
    exact W.vret hx hb hr (fun t ht hW => ⟨⟨(), rfl, trivial, by rw [ht]; exact hZ16, va_K.moved hW.alike hK⟩, hS16.F ht⟩) hS16.2.2 d_10_16_16 hlk

noncomputable abbrev Q_SoundFile_endSound (K : zK) (D : va_G) (ca : Nat → ClassId) (ad : Nat → Int → Nat → Nat) (L : List Nat) (r : Int) (F : zF) (B : zB) (A : Nat → Prop) : Array Value → State → Outcome → State → Prop := va_Qv (S := Unit) (fun _ => True) (fun _ => zPo D ca ad lnC K.2 L F B A) A
noncomputable def f_SoundFile_endSound_84 (rec2 : Int → Int → Int → zF → zB → zO) (K : zK) (l3 : Int) (l0 : Int) (l1 : Int) (F : zF) (B : zB) : zO := rec2 (l3 + 1) l0 l1 F B
set_option maxHeartbeats 4000000 in
set_option maxRecDepth 100000 in
theorem b_SoundFile_endSound_84 {D : va_G} {ca : Nat → ClassId} {ad : Nat → Int → Nat → Nat} {L : List Nat} {aS vS : Nat → Nat} {A : Nat → Prop} {p : Program} {l : Launch} {e : Env} {s : State} {m : MethodId} {args : Array Value} {below : List Frame} {meth : Method} {c : Code} {K : zK} {r : Int} {F9 : zF} {B9 : zB} (X : zX D ca L aS vS A p s m args meth c prog_10_method_17_code 5 (Option.none : Option Jvm.ClassFile.FieldType) "StaveHouse$SoundFile") {rec2 : Int → Int → Int → zF → zB → zO} (hrec2 : ∀ {l3 : Int} {l0 : Int} {l1 : Int} {F : zF} {B : zB} {H : Heap} {locs : List Loc} {ls : Array Slot}, rec2 l3 l0 l1 F B = some (r, F9, B9) → zH D ca ad lnC K.2 L F B A H → va_S A s.heap H locs → lv_has ls 5 [(3, .int (iI l3)), (0, .ref (ad 8 l0 0)), (1, .int (iI l1))] → W p l e ({ frames := 0, cells := 0, slots := 0, locals := 0 } : Room) s m args below meth c H locs 0 0 (MQ below (Q_SoundFile_endSound K D ca ad L r F9 B9 A) args s 0 0 A) (F0 m 2 ls [])) {l3 : Int} {l0 : Int} {l1 : Int} {F : zF} {B : zB} {H : Heap} {locs : List Loc} {ls : Array Slot} (hf : f_SoundFile_endSound_84 rec2 K l3 l0 l1 F B = some (r, F9, B9)) (hZ : zH D ca ad lnC K.2 L F B A H) (hS : va_S A s.heap H locs) (hl : lv_has ls 5 [(3, .int (iI l3)), (0, .ref (ad 8 l0 0)), (1, .int (iI l1))]) : W p l e ({ frames := 0, cells := 0, slots := 0, locals := 0 } : Room) s m args below meth c H locs 0 0 (MQ below (Q_SoundFile_endSound K D ca ad L r F9 B9 A) args s 0 0 A) (F0 m 84 ls []) := by
  obtain ⟨hx, hb, hr, hml, hown, hts, hlk, hK, hA, hL, hX⟩ := id X
  replace hf : (rec2 (l3 + 1) l0 l1 F B) = some (r, F9, B9) := hf
  refine lv_iinc (v := iI (l3 + 1)) (lv' := [(3, .int (iI (l3 + 1))), (0, .ref (ad 8 l0 0)), (1, .int (iI l1))]) hx hb d_10_17_84 hl (k := 0) rfl (iI_add _ 1) (by decide) rfl (fun ls hl => ?_)
  refine lv_goto (tgt := 2) hx hb d_10_17_87 (by decide) ?_
  exact hrec2 hf hZ hS (lv_sub hl [0, 1, 2] rfl)

noncomputable def f_SoundFile_endSound_49 (rec2 : Int → Int → Int → zF → zB → zO) (K : zK) (l3 : Int) (l0 : Int) (l1 : Int) (s0 : Int) (F : zF) (B : zB) : zO := if r32 s0 then (if s0 = 0 then f_SoundFile_endSound_84 rec2 K l3 l0 l1 F B else if 0 ≤ l0 ∧ l0 < K.2 8 then if 0 ≤ l3 ∧ l3 < 400 then if r64 (B 8 l0 225 l3) then (if (zcmp (B 8 l0 225 l3) (-1)) = 0 then some (0, F, (zup4 B 8 l0 225 l3 (F 8 l0 10))) else f_SoundFile_endSound_84 rec2 K l3 l0 l1 F B) else none else none else none) else none
set_option maxHeartbeats 4000000 in
set_option maxRecDepth 100000 in
theorem b_SoundFile_endSound_49 {D : va_G} {ca : Nat → ClassId} {ad : Nat → Int → Nat → Nat} {L : List Nat} {aS vS : Nat → Nat} {A : Nat → Prop} {p : Program} {l : Launch} {e : Env} {s : State} {m : MethodId} {args : Array Value} {below : List Frame} {meth : Method} {c : Code} {K : zK} {r : Int} {F9 : zF} {B9 : zB} (X : zX D ca L aS vS A p s m args meth c prog_10_method_17_code 5 (Option.none : Option Jvm.ClassFile.FieldType) "StaveHouse$SoundFile") {rec2 : Int → Int → Int → zF → zB → zO} (hrec2 : ∀ {l3 : Int} {l0 : Int} {l1 : Int} {F : zF} {B : zB} {H : Heap} {locs : List Loc} {ls : Array Slot}, rec2 l3 l0 l1 F B = some (r, F9, B9) → zH D ca ad lnC K.2 L F B A H → va_S A s.heap H locs → lv_has ls 5 [(3, .int (iI l3)), (0, .ref (ad 8 l0 0)), (1, .int (iI l1))] → W p l e ({ frames := 0, cells := 0, slots := 0, locals := 0 } : Room) s m args below meth c H locs 0 0 (MQ below (Q_SoundFile_endSound K D ca ad L r F9 B9 A) args s 0 0 A) (F0 m 2 ls [])) {l3 : Int} {l0 : Int} {l1 : Int} {s0 : Int} {F : zF} {B : zB} {H : Heap} {locs : List Loc} {ls : Array Slot} (hf : f_SoundFile_endSound_49 rec2 K l3 l0 l1 s0 F B = some (r, F9, B9)) (hZ : zH D ca ad lnC K.2 L F B A H) (hS : va_S A s.heap H locs) (hl : lv_has ls 5 [(3, .int (iI l3)), (0, .ref (ad 8 l0 0)), (1, .int (iI l1))]) : W p l e ({ frames := 0, cells := 0, slots := 0, locals := 0 } : Room) s m args below meth c H locs 0 0 (MQ below (Q_SoundFile_endSound K D ca ad L r F9 B9 A) args s 0 0 A) (F0 m 49 ls [.int (iI s0)]) := by
  obtain ⟨hx, hb, hr, hml, hown, hts, hlk, hK, hA, hL, hX⟩ := id X
  replace hf : (if r32 s0 then (if s0 = 0 then f_SoundFile_endSound_84 rec2 K l3 l0 l1 F B else if 0 ≤ l0 ∧ l0 < K.2 8 then if 0 ≤ l3 ∧ l3 < 400 then if r64 (B 8 l0 225 l3) then (if (zcmp (B 8 l0 225 l3) (-1)) = 0 then some (0, F, (zup4 B 8 l0 225 l3 (F 8 l0 10))) else f_SoundFile_endSound_84 rec2 K l3 l0 l1 F B) else none else none else none) else none) = some (r, F9, B9) := hf
  refine lv_istore (lv' := [(4, .int (iI s0)), (3, .int (iI l3)), (0, .ref (ad 8 l0 0)), (1, .int (iI l1))]) hx hb d_10_17_49 hl (by decide) rfl (fun ls hl => ?_)
  refine lv_iload hx hb d_10_17_51 (lv_at hl 0 rfl) ?_
  obtain ⟨g14, hf⟩ := gif hf
  refine z0eq (tgt := 84) hx hb g14 d_10_17_53 (by decide) (fun h15 => ?_) (fun h15 => ?_)
  · replace hf := gpos hf h15
    exact b_SoundFile_endSound_84 X hrec2 hf hZ hS (lv_sub hl [1, 2, 3] rfl)
  · replace hf := gneg hf h15
    refine lv_aload_n hx hb d_10_17_56 rfl (lv_at hl 2 rfl) ?_
    obtain ⟨g16, hf⟩ := gif hf
    refine zget (ci := 8) (C := RX8) (T := TX8) (v := .ref (ad 8 l0 (1 + 1))) (k := 1) hx hb hts inW_8 hown hK hZ g16.1 g16.2 rfl (by decide) k_7_220 rfl d_10_17_57 ?_
    refine lv_iconst (v := iI 5) hx hb d_10_17_60 rfl ?_
    refine zaldQ (t := 1) (ci := 8) (k := 1) hx hb hK rfl hZ g16.1 g16.2 rfl (Nat.le_of_ble_eq_true rfl) (by decide) (by decide) d_10_17_61 ?_
    refine W.eq (g2 := F0 m 62 ls [.ref (ad 8 l0 (225 + 1))]) rfl ?_
    refine lv_iload_n hx hb d_10_17_62 rfl (lv_at hl 1 rfl) ?_
    obtain ⟨g17, hf⟩ := gif hf
    refine zlald (ci := 8) (k := 225) hx hb hK rfl hZ g16.1 g16.2 rfl (Nat.le_of_ble_eq_true rfl) g17.1 g17.2 d_10_17_63 ?_
    refine lv_ldc2 hx hb hown (hts _ k_8_121) d_10_17_64 ?_
    refine W.eq (g2 := F0 m 67 ls [.long (lI (-1)), .long (lI (B 8 l0 225 l3))]) rfl ?_
    obtain ⟨g18, hf⟩ := gif hf
    refine zcmp_r hx hb g18 (by decide) d_10_17_67 ?_
    refine z0ne (tgt := 84) hx hb zcmp_32 d_10_17_68 (by decide) (fun h19 => ?_) (fun h19 => ?_)
    · replace hf := gneg hf h19
      exact b_SoundFile_endSound_84 X hrec2 hf hZ hS (lv_sub hl [1, 2, 3] rfl)
    · replace hf := gpos hf h19
      refine lv_aload_n hx hb d_10_17_71 rfl (lv_at hl 2 rfl) ?_
      refine zget (ci := 8) (C := RX8) (T := TX8) (v := .ref (ad 8 l0 (1 + 1))) (k := 1) hx hb hts inW_8 hown hK hZ g16.1 g16.2 rfl (by decide) k_7_220 rfl d_10_17_72 ?_
      refine lv_iconst (v := iI 5) hx hb d_10_17_75 rfl ?_
      refine zaldQ (t := 1) (ci := 8) (k := 1) hx hb hK rfl hZ g16.1 g16.2 rfl (Nat.le_of_ble_eq_true rfl) (by decide) (by decide) d_10_17_76 ?_
      refine W.eq (g2 := F0 m 77 ls [.ref (ad 8 l0 (225 + 1))]) rfl ?_
      refine lv_iload_n hx hb d_10_17_77 rfl (lv_at hl 1 rfl) ?_
      refine lv_aload_n hx hb d_10_17_78 rfl (lv_at hl 2 rfl) ?_
      refine zget (ci := 8) (C := RX8) (T := TX8) (v := .long (lI (F 8 l0 10))) (k := 10) hx hb hts inW_8 hown hK hZ g16.1 g16.2 rfl (by decide) k_7_234 rfl d_10_17_79 ?_
      refine zlast (ci := 8) (k := 225) hx hb hK rfl hZ hS g16.1 g16.2 rfl (Nat.le_of_ble_eq_true rfl) g17.1 g17.2 d_10_17_82 (fun H20 locs20 hZ20 hS20 => ?_)
      cases hf
      exact W.vret hx hb hr (fun t ht hW => ⟨⟨(), rfl, trivial, by rw [ht]; exact hZ20, va_K.moved hW.alike hK⟩, hS20.F ht⟩) hS20.2.2 d_10_17_83 hlk

noncomputable def f_SoundFile_endSound_48 (rec2 : Int → Int → Int → zF → zB → zO) (K : zK) (l3 : Int) (l0 : Int) (l1 : Int) (F : zF) (B : zB) : zO := f_SoundFile_endSound_49 rec2 K l3 l0 l1 0 F B
set_option maxHeartbeats 4000000 in
set_option maxRecDepth 100000 in
theorem b_SoundFile_endSound_48 {D : va_G} {ca : Nat → ClassId} {ad : Nat → Int → Nat → Nat} {L : List Nat} {aS vS : Nat → Nat} {A : Nat → Prop} {p : Program} {l : Launch} {e : Env} {s : State} {m : MethodId} {args : Array Value} {below : List Frame} {meth : Method} {c : Code} {K : zK} {r : Int} {F9 : zF} {B9 : zB} (X : zX D ca L aS vS A p s m args meth c prog_10_method_17_code 5 (Option.none : Option Jvm.ClassFile.FieldType) "StaveHouse$SoundFile") {rec2 : Int → Int → Int → zF → zB → zO} (hrec2 : ∀ {l3 : Int} {l0 : Int} {l1 : Int} {F : zF} {B : zB} {H : Heap} {locs : List Loc} {ls : Array Slot}, rec2 l3 l0 l1 F B = some (r, F9, B9) → zH D ca ad lnC K.2 L F B A H → va_S A s.heap H locs → lv_has ls 5 [(3, .int (iI l3)), (0, .ref (ad 8 l0 0)), (1, .int (iI l1))] → W p l e ({ frames := 0, cells := 0, slots := 0, locals := 0 } : Room) s m args below meth c H locs 0 0 (MQ below (Q_SoundFile_endSound K D ca ad L r F9 B9 A) args s 0 0 A) (F0 m 2 ls [])) {l3 : Int} {l0 : Int} {l1 : Int} {F : zF} {B : zB} {H : Heap} {locs : List Loc} {ls : Array Slot} (hf : f_SoundFile_endSound_48 rec2 K l3 l0 l1 F B = some (r, F9, B9)) (hZ : zH D ca ad lnC K.2 L F B A H) (hS : va_S A s.heap H locs) (hl : lv_has ls 5 [(3, .int (iI l3)), (0, .ref (ad 8 l0 0)), (1, .int (iI l1))]) : W p l e ({ frames := 0, cells := 0, slots := 0, locals := 0 } : Room) s m args below meth c H locs 0 0 (MQ below (Q_SoundFile_endSound K D ca ad L r F9 B9 A) args s 0 0 A) (F0 m 48 ls []) := by
  obtain ⟨hx, hb, hr, hml, hown, hts, hlk, hK, hA, hL, hX⟩ := id X
  replace hf : (f_SoundFile_endSound_49 rec2 K l3 l0 l1 0 F B) = some (r, F9, B9) := hf
  refine lv_iconst (v := iI 0) hx hb d_10_17_48 rfl ?_
  exact b_SoundFile_endSound_49 X hrec2 hf hZ hS (lv_sub hl [0, 1, 2] rfl)

noncomputable def f_SoundFile_endSound_2 (K : zK) : Nat → Int → Int → Int → zF → zB → zO
  | 0, _, _, _, _, _ => none
  | n + 1, l3, l0, l1, F, B => if 0 ≤ l0 ∧ l0 < K.2 8 then if r32 l3 then if r32 (F 8 l0 2) then (if (F 8 l0 2) ≤ l3 then some (0, F, B) else if 0 ≤ l3 ∧ l3 < 400 then if r32 l1 then if r64 (B 8 l0 222 l3) then if r64 l1 then (if (zcmp (B 8 l0 222 l3) l1) = 0 then if r32 (zrm (F 8 l0 9) 16) then if r64 (B 8 l0 221 l3) then if r64 (zrm (F 8 l0 9) 16) then (if (zcmp (B 8 l0 221 l3) (zrm (F 8 l0 9) 16)) = 0 then f_SoundFile_endSound_49 (f_SoundFile_endSound_2 K n) K l3 l0 l1 1 F B else f_SoundFile_endSound_48 (f_SoundFile_endSound_2 K n) K l3 l0 l1 F B) else none else none else none else f_SoundFile_endSound_48 (f_SoundFile_endSound_2 K n) K l3 l0 l1 F B) else none else none else none else none) else none else none else none
set_option maxHeartbeats 4000000 in
set_option maxRecDepth 100000 in
theorem b_SoundFile_endSound_2 {D : va_G} {ca : Nat → ClassId} {ad : Nat → Int → Nat → Nat} {L : List Nat} {aS vS : Nat → Nat} {A : Nat → Prop} {p : Program} {l : Launch} {e : Env} {s : State} {m : MethodId} {args : Array Value} {below : List Frame} {meth : Method} {c : Code} {K : zK} {r : Int} {F9 : zF} {B9 : zB} (X : zX D ca L aS vS A p s m args meth c prog_10_method_17_code 5 (Option.none : Option Jvm.ClassFile.FieldType) "StaveHouse$SoundFile") : ∀ {n : Nat} {l3 : Int} {l0 : Int} {l1 : Int} {F : zF} {B : zB} {H : Heap} {locs : List Loc} {ls : Array Slot}, f_SoundFile_endSound_2 K n l3 l0 l1 F B = some (r, F9, B9) → zH D ca ad lnC K.2 L F B A H → va_S A s.heap H locs → lv_has ls 5 [(3, .int (iI l3)), (0, .ref (ad 8 l0 0)), (1, .int (iI l1))] → W p l e ({ frames := 0, cells := 0, slots := 0, locals := 0 } : Room) s m args below meth c H locs 0 0 (MQ below (Q_SoundFile_endSound K D ca ad L r F9 B9 A) args s 0 0 A) (F0 m 2 ls []) := by
  obtain ⟨hx, hb, hr, hml, hown, hts, hlk, hK, hA, hL, hX⟩ := id X
  intro n
  induction n with
  | zero =>
    intros
    rename_i hf _ _ _
    cases hf
  | succ n ih =>
    intro l3 l0 l1 F B H locs ls hf hZ hS hl
    replace hf : (if 0 ≤ l0 ∧ l0 < K.2 8 then if r32 l3 then if r32 (F 8 l0 2) then (if (F 8 l0 2) ≤ l3 then some (0, F, B) else if 0 ≤ l3 ∧ l3 < 400 then if r32 l1 then if r64 (B 8 l0 222 l3) then if r64 l1 then (if (zcmp (B 8 l0 222 l3) l1) = 0 then if r32 (zrm (F 8 l0 9) 16) then if r64 (B 8 l0 221 l3) then if r64 (zrm (F 8 l0 9) 16) then (if (zcmp (B 8 l0 221 l3) (zrm (F 8 l0 9) 16)) = 0 then f_SoundFile_endSound_49 (f_SoundFile_endSound_2 K n) K l3 l0 l1 1 F B else f_SoundFile_endSound_48 (f_SoundFile_endSound_2 K n) K l3 l0 l1 F B) else none else none else none else f_SoundFile_endSound_48 (f_SoundFile_endSound_2 K n) K l3 l0 l1 F B) else none else none else none else none) else none else none else none) = some (r, F9, B9) := hf
    refine lv_iload_n hx hb d_10_17_2 rfl (lv_at hl 0 rfl) ?_
    refine lv_aload_n hx hb d_10_17_3 rfl (lv_at hl 1 rfl) ?_
    obtain ⟨g1, hf⟩ := gif hf
    refine zget (ci := 8) (C := RX8) (T := TX8) (v := .int (iI (F 8 l0 2))) (k := 2) hx hb hts inW_8 hown hK hZ g1.1 g1.2 rfl (by decide) k_7_223 rfl d_10_17_4 ?_
    obtain ⟨g2, hf⟩ := gif hf
    obtain ⟨g3, hf⟩ := gif hf
    refine zge (tgt := 90) hx hb g2 g3 d_10_17_7 (by decide) (fun h4 => ?_) (fun h4 => ?_)
    · replace hf := gpos hf h4
      cases hf
      exact W.vret hx hb hr (fun t ht hW => ⟨⟨(), rfl, trivial, by rw [ht]; exact hZ, va_K.moved hW.alike hK⟩, hS.F ht⟩) hS.2.2 d_10_17_90 hlk
    · replace hf := gneg hf h4
      refine lv_aload_n hx hb d_10_17_10 rfl (lv_at hl 1 rfl) ?_
      refine zget (ci := 8) (C := RX8) (T := TX8) (v := .ref (ad 8 l0 (1 + 1))) (k := 1) hx hb hts inW_8 hown hK hZ g1.1 g1.2 rfl (by decide) k_7_220 rfl d_10_17_11 ?_
      refine lv_iconst (v := iI 2) hx hb d_10_17_14 rfl ?_
      refine zaldQ (t := 1) (ci := 8) (k := 1) hx hb hK rfl hZ g1.1 g1.2 rfl (Nat.le_of_ble_eq_true rfl) (by decide) (by decide) d_10_17_15 ?_
      refine W.eq (g2 := F0 m 16 ls [.ref (ad 8 l0 (222 + 1))]) rfl ?_
      refine lv_iload_n hx hb d_10_17_16 rfl (lv_at hl 0 rfl) ?_
      obtain ⟨g5, hf⟩ := gif hf
      refine zlald (ci := 8) (k := 222) hx hb hK rfl hZ g1.1 g1.2 rfl (Nat.le_of_ble_eq_true rfl) g5.1 g5.2 d_10_17_17 ?_
      refine lv_iload_n hx hb d_10_17_18 rfl (lv_at hl 2 rfl) ?_
      obtain ⟨g6, hf⟩ := gif hf
      refine zi2l hx hb g6 d_10_17_19 ?_
      obtain ⟨g7, hf⟩ := gif hf
      obtain ⟨g8, hf⟩ := gif hf
      refine zcmp_r hx hb g7 g8 d_10_17_20 ?_
      refine z0ne (tgt := 48) hx hb zcmp_32 d_10_17_21 (by decide) (fun h9 => ?_) (fun h9 => ?_)
      · replace hf := gneg hf h9
        exact b_SoundFile_endSound_48 X ih hf hZ hS (lv_sub hl [0, 1, 2] rfl)
      · replace hf := gpos hf h9
        refine lv_aload_n hx hb d_10_17_24 rfl (lv_at hl 1 rfl) ?_
        refine zget (ci := 8) (C := RX8) (T := TX8) (v := .ref (ad 8 l0 (1 + 1))) (k := 1) hx hb hts inW_8 hown hK hZ g1.1 g1.2 rfl (by decide) k_7_220 rfl d_10_17_25 ?_
        refine lv_iconst (v := iI 1) hx hb d_10_17_28 rfl ?_
        refine zaldQ (t := 1) (ci := 8) (k := 1) hx hb hK rfl hZ g1.1 g1.2 rfl (Nat.le_of_ble_eq_true rfl) (by decide) (by decide) d_10_17_29 ?_
        refine W.eq (g2 := F0 m 30 ls [.ref (ad 8 l0 (221 + 1))]) rfl ?_
        refine lv_iload_n hx hb d_10_17_30 rfl (lv_at hl 0 rfl) ?_
        refine zlald (ci := 8) (k := 221) hx hb hK rfl hZ g1.1 g1.2 rfl (Nat.le_of_ble_eq_true rfl) g5.1 g5.2 d_10_17_31 ?_
        refine lv_aload_n hx hb d_10_17_32 rfl (lv_at hl 1 rfl) ?_
        refine zget (ci := 8) (C := RX8) (T := TX8) (v := .int (iI (F 8 l0 9))) (k := 9) hx hb hts inW_8 hown hK hZ g1.1 g1.2 rfl (by decide) k_7_233 rfl d_10_17_33 ?_
        refine lv_bipush (v := iI 16) hx hb d_10_17_36 (by decide) ?_
        refine zrm_r hx hb (by decide) d_10_17_38 ?_
        obtain ⟨g10, hf⟩ := gif hf
        refine zi2l hx hb g10 d_10_17_39 ?_
        obtain ⟨g11, hf⟩ := gif hf
        obtain ⟨g12, hf⟩ := gif hf
        refine zcmp_r hx hb g11 g12 d_10_17_40 ?_
        refine z0ne (tgt := 48) hx hb zcmp_32 d_10_17_41 (by decide) (fun h13 => ?_) (fun h13 => ?_)
        · replace hf := gneg hf h13
          exact b_SoundFile_endSound_48 X ih hf hZ hS (lv_sub hl [0, 1, 2] rfl)
        · replace hf := gpos hf h13
          refine lv_iconst (v := iI 1) hx hb d_10_17_44 rfl ?_
          refine lv_goto (tgt := 49) hx hb d_10_17_45 (by decide) ?_
          exact b_SoundFile_endSound_49 X ih hf hZ hS (lv_sub hl [0, 1, 2] rfl)

noncomputable def f_SoundFile_endSound (K : zK) (l0 : Int) (l1 : Int) (l2 : Int) (F : zF) (B : zB) : zO := f_SoundFile_endSound_2 K K.1 l2 l0 l1 F B
set_option maxHeartbeats 4000000 in
set_option maxRecDepth 100000 in
theorem c_SoundFile_endSound {l : Launch} {D : va_G} {ca : Nat → ClassId} {ad : Nat → Int → Nat → Nat} {L : List Nat} {aS vS : Nat → Nat} {sz : Nat} {K : zK}  {l0 : Int} {l1 : Int} {l2 : Int} {F F9 : zF} {B B9 : zB} {r : Int} (hf : f_SoundFile_endSound K l0 l1 l2 F B = some (r, F9, B9)) : Met l ({ cls := "StaveHouse$SoundFile", name := "endSound", desc := "(II)V" } : Jvm.MethodName) (Cond.code ({ cls := "StaveHouse$SoundFile", name := "endSound", desc := "(II)V" } : Jvm.MethodName) prog_10_method_17_code 5 (Option.none : Option Jvm.ClassFile.FieldType) :: wAll) ({ frames := 0, cells := 0, slots := 0, locals := 0 } : Room) (va_Pc [.ref (ad 8 l0 0), .int (iI l1), .int (iI l2)] (zPre D ca ad lnC K.2 L aS vS F B sz)) (Q_SoundFile_endSound K D ca ad L r F9 B9 (zA L sz)) 0 0 (zA L sz) := by
  refine zMet (Qc := Q_SoundFile_endSound K D ca ad L r F9 B9) (lv := [(0, .ref (ad 8 l0 0)), (1, .int (iI l1)), (2, .int (iI l2))]) (by decide) (Nat.le_of_ble_eq_true rfl) rfl (fun A p e s m below meth c ls X hZ hS hl => ?_)
  obtain ⟨hx, hb, hr, hml, hown, hts, hlk, hK, hA, hL, hX⟩ := id X
  replace hf : (f_SoundFile_endSound_2 K K.1 l2 l0 l1 F B) = some (r, F9, B9) := hf
  refine lv_iload_n hx hb d_10_17_0 rfl (lv_at hl 2 rfl) ?_
  refine lv_istore_n (lv' := [(3, .int (iI l2)), (0, .ref (ad 8 l0 0)), (1, .int (iI l1)), (2, .int (iI l2))]) hx hb d_10_17_1 rfl hl (by decide) rfl (fun ls hl => ?_)
  exact b_SoundFile_endSound_2 X hf hZ hS (lv_sub hl [0, 1, 2] rfl)

noncomputable abbrev Q_S_track (K : zK) (D : va_G) (ca : Nat → ClassId) (ad : Nat → Int → Nat → Nat) (L : List Nat) (r : Int) (F : zF) (B : zB) (A : Nat → Prop) : Array Value → State → Outcome → State → Prop := va_Qi (S := Unit) (fun p _ => p = iI r) (fun _ => zPo D ca ad lnC K.2 L F B A) A
noncomputable def f_S_track_45 (K : zK) (s0 : Int) (F : zF) (B : zB) : zO := some (s0, F, B)
set_option maxHeartbeats 4000000 in
set_option maxRecDepth 100000 in
theorem b_S_track_45 {D : va_G} {ca : Nat → ClassId} {ad : Nat → Int → Nat → Nat} {L : List Nat} {aS vS : Nat → Nat} {A : Nat → Prop} {p : Program} {l : Launch} {e : Env} {s : State} {m : MethodId} {args : Array Value} {below : List Frame} {meth : Method} {c : Code} {K : zK} {r : Int} {F9 : zF} {B9 : zB} (X : zX D ca L aS vS A p s m args meth c prog_1_method_25_code 2 (Option.some Jvm.ClassFile.FieldType.int) "StaveHouse") {s0 : Int} {F : zF} {B : zB} {H : Heap} {locs : List Loc} {ls : Array Slot} (hf : f_S_track_45 K s0 F B = some (r, F9, B9)) (hZ : zH D ca ad lnC K.2 L F B A H) (hS : va_S A s.heap H locs) (hl : lv_has ls 2 []) : W p l e ({ frames := 0, cells := 0, slots := 0, locals := 0 } : Room) s m args below meth c H locs 0 0 (MQ below (Q_S_track K D ca ad L r F9 B9 A) args s 0 0 A) (F0 m 45 ls [.int (iI s0)]) := by
  obtain ⟨hx, hb, hr, hml, hown, hts, hlk, hK, hA, hL, hX⟩ := id X
  replace hf : (some (s0, F, B)) = some (r, F9, B9) := hf
  cases hf
  exact W.iret hx hb hr (fun t ht hW => ⟨⟨_, (), rfl, rfl, by rw [ht]; exact hZ, va_K.moved hW.alike hK⟩, hS.F ht⟩) hS.2.2 d_1_25_45 hlk

noncomputable def f_S_track_17 (K : zK)  (F : zF) (B : zB) : zO := some ((-2147483648), F, B)
set_option maxHeartbeats 4000000 in
set_option maxRecDepth 100000 in
theorem b_S_track_17 {D : va_G} {ca : Nat → ClassId} {ad : Nat → Int → Nat → Nat} {L : List Nat} {aS vS : Nat → Nat} {A : Nat → Prop} {p : Program} {l : Launch} {e : Env} {s : State} {m : MethodId} {args : Array Value} {below : List Frame} {meth : Method} {c : Code} {K : zK} {r : Int} {F9 : zF} {B9 : zB} (X : zX D ca L aS vS A p s m args meth c prog_1_method_25_code 2 (Option.some Jvm.ClassFile.FieldType.int) "StaveHouse")  {F : zF} {B : zB} {H : Heap} {locs : List Loc} {ls : Array Slot} (hf : f_S_track_17 K  F B = some (r, F9, B9)) (hZ : zH D ca ad lnC K.2 L F B A H) (hS : va_S A s.heap H locs) (hl : lv_has ls 2 []) : W p l e ({ frames := 0, cells := 0, slots := 0, locals := 0 } : Room) s m args below meth c H locs 0 0 (MQ below (Q_S_track K D ca ad L r F9 B9 A) args s 0 0 A) (F0 m 17 ls []) := by
  obtain ⟨hx, hb, hr, hml, hown, hts, hlk, hK, hA, hL, hX⟩ := id X
  replace hf : (some ((-2147483648), F, B)) = some (r, F9, B9) := hf
  refine lv_ldc hx hb hown (hts _ k_6_199) d_1_25_17 ?_
  refine W.eq (g2 := F0 m 19 ls [.int (iI (-2147483648))]) rfl ?_
  cases hf
  exact W.iret hx hb hr (fun t ht hW => ⟨⟨_, (), rfl, rfl, by rw [ht]; exact hZ, va_K.moved hW.alike hK⟩, hS.F ht⟩) hS.2.2 d_1_25_19 hlk

noncomputable def f_S_track (K : zK) (l0 : Int) (l1 : Int) (F : zF) (B : zB) : zO := if 0 ≤ l0 ∧ l0 < K.2 12 then (if (F 12 l0 8) < 0 then f_S_track_17 K F B else if r32 l1 then (if l1 < 0 then f_S_track_17 K F B else (if l1 ≤ 7 then (if l1 = 7 then if 0 ≤ (F 12 l0 8) ∧ (F 12 l0 8) < K.2 8 then f_S_track_45 K (F 8 (F 12 l0 8) 2) F B else none else if 0 ≤ (F 12 l0 8) ∧ (F 12 l0 8) < K.2 8 then if 0 ≤ l1 ∧ l1 < 7 then f_S_track_45 K (B 8 (F 12 l0 8) 0 l1) F B else none else none) else f_S_track_17 K F B)) else none) else none
set_option maxHeartbeats 4000000 in
set_option maxRecDepth 100000 in
theorem c_S_track {l : Launch} {D : va_G} {ca : Nat → ClassId} {ad : Nat → Int → Nat → Nat} {L : List Nat} {aS vS : Nat → Nat} {sz : Nat} {K : zK}  {l0 : Int} {l1 : Int} {F F9 : zF} {B B9 : zB} {r : Int} (hf : f_S_track K l0 l1 F B = some (r, F9, B9)) : Met l ({ cls := "StaveHouse", name := "track", desc := "(I)I" } : Jvm.MethodName) (Cond.code ({ cls := "StaveHouse", name := "track", desc := "(I)I" } : Jvm.MethodName) prog_1_method_25_code 2 (Option.some Jvm.ClassFile.FieldType.int) :: wAll) ({ frames := 0, cells := 0, slots := 0, locals := 0 } : Room) (va_Pc [.ref (ad 12 l0 0), .int (iI l1)] (zPre D ca ad lnC K.2 L aS vS F B sz)) (Q_S_track K D ca ad L r F9 B9 (zA L sz)) 0 0 (zA L sz) := by
  refine zMet (Qc := Q_S_track K D ca ad L r F9 B9) (lv := [(0, .ref (ad 12 l0 0)), (1, .int (iI l1))]) (by decide) (Nat.le_of_ble_eq_true rfl) rfl (fun A p e s m below meth c ls X hZ hS hl => ?_)
  obtain ⟨hx, hb, hr, hml, hown, hts, hlk, hK, hA, hL, hX⟩ := id X
  replace hf : (if 0 ≤ l0 ∧ l0 < K.2 12 then (if (F 12 l0 8) < 0 then f_S_track_17 K F B else if r32 l1 then (if l1 < 0 then f_S_track_17 K F B else (if l1 ≤ 7 then (if l1 = 7 then if 0 ≤ (F 12 l0 8) ∧ (F 12 l0 8) < K.2 8 then f_S_track_45 K (F 8 (F 12 l0 8) 2) F B else none else if 0 ≤ (F 12 l0 8) ∧ (F 12 l0 8) < K.2 8 then if 0 ≤ l1 ∧ l1 < 7 then f_S_track_45 K (B 8 (F 12 l0 8) 0 l1) F B else none else none) else f_S_track_17 K F B)) else none) else none) = some (r, F9, B9) := hf
  refine lv_aload_n hx hb d_1_25_0 rfl (lv_at hl 0 rfl) ?_
  obtain ⟨g1, hf⟩ := gif hf
  refine zget (ci := 12) (C := RX12) (T := TX12) (v := va_rf (zrf ad 8 (F 12 l0 8))) (k := 8) hx hb hts inW_12 hown hK hZ g1.1 g1.2 rfl (by decide) k_2_135 rfl d_1_25_1 ?_
  refine zifnull (tgt := 17) hx hb d_1_25_4 (by decide) (fun h2 => ?_) (fun h2 => ?_)
  · replace hf := gpos hf h2
    exact b_S_track_17 X hf hZ hS (lv_sub hl [] rfl)
  · replace hf := gneg hf h2
    refine lv_iload_n hx hb d_1_25_7 rfl (lv_at hl 1 rfl) ?_
    obtain ⟨g3, hf⟩ := gif hf
    refine z0lt (tgt := 17) hx hb g3 d_1_25_8 (by decide) (fun h4 => ?_) (fun h4 => ?_)
    · replace hf := gpos hf h4
      exact b_S_track_17 X hf hZ hS (lv_sub hl [] rfl)
    · replace hf := gneg hf h4
      refine lv_iload_n hx hb d_1_25_11 rfl (lv_at hl 1 rfl) ?_
      refine lv_bipush (v := iI 7) hx hb d_1_25_12 (by decide) ?_
      refine zle (tgt := 20) hx hb g3 (by decide) d_1_25_14 (by decide) (fun h5 => ?_) (fun h5 => ?_)
      · replace hf := gpos hf h5
        refine lv_iload_n hx hb d_1_25_20 rfl (lv_at hl 1 rfl) ?_
        refine lv_bipush (v := iI 7) hx hb d_1_25_21 (by decide) ?_
        refine zne (tgt := 36) hx hb g3 (by decide) d_1_25_23 (by decide) (fun h6 => ?_) (fun h6 => ?_)
        · replace hf := gneg hf h6
          refine lv_aload_n hx hb d_1_25_36 rfl (lv_at hl 0 rfl) ?_
          refine zget (ci := 12) (C := RX12) (T := TX12) (v := va_rf (zrf ad 8 (F 12 l0 8))) (k := 8) hx hb hts inW_12 hown hK hZ g1.1 g1.2 rfl (by decide) k_2_135 rfl d_1_25_37 ?_
          obtain ⟨g7, hf⟩ := gif hf
          refine zunrf g7.1 ?_
          refine zget (ci := 8) (C := RX8) (T := TX8) (v := .ref (ad 8 (F 12 l0 8) (0 + 1))) (k := 0) hx hb hts inW_8 hown hK hZ g7.1 g7.2 rfl (by decide) k_7_219 rfl d_1_25_40 ?_
          refine lv_iload_n hx hb d_1_25_43 rfl (lv_at hl 1 rfl) ?_
          obtain ⟨g8, hf⟩ := gif hf
          refine zald (ci := 8) (k := 0) hx hb hK rfl hZ g7.1 g7.2 rfl (Nat.le_of_ble_eq_true rfl) g8.1 g8.2 d_1_25_44 ?_
          exact b_S_track_45 X hf hZ hS (lv_sub hl [] rfl)
        · replace hf := gpos hf h6
          refine lv_aload_n hx hb d_1_25_26 rfl (lv_at hl 0 rfl) ?_
          refine zget (ci := 12) (C := RX12) (T := TX12) (v := va_rf (zrf ad 8 (F 12 l0 8))) (k := 8) hx hb hts inW_12 hown hK hZ g1.1 g1.2 rfl (by decide) k_2_135 rfl d_1_25_27 ?_
          obtain ⟨g9, hf⟩ := gif hf
          refine zunrf g9.1 ?_
          refine zget (ci := 8) (C := RX8) (T := TX8) (v := .int (iI (F 8 (F 12 l0 8) 2))) (k := 2) hx hb hts inW_8 hown hK hZ g9.1 g9.2 rfl (by decide) k_7_225 rfl d_1_25_30 ?_
          refine lv_goto (tgt := 45) hx hb d_1_25_33 (by decide) ?_
          exact b_S_track_45 X hf hZ hS (lv_sub hl [] rfl)
      · replace hf := gneg hf h5
        exact b_S_track_17 X hf hZ hS (lv_sub hl [] rfl)

noncomputable abbrev Q_S_sound (K : zK) (D : va_G) (ca : Nat → ClassId) (ad : Nat → Int → Nat → Nat) (L : List Nat) (r : Int) (F : zF) (B : zB) (A : Nat → Prop) : Array Value → State → Outcome → State → Prop := va_Ql (S := Unit) (fun p _ => p = lI r) (fun _ => zPo D ca ad lnC K.2 L F B A) A
noncomputable def f_S_sound_32 (K : zK)  (F : zF) (B : zB) : zO := some ((-1), F, B)
set_option maxHeartbeats 4000000 in
set_option maxRecDepth 100000 in
theorem b_S_sound_32 {D : va_G} {ca : Nat → ClassId} {ad : Nat → Int → Nat → Nat} {L : List Nat} {aS vS : Nat → Nat} {A : Nat → Prop} {p : Program} {l : Launch} {e : Env} {s : State} {m : MethodId} {args : Array Value} {below : List Frame} {meth : Method} {c : Code} {K : zK} {r : Int} {F9 : zF} {B9 : zB} (X : zX D ca L aS vS A p s m args meth c prog_1_method_26_code 3 (Option.some Jvm.ClassFile.FieldType.long) "StaveHouse")  {F : zF} {B : zB} {H : Heap} {locs : List Loc} {ls : Array Slot} (hf : f_S_sound_32 K  F B = some (r, F9, B9)) (hZ : zH D ca ad lnC K.2 L F B A H) (hS : va_S A s.heap H locs) (hl : lv_has ls 3 []) : W p l e ({ frames := 0, cells := 0, slots := 0, locals := 0 } : Room) s m args below meth c H locs 0 0 (MQ below (Q_S_sound K D ca ad L r F9 B9 A) args s 0 0 A) (F0 m 32 ls []) := by
  obtain ⟨hx, hb, hr, hml, hown, hts, hlk, hK, hA, hL, hX⟩ := id X
  replace hf : (some ((-1), F, B)) = some (r, F9, B9) := hf
  refine lv_ldc2 hx hb hown (hts _ k_6_184) d_1_26_32 ?_
  refine W.eq (g2 := F0 m 35 ls [.long (lI (-1))]) rfl ?_
  cases hf
  exact W.lret hx hb hr (fun t ht hW => ⟨⟨_, (), rfl, rfl, by rw [ht]; exact hZ, va_K.moved hW.alike hK⟩, hS.F ht⟩) hS.2.2 d_1_26_35 hlk

noncomputable def f_S_sound (K : zK) (l0 : Int) (l1 : Int) (l2 : Int) (F : zF) (B : zB) : zO := if 0 ≤ l0 ∧ l0 < K.2 12 then (if (F 12 l0 8) < 0 then f_S_sound_32 K F B else if r32 l1 then (if l1 < 0 then f_S_sound_32 K F B else if 0 ≤ (F 12 l0 8) ∧ (F 12 l0 8) < K.2 8 then if r32 (F 8 (F 12 l0 8) 2) then (if (F 8 (F 12 l0 8) 2) ≤ l1 then f_S_sound_32 K F B else if r32 l2 then (if l2 < 0 then f_S_sound_32 K F B else (if l2 < 6 then if 0 ≤ l2 ∧ l2 < 6 then if 0 ≤ l1 ∧ l1 < 400 then some (B 8 (F 12 l0 8) (220 + l2.toNat) l1, F, B) else none else none else f_S_sound_32 K F B)) else none) else none else none) else none) else none
set_option maxHeartbeats 4000000 in
set_option maxRecDepth 100000 in
theorem c_S_sound {l : Launch} {D : va_G} {ca : Nat → ClassId} {ad : Nat → Int → Nat → Nat} {L : List Nat} {aS vS : Nat → Nat} {sz : Nat} {K : zK}  {l0 : Int} {l1 : Int} {l2 : Int} {F F9 : zF} {B B9 : zB} {r : Int} (hf : f_S_sound K l0 l1 l2 F B = some (r, F9, B9)) : Met l ({ cls := "StaveHouse", name := "sound", desc := "(II)J" } : Jvm.MethodName) (Cond.code ({ cls := "StaveHouse", name := "sound", desc := "(II)J" } : Jvm.MethodName) prog_1_method_26_code 3 (Option.some Jvm.ClassFile.FieldType.long) :: wAll) ({ frames := 0, cells := 0, slots := 0, locals := 0 } : Room) (va_Pc [.ref (ad 12 l0 0), .int (iI l1), .int (iI l2)] (zPre D ca ad lnC K.2 L aS vS F B sz)) (Q_S_sound K D ca ad L r F9 B9 (zA L sz)) 0 0 (zA L sz) := by
  refine zMet (Qc := Q_S_sound K D ca ad L r F9 B9) (lv := [(0, .ref (ad 12 l0 0)), (1, .int (iI l1)), (2, .int (iI l2))]) (by decide) (Nat.le_of_ble_eq_true rfl) rfl (fun A p e s m below meth c ls X hZ hS hl => ?_)
  obtain ⟨hx, hb, hr, hml, hown, hts, hlk, hK, hA, hL, hX⟩ := id X
  replace hf : (if 0 ≤ l0 ∧ l0 < K.2 12 then (if (F 12 l0 8) < 0 then f_S_sound_32 K F B else if r32 l1 then (if l1 < 0 then f_S_sound_32 K F B else if 0 ≤ (F 12 l0 8) ∧ (F 12 l0 8) < K.2 8 then if r32 (F 8 (F 12 l0 8) 2) then (if (F 8 (F 12 l0 8) 2) ≤ l1 then f_S_sound_32 K F B else if r32 l2 then (if l2 < 0 then f_S_sound_32 K F B else (if l2 < 6 then if 0 ≤ l2 ∧ l2 < 6 then if 0 ≤ l1 ∧ l1 < 400 then some (B 8 (F 12 l0 8) (220 + l2.toNat) l1, F, B) else none else none else f_S_sound_32 K F B)) else none) else none else none) else none) else none) = some (r, F9, B9) := hf
  refine lv_aload_n hx hb d_1_26_0 rfl (lv_at hl 0 rfl) ?_
  obtain ⟨g1, hf⟩ := gif hf
  refine zget (ci := 12) (C := RX12) (T := TX12) (v := va_rf (zrf ad 8 (F 12 l0 8))) (k := 8) hx hb hts inW_12 hown hK hZ g1.1 g1.2 rfl (by decide) k_2_135 rfl d_1_26_1 ?_
  refine zifnull (tgt := 32) hx hb d_1_26_4 (by decide) (fun h2 => ?_) (fun h2 => ?_)
  · replace hf := gpos hf h2
    exact b_S_sound_32 X hf hZ hS (lv_sub hl [] rfl)
  · replace hf := gneg hf h2
    refine lv_iload_n hx hb d_1_26_7 rfl (lv_at hl 1 rfl) ?_
    obtain ⟨g3, hf⟩ := gif hf
    refine z0lt (tgt := 32) hx hb g3 d_1_26_8 (by decide) (fun h4 => ?_) (fun h4 => ?_)
    · replace hf := gpos hf h4
      exact b_S_sound_32 X hf hZ hS (lv_sub hl [] rfl)
    · replace hf := gneg hf h4
      refine lv_iload_n hx hb d_1_26_11 rfl (lv_at hl 1 rfl) ?_
      refine lv_aload_n hx hb d_1_26_12 rfl (lv_at hl 0 rfl) ?_
      refine zget (ci := 12) (C := RX12) (T := TX12) (v := va_rf (zrf ad 8 (F 12 l0 8))) (k := 8) hx hb hts inW_12 hown hK hZ g1.1 g1.2 rfl (by decide) k_2_135 rfl d_1_26_13 ?_
      obtain ⟨g5, hf⟩ := gif hf
      refine zunrf g5.1 ?_
      refine zget (ci := 8) (C := RX8) (T := TX8) (v := .int (iI (F 8 (F 12 l0 8) 2))) (k := 2) hx hb hts inW_8 hown hK hZ g5.1 g5.2 rfl (by decide) k_7_225 rfl d_1_26_16 ?_
      obtain ⟨g6, hf⟩ := gif hf
      refine zge (tgt := 32) hx hb g3 g6 d_1_26_19 (by decide) (fun h7 => ?_) (fun h7 => ?_)
      · replace hf := gpos hf h7
        exact b_S_sound_32 X hf hZ hS (lv_sub hl [] rfl)
      · replace hf := gneg hf h7
        refine lv_iload_n hx hb d_1_26_22 rfl (lv_at hl 2 rfl) ?_
        obtain ⟨g8, hf⟩ := gif hf
        refine z0lt (tgt := 32) hx hb g8 d_1_26_23 (by decide) (fun h9 => ?_) (fun h9 => ?_)
        · replace hf := gpos hf h9
          exact b_S_sound_32 X hf hZ hS (lv_sub hl [] rfl)
        · replace hf := gneg hf h9
          refine lv_iload_n hx hb d_1_26_26 rfl (lv_at hl 2 rfl) ?_
          refine lv_bipush (v := iI 6) hx hb d_1_26_27 (by decide) ?_
          refine zlt (tgt := 36) hx hb g8 (by decide) d_1_26_29 (by decide) (fun h10 => ?_) (fun h10 => ?_)
          · replace hf := gpos hf h10
            refine lv_aload_n hx hb d_1_26_36 rfl (lv_at hl 0 rfl) ?_
            refine zget (ci := 12) (C := RX12) (T := TX12) (v := va_rf (zrf ad 8 (F 12 l0 8))) (k := 8) hx hb hts inW_12 hown hK hZ g1.1 g1.2 rfl (by decide) k_2_135 rfl d_1_26_37 ?_
            refine zunrf g5.1 ?_
            refine zget (ci := 8) (C := RX8) (T := TX8) (v := .ref (ad 8 (F 12 l0 8) (1 + 1))) (k := 1) hx hb hts inW_8 hown hK hZ g5.1 g5.2 rfl (by decide) k_7_222 rfl d_1_26_40 ?_
            refine lv_iload_n hx hb d_1_26_43 rfl (lv_at hl 2 rfl) ?_
            obtain ⟨g11, hf⟩ := gif hf
            refine zaldQ (t := 1) (ci := 8) (k := 1) hx hb hK rfl hZ g5.1 g5.2 rfl (Nat.le_of_ble_eq_true rfl) g11.1 g11.2 d_1_26_44 ?_
            refine W.eq (g2 := F0 m 45 ls [.ref (ad 8 (F 12 l0 8) (220 + l2.toNat + 1))]) rfl ?_
            refine lv_iload_n hx hb d_1_26_45 rfl (lv_at hl 1 rfl) ?_
            obtain ⟨g12, hf⟩ := gif hf
            refine zlald (ci := 8) (k := (220 + l2.toNat)) hx hb hK rfl hZ g5.1 g5.2 (zkq (c := 8) (b := 220) (n := 6) (t := 1) (by decide) g11.1 g11.2) (lnq_le (c := 8) (b := 220) (n := 6) (m := 400) (by decide) (by decide) (by decide) g11.1 g11.2) g12.1 (lnq_lt (c := 8) (b := 220) (n := 6) (m := 400) (by decide) (by decide) g11.1 g11.2 g12.2) d_1_26_46 ?_
            cases hf
            exact W.lret hx hb hr (fun t ht hW => ⟨⟨_, (), rfl, rfl, by rw [ht]; exact hZ, va_K.moved hW.alike hK⟩, hS.F ht⟩) hS.2.2 d_1_26_47 hlk
          · replace hf := gneg hf h10
            exact b_S_sound_32 X hf hZ hS (lv_sub hl [] rfl)

noncomputable abbrev Q_Scribe_trackEnd (K : zK) (D : va_G) (ca : Nat → ClassId) (ad : Nat → Int → Nat → Nat) (L : List Nat) (r : Int) (F : zF) (B : zB) (A : Nat → Prop) : Array Value → State → Outcome → State → Prop := va_Qi (S := Unit) (fun p _ => p = iI r) (fun _ => zPo D ca ad lnC K.2 L F B A) A
noncomputable def f_Scribe_trackEnd_39 (K : zK) (l3 : Int) (F : zF) (B : zB) : zO := some (l3, F, B)
