section
theorem k_4_189 : (Jvm.Cond.methodLink "StaveHouse$Walker" (64 : Nat) ({ cls := "StaveHouse$Piece", name := "barLength", desc := "()J" } : Jvm.MethodName)) ∈ wAll := wA_4 (j := 189) rfl rfl
theorem k_4_195 : (Jvm.Cond.constantLong "StaveHouse$Walker" (73 : Nat) (100 : Int64)) ∈ wAll := wA_4 (j := 195) rfl rfl
theorem k_4_128 : (Jvm.Cond.fieldLink "StaveHouse$Walker" (86 : Nat) "StaveHouse$Part" "root" "I") ∈ wAll := wA_4 (j := 128) rfl rfl
theorem W_prog_13_method_2_code_0 : chW prog_13_method_2_code 0 [42, 43, 181, 0, 24, 42, 45, 181, 0, 28, 42, 3, 181, 0, 32, 42, 3, 181, 0, 36, 42, 7, 181, 0, 39, 42, 3, 181, 0, 42, 42, 3, 181, 0, 45, 42] := chW_of (by decide +kernel)
theorem W_prog_13_method_2_code_32 : chW prog_13_method_2_code 32 [181, 0, 45, 42, 3, 181, 0, 48, 42, 3, 181, 0, 51, 42, 4, 181, 0, 54, 42, 4, 181, 0, 57, 42, 9, 181, 0, 60, 42, 44, 182, 0, 64, 181, 0, 70] := chW_of (by decide +kernel)
theorem W_prog_13_method_2_code_64 : chW prog_13_method_2_code 64 [64, 181, 0, 70, 42, 20, 0, 73, 42, 180, 0, 70, 105, 181, 0, 75, 42, 3, 181, 0, 78, 3, 54, 4, 21, 4, 42, 180, 0, 9, 190, 162, 0, 17, 42, 180] := chW_of (by decide +kernel)
theorem W_prog_13_method_2_code_96 : chW prog_13_method_2_code 96 [0, 17, 42, 180, 0, 9, 21, 4, 3, 79, 132, 4, 1, 167, 255, 235, 42, 42, 180, 0, 24, 180, 0, 81, 42, 180, 0, 28, 180, 0, 86, 46, 3, 182, 0, 91] := chW_of (by decide +kernel)
theorem W_prog_13_method_2_code_128 : chW prog_13_method_2_code 128 [3, 182, 0, 91, 42, 180, 0, 32, 172] := chW_of (by decide +kernel)
theorem d_13_2_106 : decode prog_13_method_2_code 106 = .ok (.iinc 4 1, 3) := D_132 W_prog_13_method_2_code_96 10 rfl rfl rfl
abbrev Q_Walker_goVoice (K : zK) (D : va_G) (ca : Nat → ClassId) (ad : Nat → Int → Nat → Nat) (L : List Nat) (r : Int) (F : zF) (B : zB) (A : Nat → Prop) : Array Value → State → Outcome → State → Prop := va_Qi (S := Unit) (fun p _ => p = iI r) (fun _ => zPo D ca ad lnC K.2 L F B A) A
def f_Walker_goVoice_88 (K : zK) : Nat → Int → Int → zF → zB → zO
  | 0, _, _, _, _ => none
  | n + 1, l4, l0, F, B => if 0 ≤ l0 ∧ l0 < K.2 11 then if r32 l4 then (if 4 ≤ l4 then if 0 ≤ (F 11 l0 0) ∧ (F 11 l0 0) < K.2 3 then if 0 ≤ (F 11 l0 1) ∧ (F 11 l0 1) < K.2 4 then if 0 ≤ (F 4 (F 11 l0 1) 4) ∧ (F 4 (F 11 l0 1) 4) < 3000 then zbind (f_Walker_goThrough K l0 (B 3 (F 11 l0 0) 4 (F 4 (F 11 l0 1) 4)) 0 F B) (fun r29 F29 B29 => some (F29 11 l0 2, F29, B29)) else none else none else none else if 0 ≤ l4 ∧ l4 < 4 then f_Walker_goVoice_88 K n (l4 + 1) l0 F (zup4 B 11 l0 14 l4 0) else none) else none else none
set_option maxHeartbeats 4000000 in
set_option maxRecDepth 100000 in
theorem b_Walker_goVoice_88 {D : va_G} {ca : Nat → ClassId} {ad : Nat → Int → Nat → Nat} {L : List Nat} {aS vS : Nat → Nat} {A : Nat → Prop} {p : Program} {l : Launch} {e : Env} {s : State} {m : MethodId} {args : Array Value} {below : List Frame} {meth : Method} {c : Code} {K : zK} {r : Int} {F9 : zF} {B9 : zB} (X : zX D ca L aS vS A p s m args meth c prog_13_method_2_code 5 (Option.some Jvm.ClassFile.FieldType.int) "StaveHouse$Walker") : ∀ {n : Nat} {l4 : Int} {l0 : Int} {F : zF} {B : zB} {H : Heap} {locs : List Loc} {ls : Array Slot}, f_Walker_goVoice_88 K n l4 l0 F B = some (r, F9, B9) → zH D ca ad lnC K.2 L F B A H → va_S A s.heap H locs → lv_has ls 5 [(4, .int (iI l4)), (0, .ref (ad 11 l0 0))] → W p l e ({ frames := 206, cells := 0, slots := 0, locals := 5119 } : Room) s m args below meth c H locs 0 0 (MQ below (Q_Walker_goVoice K D ca ad L r F9 B9 A) args s 0 0 A) (F0 m 88 ls []) := by
  obtain ⟨hx, hb, hr, hml, hown, hts, hlk, hK, hA, hL, hX⟩ := id X
  intro n
  induction n with
  | zero =>
    intros
    rename_i hf _ _ _
    cases hf
  | succ n ih =>
    intro l4 l0 F B H locs ls hf hZ hS hl
    replace hf : (if 0 ≤ l0 ∧ l0 < K.2 11 then if r32 l4 then (if 4 ≤ l4 then if 0 ≤ (F 11 l0 0) ∧ (F 11 l0 0) < K.2 3 then if 0 ≤ (F 11 l0 1) ∧ (F 11 l0 1) < K.2 4 then if 0 ≤ (F 4 (F 11 l0 1) 4) ∧ (F 4 (F 11 l0 1) 4) < 3000 then zbind (f_Walker_goThrough K l0 (B 3 (F 11 l0 0) 4 (F 4 (F 11 l0 1) 4)) 0 F B) (fun r29 F29 B29 => some (F29 11 l0 2, F29, B29)) else none else none else none else if 0 ≤ l4 ∧ l4 < 4 then f_Walker_goVoice_88 K n (l4 + 1) l0 F (zup4 B 11 l0 14 l4 0) else none) else none else none) = some (r, F9, B9) := hf
    refine lv_iload hx hb (D_21 W_prog_13_method_2_code_64 24 rfl rfl) (lv_at hl 0 rfl) ?_
    refine lv_aload_n hx hb (D_42 W_prog_13_method_2_code_64 26 rfl rfl) rfl (lv_at hl 1 rfl) ?_
    obtain ⟨g23, hf⟩ := gif hf
    refine zget (ci := 11) (C := RX11) (T := TX11) (v := .ref (ad 11 l0 (14 + 1))) (k := 14) hx hb hts inW_11 hown hK hZ g23.1 g23.2 rfl (by decide) k_1_204 rfl (D_180 W_prog_13_method_2_code_64 27 rfl rfl rfl) ?_
    refine zlen (t := 0) (x := 0) (ci := 11) (k := 14) hx hb hK rfl (fun _ _ => ⟨_, rfl⟩) hZ g23.1 g23.2 rfl (D_190 W_prog_13_method_2_code_64 30 rfl rfl) ?_
    refine W.eq (g2 := F0 m 95 ls [.int (iI 4), .int (iI l4)]) rfl ?_
    obtain ⟨g24, hf⟩ := gif hf
    refine zge (tgt := 112) hx hb g24 (by decide) (D_162 W_prog_13_method_2_code_64 31 rfl rfl rfl) (by decide) (fun h25 => ?_) (fun h25 => ?_)
    · replace hf := gpos hf h25
      refine lv_aload_n hx hb (D_42 W_prog_13_method_2_code_96 16 rfl rfl) rfl (lv_at hl 1 rfl) ?_
      refine lv_aload_n hx hb (D_42 W_prog_13_method_2_code_96 17 rfl rfl) rfl (lv_at hl 1 rfl) ?_
      refine zget (ci := 11) (C := RX11) (T := TX11) (v := va_rf (zrf ad 3 (F 11 l0 0))) (k := 0) hx hb hts inW_11 hown hK hZ g23.1 g23.2 rfl (by decide) k_1_190 rfl (D_180 W_prog_13_method_2_code_96 18 rfl rfl rfl) ?_
      obtain ⟨g26, hf⟩ := gif hf
      refine zunrf g26.1 ?_
      refine zget (ci := 3) (C := RX3) (T := TX3) (v := .ref (ad 3 (F 11 l0 0) (4 + 1))) (k := 4) hx hb hts inW_3 hown hK hZ g26.1 g26.2 rfl (by decide) k_1_115 rfl (D_180 W_prog_13_method_2_code_96 21 rfl rfl rfl) ?_
      refine lv_aload_n hx hb (D_42 W_prog_13_method_2_code_96 24 rfl rfl) rfl (lv_at hl 1 rfl) ?_
      refine zget (ci := 11) (C := RX11) (T := TX11) (v := va_rf (zrf ad 4 (F 11 l0 1))) (k := 1) hx hb hts inW_11 hown hK hZ g23.1 g23.2 rfl (by decide) k_1_191 rfl (D_180 W_prog_13_method_2_code_96 25 rfl rfl rfl) ?_
      obtain ⟨g27, hf⟩ := gif hf
      refine zunrf g27.1 ?_
      refine zget (ci := 4) (C := RX4) (T := TX4) (v := .int (iI (F 4 (F 11 l0 1) 4))) (k := 4) hx hb hts inW_4 hown hK hZ g27.1 g27.2 rfl (by decide) k_4_128 rfl (D_180 W_prog_13_method_2_code_96 28 rfl rfl rfl) ?_
      obtain ⟨g28, hf⟩ := gif hf
      refine zald (ci := 3) (k := 4) hx hb hK rfl hZ g26.1 g26.2 rfl (Nat.le_of_ble_eq_true rfl) g28.1 g28.2 (D_46 W_prog_13_method_2_code_96 31 rfl rfl) ?_
      refine lv_iconst (v := iI 0) hx hb (D_3 W_prog_13_method_2_code_128 0 rfl rfl) rfl ?_
      obtain ⟨r29, F29, B29, hc29, hf⟩ := gbind hf
      refine va_callv (va_runV (As := [.int (iI (B 3 (F 11 l0 0) 4 (F 4 (F 11 l0 1) 4))), .int (iI 0)]) (rest := []) ⟨hx, hb, hml, hown, hts⟩ (c_Walker_goThrough (l := l) hc29) (cwV 2 hts (gdV k_4_196 k_4_198 ks_34 k_1_6 k_4_199) rfl rfl rfl (by decide +kernel) ⟨Nat.le_of_ble_eq_true rfl, Nat.le_of_ble_eq_true rfl⟩) (zPV X hZ hS (ci := 11) g23.1 g23.2 (r := (RX11, TX11, 19)) rfl [.int (iI (B 3 (F 11 l0 0) 4 (F 4 (F 11 l0 1) 4))), .int (iI 0)]) rfl rfl hl.1 rfl (lv_room (Nat.le_of_ble_eq_true rfl)) (D_182 W_prog_13_method_2_code_128 1 rfl rfl rfl) ⟨Nat.le_of_ble_eq_true rfl, Nat.le_of_ble_eq_true rfl⟩) hS (fun q _ h => zAin X hS q h) (zAin X hS) (fun u29 t29 H29 locs29 ht29 hv29 hw29 hB29 hz29 hk29 hS29 => ?_)
      have hZ29 := zBack X ht29 hB29
      refine lv_aload_n hx hb (D_42 W_prog_13_method_2_code_128 4 rfl rfl) rfl (lv_at hl 1 rfl) ?_
      refine zget (ci := 11) (C := RX11) (T := TX11) (v := .int (iI (F29 11 l0 2))) (k := 2) hx hb hts inW_11 hown hK hZ29 g23.1 g23.2 rfl (by decide) k_1_192 rfl (D_180 W_prog_13_method_2_code_128 5 rfl rfl rfl) ?_
      cases hf
      exact W.iret hx hb hr (fun t ht hW => ⟨⟨_, (), rfl, rfl, by rw [ht]; exact hZ29, va_K.moved hW.alike hK⟩, hS29.F ht⟩) hS29.2.2 (D_172 W_prog_13_method_2_code_128 8 rfl rfl) hlk
    · replace hf := gneg hf h25
      refine lv_aload_n hx hb (D_42 W_prog_13_method_2_code_96 2 rfl rfl) rfl (lv_at hl 1 rfl) ?_
      refine zget (ci := 11) (C := RX11) (T := TX11) (v := .ref (ad 11 l0 (14 + 1))) (k := 14) hx hb hts inW_11 hown hK hZ g23.1 g23.2 rfl (by decide) k_1_204 rfl (D_180 W_prog_13_method_2_code_96 3 rfl rfl rfl) ?_
      refine lv_iload hx hb (D_21 W_prog_13_method_2_code_96 6 rfl rfl) (lv_at hl 0 rfl) ?_
      refine lv_iconst (v := iI 0) hx hb (D_3 W_prog_13_method_2_code_96 8 rfl rfl) rfl ?_
      obtain ⟨g30, hf⟩ := gif hf
      refine zast (ci := 11) (k := 14) hx hb hK rfl hZ hS g23.1 g23.2 rfl (Nat.le_of_ble_eq_true rfl) g30.1 g30.2 (D_79 W_prog_13_method_2_code_96 9 rfl rfl) (fun H31 locs31 hZ31 hS31 => ?_)
      refine lv_iinc (v := iI (l4 + 1)) (lv' := [(4, .int (iI (l4 + 1))), (0, .ref (ad 11 l0 0))]) hx hb d_13_2_106 hl (k := 0) rfl (iI_add _ 1) (by decide) rfl (fun ls hl => ?_)
      refine lv_goto (tgt := 88) hx hb (D_167 W_prog_13_method_2_code_96 13 rfl rfl rfl) (by decide) ?_
      exact ih hf hZ31 hS31 (lv_sub hl [0, 1] rfl)

def f_Walker_goVoice (K : zK) (l0 : Int) (l1 : Int) (l2 : Int) (l3 : Int) (F : zF) (B : zB) : zO := if 0 ≤ l0 ∧ l0 < K.2 11 then if 0 ≤ l1 ∧ l1 < K.2 3 then if l1 < K.2 3 then if 0 ≤ l3 ∧ l3 < K.2 4 then if l3 < K.2 4 then if 0 ≤ l2 ∧ l2 < K.2 6 then zbind (f_Piece_barLength K l2 (zup3 (zup3 (zup3 (zup3 (zup3 (zup3 (zup3 (zup3 (zup3 (zup3 (zup3 (zup3 F 11 l0 0 l1) 11 l0 1 l3) 11 l0 2 0) 11 l0 3 0) 11 l0 4 4) 11 l0 5 0) 11 l0 6 0) 11 l0 7 0) 11 l0 8 0) 11 l0 9 1) 11 l0 10 1) 11 l0 11 0) B) (fun r19 F19 B19 => f_Walker_goVoice_88 K K.1 0 l0 (zup3 (zup3 (zup3 F19 11 l0 13 r19) 11 l0 12 (100 * r19)) 11 l0 18 0) B19) else none else none else none else none else none else none
set_option maxHeartbeats 4000000 in
set_option maxRecDepth 100000 in
theorem c_Walker_goVoice {l : Launch} {D : va_G} {ca : Nat → ClassId} {ad : Nat → Int → Nat → Nat} {L : List Nat} {aS vS : Nat → Nat} {sz : Nat} {K : zK}  {l0 : Int} {l1 : Int} {l2 : Int} {l3 : Int} {F F9 : zF} {B B9 : zB} {r : Int} (hf : f_Walker_goVoice K l0 l1 l2 l3 F B = some (r, F9, B9)) : Met l ({ cls := "StaveHouse$Walker", name := "goVoice", desc := "(LStaveHouse$Parser;LStaveHouse$Piece;LStaveHouse$Part;)I" } : Jvm.MethodName) (Cond.code ({ cls := "StaveHouse$Walker", name := "goVoice", desc := "(LStaveHouse$Parser;LStaveHouse$Piece;LStaveHouse$Part;)I" } : Jvm.MethodName) prog_13_method_2_code 5 (Option.some Jvm.ClassFile.FieldType.int) :: wAll) ({ frames := 206, cells := 0, slots := 0, locals := 5119 } : Room) (va_Pc [.ref (ad 11 l0 0), .ref (ad 3 l1 0), .ref (ad 6 l2 0), .ref (ad 4 l3 0)] (zPre D ca ad lnC K.2 L aS vS F B sz)) (Q_Walker_goVoice K D ca ad L r F9 B9 (zA L sz)) 0 0 (zA L sz) := by
  refine zMet (Qc := Q_Walker_goVoice K D ca ad L r F9 B9) (lv := [(0, .ref (ad 11 l0 0)), (1, .ref (ad 3 l1 0)), (2, .ref (ad 6 l2 0)), (3, .ref (ad 4 l3 0))]) (by decide) (Nat.le_of_ble_eq_true rfl) rfl (fun A p e s m below meth c ls X hZ hS hl => ?_)
  obtain ⟨hx, hb, hr, hml, hown, hts, hlk, hK, hA, hL, hX⟩ := id X
  replace hf : (if 0 ≤ l0 ∧ l0 < K.2 11 then if 0 ≤ l1 ∧ l1 < K.2 3 then if l1 < K.2 3 then if 0 ≤ l3 ∧ l3 < K.2 4 then if l3 < K.2 4 then if 0 ≤ l2 ∧ l2 < K.2 6 then zbind (f_Piece_barLength K l2 (zup3 (zup3 (zup3 (zup3 (zup3 (zup3 (zup3 (zup3 (zup3 (zup3 (zup3 (zup3 F 11 l0 0 l1) 11 l0 1 l3) 11 l0 2 0) 11 l0 3 0) 11 l0 4 4) 11 l0 5 0) 11 l0 6 0) 11 l0 7 0) 11 l0 8 0) 11 l0 9 1) 11 l0 10 1) 11 l0 11 0) B) (fun r19 F19 B19 => f_Walker_goVoice_88 K K.1 0 l0 (zup3 (zup3 (zup3 F19 11 l0 13 r19) 11 l0 12 (100 * r19)) 11 l0 18 0) B19) else none else none else none else none else none else none) = some (r, F9, B9) := hf
  refine lv_aload_n hx hb (D_42 W_prog_13_method_2_code_0 0 rfl rfl) rfl (lv_at hl 0 rfl) ?_
  refine lv_aload_n hx hb (D_43 W_prog_13_method_2_code_0 1 rfl rfl) rfl (lv_at hl 1 rfl) ?_
  obtain ⟨g1, hf⟩ := gif hf
  obtain ⟨g3, hf⟩ := gif hf
  refine W.eq (g2 := F0 m 2 ls [va_rf (zrf ad 3 l1), .ref (ad 11 l0 0)]) (by rw [zrf_pos (ad := ad) (t := 3) g3.1]; try rfl) ?_
  obtain ⟨g4, hf⟩ := gif hf
  refine zput (ci := 11) (C := RX11) (T := TX11) (k := 0) (v := l1) (w := va_rf (zrf ad 3 l1)) hx hb hts inW_11 tyX11 tyX11_ok nmX11 hown hK hZ hS g1.1 g1.2 rfl (by decide) k_1_190 rfl (fun G h => congrArg (fun q => va_rf (zrf ad 3 q)) h) (zrf_nar rfl _) (zrf_fit rfl _) (zyes (t0 := 3) rfl g4) (D_181 W_prog_13_method_2_code_0 2 rfl rfl rfl) (fun H2 locs2 hZ2 hS2 => ?_)
  refine lv_aload_n hx hb (D_42 W_prog_13_method_2_code_0 5 rfl rfl) rfl (lv_at hl 0 rfl) ?_
  refine lv_aload_n hx hb (D_45 W_prog_13_method_2_code_0 6 rfl rfl) rfl (lv_at hl 3 rfl) ?_
  obtain ⟨g6, hf⟩ := gif hf
  refine W.eq (g2 := F0 m 7 ls [va_rf (zrf ad 4 l3), .ref (ad 11 l0 0)]) (by rw [zrf_pos (ad := ad) (t := 4) g6.1]; try rfl) ?_
  obtain ⟨g7, hf⟩ := gif hf
  refine zput (ci := 11) (C := RX11) (T := TX11) (k := 1) (v := l3) (w := va_rf (zrf ad 4 l3)) hx hb hts inW_11 tyX11 tyX11_ok nmX11 hown hK hZ2 hS2 g1.1 g1.2 rfl (by decide) k_1_191 rfl (fun G h => congrArg (fun q => va_rf (zrf ad 4 q)) h) (zrf_nar rfl _) (zrf_fit rfl _) (zyes (t0 := 4) rfl g7) (D_181 W_prog_13_method_2_code_0 7 rfl rfl rfl) (fun H5 locs5 hZ5 hS5 => ?_)
  refine lv_aload_n hx hb (D_42 W_prog_13_method_2_code_0 10 rfl rfl) rfl (lv_at hl 0 rfl) ?_
  refine lv_iconst (v := iI 0) hx hb (D_3 W_prog_13_method_2_code_0 11 rfl rfl) rfl ?_
  refine zput (ci := 11) (C := RX11) (T := TX11) (k := 2) (v := 0) (w := .int (iI 0)) hx hb hts inW_11 tyX11 tyX11_ok nmX11 hown hK hZ5 hS5 g1.1 g1.2 rfl (by decide) k_1_192 rfl (fun G h => congrArg (fun q => Value.int (iI q)) h) rfl rfl (zno (by decide)) (D_181 W_prog_13_method_2_code_0 12 rfl rfl rfl) (fun H8 locs8 hZ8 hS8 => ?_)
  refine lv_aload_n hx hb (D_42 W_prog_13_method_2_code_0 15 rfl rfl) rfl (lv_at hl 0 rfl) ?_
  refine lv_iconst (v := iI 0) hx hb (D_3 W_prog_13_method_2_code_0 16 rfl rfl) rfl ?_
  refine zput (ci := 11) (C := RX11) (T := TX11) (k := 3) (v := 0) (w := .int (iI 0)) hx hb hts inW_11 tyX11 tyX11_ok nmX11 hown hK hZ8 hS8 g1.1 g1.2 rfl (by decide) k_1_193 rfl (fun G h => congrArg (fun q => Value.int (iI q)) h) rfl rfl (zno (by decide)) (D_181 W_prog_13_method_2_code_0 17 rfl rfl rfl) (fun H9 locs9 hZ9 hS9 => ?_)
  refine lv_aload_n hx hb (D_42 W_prog_13_method_2_code_0 20 rfl rfl) rfl (lv_at hl 0 rfl) ?_
  refine lv_iconst (v := iI 4) hx hb (D_7 W_prog_13_method_2_code_0 21 rfl rfl) rfl ?_
  refine zput (ci := 11) (C := RX11) (T := TX11) (k := 4) (v := 4) (w := .int (iI 4)) hx hb hts inW_11 tyX11 tyX11_ok nmX11 hown hK hZ9 hS9 g1.1 g1.2 rfl (by decide) k_1_194 rfl (fun G h => congrArg (fun q => Value.int (iI q)) h) rfl rfl (zno (by decide)) (D_181 W_prog_13_method_2_code_0 22 rfl rfl rfl) (fun H10 locs10 hZ10 hS10 => ?_)
  refine lv_aload_n hx hb (D_42 W_prog_13_method_2_code_0 25 rfl rfl) rfl (lv_at hl 0 rfl) ?_
  refine lv_iconst (v := iI 0) hx hb (D_3 W_prog_13_method_2_code_0 26 rfl rfl) rfl ?_
  refine zput (ci := 11) (C := RX11) (T := TX11) (k := 5) (v := 0) (w := .int (iI 0)) hx hb hts inW_11 tyX11 tyX11_ok nmX11 hown hK hZ10 hS10 g1.1 g1.2 rfl (by decide) k_1_195 rfl (fun G h => congrArg (fun q => Value.int (iI q)) h) rfl rfl (zno (by decide)) (D_181 W_prog_13_method_2_code_0 27 rfl rfl rfl) (fun H11 locs11 hZ11 hS11 => ?_)
  refine lv_aload_n hx hb (D_42 W_prog_13_method_2_code_0 30 rfl rfl) rfl (lv_at hl 0 rfl) ?_
  refine lv_iconst (v := iI 0) hx hb (D_3 W_prog_13_method_2_code_0 31 rfl rfl) rfl ?_
  refine zput (ci := 11) (C := RX11) (T := TX11) (k := 6) (v := 0) (w := .int (iI 0)) hx hb hts inW_11 tyX11 tyX11_ok nmX11 hown hK hZ11 hS11 g1.1 g1.2 rfl (by decide) k_1_196 rfl (fun G h => congrArg (fun q => Value.int (iI q)) h) rfl rfl (zno (by decide)) (D_181 W_prog_13_method_2_code_32 0 rfl rfl rfl) (fun H12 locs12 hZ12 hS12 => ?_)
  refine lv_aload_n hx hb (D_42 W_prog_13_method_2_code_32 3 rfl rfl) rfl (lv_at hl 0 rfl) ?_
  refine lv_iconst (v := iI 0) hx hb (D_3 W_prog_13_method_2_code_32 4 rfl rfl) rfl ?_
  refine zput (ci := 11) (C := RX11) (T := TX11) (k := 7) (v := 0) (w := .int (iI 0)) hx hb hts inW_11 tyX11 tyX11_ok nmX11 hown hK hZ12 hS12 g1.1 g1.2 rfl (by decide) k_1_197 rfl (fun G h => congrArg (fun q => Value.int (iI q)) h) rfl rfl (zno (by decide)) (D_181 W_prog_13_method_2_code_32 5 rfl rfl rfl) (fun H13 locs13 hZ13 hS13 => ?_)
  refine lv_aload_n hx hb (D_42 W_prog_13_method_2_code_32 8 rfl rfl) rfl (lv_at hl 0 rfl) ?_
  refine lv_iconst (v := iI 0) hx hb (D_3 W_prog_13_method_2_code_32 9 rfl rfl) rfl ?_
  refine zput (ci := 11) (C := RX11) (T := TX11) (k := 8) (v := 0) (w := .int (iI 0)) hx hb hts inW_11 tyX11 tyX11_ok nmX11 hown hK hZ13 hS13 g1.1 g1.2 rfl (by decide) k_1_198 rfl (fun G h => congrArg (fun q => Value.int (iI q)) h) rfl rfl (zno (by decide)) (D_181 W_prog_13_method_2_code_32 10 rfl rfl rfl) (fun H14 locs14 hZ14 hS14 => ?_)
  refine lv_aload_n hx hb (D_42 W_prog_13_method_2_code_32 13 rfl rfl) rfl (lv_at hl 0 rfl) ?_
  refine lv_iconst (v := iI 1) hx hb (D_4 W_prog_13_method_2_code_32 14 rfl rfl) rfl ?_
  refine zput (ci := 11) (C := RX11) (T := TX11) (k := 9) (v := 1) (w := .int (iI 1)) hx hb hts inW_11 tyX11 tyX11_ok nmX11 hown hK hZ14 hS14 g1.1 g1.2 rfl (by decide) k_1_199 rfl (fun G h => congrArg (fun q => Value.int (iI q)) h) rfl rfl (zno (by decide)) (D_181 W_prog_13_method_2_code_32 15 rfl rfl rfl) (fun H15 locs15 hZ15 hS15 => ?_)
  refine lv_aload_n hx hb (D_42 W_prog_13_method_2_code_32 18 rfl rfl) rfl (lv_at hl 0 rfl) ?_
  refine lv_iconst (v := iI 1) hx hb (D_4 W_prog_13_method_2_code_32 19 rfl rfl) rfl ?_
  refine zput (ci := 11) (C := RX11) (T := TX11) (k := 10) (v := 1) (w := .int (iI 1)) hx hb hts inW_11 tyX11 tyX11_ok nmX11 hown hK hZ15 hS15 g1.1 g1.2 rfl (by decide) k_1_200 rfl (fun G h => congrArg (fun q => Value.int (iI q)) h) rfl rfl (zno (by decide)) (D_181 W_prog_13_method_2_code_32 20 rfl rfl rfl) (fun H16 locs16 hZ16 hS16 => ?_)
  refine lv_aload_n hx hb (D_42 W_prog_13_method_2_code_32 23 rfl rfl) rfl (lv_at hl 0 rfl) ?_
  refine lv_lconst (v := lI 0) hx hb (D_9 W_prog_13_method_2_code_32 24 rfl rfl) (by decide) ?_
  refine zput (ci := 11) (C := RX11) (T := TX11) (k := 11) (v := 0) (w := .long (lI 0)) hx hb hts inW_11 tyX11 tyX11_ok nmX11 hown hK hZ16 hS16 g1.1 g1.2 rfl (by decide) k_1_201 rfl (fun G h => congrArg (fun q => Value.long (lI q)) h) rfl rfl (zno (by decide)) (D_181 W_prog_13_method_2_code_32 25 rfl rfl rfl) (fun H17 locs17 hZ17 hS17 => ?_)
  refine lv_aload_n hx hb (D_42 W_prog_13_method_2_code_32 28 rfl rfl) rfl (lv_at hl 0 rfl) ?_
  refine lv_aload_n hx hb (D_44 W_prog_13_method_2_code_32 29 rfl rfl) rfl (lv_at hl 2 rfl) ?_
  obtain ⟨g18, hf⟩ := gif hf
  obtain ⟨r19, F19, B19, hc19, hf⟩ := gbind hf
  refine va_calll (va_runV (As := []) (rest := [.ref (ad 11 l0 0)]) ⟨hx, hb, hml, hown, hts⟩ (c_Piece_barLength (l := l) hc19) (cwV 0 hts (gdV k_4_189 k_4_190 k_4_191 k_1_15 k_4_192) rfl rfl rfl (by decide +kernel) ⟨Nat.le_of_ble_eq_true rfl, Nat.le_of_ble_eq_true rfl⟩) (zPV X hZ17 hS17 (ci := 6) g18.1 g18.2 (r := (RX6, TX6, 14)) rfl []) rfl rfl hl.1 rfl (lv_room (Nat.le_of_ble_eq_true rfl)) (D_182 W_prog_13_method_2_code_32 30 rfl rfl rfl) ⟨Nat.le_of_ble_eq_true rfl, Nat.le_of_ble_eq_true rfl⟩) hS17 (fun q _ h => zAin X hS17 q h) (zAin X hS17) (fun p19 u19 t19 H19 locs19 ht19 hv19 hw19 hB19 hz19 hk19 hS19 => ?_)
  have hZ19 := zBack X ht19 hB19
  subst hw19
  refine zput (ci := 11) (C := RX11) (T := TX11) (k := 13) (v := r19) (w := .long (lI r19)) hx hb hts inW_11 tyX11 tyX11_ok nmX11 hown hK hZ19 hS19 g1.1 g1.2 rfl (by decide) k_1_203 rfl (fun G h => congrArg (fun q => Value.long (lI q)) h) rfl rfl (zno (by decide)) (D_181 W_prog_13_method_2_code_64 1 rfl rfl rfl) (fun H20 locs20 hZ20 hS20 => ?_)
  refine lv_aload_n hx hb (D_42 W_prog_13_method_2_code_64 4 rfl rfl) rfl (lv_at hl 0 rfl) ?_
  refine lv_ldc2 hx hb hown (hts _ k_4_195) (D_20 W_prog_13_method_2_code_64 5 rfl rfl rfl) ?_
  refine W.eq (g2 := F0 m 72 ls [.long (lI 100), .ref (ad 11 l0 0)]) rfl ?_
  refine lv_aload_n hx hb (D_42 W_prog_13_method_2_code_64 8 rfl rfl) rfl (lv_at hl 0 rfl) ?_
  refine zget (ci := 11) (C := RX11) (T := TX11) (v := .long (lI r19)) (k := 13) hx hb hts inW_11 hown hK hZ20 g1.1 g1.2 rfl (by decide) k_1_203 (congrArg (fun q : Int => Value.long (lI q)) (show (zup3 F19 11 l0 13 r19) 11 l0 13 = r19 by simp [zup3])) (D_180 W_prog_13_method_2_code_64 9 rfl rfl rfl) ?_
  refine zlmul hx hb (D_105 W_prog_13_method_2_code_64 12 rfl rfl) ?_
  refine zput (ci := 11) (C := RX11) (T := TX11) (k := 12) (v := (100 * r19)) (w := .long (lI (100 * r19))) hx hb hts inW_11 tyX11 tyX11_ok nmX11 hown hK hZ20 hS20 g1.1 g1.2 rfl (by decide) k_1_202 rfl (fun G h => congrArg (fun q => Value.long (lI q)) h) rfl rfl (zno (by decide)) (D_181 W_prog_13_method_2_code_64 13 rfl rfl rfl) (fun H21 locs21 hZ21 hS21 => ?_)
  refine lv_aload_n hx hb (D_42 W_prog_13_method_2_code_64 16 rfl rfl) rfl (lv_at hl 0 rfl) ?_
  refine lv_iconst (v := iI 0) hx hb (D_3 W_prog_13_method_2_code_64 17 rfl rfl) rfl ?_
  refine zput (ci := 11) (C := RX11) (T := TX11) (k := 18) (v := 0) (w := .int (iI 0)) hx hb hts inW_11 tyX11 tyX11_ok nmX11 hown hK hZ21 hS21 g1.1 g1.2 rfl (by decide) k_1_208 rfl (fun G h => congrArg (fun q => Value.int (iI q)) h) rfl rfl (zno (by decide)) (D_181 W_prog_13_method_2_code_64 18 rfl rfl rfl) (fun H22 locs22 hZ22 hS22 => ?_)
  refine lv_iconst (v := iI 0) hx hb (D_3 W_prog_13_method_2_code_64 21 rfl rfl) rfl ?_
  refine lv_istore (lv' := [(4, .int (iI 0)), (0, .ref (ad 11 l0 0)), (1, .ref (ad 3 l1 0)), (2, .ref (ad 6 l2 0)), (3, .ref (ad 4 l3 0))]) hx hb (D_54 W_prog_13_method_2_code_64 22 rfl rfl) hl (by decide) rfl (fun ls hl => ?_)
  exact b_Walker_goVoice_88 X hf hZ22 hS22 (lv_sub hl [0, 1] rfl)
end
section
/-! ===== worlds with cells that are not yet objects of theirs (R), and how they are taken in ===== -/
theorem vaP_mem {D : va_G} {ws : va_W} {H : Heap} : va_P D cls ws H ↔ ∀ x ∈ ws, va_at D cls x H :=
  ⟨fun h x hx => by obtain ⟨k, hk⟩ := List.mem_iff_getElem?.mp hx; exact h k x hk, fun h k q hk => h q (List.mem_of_getElem? hk)⟩
theorem vaD_mem {A : Nat → Prop} {ws : va_W} : va_D A ws ↔ (ws.map Prod.fst).Nodup ∧ ∀ x ∈ ws, A x.1 := by
  constructor
  · intro h
    refine ⟨?_, fun x hx => by obtain ⟨k, hk⟩ := List.mem_iff_getElem?.mp hx; exact h.2 k x hk⟩
    refine List.pairwise_iff_getElem.mpr (fun i j hi hj hij e => ?_)
    rw [List.length_map] at hi hj
    rw [List.getElem_map, List.getElem_map] at e
    have := h.1 i j _ _ (List.getElem?_eq_getElem hi) (List.getElem?_eq_getElem hj) e
    omega
  · intro h
    refine ⟨fun i j p q hp hq e => ?_, fun k q hk => h.2 q (List.mem_of_getElem? hk)⟩
    have hi := (List.getElem?_eq_some_iff.mp hp).1
    have hj := (List.getElem?_eq_some_iff.mp hq).1
    have hn := List.pairwise_iff_getElem.mp h.1
    have ei : ws[i] = p := (List.getElem?_eq_some_iff.mp hp).2
    have ej : ws[j] = q := (List.getElem?_eq_some_iff.mp hq).2
    rcases Nat.lt_trichotomy i j with g | g | g
    · exact absurd (by rw [List.getElem_map, List.getElem_map, ei, ej]; exact e) (hn i j (by rw [List.length_map]; exact hi) (by rw [List.length_map]; exact hj) g)
    · exact g
    · exact absurd (by rw [List.getElem_map, List.getElem_map, ei, ej]; exact e.symm) (hn j i (by rw [List.length_map]; exact hj) (by rw [List.length_map]; exact hi) g)
theorem vapl_map {L : List Nat} {f : Nat → va_E} : (va_pl L f).map Prod.fst = L := by
  unfold va_pl
  rw [List.map_map]
  exact List.map_id'' (fun _ => rfl) L
theorem vapl_mem {L : List Nat} {f : Nat → va_E} {x : Nat × va_E} : x ∈ va_pl L f ↔ x.1 ∈ L ∧ x.2 = f x.1 := by
  unfold va_pl
  rw [List.mem_map]
  exact ⟨fun ⟨a, h, e⟩ => by subst e; exact ⟨h, rfl⟩, fun ⟨h, e⟩ => ⟨x.1, h, by rw [← e]⟩⟩
def zHx (D : va_G) (ca : Nat → ClassId) (ad : Nat → Int → Nat → Nat) (ln : Nat → Int → Nat → Nat) (N : Nat → Int) (L : List Nat) (F : zF) (B : zB) (R : va_W) (A : Nat → Prop) (H : Heap) : Prop :=
  zInj ad N ∧ ∃ f, va_P D cls (R ++ va_pl L f) H ∧ va_D A (R ++ va_pl L f) ∧ zRep ca ad ln N L F B f
/-- the world has grown: what was alive stands where it stood -/
def zG (ad : Nat → Int → Nat → Nat) (N : Nat → Int) (ad' : Nat → Int → Nat → Nat) (N' : Nat → Int) : Prop := (∀ c, N c ≤ N' c) ∧ ∀ (c : Nat) (i : Int) (k : Nat), 0 ≤ i → i < N c → ad' c i k = ad c i k
def zinF (F : zF) (c : Nat) (i : Int) (l : List Int) : zF := fun c' i' k' => if c' = c ∧ i' = i then l.getD k' 0 else F c' i' k'
def zinB (B : zB) (c : Nat) (i : Int) (b : Nat → Int → Int) : zB := fun c' i' k' => if c' = c ∧ i' = i then b k' else B c' i' k'
def zinN (N : Nat → Int) (c : Nat) : Nat → Int := fun c' => if c' = c then N c + 1 else N c'
def zinA (ad : Nat → Int → Nat → Nat) (c : Nat) (i : Int) (l : List (Nat × Nat)) : Nat → Int → Nat → Nat := fun c' i' k' => if c' = c ∧ i' = i then (l.lookup k').getD 0 else ad c' i' k'
def zfvI (ad : Nat → Int → Nat → Nat) (l : List (Nat × Nat)) (fi : List Int) (c k : Nat) : Value := match zk c k with
  | (0, _) => .int (iI (fi.getD k 0))
  | (1, _) => .long (lI (fi.getD k 0))
  | (2, t) => va_rf (zrf ad t (fi.getD k 0))
  | (5, _) => .ref ((l.lookup ((fi.getD k 0).toNat + 1)).getD 0)
  | _ => .ref ((l.lookup (k + 1)).getD 0)
def zAll {α : Type} : List α → (α → Prop) → Prop
  | [], _ => True
  | x :: xs, p => p x ∧ zAll xs p
theorem zAll_mem {α : Type} {p : α → Prop} : ∀ {xs : List α}, zAll xs p → ∀ x ∈ xs, p x
  | [], _, _, h => absurd h List.not_mem_nil
  | y :: ys, ⟨h1, h2⟩, x, h => by
    rcases List.mem_cons.mp h with rfl | h
    · exact h1
    · exact zAll_mem h2 x h
section ZMK
variable {D : va_G} {ca : Nat → ClassId} {ad ad' ad'' : Nat → Int → Nat → Nat} {ln : Nat → Int → Nat → Nat} {N N' N'' : Nat → Int} {L L' : List Nat} {aS vS : Nat → Nat} {F F1 : zF} {B B1 : zB} {A A1 : Nat → Prop} {H H1 : Heap} {R : va_W}
theorem zHx.of (h : zH D ca ad ln N L F B A H) : zHx D ca ad ln N L F B [] A H := by
  obtain ⟨hj, f, hM, hR⟩ := h
  exact ⟨hj, f, hM.1, hM.2, hR⟩
theorem zHx.to (h : zHx D ca ad ln N L F B [] A H) : zH D ca ad ln N L F B A H := by
  obtain ⟨hj, f, h1, h2, hR⟩ := h
  exact ⟨hj, f, ⟨h1, h2⟩, hR⟩
theorem zG.rf : zG ad N ad N := ⟨fun _ => Int.le_refl _, fun _ _ _ _ _ => rfl⟩
theorem zG.tr (h : zG ad N ad' N') (h2 : zG ad' N' ad'' N'') : zG ad N ad'' N'' := ⟨fun c => Int.le_trans (h.1 c) (h2.1 c), fun c i k h0 h1 => (h2.2 c i k h0 (Int.lt_of_lt_of_le h1 (h.1 c))).trans (h.2 c i k h0 h1)⟩
theorem zG.rf2 (h : zG ad N ad' N') {t : Nat} {x : Int} (hx : x < N t) : zrf ad' t x = zrf ad t x := by
  unfold zrf
  by_cases g : x < 0
  · rw [if_pos g, if_pos g]
  · rw [if_neg g, if_neg g, h.2 t x 0 (by omega) hx]
theorem zH.inA (h : zH D ca ad ln N L F B A H) : ∀ q ∈ L, A q := by
  obtain ⟨hj, f, hM, hR⟩ := h
  intro q hq
  exact (vaD_mem.mp hM.2).2 (q, f q) (vapl_mem.mpr ⟨hq, rfl⟩)
theorem zinA_new {c : Nat} {i : Int} {l : List (Nat × Nat)} {k : Nat} : zinA ad c i l c i k = (l.lookup k).getD 0 := by
  unfold zinA
  rw [if_pos ⟨rfl, rfl⟩]
theorem zinA_old {c : Nat} {i : Int} {l : List (Nat × Nat)} {c' : Nat} {i' : Int} {k : Nat} (h : ¬ (c' = c ∧ i' = i)) : zinA ad c i l c' i' k = ad c' i' k := by
  unfold zinA
  rw [if_neg h]
theorem zinA_G {c : Nat} {l : List (Nat × Nat)} : zG ad N (zinA ad c (N c) l) (zinN N c) := by
  refine ⟨fun c' => ?_, fun c' i k h0 h1 => zinA_old (fun q => ?_)⟩
  · unfold zinN
    by_cases e : c' = c
    · rw [if_pos e, e]; omega
    · rw [if_neg e]; exact Int.le_refl _
  · obtain ⟨rfl, rfl⟩ := q
    omega
theorem zlk_some {R : va_W} (hn : (R.map Prod.fst).Nodup) {q : Nat} {e : va_E} (h : (q, e) ∈ R) : R.lookup q = some e := by
  induction R with
  | nil => exact absurd h List.not_mem_nil
  | cons x xs ih =>
    obtain ⟨a, b⟩ := x
    rw [List.map_cons, List.nodup_cons] at hn
    rw [List.lookup_cons]
    rcases List.mem_cons.mp h with g | g
    · cases g
      simp
    · have hne : ¬ q = a := fun e2 => hn.1 (List.mem_map.mpr ⟨(q, e), g, e2⟩)
      have hb : (q == a) = false := by simpa using hne
      rw [hb]
      exact ih hn.2 g
theorem zlk_none {R : va_W} {q : Nat} (h : q ∉ R.map Prod.fst) : R.lookup q = none := by
  induction R with
  | nil => rfl
  | cons x xs ih =>
    obtain ⟨a, b⟩ := x
    rw [List.map_cons, List.mem_cons] at h
    rw [List.lookup_cons]
    have hb : (q == a) = false := by simpa using (fun e2 => h (Or.inl e2) : ¬ q = a)
    rw [hb]
    exact ih (fun g => h (Or.inr g))
theorem zRw_G (h : zG ad N ad' N') {n t : Nat} {b : Int → Int} (hb : 4 ≤ t → ∀ j : Nat, b j < N (t - 10)) : zRw ca ad' n t b = zRw ca ad n t b := by
  match t, hb with
  | 0, _ => rfl
  | 1, _ => rfl
  | 2, _ => rfl
  | 3, _ => rfl
  | t + 4, hb =>
    show (Sum.inl (ca (zct (t + 4)), n, _) : va_E) = Sum.inl (ca (zct (t + 4)), n, _)
    congr 6
    refine congrArg Sum.inr ?_
    funext j
    exact h.rf2 (hb (by omega) j)
theorem ztake {c : Nat} {l : List (Nat × Nat)} {fi : List Int} {b : Nat → Int → Int} (hx : zHx D ca ad ln N L F B R A H) (h0 : 0 ≤ N c)
    (hobj : ((l.lookup 0).getD 0, .inr (c, rg (zN c) (zfvI ad l fi c))) ∈ R)
    (hrow : ∀ k t, zk c k = (3, t) → ((l.lookup (k + 1)).getD 0, zRw ca ad (ln c (N c) k) t (b k)) ∈ R)
    (hrr : ∀ k t, zk c k = (4, t) → ((l.lookup (k + 1)).getD 0, .inl (ca (t + 8), zrn c k, .inr (.inr (.inr (.inr (fun j => some ((l.lookup (200 + 20 * k + j + 1)).getD 0))))))) ∈ R)
    (hli : ∀ k k', zOk c k → zOk c k' → (l.lookup k).getD 0 = (l.lookup k').getD 0 → k = k')
    (href : ∀ k t, zk c k = (2, t) → fi.getD k 0 < N t) (hrefs : ∀ k t, zk c k = (3, t) → 4 ≤ t → ∀ j : Nat, b k j < N (t - 10)) :
    zH D ca (zinA ad c (N c) l) ln (zinN N c) (R.map Prod.fst ++ L) (zinF F c (N c) fi) (zinB B c (N c) b) A H := by
  obtain ⟨hj, f, hP, hD, hR⟩ := hx
  have hG : zG ad N (zinA ad c (N c) l) (zinN N c) := zinA_G
  obtain ⟨hn, hA⟩ := vaD_mem.mp hD
  rw [List.map_append, vapl_map] at hn
  obtain ⟨n1, n2, n3⟩ := List.nodup_append.mp hn
  have hf : ∀ x ∈ R, (R.lookup x.1).getD (f x.1) = x.2 := fun x hx => by rw [zlk_some n1 (e := x.2) hx]; rfl
  have hfL : ∀ q ∈ L, (R.lookup q).getD (f q) = f q := fun q hq => by rw [zlk_none (fun g => n3 q g q hq rfl)]; rfl
  have hin : ∀ k, zOk c k → (l.lookup k).getD 0 ∈ R.map Prod.fst := by
    intro k hk
    rcases hk with rfl | ⟨t, h | h⟩
    · exact List.mem_map_of_mem (f := Prod.fst) hobj
    · by_cases e : k = 0
      · subst e; exact List.mem_map_of_mem (f := Prod.fst) hobj
      · have := List.mem_map_of_mem (f := Prod.fst) (hrow _ t h)
        rwa [show k - 1 + 1 = k by omega] at this
    · by_cases e : k = 0
      · subst e; exact List.mem_map_of_mem (f := Prod.fst) hobj
      · have := List.mem_map_of_mem (f := Prod.fst) (hrr _ t h)
        rwa [show k - 1 + 1 = k by omega] at this
  have hinL : ∀ (c' : Nat) (i' : Int) (k : Nat), 0 ≤ i' → i' < N c' → zOk c' k → ad c' i' k ∈ L := by
    intro c' i' k g0 g1 hk
    obtain ⟨⟨a1, -⟩, a3, a4, -⟩ := hR c' i' g0 g1
    rcases hk with rfl | ⟨t, h | h⟩
    · exact a1
    · by_cases e : k = 0
      · subst e; exact a1
      · have := (a3 _ t h).1
        rwa [show k - 1 + 1 = k by omega] at this
    · by_cases e : k = 0
      · subst e; exact a1
      · have := (a4 _ t h).1
        rwa [show k - 1 + 1 = k by omega] at this
  have hlt : ∀ (c' : Nat) (i' : Int), i' < zinN N c c' → ¬ (c' = c ∧ i' = N c) → i' < N c' := by
    intro c' i' g h
    unfold zinN at g
    by_cases e : c' = c
    · rw [if_pos e] at g
      subst e
      have : ¬ i' = N c' := fun q => h ⟨rfl, q⟩
      omega
    · rw [if_neg e] at g
      exact g
  have hz : zInj (zinA ad c (N c) l) (zinN N c) := by
    intro c1 i1 k1 c2 i2 k2 p1 p2 p3 p4 o1 o2 e
    by_cases e1 : c1 = c ∧ i1 = N c
    · obtain ⟨rfl, rfl⟩ := e1
      rw [zinA_new] at e
      by_cases e2 : c2 = c1 ∧ i2 = N c1
      · obtain ⟨rfl, rfl⟩ := e2
        rw [zinA_new] at e
        exact ⟨rfl, rfl, hli _ _ o1 o2 e⟩
      · rw [zinA_old e2] at e
        exact absurd e (n3 _ (hin _ o1) _ (hinL _ _ _ p3 (hlt _ _ p4 e2) o2))
    · rw [zinA_old e1] at e
      by_cases e2 : c2 = c ∧ i2 = N c
      · obtain ⟨rfl, rfl⟩ := e2
        rw [zinA_new] at e
        exact absurd e.symm (n3 _ (hin _ o2) _ (hinL _ _ _ p1 (hlt _ _ p2 e1) o1))
      · rw [zinA_old e2] at e
        exact hj _ _ _ _ _ _ p1 (hlt _ _ p2 e1) p3 (hlt _ _ p4 e2) o1 o2 e
  have hpl : va_pl (R.map Prod.fst ++ L) (fun q => (R.lookup q).getD (f q)) = R ++ va_pl L f := by
    unfold va_pl
    rw [List.map_append, List.map_map]
    congr 1
    · conv => rhs; rw [← List.map_id R]
      exact List.map_congr_left (fun x hx => by show (x.1, (R.lookup x.1).getD (f x.1)) = x; rw [hf x hx])
    · exact List.map_congr_left (fun q hq => by show (q, (R.lookup q).getD (f q)) = (q, f q); rw [hfL q hq])
  refine ⟨hz, fun q => (R.lookup q).getD (f q), ⟨by rw [hpl]; exact hP, by rw [hpl]; exact hD⟩, ?_⟩
  have hmem : ∀ {q : Nat} {e : va_E}, (q, e) ∈ R → q ∈ R.map Prod.fst ++ L ∧ (R.lookup q).getD (f q) = e := fun h => ⟨List.mem_append.mpr (Or.inl (List.mem_map_of_mem (f := Prod.fst) h)), hf _ h⟩
  intro c' i' g0 g1
  by_cases e1 : c' = c ∧ i' = N c
  · obtain ⟨rfl, rfl⟩ := e1
    have hF' : ∀ k, zinF F c' (N c') fi c' (N c') k = fi.getD k 0 := fun k => by unfold zinF; rw [if_pos ⟨rfl, rfl⟩]
    have hB' : ∀ k, zinB B c' (N c') b c' (N c') k = b k := fun k => by unfold zinB; rw [if_pos ⟨rfl, rfl⟩]
    refine ⟨?_, fun k t hk => ?_, fun k t hk => ?_, fun k t hk => ?_, fun k t hk ht j => ?_⟩
    · rw [zinA_new]
      have hv : zfv (zinA ad c' (N c') l) (zinF F c' (N c') fi) c' (N c') = zfvI ad l fi c' := by
        funext k
        unfold zfv zfvI
        rw [hF']
        obtain ⟨u, w, hk⟩ : ∃ u w, zk c' k = (u, w) := ⟨_, _, rfl⟩
        have hr := href k
        rw [hk] at hr ⊢
        match u, hr with
        | 0, _ => rfl
        | 1, _ => rfl
        | 2, hr => exact congrArg va_rf (hG.rf2 (hr w rfl))
        | 3, _ => exact congrArg Value.ref zinA_new
        | 4, _ => exact congrArg Value.ref zinA_new
        | 5, _ => exact congrArg Value.ref zinA_new
        | u + 6, _ => exact congrArg Value.ref zinA_new
      rw [hv]
      exact hmem hobj
    · rw [zinA_new, hB', zRw_G hG (hrefs k t hk)]
      exact hmem (hrow k t hk)
    · rw [zinA_new]
      have : zRR ca (zinA ad c' (N c') l) c' (N c') k t = .inl (ca (t + 8), zrn c' k, .inr (.inr (.inr (.inr (fun j => some ((l.lookup (200 + 20 * k + j + 1)).getD 0)))))) := by
        unfold zRR
        simp only [zinA_new]
      rw [this]
      exact hmem (hrr k t hk)
    · rw [hF']
      exact Int.lt_of_lt_of_le (href k t hk) (hG.1 t)
    · rw [hB']
      exact Int.lt_of_lt_of_le (hrefs k t hk ht j) (hG.1 _)
  · have g2 := hlt _ _ g1 e1
    obtain ⟨⟨a1, a2⟩, a3, a4, a5, a6⟩ := hR c' i' g0 g2
    have hA' : ∀ k, zinA ad c (N c) l c' i' k = ad c' i' k := fun k => zinA_old e1
    have hF' : ∀ k, zinF F c (N c) fi c' i' k = F c' i' k := fun k => by unfold zinF; rw [if_neg e1]
    have hB' : ∀ k, zinB B c (N c) b c' i' k = B c' i' k := fun k => by unfold zinB; rw [if_neg e1]
    have hmL : ∀ {q : Nat}, q ∈ L → q ∈ R.map Prod.fst ++ L := fun h => List.mem_append.mpr (Or.inr h)
    refine ⟨?_, fun k t hk => ?_, fun k t hk => ?_, fun k t hk => ?_, fun k t hk ht j => ?_⟩
    · rw [hA']
      have hv : zfv (zinA ad c (N c) l) (zinF F c (N c) fi) c' i' = zfv ad F c' i' := by
        funext k
        unfold zfv
        rw [hF']
        obtain ⟨u, w, hk⟩ : ∃ u w, zk c' k = (u, w) := ⟨_, _, rfl⟩
        have hr := a5 k
        rw [hk] at hr ⊢
        match u, hr with
        | 0, _ => rfl
        | 1, _ => rfl
        | 2, hr => exact congrArg va_rf (hG.rf2 (hr w rfl))
        | 3, _ => exact congrArg Value.ref (hA' _)
        | 4, _ => exact congrArg Value.ref (hA' _)
        | 5, _ => exact congrArg Value.ref (hA' _)
        | u + 6, _ => exact congrArg Value.ref (hA' _)
      rw [hv]
      exact ⟨hmL a1, (hfL _ a1).trans a2⟩
    · rw [hA', hB', zRw_G hG (a6 k t hk)]
      exact ⟨hmL (a3 k t hk).1, (hfL _ (a3 k t hk).1).trans (a3 k t hk).2⟩
    · rw [hA']
      have : zRR ca (zinA ad c (N c) l) c' i' k t = zRR ca ad c' i' k t := by
        unfold zRR
        simp only [hA']
      rw [this]
      exact ⟨hmL (a4 k t hk).1, (hfL _ (a4 k t hk).1).trans (a4 k t hk).2⟩
    · rw [hF']
      exact Int.lt_of_lt_of_le (a5 k t hk) (hG.1 t)
    · rw [hB']
      exact Int.lt_of_lt_of_le (a6 k t hk ht j) (hG.1 _)
end ZMK
end
section
/-! ===== rows over worlds with raw cells ===== -/
section ZX
variable {p : Program} {l : Launch} {e : Env} {R : Room} {s : State} {m : MethodId} {args : Array Value} {below : List Frame} {meth : Method} {c : Code} {H : Heap} {locs : List Loc} {cells slots : Nat} {Q : State → Prop}
variable {cc : ByteArray} {pc : Nat} {ls : Array Slot} {rest : List Value} {D : va_G} {A : Nat → Prop} {a : Nat} {tys : List (ClassId × FieldType)} {H0 : Heap}
variable {own C : String} {T : u_T} {n ci index k : Nat} {g : Nat → Value} {L : List Nat} {ca : Nat → ClassId} {ad : Nat → Int → Nat → Nat} {ln : Nat → Int → Nat → Nat} {N : Nat → Int} {F : zF} {B : zB} {X : va_W}
theorem zxget_at {pl : va_W} {q0 : Nat} {x : Nat × va_E} (h : X[q0]? = some x) : (X ++ pl)[q0]? = some x := by
  rw [List.getElem?_append_left (List.getElem?_eq_some_iff.mp h).1]
  exact h
theorem zxset_at {pl : va_W} {q0 : Nat} {x y : Nat × va_E} (h : X[q0]? = some x) : (X ++ pl).set q0 y = X.set q0 y ++ pl := by
  rw [List.set_append_left _ _ (List.getElem?_eq_some_iff.mp h).1]
theorem zxnew (hx : p.tables.exec = Jvm.exec) (hb : c.code = cc) (hts : ∀ w ∈ wAll, w.before args s = true) (hin : ∀ w ∈ u_ws C T n, w ∈ wAll) (ty0 : Nat → FieldType) (hty : ∀ k, k < n → parseFieldDescriptor (T k).2.2.1 = some (ty0 k)) (hown : s.vm.findClass own = some m.cls) (hcl : Cond.classLink own index C ∈ wAll) (hinst : Cond.instantiable C n ∈ wAll) (hini : Cond.initialized C ∈ wAll)
    (hK : va_K D cls tys s) (hZ : zHx D ca ad ln N L F B X A H) (hS : va_S A H0 H locs) (hA : ∀ q, H0.size ≤ q → A q) (hc : cls[ci]? = some (C, T, n)) (hcells : cells + 1 ≤ R.cells) (hslots : slots + n ≤ R.slots) (hdg : decode cc pc = .ok (.new index, 3))
    (kk : ∀ (q : Nat) (H1 : Heap), zHx D ca ad ln N L F B (X ++ [(q, .inr (ci, rg n (fun j => defaultValue (ty0 j))))]) A H1 → va_S A H0 H1 locs → W p l e R s m args below meth c H1 locs (cells + 1) (slots + n) Q (F0 m (pc + 3) ls (.ref q :: rest))) : W p l e R s m args below meth c H locs cells slots Q (F0 m pc ls rest) := by
  obtain ⟨hj, f, hP, hD, hR⟩ := hZ
  exact va_new (fs := rg n (fun j => defaultValue (ty0 j))) hx hb hts hin ty0 hty hown (hts _ hcl) (hts _ hinst) (hts _ hini) hK hP hD hS hA hc (fun j hj => (rg_V (f := fun j => defaultValue (ty0 j)) hj).symm) hcells hslots hdg (fun q H1 h1 h2 h3 => kk q H1 ⟨hj, f, h1.swap, h2.swap, hR⟩ h3)
theorem zxnewa (hx : p.tables.exec = Jvm.exec) (hb : c.code = cc) (hts : ∀ w ∈ wAll, w.before args s = true) {atype : ArrayType} {ty : FieldType} (hty : newarray.typeOf atype = ty) (harr : Cond.arrayClass (newarray.typeOf atype) ∈ wAll) (hK : va_K D cls tys s) (t0 : Nat) {cy : ClassId} (ht : tys[t0]? = some (cy, ty)) (hu : ∀ c1 c2, va_RA s c1 ty → va_RA s c2 ty → c1 = c2) (hZ : zHx D ca ad ln N L F B X A H) (hS : va_S A H0 H locs) (hA : ∀ q, H0.size ≤ q → A q)
    {z : Int32} {N' : Nat} {a0 : vp_A} (ha : ∀ cA : ClassId, vp_cell cA a0 = arrV cA N' (fun _ => defaultValue ty)) (hn : ¬ z < 0) (hN : z.toNatClampNeg = N') (hbytes : N' * componentBytes ty ≤ 536870912) (hcells : cells + 1 ≤ R.cells) (hslots : slots + N' ≤ R.slots) (hdg : decode cc pc = .ok (.newarray atype, 2))
    (kk : ∀ (q : Nat) (H1 : Heap), zHx D ca ad ln N L F B (X ++ [(q, .inl (cy, a0))]) A H1 → va_S A H0 H1 locs →
      W p l e R s m args below meth c H1 locs (cells + 1) (slots + N') Q (F0 m (pc + 2) ls (.ref q :: rest))) : W p l e R s m args below meth c H locs cells slots Q (F0 m pc ls (.int z :: rest)) := by
  obtain ⟨hj, f, hP, hD, hR⟩ := hZ
  exact gnewa hx hb hts hty harr hK t0 ht hu hP hD hS hA ha hn hN hbytes hcells hslots hdg (fun q H1 h1 h2 h3 => kk q H1 ⟨hj, f, h1.swap, h2.swap, hR⟩ h3)
theorem zxnewq (hx : p.tables.exec = Jvm.exec) (hb : c.code = cc) (hts : ∀ w ∈ wAll, w.before args s = true) (hown : s.vm.findClass own = some m.cls) (hcl : Cond.classLink own index C ∈ wAll) (hover : va_AO C s) (hK : va_K D cls tys s) (t0 : Nat) {cy : ClassId} (ht : tys[t0]? = some (cy, .object C)) (hZ : zHx D ca ad ln N L F B X A H) (hS : va_S A H0 H locs) (hA : ∀ q, H0.size ≤ q → A q) {z : Int32} {N' : Nat} (hn : ¬ z < 0) (hN : z.toNatClampNeg = N') (hbytes : N' * 4 ≤ 536870912) (hcells : cells + 1 ≤ R.cells) (hslots : slots + N' ≤ R.slots) (hdg : decode cc pc = .ok (.anewarray index, 3))
    (kk : ∀ (q : Nat) (H1 : Heap), zHx D ca ad ln N L F B (X ++ [(q, .inl (cy, N', .inr (.inr (.inr (.inr (fun _ => none))))))]) A H1 → va_S A H0 H1 locs → W p l e R s m args below meth c H1 locs (cells + 1) (slots + N') Q (F0 m (pc + 3) ls (.ref q :: rest))) : W p l e R s m args below meth c H locs cells slots Q (F0 m pc ls (.int z :: rest)) := by
  obtain ⟨hj, f, hP, hD, hR⟩ := hZ
  exact gnewq hx hb hts hown hcl hover hK t0 ht hP hD hS hA hn hN hbytes hcells hslots hdg (fun q H1 h1 h2 h3 => kk q H1 ⟨hj, f, h1.swap, h2.swap, hR⟩ h3)
theorem zxput (hx : p.tables.exec = Jvm.exec) (hb : c.code = cc) (hts : ∀ w ∈ wAll, w.before args s = true) (hin : ∀ w ∈ u_ws C T n, w ∈ wAll) (ty0 : Nat → FieldType) (hty : ∀ k, k < n → parseFieldDescriptor (T k).2.2.1 = some (ty0 k)) (hnm : ∀ a, a < n → ∀ b, b < n → a ≠ b → (T a).2.1 ≠ (T b).2.1) (hown : s.vm.findClass own = some m.cls) (hK : va_K D cls tys s) (hZ : zHx D ca ad ln N L F B X A H) (hS : va_S A H0 H locs) (q0 : Nat) (he : X[q0]? = some (a, .inr (ci, rg n g))) (hc : cls[ci]? = some (C, T, n)) (hk : k < n)
    (hlink : Cond.fieldLink own index (T k).1 (T k).2.1 (T k).2.2.1 ∈ wAll) (hfin : (T k).2.2.2 = false) {v : Value} (hn : narrow (ty0 k) v = v) (hfit : fits (ty0 k) v = true) (hdg : decode cc pc = .ok (.putfield index, 3))
    (kk : ∀ (H1 : Heap) (locs1 : List Loc), zHx D ca ad ln N L F B (X.set q0 (a, .inr (ci, rg n (va_up g k v)))) A H1 → va_S A H0 H1 locs1 → W p l e R s m args below meth c H1 locs1 cells slots Q (F0 m (pc + 3) ls rest)) : W p l e R s m args below meth c H locs cells slots Q (F0 m pc ls (v :: .ref a :: rest)) := by
  obtain ⟨hj, f, hP, hD, hR⟩ := hZ
  refine va_put hx hb hts hin ty0 hty hnm hown hK hP hD hS q0 (zxget_at he) hc k hk (hts _ hlink) (fun _ h => h) hfin (hty k hk) hn hfit (by rw [rg_len]; exact hk) hdg (fun H1 locs1 hP1 hD1 hS1 => ?_)
  rw [rg_set, zxset_at he] at hP1 hD1
  exact kk H1 locs1 ⟨hj, f, hP1, hD1, hR⟩ hS1
theorem zxputF (hx : p.tables.exec = Jvm.exec) (hb : c.code = cc) (hts : ∀ w ∈ wAll, w.before args s = true) (hin : ∀ w ∈ u_ws C T n, w ∈ wAll) (ty0 : Nat → FieldType) (hty : ∀ k, k < n → parseFieldDescriptor (T k).2.2.1 = some (ty0 k)) (hnm : ∀ a, a < n → ∀ b, b < n → a ≠ b → (T a).2.1 ≠ (T b).2.1) (hown : s.vm.findClass own = some m.cls) (hK : va_K D cls tys s) (hZ : zHx D ca ad ln N L F B X A H) (hS : va_S A H0 H locs) (q0 : Nat) (he : X[q0]? = some (a, .inr (ci, rg n g))) (hc : cls[ci]? = some (C, T, n)) (hk : k < n)
    (hlink : Cond.fieldLink own index (T k).1 (T k).2.1 (T k).2.2.1 ∈ wAll) (hfin : (T k).2.2.2 = true) (hin2 : meth.name = "<init>") (hdecl : (T k).1 = own) {v : Value} (hn : narrow (ty0 k) v = v) (hfit : fits (ty0 k) v = true) (hdg : decode cc pc = .ok (.putfield index, 3))
    (kk : ∀ (H1 : Heap) (locs1 : List Loc), zHx D ca ad ln N L F B (X.set q0 (a, .inr (ci, rg n (va_up g k v)))) A H1 → va_S A H0 H1 locs1 → W p l e R s m args below meth c H1 locs1 cells slots Q (F0 m (pc + 3) ls rest)) : W p l e R s m args below meth c H locs cells slots Q (F0 m pc ls (v :: .ref a :: rest)) := by
  obtain ⟨hj, f, hP, hD, hR⟩ := hZ
  refine va_putF hx hb hts hin ty0 hty hnm hown hK hP hD hS q0 (zxget_at he) hc k hk (hts _ hlink) (fun _ h => h) hfin hin2 hdecl (hty k hk) hn hfit (by rw [rg_len]; exact hk) hdg (fun H1 locs1 hP1 hD1 hS1 => ?_)
  rw [rg_set, zxset_at he] at hP1 hD1
  exact kk H1 locs1 ⟨hj, f, hP1, hD1, hR⟩ hS1
theorem zxiast {n : Nat} {cA : ClassId} {h : Int → Int} (hx : p.tables.exec = Jvm.exec) (hb : c.code = cc) (hK : va_K D cls tys s) (hZ : zHx D ca ad ln N L F B X A H) (hS : va_S A H0 H locs) (q0 t0 : Nat) (he : X[q0]? = some (a, .inl (cA, n, .inl (zAr h)))) (ht : tys[t0]? = some (cA, .int)) {z v : Int} (h0 : 0 ≤ z) (h1 : z < n) (hn : n ≤ 2147483647) (hdg : decode cc pc = .ok (.iastore, 1))
    (kk : ∀ (H1 : Heap) (locs1 : List Loc), zHx D ca ad ln N L F B (X.set q0 (a, .inl (cA, n, .inl (zAr (zup h z v))))) A H1 → va_S A H0 H1 locs1 → W p l e R s m args below meth c H1 locs1 cells slots Q (F0 m (pc + 1) ls rest)) : W p l e R s m args below meth c H locs cells slots Q (F0 m pc ls (.int (iI v) :: .int (iI z) :: .ref a :: rest)) := by
  obtain ⟨hj, f, hP, hD, hR⟩ := hZ
  refine va_iast hx hb hK hP hD hS q0 t0 (zxget_at he) ht (iI_in h0 h1 hn) hdg (fun H1 locs1 hP1 hD1 hS1 => ?_)
  rw [zAr_up h0 (by omega), zxset_at he] at hP1 hD1
  exact kk H1 locs1 ⟨hj, f, hP1, hD1, hR⟩ hS1
theorem zxlast {n : Nat} {cA : ClassId} {h : Int → Int} (hx : p.tables.exec = Jvm.exec) (hb : c.code = cc) (hK : va_K D cls tys s) (hZ : zHx D ca ad ln N L F B X A H) (hS : va_S A H0 H locs) (q0 t0 : Nat) (he : X[q0]? = some (a, .inl (cA, n, .inr (.inl (zLr h))))) (ht : tys[t0]? = some (cA, .long)) {z v : Int} (h0 : 0 ≤ z) (h1 : z < n) (hn : n ≤ 2147483647) (hdg : decode cc pc = .ok (.lastore, 1))
    (kk : ∀ (H1 : Heap) (locs1 : List Loc), zHx D ca ad ln N L F B (X.set q0 (a, .inl (cA, n, .inr (.inl (zLr (zup h z v)))))) A H1 → va_S A H0 H1 locs1 → W p l e R s m args below meth c H1 locs1 cells slots Q (F0 m (pc + 1) ls rest)) : W p l e R s m args below meth c H locs cells slots Q (F0 m pc ls (.long (lI v) :: .int (iI z) :: .ref a :: rest)) := by
  obtain ⟨hj, f, hP, hD, hR⟩ := hZ
  refine va_last hx hb hK hP hD hS q0 t0 (zxget_at he) ht (iI_in h0 h1 hn) hdg (fun H1 locs1 hP1 hD1 hS1 => ?_)
  rw [zLr_up h0 (by omega), zxset_at he] at hP1 hD1
  exact kk H1 locs1 ⟨hj, f, hP1, hD1, hR⟩ hS1
end ZX
/-! ===== contracts of constructors: the object itself is raw at the beginning ===== -/
def zPreX (D : va_G) (ca : Nat → ClassId) (ad : Nat → Int → Nat → Nat) (ln : Nat → Int → Nat → Nat) (N : Nat → Int) (L : List Nat) (aS vS : Nat → Nat) (F : zF) (B : zB) (a : Nat) (e0 : va_E) (sz : Nat) : State → Prop := fun U => U.heap.size = sz ∧ zHx D ca ad ln N L F B [(a, e0)] (fun _ => True) U.heap ∧ va_K D cls (tyL ca) U ∧ gX aS vS (zA (a :: L) sz) U U.heap
section ZMX
variable {D : va_G} {ca : Nat → ClassId} {ad ad' : Nat → Int → Nat → Nat} {ln : Nat → Int → Nat → Nat} {N N' : Nat → Int} {L L' : List Nat} {aS vS : Nat → Nat} {F F1 : zF} {B B1 : zB} {A A1 : Nat → Prop} {H H1 : Heap} {X : va_W} {a : Nat} {e0 : va_E}
theorem zHx.weaken (h : zHx D ca ad ln N L F B X A H) (hA : ∀ q ∈ X.map Prod.fst ++ L, A1 q) : zHx D ca ad ln N L F B X A1 H := by
  obtain ⟨hj, f, hP, hD, hR⟩ := h
  refine ⟨hj, f, hP, hD.weaken (fun k q hk _ => hA _ ?_), hR⟩
  have := List.mem_map_of_mem (f := Prod.fst) (List.mem_of_getElem? hk)
  rw [List.map_append, vapl_map] at this
  exact this
theorem zMetX {l : Launch} {y : MethodName} {b : ByteArray} {n : Nat} {ret : Option FieldType} {rm : Room} {sz mc ms : Nat} {args : List Value} {Qc : (Nat → Prop) → Array Value → State → Outcome → State → Prop} {lv : List (Nat × Value)}
    (hy : plainName y.cls = true) (hn : (lg_sl args).length ≤ n) (hlv : lv_args 0 args = lv)
    (body : ∀ (A : Nat → Prop) p e s m below meth c ls, zX D ca (a :: L) aS vS A p s m args.toArray meth c b n ret y.cls → meth.name = y.name → zHx D ca ad ln N L F B [(a, e0)] A s.heap → va_S A s.heap s.heap [] → lv_has ls n lv →
      W p l e rm s m args.toArray below meth c s.heap [] 0 0 (MQ below (Qc A) args.toArray s mc ms A) (F0 m 0 ls [])) :
    Met l y (Cond.code y b n ret :: wAll) rm (va_Pc args (zPreX D ca ad ln N L aS vS F B a e0 sz)) (Qc (zA (a :: L) sz)) mc ms (zA (a :: L) sz) := by
  refine Met.ofW (cc := b) (maxL := n) (ret := ret) hy rfl ?_
  intro p e s m args' below meth c s₁ B' hml hv
  obtain ⟨rfl, hsz, hZ, hK, hX⟩ := hv
  have hts := atoms_spec (ws := Cond.code y b n ret :: wAll) B'.pre
  have hown : s.vm.findClass y.cls = some m.cls := findClass_of_methodNamed B'.named
  have hnm : meth.name = y.name := (name_of_methodNamed B'.named B'.method).1
  subst hsz
  have hl := lv_entry args (n := n) hn
  rw [hlv] at hl
  rw [lg_entry_eq]
  exact body (zA (a :: L) s.heap.size) p e s m below meth c _ ⟨B'.exec, B'.bytes, B'.returns, hml, hown, fun w hw => hts w (List.mem_cons_of_mem _ hw), B'.notSynchronized, hK, fun q h => Or.inr h, fun q h => Or.inl h, hX⟩ hnm (hZ.weaken (fun q h => Or.inl h)) va_S.rf hl
theorem zBlindX {sz : Nat} {As : List Value} : FrameBlind (va_Pc As (zPreX D ca ad ln N L aS vS F B a e0 sz)) := fun a U g mk q => by
  obtain ⟨q0, q1, qZ, qK, qX⟩ := q
  exact ⟨q0, q1, qZ, va_K.moved (u := U) (U := U.calling g mk a) (Vm.Alike.refl U.vm) qK, qX.same (U := U.calling g mk a) rfl rfl⟩
section
variable {p : Program} {s : State} {m : MethodId} {args : Array Value} {meth : Method} {c : Code} {cc : ByteArray} {n : Nat} {ret : Option FieldType} {cl : String} {locs : List Loc} {L0 : List Nat}
theorem zX.grow (h : zX D ca L0 aS vS A p s m args meth c cc n ret cl) (hL : ∀ q ∈ L, A q) : zX D ca L aS vS A p s m args meth c cc n ret cl := by
  obtain ⟨h1, h2, h3, h4, h5, h6, h7, h8, h9, -, h11⟩ := h
  exact ⟨h1, h2, h3, h4, h5, h6, h7, h8, h9, hL, h11⟩
theorem zHx.inA (h : zHx D ca ad ln N L F B X A H) : ∀ q ∈ X.map Prod.fst ++ L, A q := by
  obtain ⟨hj, f, hP, hD, hR⟩ := h
  intro q hq
  rw [← vapl_map (L := L) (f := f), ← List.map_append] at hq
  obtain ⟨x, hx, rfl⟩ := List.mem_map.mp hq
  exact (vaD_mem.mp hD).2 x hx
/-- what a constructor may touch lies within -/
theorem zxAin (X0 : zX D ca L0 aS vS A p s m args meth c cc n ret cl) (hZ : zHx D ca ad ln N L F B (X ++ [(a, e0)]) A H) (hS : va_S A s.heap H locs) : ∀ q, zA (a :: L) H.size q → A q := fun q h => by
  obtain ⟨-, -, -, -, -, -, -, -, h1, -, -⟩ := X0
  rcases h with h | h
  · refine hZ.inA q ?_
    rcases List.mem_cons.mp h with rfl | h
    · exact List.mem_append.mpr (Or.inl (by rw [List.map_append]; exact List.mem_append.mpr (Or.inr (List.mem_singleton.mpr rfl))))
    · exact List.mem_append.mpr (Or.inr h)
  · exact h1 q (Nat.le_trans hS.1 h)
theorem zxPS (X0 : zX D ca L0 aS vS A p s m args meth c cc n ret cl) (hZ : zHx D ca ad ln N L F B (X ++ [(a, e0)]) A H) (hS : va_S A s.heap H locs) (As : List Value) :
    PreS s H (va_Pc As (zPreX D ca ad ln N L aS vS F B a e0 H.size)) As := by
  refine ⟨zBlindX, fun U hU hW => ?_⟩
  obtain ⟨-, -, -, -, -, -, -, hK, -, -, hX⟩ := id X0
  refine ⟨rfl, by rw [hU], ?_, va_K.moved hW.alike hK, ?_⟩
  · rw [hU]
    obtain ⟨hj, f, hP, hD, hR⟩ := hZ
    refine ⟨hj, f, vaP_mem.mpr (fun x hx => vaP_mem.mp hP x ?_), vaD_mem.mpr ⟨?_, fun _ _ => trivial⟩, hR⟩
    · rw [List.append_assoc]; exact List.mem_append.mpr (Or.inr hx)
    · have := (vaD_mem.mp hD).1
      rw [List.append_assoc, List.map_append] at this
      exact (List.nodup_append.mp this).2.1
  · exact hX.to hW (fun a h1 h2 => by rw [hU]; exact hS.2.1 a h1 h2) (zxAin X0 hZ hS)
/-- behind a constructor: what was raw beside its object is as it was -/
theorem zxback (hZ : zHx D ca ad ln N L F B (X ++ [(a, e0)]) A H) (hF : ∀ q, zA (a :: L) H.size q → A q) (hk : ∀ q : Nat, q < H.size → ¬ zA (a :: L) H.size q → H1[q]? = H[q]?) {t : State} (ht : t.heap = H1) (hB : zPo D ca ad' ln N' L' F1 B1 (zA (a :: L) H.size) t) : zHx D ca ad' ln N' L' F1 B1 X A H1 := by
  obtain ⟨hj, f, hP, hD, hR⟩ := hZ
  obtain ⟨⟨hj', f', ⟨hP', hD'⟩, hR'⟩, -⟩ := hB
  rw [ht] at hP'
  obtain ⟨hn, hA⟩ := vaD_mem.mp hD
  obtain ⟨hn', hA'⟩ := vaD_mem.mp hD'
  rw [List.map_append, List.map_append, vapl_map] at hn
  have h12 := List.nodup_append.mp hn
  have h34 := List.nodup_append.mp h12.1
  have out : ∀ x ∈ X, ¬ zA (a :: L) H.size x.1 := by
    intro x hx h
    have hm : x.1 ∈ X.map Prod.fst := List.mem_map_of_mem (f := Prod.fst) hx
    rcases h with h | h
    · rcases List.mem_cons.mp h with h | h
      · exact h34.2.2 x.1 hm a (List.mem_singleton.mpr rfl) h
      · exact h12.2.2 x.1 (List.mem_append.mpr (Or.inl hm)) x.1 h rfl
    · have := (vaP_mem.mp hP x (List.mem_append.mpr (Or.inl (List.mem_append.mpr (Or.inl hx))))).lt
      omega
  refine ⟨hj', f', vaP_mem.mpr (fun x hx => ?_), vaD_mem.mpr ⟨?_, fun x hx => ?_⟩, hR'⟩
  · rcases List.mem_append.mp hx with h | h
    · have h0 := vaP_mem.mp hP x (List.mem_append.mpr (Or.inl (List.mem_append.mpr (Or.inl h))))
      exact h0.kept (hk x.1 h0.lt (out x h))
    · exact vaP_mem.mp hP' x h
  · rw [List.map_append]
    refine List.nodup_append.mpr ⟨h34.1, hn', fun u hu v hv e => ?_⟩
    obtain ⟨x, hx, rfl⟩ := List.mem_map.mp hu
    obtain ⟨y, hy, rfl⟩ := List.mem_map.mp hv
    exact out x hx (by rw [e]; exact hA' y hy)
  · rcases List.mem_append.mp hx with h | h
    · exact hA x (List.mem_append.mpr (Or.inl (List.mem_append.mpr (Or.inl h))))
    · exact hF _ (hA' x h)
end
end ZMX
end
section
/-! ===== new T[n][k] with what lies in it ===== -/
def gRI2 (cA comp : ClassId) (N M : Nat) (dv : Value) (u : State) (i : Nat) (F : State) : Prop :=
  F.heap.size = u.heap.size + 1 + i ∧ F.heap[u.heap.size]? = some (arrV cA N (fun j => if j < i then .ref (u.heap.size + 1 + j) else .null)) ∧ ∀ j : Nat, j < i → F.heap[u.heap.size + 1 + j]? = some (arrV comp M (fun _ => dv))
theorem gRows_inv2 {cA comp : ClassId} {N M : Nat} {dv : Value} {u : State} : ∀ i : Nat, gRI2 cA comp N M dv u i (gRows comp M dv u.heap.size (u.pushCell { cls := cA, slots := Array.replicate N .null }) i) := by
  intro i
  induction i with
  | zero =>
    refine ⟨?_, ?_, fun j hj => absurd hj (Nat.not_lt_zero _)⟩
    · show (u.heap.push _).size = _
      simp
    · show (u.pushCell _).heap[u.heap.size]? = _
      rw [State.heap_pushCell_size]
      exact congrArg some (arrV_new cA N .null)
  | succ i ih =>
    obtain ⟨z1, o1, z3⟩ := ih
    show gRI2 cA comp N M dv u (i + 1) (gPut u.heap.size i ((gRows comp M dv u.heap.size (u.pushCell { cls := cA, slots := Array.replicate N .null }) i).pushCell (gRow comp M dv)))
    generalize gRows comp M dv u.heap.size (u.pushCell { cls := cA, slots := Array.replicate N .null }) i = F at z1 o1 z3 ⊢
    have hlt : u.heap.size < F.heap.size := by omega
    have ho : (F.pushCell (gRow comp M dv)).heap[u.heap.size]? = some (arrV cA N (fun j => if j < i then .ref (u.heap.size + 1 + j) else .null)) := by rw [State.heap_pushCell_of_lt _ _ hlt]; exact o1
    have hz : (F.pushCell (gRow comp M dv)).heap.size = u.heap.size + 1 + (i + 1) := by
      show (F.heap.push _).size = _
      rw [Array.size_push, z1]
      omega
    rw [gPut_at ho]
    refine ⟨?_, ?_, fun j hj => ?_⟩
    · rw [← hz]
      simp [State.setCell]
    · rw [State.heap_setCell_self ho, arrV_store, hz]
      congr 2
      funext j
      unfold updV
      by_cases e : j = i
      · rw [if_pos e, if_pos (show j < i + 1 by omega), e]
        congr 1
      · rw [if_neg e]
        show (if j < i then Value.ref (u.heap.size + 1 + j) else Value.null) = _
        by_cases h : j < i
        · rw [if_pos h, if_pos (show j < i + 1 by omega)]
        · rw [if_neg h, if_neg (show ¬ j < i + 1 by omega)]
    · rw [State.heap_setCell_other (show u.heap.size ≠ u.heap.size + 1 + j by omega)]
      by_cases h : j < i
      · rw [State.heap_pushCell_of_lt _ _ (show u.heap.size + 1 + j < F.heap.size by omega)]
        exact z3 j h
      · obtain rfl : j = i := by omega
        rw [← z1, State.heap_pushCell_size]
        exact congrArg some (arrV_new comp M dv)
section GMY
variable {p : Program} {l : Launch} {e : Env} {R : Room} {s : State} {m : MethodId} {args : Array Value} {below : List Frame} {meth : Method} {c : Code} {H : Heap} {locs : List Loc} {cells slots : Nat} {Q : State → Prop}
variable {cc : ByteArray} {pc : Nat} {ls : Array Slot} {rest : List Value} {D : va_G} {A : Nat → Prop} {ws : va_W} {H0 : Heap}
theorem gmnaY {own nm : String} {index : Nat} {ty : FieldType} (hx : p.tables.exec = Jvm.exec) (hb : c.code = cc) (hts : ∀ w ∈ wAll, w.before args s = true) (hown : s.vm.findClass own = some m.cls) (hnm : nm = "[" ++ (FieldType.array ty).toString) (hcl : Cond.classLink own index nm ∈ wAll) (hover : (Cond.arrayOver (.array ty)).before #[] s = true) (harr : Cond.arrayClass ty ∈ wAll)
    {n k : Int32} {N' K' : Nat} (hn : ¬ n < 0) (hk : ¬ k < 0) (hN : n.toNatClampNeg = N') (hM : k.toNatClampNeg = K')
    (hb1 : N' * 4 ≤ 536870912) (hb2 : K' * componentBytes ty ≤ 536870912) (hb3 : K' ≤ 536870912) (hdf : fits ty (defaultValue ty) = true) (hdd : (defaultValue ty).isDefault = true) (hcells : cells + (1 + N') ≤ R.cells) (hslots : slots + (N' + N' * K') ≤ R.slots) (hdg : decode cc pc = .ok (.multianewarray index 2, 4))
    (kk : ∀ (H1 : Heap) (cA comp : ClassId), s.vm.findClass ("[" ++ (FieldType.array ty).toString) = some cA → s.vm.findClass (FieldType.array ty).toString = some comp → H1.size = H.size + 1 + N' → (∀ x : Nat, x < H.size → H1[x]? = H[x]?) → H1[H.size]? = some (arrV cA N' (fun j => if j < N' then .ref (H.size + 1 + j) else .null)) → (∀ j : Nat, j < N' → H1[H.size + 1 + j]? = some (arrV comp K' (fun _ => defaultValue ty))) → W p l e R s m args below meth c H1 locs (cells + 1 + N') (slots + N' + N' * K') Q (F0 m (pc + 4) ls (.ref H.size :: rest))) : W p l e R s m args below meth c H locs cells slots Q (F0 m pc ls (.int k :: .int n :: rest)) := by
  subst hnm
  intro T hT X
  subst hT
  obtain ⟨cA, comp, kA, g1, g2, g3, g4⟩ := gOver hover
  obtain ⟨comp', kC, c3, r1, r2, r3⟩ := Cond.arrayClass_spec (hts _ harr)
  obtain rfl : comp = comp' := Option.some.inj (g1.symm.trans r1)
  obtain ⟨c4, q1, q2⟩ := Cond.classLink_spec hown (hts _ hcl) e.platform (by rw [X.admits.platform])
  obtain rfl : cA = c4 := Option.some.inj (g2.symm.trans q1)
  obtain ⟨hg, hW, -⟩ := State.classEntry (e := e) X.warmed q2
  generalize T.vm.noted m.cls index (.cls cA) = vm1 at hg hW
  have X1 := X.noted hW
  obtain ⟨kA1, ha1, ha2⟩ := hW.alike.2.2 _ _ g3
  obtain ⟨kC1, hc1, hc2⟩ := hW.alike.2.2 _ _ r2
  have ha3 : kA1.kind = .array comp (.array ty) := by rw [ha2]; exact g4
  have hc3 : kC1.kind = .array c3 ty := by rw [hc2]; exact r3
  obtain ⟨room1, room2⟩ := X.roomAbove hcells hslots
  have big : ∀ x : Nat, x ≤ 536870912 → ¬ x > e.platform.arrayLengthLimit := fun x h => by rw [Launch.admits_arrayLengthLimit X.admits]; omega
  have big2 : ∀ x : Nat, x ≤ 536870912 → ¬ x > e.platform.maxHeapBytes := fun x h => by rw [Launch.admits_maxHeapBytes X.admits]; omega
  have XF := gRows_stand (cA := cA) (comp := comp) (N := N') (M := K') (dv := defaultValue ty) X1 N'
  have hF := gRows_inv (cA := cA) (comp := comp) (N := N') (M := K') (dv := defaultValue ty) (u := T.setVm vm1) N'
  have hF2 := gRows_inv2 (cA := cA) (comp := comp) (N := N') (M := K') (dv := defaultValue ty) (u := T.setVm vm1) N'
  obtain ⟨t, a1, b1⟩ := kk _ cA comp g2 g1 hF2.1 hF.2.2.1 hF2.2.1 hF2.2.2 _ rfl XF
  refine ⟨t, ?_, b1⟩
  jvm_step X.here [hx, (by rw [hb]; exact hdg : decode c.code (F0 m pc ls (.int k :: .int n :: rest)).pc = .ok (.multianewarray index 2, 4))]
  simp only [multianewarray.sem, wp_bind', W.resolveClassAt_links (State.method?_setTop (F0 m pc ls (.int k :: .int n :: rest)) X.here.top) hg]
  rw [W.popN, if_neg (by decide)]
  refine ⟨F0 m pc ls (.int k :: .int n :: rest), State.topJava?_setTop' (s := T.setVm vm1) _ X.here.top, [.int n, .int k], rest, rfl, rfl, ?_⟩
  simp only [List.mapM_cons, List.mapM_nil, wp_bind', wp_pure']
  have eS : ((T.setTop (F0 m pc ls (.int k :: .int n :: rest))).setVm vm1).setTop { F0 m pc ls (.int k :: .int n :: rest) with stack := rest } = (T.setVm vm1).setTop (F0 m pc ls rest) := by
    show ((T.setVm vm1).setTop _).setTop _ = _
    rw [State.setTop_setTop]
  rw [eS]
  refine gMake (u := T.setVm vm1) hN hM ha1 ha3 hc1 hc3 hn hk (big _ (by omega)) (big2 _ hb1) (big _ hb3) (big2 _ hb2) hdf room1 room2 (fun d' acts' => ?_)
  simp only [wp_bind', W.mark, W.pushRef, State.topJava?_setTop' _ XF.here.top, Option.some.injEq, exists_eq_left', State.setTop_setTop, State.heap_setTop]
  intro acts
  simp [jvm, XF.here.top]
  exact a1
variable {L : List Nat} {ca : Nat → ClassId} {ad : Nat → Int → Nat → Nat} {ln : Nat → Int → Nat → Nat} {N : Nat → Int} {F : zF} {B : zB} {X : va_W} {tys : List (ClassId × FieldType)}
theorem zxmna {own nm : String} {index : Nat} {ty : FieldType} (hx : p.tables.exec = Jvm.exec) (hb : c.code = cc) (hts : ∀ w ∈ wAll, w.before args s = true) (hown : s.vm.findClass own = some m.cls) (hnm : nm = "[" ++ (FieldType.array ty).toString) (hcl : Cond.classLink own index nm ∈ wAll) (hover : (Cond.arrayOver (.array ty)).before #[] s = true) (harr : Cond.arrayClass ty ∈ wAll)
    (hK : va_K D cls tys s) (t0 t1 : Nat) {c0 c1 : ClassId} (ht0 : tys[t0]? = some (c0, .array ty)) (ht1 : tys[t1]? = some (c1, ty)) (hr : ∀ U cA, va_RA U cA ty → U.vm.findClass (FieldType.array ty).toString = some cA) (hZ : zHx D ca ad ln N L F B X A H) (hS : va_S A H0 H locs) (hA : ∀ q, H0.size ≤ q → A q) {n k : Int32} {N' K' : Nat} {a0 : vp_A} (ha : ∀ cA : ClassId, vp_cell cA a0 = arrV cA K' (fun _ => defaultValue ty)) (hn : ¬ n < 0) (hk : ¬ k < 0) (hN : n.toNatClampNeg = N') (hM : k.toNatClampNeg = K')
    (hb1 : N' * 4 ≤ 536870912) (hb2 : K' * componentBytes ty ≤ 536870912) (hb3 : K' ≤ 536870912) (hdf : fits ty (defaultValue ty) = true) (hdd : (defaultValue ty).isDefault = true) (hcells : cells + (1 + N') ≤ R.cells) (hslots : slots + (N' + N' * K') ≤ R.slots) (hdg : decode cc pc = .ok (.multianewarray index 2, 4)) {g : Nat → Nat → Option Nat} (hg : ∀ q j, j < N' → g q j = some (q + 1 + j))
    (kk : ∀ (q : Nat) (H1 : Heap), zHx D ca ad ln N L F B (X ++ ((q, .inl (c0, N', .inr (.inr (.inr (.inr (g q)))))) :: (List.range N').map (fun j => (q + 1 + j, .inl (c1, a0))))) A H1 → va_S A H0 H1 locs → W p l e R s m args below meth c H1 locs (cells + 1 + N') (slots + N' + N' * K') Q (F0 m (pc + 4) ls (.ref q :: rest))) : W p l e R s m args below meth c H locs cells slots Q (F0 m pc ls (.int k :: .int n :: rest)) := by
  refine gmnaY hx hb hts hown hnm hcl hover harr hn hk hN hM hb1 hb2 hb3 hdf hdd hcells hslots hdg (fun H1 cA comp e1 e2 hz ho hq hrow => kk H.size H1 ?_ ?_)
  · obtain rfl : cA = c0 := Option.some.inj (e1.symm.trans (show s.vm.findClass ("[" ++ (FieldType.array ty).toString) = some c0 from (hK.2 t0 _ ht0).2))
    obtain rfl : comp = c1 := Option.some.inj (e2.symm.trans (hr s c1 (hK.2 t1 _ ht1).2))
    obtain ⟨hj, f, hP, hD, hR⟩ := hZ
    obtain ⟨dn, dA⟩ := vaD_mem.mp hD
    have lt : ∀ x ∈ X ++ va_pl L f, x.1 < H.size := fun x hx => (vaP_mem.mp hP x hx).lt
    have q1 : ∀ x ∈ X ++ va_pl L f, va_at D cls x H1 := fun x hx => (vaP_mem.mp hP x hx).kept (ho x.1 (lt x hx))
    refine ⟨hj, f, vaP_mem.mpr (fun x hx => ?_), vaD_mem.mpr ⟨?_, fun x hx => ?_⟩, hR⟩
    · rcases List.mem_append.mp hx with h | h
      · rcases List.mem_append.mp h with h | h
        · exact q1 x (List.mem_append.mpr (Or.inl h))
        · rcases List.mem_cons.mp h with rfl | h
          · show H1[H.size]? = some (vp_cell cA (N', _))
            rw [hq, vp_cell_q]
            congr 1
            unfold arrV
            congr 2
            funext j
            show (if j.val < N' then Value.ref (H.size + 1 + j.val) else Value.null) = va_rf (g H.size j.val)
            rw [if_pos j.isLt, hg _ _ j.isLt]
            rfl
          · obtain ⟨j, h1, rfl⟩ := List.mem_map.mp h
            show H1[H.size + 1 + j]? = some (vp_cell comp a0)
            rw [hrow j (List.mem_range.mp h1), ha]
      · exact q1 x (List.mem_append.mpr (Or.inr h))
    · rw [List.map_append, List.map_append, vapl_map, List.map_cons, List.map_map]
      rw [List.map_append, vapl_map] at dn
      obtain ⟨d1, d2, d3⟩ := List.nodup_append.mp dn
      have lX : ∀ u ∈ X.map Prod.fst, u < H.size := fun u hu => by obtain ⟨x, hx, rfl⟩ := List.mem_map.mp hu; exact lt x (List.mem_append.mpr (Or.inl hx))
      have lL : ∀ u ∈ L, u < H.size := fun u hu => lt (u, f u) (List.mem_append.mpr (Or.inr (vapl_mem.mpr ⟨hu, rfl⟩)))
      have hnew : ∀ u ∈ H.size :: (List.range N').map (Prod.fst ∘ fun j => ((H.size + 1 + j, Sum.inl (comp, a0)) : Nat × va_E)), H.size ≤ u := by
        intro u hu
        rcases List.mem_cons.mp hu with rfl | hu
        · exact Nat.le_refl _
        · obtain ⟨j, -, rfl⟩ := List.mem_map.mp hu
          show H.size ≤ H.size + 1 + j
          omega
      refine List.nodup_append.mpr ⟨List.nodup_append.mpr ⟨d1, List.nodup_cons.mpr ⟨fun hu => ?_, ?_⟩, fun u hu v hv e => ?_⟩, d2, fun u hu v hv e => ?_⟩
      · obtain ⟨j, -, h1⟩ := List.mem_map.mp hu
        have h1 : H.size + 1 + j = H.size := h1
        omega
      · refine List.pairwise_map.mpr (List.Pairwise.imp ?_ List.nodup_range)
        intro u v h e
        have e : H.size + 1 + u = H.size + 1 + v := e
        omega
      · have := lX u hu
        have := hnew v hv
        omega
      · rcases List.mem_append.mp hu with hu | hu
        · exact d3 u hu v hv e
        · have := hnew u hu
          have := lL v hv
          omega
    · rcases List.mem_append.mp hx with h | h
      · rcases List.mem_append.mp h with h | h
        · exact dA x (List.mem_append.mpr (Or.inl h))
        · refine hA _ (Nat.le_trans hS.1 ?_)
          rcases List.mem_cons.mp h with rfl | h
          · exact Nat.le_refl _
          · obtain ⟨j, h1, rfl⟩ := List.mem_map.mp h
            show H.size ≤ H.size + 1 + j
            omega
      · exact dA x (List.mem_append.mpr (Or.inr h))
  · exact ⟨by rw [hz]; exact Nat.le_trans hS.1 (by omega), fun x h1 h2 => (ho x (Nat.lt_of_lt_of_le h1 hS.1)).trans (hS.2.1 x h1 h2), hS.2.2⟩
end GMY
theorem ra_int (U : State) (cA : ClassId) (h : va_RA U cA .int) : U.vm.findClass (FieldType.array .int).toString = some cA := h
theorem ra_long (U : State) (cA : ClassId) (h : va_RA U cA .long) : U.vm.findClass (FieldType.array .long).toString = some cA := h
end
section
/-! ===== taking a finished object in, by finite lists ===== -/
theorem zk_lt {c k u t : Nat} (h : zk c k = (u, t)) (hu : ¬ u = 9) : k < 400 := by
  unfold zk at h
  by_cases h1 : k < 180
  · omega
  · rw [if_neg h1] at h
    by_cases h2 : k < 200
    · omega
    · rw [if_neg h2] at h
      by_cases h3 : (k - 200) % 20 < zrn c ((k - 200) / 20)
      · unfold zrn at h3
        by_cases e1 : (k - 200) / 20 ≤ 8
        · omega
        · exfalso
          rw [if_neg (by omega), if_neg (by omega), if_neg (by omega), if_neg (by omega), if_neg (by omega)] at h3
          omega
      · rw [if_neg h3] at h
        exact absurd (congrArg Prod.fst h).symm hu
def zrowL (c u : Nat) : List (Nat × Nat) := (List.range 400).filterMap (fun k => if (zk c k).1 = u then some (k, (zk c k).2) else none)
theorem zrowL_in {c u k t : Nat} (hu : ¬ u = 9) (h : zk c k = (u, t)) : (k, t) ∈ zrowL c u := by
  unfold zrowL
  refine List.mem_filterMap.mpr ⟨k, List.mem_range.mpr (zk_lt h hu), ?_⟩
  rw [h, if_pos rfl]
theorem rg_all {n : Nat} {f g : Nat → Value} (h : zAll (List.range n) (fun k => f k = g k)) : rg n f = rg n g := by
  unfold rg
  exact List.map_congr_left (fun k hk => zAll_mem h k hk)
theorem zlk_in {l : List (Nat × Nat)} {k : Nat} (h : k ∈ l.map Prod.fst) : ∃ v, l.lookup k = some v ∧ (k, v) ∈ l := by
  induction l with
  | nil => exact absurd h List.not_mem_nil
  | cons x xs ih =>
    obtain ⟨a, b⟩ := x
    rw [List.lookup_cons]
    by_cases e : k = a
    · subst e
      exact ⟨b, by simp, List.mem_cons_self⟩
    · have hb : (k == a) = false := by simpa using e
      rw [hb]
      rw [List.map_cons, List.mem_cons] at h
      obtain ⟨v, h1, h2⟩ := ih (h.resolve_left e)
      exact ⟨v, h1, List.mem_cons_of_mem _ h2⟩
theorem zsnd_inj {l : List (Nat × Nat)} (hn : (l.map Prod.snd).Nodup) {k k' v : Nat} (h1 : (k, v) ∈ l) (h2 : (k', v) ∈ l) : k = k' := by
  induction l with
  | nil => exact absurd h1 List.not_mem_nil
  | cons x xs ih =>
    rw [List.map_cons, List.nodup_cons] at hn
    rcases List.mem_cons.mp h1 with g1 | g1 <;> rcases List.mem_cons.mp h2 with g2 | g2
    · exact congrArg Prod.fst (g1.trans g2.symm)
    · subst g1
      exact absurd (List.mem_map.mpr ⟨(k', v), g2, rfl⟩) hn.1
    · subst g2
      exact absurd (List.mem_map.mpr ⟨(k, v), g1, rfl⟩) hn.1
    · exact ih hn.2 g1 g2
section ZT2
variable {D : va_G} {ca : Nat → ClassId} {ad : Nat → Int → Nat → Nat} {ln : Nat → Int → Nat → Nat} {N : Nat → Int} {L : List Nat} {F : zF} {B : zB} {A : Nat → Prop} {H : Heap} {R : va_W}
theorem ztake2 {c n : Nat} {l : List (Nat × Nat)} {fi : List Int} {b : Nat → Int → Int} {g : Nat → Value} {a : Nat} {r2 r3 r4 : List (Nat × Nat)} (hx : zHx D ca ad ln N L F B R A H) (h0 : 0 ≤ N c)
    (e2 : zrowL c 2 = r2) (e3 : zrowL c 3 = r3) (e4 : zrowL c 4 = r4) (hl : l.map Prod.snd = R.map Prod.fst) (hk0 : 0 ∈ l.map Prod.fst) (hk3 : zAll r3 (fun x => x.1 + 1 ∈ l.map Prod.fst)) (hk4 : zAll r4 (fun x => x.1 + 1 ∈ l.map Prod.fst))
    (hn : zN c = n) (ha : (l.lookup 0).getD 0 = a) (hobj : (a, .inr (c, rg n g)) ∈ R) (hg : zAll (List.range n) (fun k => g k = zfvI ad l fi c k))
    (h3 : zAll r3 (fun x => ((l.lookup (x.1 + 1)).getD 0, zRw ca ad (ln c (N c) x.1) x.2 (b x.1)) ∈ R))
    (h4 : zAll r4 (fun x => ((l.lookup (x.1 + 1)).getD 0, .inl (ca (x.2 + 8), zrn c x.1, .inr (.inr (.inr (.inr (fun j => some ((l.lookup (200 + 20 * x.1 + j + 1)).getD 0))))))) ∈ R))
    (h2 : zAll r2 (fun x => fi.getD x.1 0 < N x.2)) (h5 : zAll r3 (fun x => 4 ≤ x.2 → ∀ j : Nat, b x.1 j < N (x.2 - 10))) :
    zH D ca (zinA ad c (N c) l) ln (zinN N c) (R.map Prod.fst ++ L) (zinF F c (N c) fi) (zinB B c (N c) b) A H := by
  subst e2 e3 e4 hn ha
  have hnd : (l.map Prod.snd).Nodup := by
    obtain ⟨-, f, -, hD, -⟩ := id hx
    have := (vaD_mem.mp hD).1
    rw [List.map_append] at this
    rw [hl]
    exact (List.nodup_append.mp this).1
  have hkeys : ∀ k, zOk c k → k ∈ l.map Prod.fst := by
    intro k hk
    rcases hk with rfl | ⟨t, h | h⟩
    · exact hk0
    · by_cases e : k = 0
      · subst e; exact hk0
      · have := zAll_mem hk3 _ (zrowL_in (by decide) h)
        rwa [show k - 1 + 1 = k by omega] at this
    · by_cases e : k = 0
      · subst e; exact hk0
      · have := zAll_mem hk4 _ (zrowL_in (by decide) h)
        rwa [show k - 1 + 1 = k by omega] at this
  refine ztake hx h0 (by rw [← rg_all hg]; exact hobj) (fun k t hk => zAll_mem h3 _ (zrowL_in (by decide) hk)) (fun k t hk => zAll_mem h4 _ (zrowL_in (by decide) hk)) (fun k k' hk hk' e => ?_) (fun k t hk => zAll_mem h2 _ (zrowL_in (by decide) hk)) (fun k t hk => zAll_mem h5 _ (zrowL_in (by decide) hk))
  obtain ⟨v, v1, v2⟩ := zlk_in (hkeys k hk)
  obtain ⟨w, w1, w2⟩ := zlk_in (hkeys k' hk')
  rw [v1, w1] at e
  obtain rfl : v = w := e
  exact zsnd_inj hnd v2 w2
end ZT2
/-- an entry may be told otherwise where its cell is the same -/
theorem zHx.repl {D : va_G} {ca : Nat → ClassId} {ad : Nat → Int → Nat → Nat} {ln : Nat → Int → Nat → Nat} {N : Nat → Int} {L : List Nat} {F : zF} {B : zB} {A : Nat → Prop} {H : Heap} {R : va_W} (h : zHx D ca ad ln N L F B R A H) (i : Nat) {a : Nat} {cA : ClassId} {n : Nat} {u v : Nat → Option Nat} (hi : R[i]? = some (a, .inl (cA, n, .inr (.inr (.inr (.inr u)))))) (huv : zAll (List.range n) (fun j => u j = v j)) : zHx D ca ad ln N L F B (R.set i (a, .inl (cA, n, .inr (.inr (.inr (.inr v)))))) A H := by
  obtain ⟨hj, f, hP, hD, hR⟩ := h
  refine ⟨hj, f, ?_, ?_, hR⟩
  · rw [← zxset_at hi]
    refine hP.set hD (zxget_at hi) ?_ (fun _ _ => rfl)
    have h0 := hP i _ (zxget_at hi)
    show H[a]? = some (vp_cell cA (n, _))
    have h1 : H[a]? = some (vp_cell cA (n, .inr (.inr (.inr (.inr u))))) := h0
    rw [h1, vp_cell_q, vp_cell_q]
    congr 1
    unfold arrV
    congr 2
    funext j
    show va_rf (u j.val) = va_rf (v j.val)
    rw [zAll_mem huv j.val (List.mem_range.mpr j.isLt)]
  · rw [← zxset_at hi]
    exact hD.set (zxget_at hi)
/-! ===== functions that make objects ===== -/
abbrev zOm : Type := Option (Int × zF × zB × zK)
def zbindN (x : zO) (k : Int → zF → zB → zOm) : zOm := match x with
  | none => none
  | some q => k q.1 q.2.1 q.2.2
theorem gbindN {x : zO} {k : Int → zF → zB → zOm} {z : Int × zF × zB × zK} (h : zbindN x k = some z) : ∃ r F B, x = some (r, F, B) ∧ k r F B = some z := by
  cases x with
  | none => cases h
  | some q => exact ⟨q.1, q.2.1, q.2.2, rfl, h⟩
def zbindM (x : zOm) (k : Int → zF → zB → zK → zOm) : zOm := match x with
  | none => none
  | some q => k q.1 q.2.1 q.2.2.1 q.2.2.2
theorem gbindM {x : zOm} {k : Int → zF → zB → zK → zOm} {z : Int × zF × zB × zK} (h : zbindM x k = some z) : ∃ r F B K, x = some (r, F, B, K) ∧ k r F B K = some z := by
  cases x with
  | none => cases h
  | some q => exact ⟨q.1, q.2.1, q.2.2.1, q.2.2.2, rfl, h⟩
def zKle (K K' : zK) : Prop := ∀ c, K.2 c ≤ K'.2 c
theorem zKle.rf {K : zK} : zKle K K := fun _ => Int.le_refl _
theorem zKle.tr {K K' K'' : zK} (h : zKle K K') (h2 : zKle K' K'') : zKle K K'' := fun c => Int.le_trans (h c) (h2 c)
theorem zKle_in {n : Nat} {N : Nat → Int} {c : Nat} : zKle (n, N) (n, zinN N c) := fun c' => by
  show N c' ≤ zinN N c c'
  unfold zinN
  by_cases e : c' = c
  · rw [if_pos e, e]; omega
  · rw [if_neg e]; exact Int.le_refl _
/-- a call of a method that makes nothing, out of a world with raw cells -/
theorem zxtyped {D : va_G} {ca : Nat → ClassId} {ad : Nat → Int → Nat → Nat} {ln : Nat → Int → Nat → Nat} {N : Nat → Int} {L : List Nat} {F F1 : zF} {B B1 : zB} {A : Nat → Prop} {H H1 : Heap} {X : va_W} (hZ : zHx D ca ad ln N L F B X A H) (hF : ∀ q, zA L H.size q → A q) (hk : ∀ q : Nat, q < H.size → ¬ zA L H.size q → H1[q]? = H[q]?) {t : State} (ht : t.heap = H1) (hB : zPo D ca ad ln N L F1 B1 (zA L H.size) t) : zHx D ca ad ln N L F1 B1 X A H1 := by
  obtain ⟨hj, f, hP, hD, hR⟩ := hZ
  obtain ⟨⟨hj', f', ⟨hP', hD'⟩, hR'⟩, -⟩ := hB
  rw [ht] at hP'
  obtain ⟨hn, hA⟩ := vaD_mem.mp hD
  obtain ⟨hn', hA'⟩ := vaD_mem.mp hD'
  rw [List.map_append, vapl_map] at hn
  have h12 := List.nodup_append.mp hn
  have out : ∀ x ∈ X, ¬ zA L H.size x.1 := by
    intro x hx h
    have hm : x.1 ∈ X.map Prod.fst := List.mem_map_of_mem (f := Prod.fst) hx
    rcases h with h | h
    · exact h12.2.2 x.1 hm x.1 h rfl
    · have := (vaP_mem.mp hP x (List.mem_append.mpr (Or.inl hx))).lt
      omega
  refine ⟨hj', f', vaP_mem.mpr (fun x hx => ?_), vaD_mem.mpr ⟨?_, fun x hx => ?_⟩, hR'⟩
  · rcases List.mem_append.mp hx with h | h
    · have h0 := vaP_mem.mp hP x (List.mem_append.mpr (Or.inl h))
      exact h0.kept (hk x.1 h0.lt (out x h))
    · exact vaP_mem.mp hP' x h
  · rw [List.map_append]
    refine List.nodup_append.mpr ⟨h12.1, hn', fun u hu v hv e => ?_⟩
    obtain ⟨x, hx, rfl⟩ := List.mem_map.mp hu
    obtain ⟨y, hy, rfl⟩ := List.mem_map.mp hv
    exact out x hx (by rw [e]; exact hA' y hy)
  · rcases List.mem_append.mp hx with h | h
    · exact hA x (List.mem_append.mpr (Or.inl h))
    · exact hF _ (hA' x h)
theorem zrf_some {ad : Nat → Int → Nat → Nat} {t q : Nat} {r : Int} (h0 : 0 ≤ r) (h : ad t r 0 = q) : (some q) = zrf ad t r := by
  rw [zrf_pos h0, h]
theorem zup_lt {f : Int → Int} {z v b : Int} (hf : ∀ j : Nat, f (j : Int) < b) (hv : v < b) (j : Nat) : zup f z v (j : Int) < b := by
  unfold zup
  by_cases e : (j : Int) = z
  · rw [if_pos e]; exact hv
  · rw [if_neg e]; exact hf j
section ZXT
variable {D : va_G} {ca : Nat → ClassId} {ad : Nat → Int → Nat → Nat} {ln : Nat → Int → Nat → Nat} {N : Nat → Int} {L L0 : List Nat} {aS vS : Nat → Nat} {F : zF} {B : zB} {A : Nat → Prop} {H : Heap} {X : va_W} {p : Program} {s : State} {m : MethodId} {args : Array Value} {meth : Method} {c : Code} {cc : ByteArray} {n : Nat} {ret : Option FieldType} {cl : String} {locs : List Loc}
theorem zxTin (X0 : zX D ca L0 aS vS A p s m args meth c cc n ret cl) (hZ : zHx D ca ad ln N L F B X A H) (hS : va_S A s.heap H locs) : ∀ q, zA L H.size q → A q := fun q h => by
  obtain ⟨-, -, -, -, -, -, -, -, h1, -, -⟩ := X0
  rcases h with h | h
  · exact hZ.inA q (List.mem_append.mpr (Or.inr h))
  · exact h1 q (Nat.le_trans hS.1 h)
theorem zxPT (X0 : zX D ca L0 aS vS A p s m args meth c cc n ret cl) (hZ : zHx D ca ad ln N L F B X A H) (hS : va_S A s.heap H locs) (As : List Value) :
    PreS s H (va_Pc As (zPre D ca ad ln N L aS vS F B H.size)) As := by
  refine ⟨zBlind, fun U hU hW => ?_⟩
  obtain ⟨-, -, -, -, -, -, -, hK, -, -, hX⟩ := id X0
  refine ⟨rfl, by rw [hU], ?_, va_K.moved hW.alike hK, ?_⟩
  · rw [hU]
    obtain ⟨hj, f, hP, hD, hR⟩ := hZ
    refine ⟨hj, f, ⟨vaP_mem.mpr (fun x hx => vaP_mem.mp hP x (List.mem_append.mpr (Or.inr hx))), vaD_mem.mpr ⟨?_, fun _ _ => trivial⟩⟩, hR⟩
    have := (vaD_mem.mp hD).1
    rw [List.map_append] at this
    exact (List.nodup_append.mp this).2.1
  · exact hX.to hW (fun a h1 h2 => by rw [hU]; exact hS.2.1 a h1 h2) (zxTin X0 hZ hS)
end ZXT
section ZXA
variable {p : Program} {l : Launch} {e : Env} {R : Room} {s : State} {m : MethodId} {args : Array Value} {below : List Frame} {meth : Method} {c : Code} {H : Heap} {locs : List Loc} {cells slots : Nat} {Q : State → Prop}
variable {cc : ByteArray} {pc : Nat} {ls : Array Slot} {rest : List Value} {D : va_G} {A : Nat → Prop} {a : Nat} {tys : List (ClassId × FieldType)} {H0 : Heap}
variable {L : List Nat} {ca : Nat → ClassId} {ad : Nat → Int → Nat → Nat} {ln : Nat → Int → Nat → Nat} {N : Nat → Int} {F : zF} {B : zB} {X : va_W}
theorem zxaast {n t : Nat} {cA : ClassId} {f : Nat → Option Nat} {r : vw_C} (hx : p.tables.exec = Jvm.exec) (hb : c.code = cc) (hK : va_K D cls tys s) (hZ : zHx D ca ad ln N L F B X A H) (hS : va_S A H0 H locs) (q0 t0 : Nat) (he : X[q0]? = some (a, .inl (cA, n, .inr (.inr (.inr (.inr f)))))) (ht : tys[t0]? = some (cA, .object r.1)) (hc : cls[t]? = some r) {z v : Int} (v0 : 0 ≤ v) (v1 : v < N t) (h0 : 0 ≤ z) (h1 : z < n) (hn : n ≤ 2147483647) (hdg : decode cc pc = .ok (.aastore, 1))
    (kk : ∀ (H1 : Heap) (locs1 : List Loc), zHx D ca ad ln N L F B (X.set q0 (a, .inl (cA, n, .inr (.inr (.inr (.inr (va_up f z.toNat (some (ad t v 0)))))))) ) A H1 → va_S A H0 H1 locs1 → W p l e R s m args below meth c H1 locs1 cells slots Q (F0 m (pc + 1) ls rest)) : W p l e R s m args below meth c H locs cells slots Q (F0 m pc ls (.ref (ad t v 0) :: .int (iI z) :: .ref a :: rest)) := by
  obtain ⟨hj, g, hP, hD, hR⟩ := hZ
  obtain ⟨⟨b1, b2⟩, -⟩ := hR t v v0 v1
  obtain ⟨qk, hqk⟩ := va_pl_get (X := X) (f := g) b1
  rw [b2] at hqk
  refine va_astq hx hb hK hP hD hS q0 t0 qk t (zxget_at he) ht hqk hc (iI_in h0 h1 hn) hdg (fun H1 locs1 hP1 hD1 hS1 => ?_)
  rw [iI_cl h0 (by omega), zxset_at he] at hP1 hD1
  exact kk H1 locs1 ⟨hj, g, hP1, hD1, hR⟩ hS1
end ZXA
theorem zHx.perm {D : va_G} {ca : Nat → ClassId} {ad : Nat → Int → Nat → Nat} {ln : Nat → Int → Nat → Nat} {N : Nat → Int} {L : List Nat} {F : zF} {B : zB} {A : Nat → Prop} {H : Heap} {X X' : va_W} (hp : X.Perm X') (h : zHx D ca ad ln N L F B X A H) : zHx D ca ad ln N L F B X' A H := by
  obtain ⟨hj, f, hP, hD, hR⟩ := h
  have hq : (X ++ va_pl L f).Perm (X' ++ va_pl L f) := hp.append_right _
  refine ⟨hj, f, vaP_mem.mpr (fun x hx => vaP_mem.mp hP x (hq.mem_iff.mpr hx)), vaD_mem.mpr ⟨?_, fun x hx => (vaD_mem.mp hD).2 x (hq.mem_iff.mpr hx)⟩, hR⟩
  exact (hq.map Prod.fst).nodup_iff.mp (vaD_mem.mp hD).1
theorem zHx.rot {D : va_G} {ca : Nat → ClassId} {ad : Nat → Int → Nat → Nat} {ln : Nat → Int → Nat → Nat} {N : Nat → Int} {L : List Nat} {F : zF} {B : zB} {A : Nat → Prop} {H : Heap} {X : va_W} {e : Nat × va_E} (h : zHx D ca ad ln N L F B (X ++ [e]) A H) : zHx D ca ad ln N L F B (e :: X) A H := zHx.perm (List.perm_append_singleton e X) h
theorem zHx.swp {D : va_G} {ca : Nat → ClassId} {ad : Nat → Int → Nat → Nat} {ln : Nat → Int → Nat → Nat} {N : Nat → Int} {L : List Nat} {F : zF} {B : zB} {A : Nat → Prop} {H : Heap} {X : va_W} {e e' : Nat × va_E} (h : zHx D ca ad ln N L F B (e :: e' :: X) A H) : zHx D ca ad ln N L F B (e' :: e :: X) A H := zHx.perm (List.Perm.swap _ _ _) h
end
section
/-! ===== what has been made, by the numbers of objects ===== -/
def cwN (N : Nat → Int) : Nat := 3 * (N 1).toNat + 12 * (N 2).toNat + 17 * (N 4).toNat + 14 * (N 5).toNat + 2 * (N 6).toNat + 10 * (N 8).toNat + 18 * (N 9).toNat
def swN (N : Nat → Int) : Nat := 26 * (N 1).toNat + 10321 * (N 2).toNat + 10688 * (N 4).toNat + 23032 * (N 5).toNat + 18 * (N 6).toNat + 2436 * (N 8).toNat + 5246 * (N 9).toNat
def cwC (K K' : zK) : Nat := cwN K'.2 - cwN K.2
def swC (K K' : zK) : Nat := swN K'.2 - swN K.2
theorem cwN_le {K K' : zK} (h : zKle K K') : cwN K.2 ≤ cwN K'.2 := by
  have h1 := Int.toNat_le_toNat (h 1)
  have h2 := Int.toNat_le_toNat (h 2)
  have h4 := Int.toNat_le_toNat (h 4)
  have h5 := Int.toNat_le_toNat (h 5)
  have h6 := Int.toNat_le_toNat (h 6)
  have h8 := Int.toNat_le_toNat (h 8)
  have h9 := Int.toNat_le_toNat (h 9)
  unfold cwN
  exact (Nat.add_le_add (Nat.add_le_add (Nat.add_le_add (Nat.add_le_add (Nat.add_le_add (Nat.add_le_add (Nat.mul_le_mul_left 3 h1) (Nat.mul_le_mul_left 12 h2)) (Nat.mul_le_mul_left 17 h4)) (Nat.mul_le_mul_left 14 h5)) (Nat.mul_le_mul_left 2 h6)) (Nat.mul_le_mul_left 10 h8)) (Nat.mul_le_mul_left 18 h9))
theorem swN_le {K K' : zK} (h : zKle K K') : swN K.2 ≤ swN K'.2 := by
  have h1 := Int.toNat_le_toNat (h 1)
  have h2 := Int.toNat_le_toNat (h 2)
  have h4 := Int.toNat_le_toNat (h 4)
  have h5 := Int.toNat_le_toNat (h 5)
  have h6 := Int.toNat_le_toNat (h 6)
  have h8 := Int.toNat_le_toNat (h 8)
  have h9 := Int.toNat_le_toNat (h 9)
  unfold swN
  exact (Nat.add_le_add (Nat.add_le_add (Nat.add_le_add (Nat.add_le_add (Nat.add_le_add (Nat.add_le_add (Nat.mul_le_mul_left 26 h1) (Nat.mul_le_mul_left 10321 h2)) (Nat.mul_le_mul_left 10688 h4)) (Nat.mul_le_mul_left 23032 h5)) (Nat.mul_le_mul_left 18 h6)) (Nat.mul_le_mul_left 2436 h8)) (Nat.mul_le_mul_left 5246 h9))
theorem zroom {K0 K K' K9 : zK} {a b : Nat} (h0 : zKle K0 K) (hw : cwN K'.2 = cwN K.2 + a ∧ swN K'.2 = swN K.2 + b) (h1 : zKle K' K9) : cwC K0 K + a ≤ cwC K0 K9 ∧ swC K0 K + b ≤ swC K0 K9 ∧ cwC K0 K + a = cwC K0 K' ∧ swC K0 K + b = swC K0 K' := by
  have a0 := cwN_le h0
  have a1 := cwN_le h1
  have b0 := swN_le h0
  have b1 := swN_le h1
  unfold cwC swC
  omega
theorem zroomC {K0 K K' K9 : zK} (h0 : zKle K0 K) (h : zKle K K') (h1 : zKle K' K9) : cwC K0 K + cwC K K' ≤ cwC K0 K9 ∧ swC K0 K + swC K K' ≤ swC K0 K9 ∧ cwC K0 K + cwC K K' = cwC K0 K' ∧ swC K0 K + swC K K' = swC K0 K' := by
  have a0 := cwN_le h0
  have a1 := cwN_le h1
  have a2 := cwN_le h
  have b0 := swN_le h0
  have b1 := swN_le h1
  have b2 := swN_le h
  unfold cwC swC
  omega
theorem zroom0 {K0 K K9 : zK} (h : zKle K K9) : cwC K0 K ≤ cwC K0 K9 ∧ swC K0 K ≤ swC K0 K9 := ⟨Nat.sub_le_sub_right (cwN_le h) _, Nat.sub_le_sub_right (swN_le h) _⟩
theorem zBackM {D : va_G} {ca : Nat → ClassId} {ad' : Nat → Int → Nat → Nat} {ln : Nat → Int → Nat → Nat} {N' : Nat → Int} {L L' : List Nat} {aS vS : Nat → Nat} {F1 : zF} {B1 : zB} {A : Nat → Prop} {H H1 : Heap} {p : Program} {s : State} {m : MethodId} {args : Array Value} {meth : Method} {c : Code} {cc : ByteArray} {n : Nat} {ret : Option FieldType} {cl : String} {locs : List Loc} (X : zX D ca L aS vS A p s m args meth c cc n ret cl) (hS : va_S A s.heap H locs) {t : State} (ht : t.heap = H1) (hB : zPo D ca ad' ln N' L' F1 B1 (zA L H.size) t) : zH D ca ad' ln N' L' F1 B1 A H1 := by
  rw [← ht]
  exact hB.1.weaken (fun q h => zAin X hS q (hB.1.inA q h))
theorem zref_f {ad : Nat → Int → Nat → Nat} {t q : Nat} {r : Int} (h0 : 0 ≤ r) (h : ad t r 0 = q) : (Value.ref q) = va_rf (zrf ad t r) := by
  rw [zrf_pos h0, h]
  rfl
theorem zinN_at {N : Nat → Int} {c : Nat} : zinN N c c = N c + 1 := by
  unfold zinN
  rw [if_pos rfl]
theorem zinN_ne {N : Nat → Int} {c c' : Nat} (h : ¬ c' = c) : zinN N c c' = N c' := by
  unfold zinN
  rw [if_neg h]
end
