theorem k_14_83 : (Jvm.Cond.methodLink "StaveHouseModel" (1299 : Nat) ({ cls := "StaveHouseModel", name := "cut", desc := "()V" } : Jvm.MethodName)) ∈ wAll := wA_14 (j := 83) rfl rfl
theorem k_14_85 : (Jvm.Cond.instanceMethod ({ cls := "StaveHouseModel", name := "cut", desc := "()V" } : Jvm.MethodName)) ∈ wAll := wA_14 (j := 85) rfl rfl
theorem ks_196 : (Jvm.Cond.selects "StaveHouseModel" ({ cls := "StaveHouseModel", name := "cut", desc := "()V" } : Jvm.MethodName) ({ cls := "StaveHouseModel", name := "cut", desc := "()V" } : Jvm.MethodName)) ∈ wAll := wA_s (j := 196) rfl rfl
theorem k_14_86 : (Jvm.Cond.code ({ cls := "StaveHouseModel", name := "cut", desc := "()V" } : Jvm.MethodName) prog_15_method_25_code (3 : Nat) (Option.none : Option Jvm.ClassFile.FieldType)) ∈ wAll := wA_14 (j := 86) rfl rfl
theorem k_14_108 : (Jvm.Cond.methodLink "StaveHouseModel" (1302 : Nat) ({ cls := "StaveHouseModel", name := "text", desc := "()V" } : Jvm.MethodName)) ∈ wAll := wA_14 (j := 108) rfl rfl
theorem k_14_110 : (Jvm.Cond.instanceMethod ({ cls := "StaveHouseModel", name := "text", desc := "()V" } : Jvm.MethodName)) ∈ wAll := wA_14 (j := 110) rfl rfl
theorem ks_199 : (Jvm.Cond.selects "StaveHouseModel" ({ cls := "StaveHouseModel", name := "text", desc := "()V" } : Jvm.MethodName) ({ cls := "StaveHouseModel", name := "text", desc := "()V" } : Jvm.MethodName)) ∈ wAll := wA_s (j := 199) rfl rfl
theorem k_14_111 : (Jvm.Cond.code ({ cls := "StaveHouseModel", name := "text", desc := "()V" } : Jvm.MethodName) prog_15_method_40_code (2 : Nat) (Option.none : Option Jvm.ClassFile.FieldType)) ∈ wAll := wA_14 (j := 111) rfl rfl
theorem k_14_203 : (Jvm.Cond.methodLink "StaveHouseModel" (1305 : Nat) ({ cls := "StaveHouseModel", name := "through", desc := "()V" } : Jvm.MethodName)) ∈ wAll := wA_14 (j := 203) rfl rfl
theorem k_14_205 : (Jvm.Cond.instanceMethod ({ cls := "StaveHouseModel", name := "through", desc := "()V" } : Jvm.MethodName)) ∈ wAll := wA_14 (j := 205) rfl rfl
theorem ks_222 : (Jvm.Cond.selects "StaveHouseModel" ({ cls := "StaveHouseModel", name := "through", desc := "()V" } : Jvm.MethodName) ({ cls := "StaveHouseModel", name := "through", desc := "()V" } : Jvm.MethodName)) ∈ wAll := wA_s (j := 222) rfl rfl
theorem k_14_206 : (Jvm.Cond.code ({ cls := "StaveHouseModel", name := "through", desc := "()V" } : Jvm.MethodName) prog_15_method_53_code (8 : Nat) (Option.none : Option Jvm.ClassFile.FieldType)) ∈ wAll := wA_14 (j := 206) rfl rfl
theorem k_15_48 : (Jvm.Cond.methodLink "StaveHouseModel" (1308 : Nat) ({ cls := "StaveHouseModel", name := "staves", desc := "(LStaveHouseModel$Piece;)V" } : Jvm.MethodName)) ∈ wAll := wA_15 (j := 48) rfl rfl
theorem k_15_50 : (Jvm.Cond.instanceMethod ({ cls := "StaveHouseModel", name := "staves", desc := "(LStaveHouseModel$Piece;)V" } : Jvm.MethodName)) ∈ wAll := wA_15 (j := 50) rfl rfl
theorem ks_240 : (Jvm.Cond.selects "StaveHouseModel" ({ cls := "StaveHouseModel", name := "staves", desc := "(LStaveHouseModel$Piece;)V" } : Jvm.MethodName) ({ cls := "StaveHouseModel", name := "staves", desc := "(LStaveHouseModel$Piece;)V" } : Jvm.MethodName)) ∈ wAll := wA_s (j := 240) rfl rfl
theorem k_15_51 : (Jvm.Cond.code ({ cls := "StaveHouseModel", name := "staves", desc := "(LStaveHouseModel$Piece;)V" } : Jvm.MethodName) prog_15_method_91_code (4 : Nat) (Option.none : Option Jvm.ClassFile.FieldType)) ∈ wAll := wA_15 (j := 51) rfl rfl
theorem k_15_89 : (Jvm.Cond.methodLink "StaveHouseModel" (1312 : Nat) ({ cls := "StaveHouseModel", name := "columns", desc := "(LStaveHouseModel$Piece;)V" } : Jvm.MethodName)) ∈ wAll := wA_15 (j := 89) rfl rfl
theorem k_15_91 : (Jvm.Cond.instanceMethod ({ cls := "StaveHouseModel", name := "columns", desc := "(LStaveHouseModel$Piece;)V" } : Jvm.MethodName)) ∈ wAll := wA_15 (j := 91) rfl rfl
theorem ks_248 : (Jvm.Cond.selects "StaveHouseModel" ({ cls := "StaveHouseModel", name := "columns", desc := "(LStaveHouseModel$Piece;)V" } : Jvm.MethodName) ({ cls := "StaveHouseModel", name := "columns", desc := "(LStaveHouseModel$Piece;)V" } : Jvm.MethodName)) ∈ wAll := wA_s (j := 248) rfl rfl
theorem k_15_92 : (Jvm.Cond.code ({ cls := "StaveHouseModel", name := "columns", desc := "(LStaveHouseModel$Piece;)V" } : Jvm.MethodName) prog_15_method_102_code (7 : Nat) (Option.none : Option Jvm.ClassFile.FieldType)) ∈ wAll := wA_15 (j := 92) rfl rfl
theorem k_15_101 : (Jvm.Cond.methodLink "StaveHouseModel" (1315 : Nat) ({ cls := "StaveHouseModel", name := "moments", desc := "(LStaveHouseModel$Piece;)V" } : Jvm.MethodName)) ∈ wAll := wA_15 (j := 101) rfl rfl
theorem k_15_103 : (Jvm.Cond.instanceMethod ({ cls := "StaveHouseModel", name := "moments", desc := "(LStaveHouseModel$Piece;)V" } : Jvm.MethodName)) ∈ wAll := wA_15 (j := 103) rfl rfl
theorem ks_251 : (Jvm.Cond.selects "StaveHouseModel" ({ cls := "StaveHouseModel", name := "moments", desc := "(LStaveHouseModel$Piece;)V" } : Jvm.MethodName) ({ cls := "StaveHouseModel", name := "moments", desc := "(LStaveHouseModel$Piece;)V" } : Jvm.MethodName)) ∈ wAll := wA_s (j := 251) rfl rfl
theorem k_15_104 : (Jvm.Cond.code ({ cls := "StaveHouseModel", name := "moments", desc := "(LStaveHouseModel$Piece;)V" } : Jvm.MethodName) prog_15_method_171_code (5 : Nat) (Option.none : Option Jvm.ClassFile.FieldType)) ∈ wAll := wA_15 (j := 104) rfl rfl
theorem k_15_108 : (Jvm.Cond.methodLink "StaveHouseModel" (1317 : Nat) ({ cls := "StaveHouseModel", name := "between", desc := "(LStaveHouseModel$Piece;)V" } : Jvm.MethodName)) ∈ wAll := wA_15 (j := 108) rfl rfl
theorem k_15_110 : (Jvm.Cond.instanceMethod ({ cls := "StaveHouseModel", name := "between", desc := "(LStaveHouseModel$Piece;)V" } : Jvm.MethodName)) ∈ wAll := wA_15 (j := 110) rfl rfl
theorem ks_252 : (Jvm.Cond.selects "StaveHouseModel" ({ cls := "StaveHouseModel", name := "between", desc := "(LStaveHouseModel$Piece;)V" } : Jvm.MethodName) ({ cls := "StaveHouseModel", name := "between", desc := "(LStaveHouseModel$Piece;)V" } : Jvm.MethodName)) ∈ wAll := wA_s (j := 252) rfl rfl
theorem k_15_111 : (Jvm.Cond.code ({ cls := "StaveHouseModel", name := "between", desc := "(LStaveHouseModel$Piece;)V" } : Jvm.MethodName) prog_15_method_186_code (6 : Nat) (Option.none : Option Jvm.ClassFile.FieldType)) ∈ wAll := wA_15 (j := 111) rfl rfl
theorem W_prog_15_method_202_code_0 : chW prog_15_method_202_code 0 [27, 155, 0, 8, 27, 4, 164, 0, 5, 2, 172, 42, 182, 5, 19, 42, 3, 181, 1, 40, 42, 182, 5, 22, 42, 182, 1, 120, 153, 0, 7, 42, 182, 5, 25, 42] := chW_of (by decide +kernel)
theorem W_prog_15_method_202_code_32 : chW prog_15_method_202_code 32 [182, 5, 25, 42, 182, 1, 120, 154, 0, 16, 42, 180, 1, 100, 16, 16, 42, 180, 1, 103, 104, 96, 172, 3, 61, 28, 42, 180, 0, 44, 180, 1, 48, 162, 0, 65] := chW_of (by decide +kernel)
theorem W_prog_15_method_202_code_64 : chW prog_15_method_202_code 64 [48, 162, 0, 65, 3, 62, 29, 42, 180, 0, 44, 180, 2, 3, 28, 46, 162, 0, 44, 42, 180, 0, 44, 180, 2, 83, 17, 3, 232, 28, 104, 29, 96, 42, 180, 0] := chW_of (by decide +kernel)
theorem W_prog_15_method_202_code_128 : chW prog_15_method_202_code 128 [255, 186, 42, 42, 180, 0, 44, 182, 5, 28, 42, 42, 180, 0, 44, 182, 5, 32, 42, 42, 180, 0, 44, 182, 5, 35, 42, 42, 180, 0, 44, 182, 5, 37, 42, 180] := chW_of (by decide +kernel)
theorem W_prog_15_method_202_code_160 : chW prog_15_method_202_code 160 [5, 37, 42, 180, 0, 44, 3, 181, 3, 91, 42, 180, 0, 44, 3, 181, 3, 147, 42, 180, 0, 44, 3, 181, 3, 150, 42, 180, 0, 44, 3, 181, 3, 161, 42, 180] := chW_of (by decide +kernel)
theorem W_prog_15_method_202_code_192 : chW prog_15_method_202_code 192 [3, 161, 42, 180, 0, 44, 3, 181, 3, 180, 42, 180, 0, 44, 3, 181, 3, 181, 42, 180, 0, 44, 4, 181, 1, 44, 42, 180, 0, 40, 27, 50, 77, 42, 180, 0] := chW_of (by decide +kernel)
theorem W_prog_15_method_202_code_224 : chW prog_15_method_202_code 224 [77, 42, 180, 0, 40, 27, 42, 180, 0, 44, 83, 42, 44, 181, 0, 44, 42, 180, 0, 44, 3, 181, 1, 44, 3, 172] := chW_of (by decide +kernel)
theorem W_prog_15_method_202_code_96 : chW prog_15_method_202_code 96 [96, 42, 180, 0, 52, 42, 180, 0, 44, 180, 2, 83, 17, 3, 232, 28, 104, 29, 96, 46, 46, 79, 132, 3, 1, 167, 255, 205, 132, 2, 1, 167, 255, 186, 42, 42] := chW_of (by decide +kernel)
theorem d_15_202_124 : decode prog_15_method_202_code 124 = .ok (.iinc 2 1, 3) := D_132 W_prog_15_method_202_code_96 28 rfl rfl rfl
theorem d_15_202_118 : decode prog_15_method_202_code 118 = .ok (.iinc 3 1, 3) := D_132 W_prog_15_method_202_code_96 22 rfl rfl rfl
abbrev Q_M_read (D : va_G) (ca : Nat → ClassId) (ad : Nat → Int → Nat → Nat) (L : List Nat) (r : Int) (F : zF) (B : zB) (A : Nat → Prop) : Array Value → State → Outcome → State → Prop := va_Qi (S := Unit) (fun p _ => p = iI r) (fun _ => zPo D ca ad lnM nM L F B A) A
def f_M_read_70 (rec57 : Int → Int → zF → zB → zO) (K : Nat) : Nat → Int → Int → Int → zF → zB → zO
  | 0, _, _, _, _, _ => none
  | n + 1, l3, l2, l1, F, B => if 0 ≤ (F 14 0 6) ∧ (F 14 0 6) < 3 then if 0 ≤ l2 ∧ l2 < 4 then if r32 l3 then if r32 (B 13 (F 14 0 6) 12 l2) then (if (B 13 (F 14 0 6) 12 l2) ≤ l3 then rec57 (l2 + 1) l1 F B else if 0 ≤ ((1000 * l2) + l3) ∧ ((1000 * l2) + l3) < 4000 then if 0 ≤ (B 13 (F 14 0 6) 20 ((1000 * l2) + l3)) ∧ (B 13 (F 14 0 6) 20 ((1000 * l2) + l3)) < 3001 then f_M_read_70 rec57 K n (l3 + 1) l2 l1 F (zup4 B 13 (F 14 0 6) 20 ((1000 * l2) + l3) (B 14 0 8 (B 13 (F 14 0 6) 20 ((1000 * l2) + l3)))) else none else none) else none else none else none else none
set_option maxHeartbeats 4000000 in
set_option maxRecDepth 100000 in
theorem b_M_read_70 {D : va_G} {ca : Nat → ClassId} {ad : Nat → Int → Nat → Nat} {L : List Nat} {aS vS : Nat → Nat} {A : Nat → Prop} {p : Program} {l : Launch} {e : Env} {s : State} {m : MethodId} {args : Array Value} {below : List Frame} {meth : Method} {c : Code} {K : Nat} {r : Int} {F9 : zF} {B9 : zB} (X : zX D ca L aS vS A p s m args meth c prog_15_method_202_code 4 (Option.some Jvm.ClassFile.FieldType.int) "StaveHouseModel") {rec57 : Int → Int → zF → zB → zO} (hrec57 : ∀ {l2 : Int} {l1 : Int} {F : zF} {B : zB} {H : Heap} {locs : List Loc} {ls : Array Slot}, rec57 l2 l1 F B = some (r, F9, B9) → zH D ca ad lnM nM L F B A H → va_S A s.heap H locs → lv_has ls 4 [(2, .int (iI l2)), (0, .ref (ad 14 0 0)), (1, .int (iI l1))] → W p l e ({ frames := 207, cells := 0, slots := 0, locals := 5766 } : Room) s m args below meth c H locs 0 0 (MQ below (Q_M_read D ca ad L r F9 B9 A) args s 0 0 A) (F0 m 57 ls [])) : ∀ {n : Nat} {l3 : Int} {l2 : Int} {l1 : Int} {F : zF} {B : zB} {H : Heap} {locs : List Loc} {ls : Array Slot}, f_M_read_70 rec57 K n l3 l2 l1 F B = some (r, F9, B9) → zH D ca ad lnM nM L F B A H → va_S A s.heap H locs → lv_has ls 4 [(3, .int (iI l3)), (2, .int (iI l2)), (0, .ref (ad 14 0 0)), (1, .int (iI l1))] → W p l e ({ frames := 207, cells := 0, slots := 0, locals := 5766 } : Room) s m args below meth c H locs 0 0 (MQ below (Q_M_read D ca ad L r F9 B9 A) args s 0 0 A) (F0 m 70 ls []) := by
  obtain ⟨hx, hb, hr, hml, hown, hts, hlk, hK, hA, hL, hX⟩ := id X
  intro n
  induction n with
  | zero =>
    intros
    rename_i hf _ _ _
    cases hf
  | succ n ih =>
    intro l3 l2 l1 F B H locs ls hf hZ hS hl
    replace hf : (if 0 ≤ (F 14 0 6) ∧ (F 14 0 6) < 3 then if 0 ≤ l2 ∧ l2 < 4 then if r32 l3 then if r32 (B 13 (F 14 0 6) 12 l2) then (if (B 13 (F 14 0 6) 12 l2) ≤ l3 then rec57 (l2 + 1) l1 F B else if 0 ≤ ((1000 * l2) + l3) ∧ ((1000 * l2) + l3) < 4000 then if 0 ≤ (B 13 (F 14 0 6) 20 ((1000 * l2) + l3)) ∧ (B 13 (F 14 0 6) 20 ((1000 * l2) + l3)) < 3001 then f_M_read_70 rec57 K n (l3 + 1) l2 l1 F (zup4 B 13 (F 14 0 6) 20 ((1000 * l2) + l3) (B 14 0 8 (B 13 (F 14 0 6) 20 ((1000 * l2) + l3)))) else none else none) else none else none else none else none) = some (r, F9, B9) := hf
    refine lv_iload_n hx hb (D_29 W_prog_15_method_202_code_64 6 rfl rfl) rfl (lv_at hl 0 rfl) ?_
    refine lv_aload_n hx hb (D_42 W_prog_15_method_202_code_64 7 rfl rfl) rfl (lv_at hl 2 rfl) ?_
    refine zget (ci := 14) (C := RX14) (T := TX14) (v := va_rf (zrf ad 13 (F 14 0 6))) (k := 6) hx hb hts inW_14 hown hK hZ (by decide) (by decide) rfl (by decide) k_11_4 rfl (D_180 W_prog_15_method_202_code_64 8 rfl rfl rfl) ?_
    obtain ⟨g40, hf⟩ := gif hf
    refine zunrf g40.1 ?_
    refine zget (ci := 13) (C := RX13) (T := TX13) (v := .ref (ad 13 (F 14 0 6) (12 + 1))) (k := 12) hx hb hts inW_13 hown hK hZ g40.1 g40.2 rfl (by decide) k_9_142 rfl (D_180 W_prog_15_method_202_code_64 11 rfl rfl rfl) ?_
    refine lv_iload_n hx hb (D_28 W_prog_15_method_202_code_64 14 rfl rfl) rfl (lv_at hl 1 rfl) ?_
    obtain ⟨g41, hf⟩ := gif hf
    refine zald (ci := 13) (k := 12) hx hb hK rfl hZ g40.1 g40.2 rfl (Nat.le_of_ble_eq_true rfl) g41.1 g41.2 (D_46 W_prog_15_method_202_code_64 15 rfl rfl) ?_
    obtain ⟨g42, hf⟩ := gif hf
    obtain ⟨g43, hf⟩ := gif hf
    refine zge (tgt := 124) hx hb g42 g43 (D_162 W_prog_15_method_202_code_64 16 rfl rfl rfl) (by decide) (fun h44 => ?_) (fun h44 => ?_)
    · replace hf := gpos hf h44
      refine lv_iinc (v := iI (l2 + 1)) (lv' := [(2, .int (iI (l2 + 1))), (3, .int (iI l3)), (0, .ref (ad 14 0 0)), (1, .int (iI l1))]) hx hb d_15_202_124 hl (k := 1) rfl (iI_add _ 1) (by decide) rfl (fun ls hl => ?_)
      refine lv_goto (tgt := 57) hx hb (D_167 W_prog_15_method_202_code_96 31 rfl rfl rfl) (by decide) ?_
      exact hrec57 hf hZ hS (lv_sub hl [0, 2, 3] rfl)
    · replace hf := gneg hf h44
      refine lv_aload_n hx hb (D_42 W_prog_15_method_202_code_64 19 rfl rfl) rfl (lv_at hl 2 rfl) ?_
      refine zget (ci := 14) (C := RX14) (T := TX14) (v := va_rf (zrf ad 13 (F 14 0 6))) (k := 6) hx hb hts inW_14 hown hK hZ (by decide) (by decide) rfl (by decide) k_11_4 rfl (D_180 W_prog_15_method_202_code_64 20 rfl rfl rfl) ?_
      refine zunrf g40.1 ?_
      refine zget (ci := 13) (C := RX13) (T := TX13) (v := .ref (ad 13 (F 14 0 6) (20 + 1))) (k := 20) hx hb hts inW_13 hown hK hZ g40.1 g40.2 rfl (by decide) k_9_158 rfl (D_180 W_prog_15_method_202_code_64 23 rfl rfl rfl) ?_
      refine lv_sipush (v := iI 1000) hx hb (D_17 W_prog_15_method_202_code_64 26 rfl rfl rfl) (by decide) ?_
      refine lv_iload_n hx hb (D_28 W_prog_15_method_202_code_64 29 rfl rfl) rfl (lv_at hl 1 rfl) ?_
      refine zmul hx hb (D_104 W_prog_15_method_202_code_64 30 rfl rfl) ?_
      refine lv_iload_n hx hb (D_29 W_prog_15_method_202_code_64 31 rfl rfl) rfl (lv_at hl 0 rfl) ?_
      refine zadd hx hb (D_96 W_prog_15_method_202_code_96 0 rfl rfl) ?_
      refine lv_aload_n hx hb (D_42 W_prog_15_method_202_code_96 1 rfl rfl) rfl (lv_at hl 2 rfl) ?_
      refine zget (ci := 14) (C := RX14) (T := TX14) (v := .ref (ad 14 0 (8 + 1))) (k := 8) hx hb hts inW_14 hown hK hZ (by decide) (by decide) rfl (by decide) k_11_6 rfl (D_180 W_prog_15_method_202_code_96 2 rfl rfl rfl) ?_
      refine lv_aload_n hx hb (D_42 W_prog_15_method_202_code_96 5 rfl rfl) rfl (lv_at hl 2 rfl) ?_
      refine zget (ci := 14) (C := RX14) (T := TX14) (v := va_rf (zrf ad 13 (F 14 0 6))) (k := 6) hx hb hts inW_14 hown hK hZ (by decide) (by decide) rfl (by decide) k_11_4 rfl (D_180 W_prog_15_method_202_code_96 6 rfl rfl rfl) ?_
      refine zunrf g40.1 ?_
      refine zget (ci := 13) (C := RX13) (T := TX13) (v := .ref (ad 13 (F 14 0 6) (20 + 1))) (k := 20) hx hb hts inW_13 hown hK hZ g40.1 g40.2 rfl (by decide) k_9_158 rfl (D_180 W_prog_15_method_202_code_96 9 rfl rfl rfl) ?_
      refine lv_sipush (v := iI 1000) hx hb (D_17 W_prog_15_method_202_code_96 12 rfl rfl rfl) (by decide) ?_
      refine lv_iload_n hx hb (D_28 W_prog_15_method_202_code_96 15 rfl rfl) rfl (lv_at hl 1 rfl) ?_
      refine zmul hx hb (D_104 W_prog_15_method_202_code_96 16 rfl rfl) ?_
      refine lv_iload_n hx hb (D_29 W_prog_15_method_202_code_96 17 rfl rfl) rfl (lv_at hl 0 rfl) ?_
      refine zadd hx hb (D_96 W_prog_15_method_202_code_96 18 rfl rfl) ?_
      obtain ⟨g45, hf⟩ := gif hf
      refine zald (ci := 13) (k := 20) hx hb hK rfl hZ g40.1 g40.2 rfl (Nat.le_of_ble_eq_true rfl) g45.1 g45.2 (D_46 W_prog_15_method_202_code_96 19 rfl rfl) ?_
      obtain ⟨g46, hf⟩ := gif hf
      refine zald (ci := 14) (k := 8) hx hb hK rfl hZ (by decide) (by decide) rfl (Nat.le_of_ble_eq_true rfl) g46.1 g46.2 (D_46 W_prog_15_method_202_code_96 20 rfl rfl) ?_
      refine zast (ci := 13) (k := 20) hx hb hK rfl hZ hS g40.1 g40.2 rfl (Nat.le_of_ble_eq_true rfl) g45.1 g45.2 (D_79 W_prog_15_method_202_code_96 21 rfl rfl) (fun H47 locs47 hZ47 hS47 => ?_)
      refine lv_iinc (v := iI (l3 + 1)) (lv' := [(3, .int (iI (l3 + 1))), (2, .int (iI l2)), (0, .ref (ad 14 0 0)), (1, .int (iI l1))]) hx hb d_15_202_118 hl (k := 0) rfl (iI_add _ 1) (by decide) rfl (fun ls hl => ?_)
      refine lv_goto (tgt := 70) hx hb (D_167 W_prog_15_method_202_code_96 25 rfl rfl rfl) (by decide) ?_
      exact ih hf hZ47 hS47 (lv_sub hl [0, 1, 2, 3] rfl)

def f_M_read_57 (K : Nat) : Nat → Int → Int → zF → zB → zO
  | 0, _, _, _, _ => none
  | n + 1, l2, l1, F, B => if 0 ≤ (F 14 0 6) ∧ (F 14 0 6) < 3 then if r32 l2 then if r32 (F 13 (F 14 0 6) 1) then (if (F 13 (F 14 0 6) 1) ≤ l2 then zbind (f_M_staves K (F 14 0 6) F B) (fun r18 F18 B18 => if 0 ≤ (F18 14 0 6) ∧ (F18 14 0 6) < 3 then zbind (f_M_columns K (F18 14 0 6) F18 B18) (fun r20 F20 B20 => if 0 ≤ (F20 14 0 6) ∧ (F20 14 0 6) < 3 then zbind (f_M_moments K (F20 14 0 6) F20 B20) (fun r22 F22 B22 => if 0 ≤ (F22 14 0 6) ∧ (F22 14 0 6) < 3 then zbind (f_M_between_0 K (F22 14 0 6) F22 B22) (fun r24 F24 B24 => if 0 ≤ (F24 14 0 6) ∧ (F24 14 0 6) < 3 then if 0 ≤ l1 ∧ l1 < 2 then if (B24 14 0 5 l1) < 3 then if 0 ≤ (B24 14 0 5 l1) ∧ (B24 14 0 5 l1) < 3 then some (0, (zup3 (zup3 (zup3 (zup3 (zup3 (zup3 (zup3 (zup3 (zup3 F24 13 (F24 14 0 6) 48 0) 13 (F24 14 0 6) 53 0) 13 (F24 14 0 6) 54 0) 13 (F24 14 0 6) 60 0) 13 (F24 14 0 6) 65 0) 13 (F24 14 0 6) 66 0) 13 (F24 14 0 6) 0 1) 14 0 6 (B24 14 0 5 l1)) 13 (B24 14 0 5 l1) 0 0), (zup4 B24 14 0 5 l1 (F24 14 0 6))) else none else none else none else none) else none) else none) else none) else f_M_read_70 (f_M_read_57 K n) K K 0 l2 l1 F B) else none else none else none
set_option maxHeartbeats 4000000 in
set_option maxRecDepth 100000 in
theorem b_M_read_57 {D : va_G} {ca : Nat → ClassId} {ad : Nat → Int → Nat → Nat} {L : List Nat} {aS vS : Nat → Nat} {A : Nat → Prop} {p : Program} {l : Launch} {e : Env} {s : State} {m : MethodId} {args : Array Value} {below : List Frame} {meth : Method} {c : Code} {K : Nat} {r : Int} {F9 : zF} {B9 : zB} (X : zX D ca L aS vS A p s m args meth c prog_15_method_202_code 4 (Option.some Jvm.ClassFile.FieldType.int) "StaveHouseModel") : ∀ {n : Nat} {l2 : Int} {l1 : Int} {F : zF} {B : zB} {H : Heap} {locs : List Loc} {ls : Array Slot}, f_M_read_57 K n l2 l1 F B = some (r, F9, B9) → zH D ca ad lnM nM L F B A H → va_S A s.heap H locs → lv_has ls 4 [(2, .int (iI l2)), (0, .ref (ad 14 0 0)), (1, .int (iI l1))] → W p l e ({ frames := 207, cells := 0, slots := 0, locals := 5766 } : Room) s m args below meth c H locs 0 0 (MQ below (Q_M_read D ca ad L r F9 B9 A) args s 0 0 A) (F0 m 57 ls []) := by
  obtain ⟨hx, hb, hr, hml, hown, hts, hlk, hK, hA, hL, hX⟩ := id X
  intro n
  induction n with
  | zero =>
    intros
    rename_i hf _ _ _
    cases hf
  | succ n ih =>
    intro l2 l1 F B H locs ls hf hZ hS hl
    replace hf : (if 0 ≤ (F 14 0 6) ∧ (F 14 0 6) < 3 then if r32 l2 then if r32 (F 13 (F 14 0 6) 1) then (if (F 13 (F 14 0 6) 1) ≤ l2 then zbind (f_M_staves K (F 14 0 6) F B) (fun r18 F18 B18 => if 0 ≤ (F18 14 0 6) ∧ (F18 14 0 6) < 3 then zbind (f_M_columns K (F18 14 0 6) F18 B18) (fun r20 F20 B20 => if 0 ≤ (F20 14 0 6) ∧ (F20 14 0 6) < 3 then zbind (f_M_moments K (F20 14 0 6) F20 B20) (fun r22 F22 B22 => if 0 ≤ (F22 14 0 6) ∧ (F22 14 0 6) < 3 then zbind (f_M_between_0 K (F22 14 0 6) F22 B22) (fun r24 F24 B24 => if 0 ≤ (F24 14 0 6) ∧ (F24 14 0 6) < 3 then if 0 ≤ l1 ∧ l1 < 2 then if (B24 14 0 5 l1) < 3 then if 0 ≤ (B24 14 0 5 l1) ∧ (B24 14 0 5 l1) < 3 then some (0, (zup3 (zup3 (zup3 (zup3 (zup3 (zup3 (zup3 (zup3 (zup3 F24 13 (F24 14 0 6) 48 0) 13 (F24 14 0 6) 53 0) 13 (F24 14 0 6) 54 0) 13 (F24 14 0 6) 60 0) 13 (F24 14 0 6) 65 0) 13 (F24 14 0 6) 66 0) 13 (F24 14 0 6) 0 1) 14 0 6 (B24 14 0 5 l1)) 13 (B24 14 0 5 l1) 0 0), (zup4 B24 14 0 5 l1 (F24 14 0 6))) else none else none else none else none) else none) else none) else none) else f_M_read_70 (f_M_read_57 K n) K K 0 l2 l1 F B) else none else none else none) = some (r, F9, B9) := hf
    refine lv_iload_n hx hb (D_28 W_prog_15_method_202_code_32 25 rfl rfl) rfl (lv_at hl 0 rfl) ?_
    refine lv_aload_n hx hb (D_42 W_prog_15_method_202_code_32 26 rfl rfl) rfl (lv_at hl 1 rfl) ?_
    refine zget (ci := 14) (C := RX14) (T := TX14) (v := va_rf (zrf ad 13 (F 14 0 6))) (k := 6) hx hb hts inW_14 hown hK hZ (by decide) (by decide) rfl (by decide) k_11_4 rfl (D_180 W_prog_15_method_202_code_32 27 rfl rfl rfl) ?_
    obtain ⟨g14, hf⟩ := gif hf
    refine zunrf g14.1 ?_
    refine zget (ci := 13) (C := RX13) (T := TX13) (v := .int (iI (F 13 (F 14 0 6) 1))) (k := 1) hx hb hts inW_13 hown hK hZ g14.1 g14.2 rfl (by decide) k_9_126 rfl (D_180 W_prog_15_method_202_code_32 30 rfl rfl rfl) ?_
    obtain ⟨g15, hf⟩ := gif hf
    obtain ⟨g16, hf⟩ := gif hf
    refine zge (tgt := 130) hx hb g15 g16 (D_162 W_prog_15_method_202_code_64 1 rfl rfl rfl) (by decide) (fun h17 => ?_) (fun h17 => ?_)
    · replace hf := gpos hf h17
      refine lv_aload_n hx hb (D_42 W_prog_15_method_202_code_128 2 rfl rfl) rfl (lv_at hl 1 rfl) ?_
      refine lv_aload_n hx hb (D_42 W_prog_15_method_202_code_128 3 rfl rfl) rfl (lv_at hl 1 rfl) ?_
      refine zget (ci := 14) (C := RX14) (T := TX14) (v := va_rf (zrf ad 13 (F 14 0 6))) (k := 6) hx hb hts inW_14 hown hK hZ (by decide) (by decide) rfl (by decide) k_11_4 rfl (D_180 W_prog_15_method_202_code_128 4 rfl rfl rfl) ?_
      refine W.eq (g2 := F0 m 135 ls [.ref (ad 13 (F 14 0 6) 0), .ref (ad 14 0 0)]) (by rw [zrf_pos (ad := ad) (t := 13) g14.1]; try rfl) ?_
      obtain ⟨r18, F18, B18, hc18, hf⟩ := gbind hf
      refine va_callv (va_runV (As := [.ref (ad 13 (F 14 0 6) 0)]) (rest := []) ⟨hx, hb, hml, hown, hts⟩ (c_M_staves (l := l) hc18) (cwV 1 hts (gdV k_15_48 k_15_50 ks_240 k_1_9 k_15_51) rfl rfl rfl (by decide +kernel) ⟨Nat.le_of_ble_eq_true rfl, Nat.le_of_ble_eq_true rfl⟩) (zPV X hZ hS (ci := 14) (by decide) (by decide) (r := (RX14, TX14, 107)) rfl [.ref (ad 13 (F 14 0 6) 0)]) rfl rfl hl.1 rfl (lv_room (Nat.le_of_ble_eq_true rfl)) (D_182 W_prog_15_method_202_code_128 7 rfl rfl rfl) ⟨Nat.le_of_ble_eq_true rfl, Nat.le_of_ble_eq_true rfl⟩) hS (fun q _ h => zAin X hS q h) (zAin X hS) (fun u18 t18 H18 locs18 ht18 hv18 hw18 hB18 hz18 hk18 hS18 => ?_)
      have hZ18 := zBack X ht18 hB18
      refine lv_aload_n hx hb (D_42 W_prog_15_method_202_code_128 10 rfl rfl) rfl (lv_at hl 1 rfl) ?_
      refine lv_aload_n hx hb (D_42 W_prog_15_method_202_code_128 11 rfl rfl) rfl (lv_at hl 1 rfl) ?_
      refine zget (ci := 14) (C := RX14) (T := TX14) (v := va_rf (zrf ad 13 (F18 14 0 6))) (k := 6) hx hb hts inW_14 hown hK hZ18 (by decide) (by decide) rfl (by decide) k_11_4 rfl (D_180 W_prog_15_method_202_code_128 12 rfl rfl rfl) ?_
      obtain ⟨g19, hf⟩ := gif hf
      refine W.eq (g2 := F0 m 143 ls [.ref (ad 13 (F18 14 0 6) 0), .ref (ad 14 0 0)]) (by rw [zrf_pos (ad := ad) (t := 13) g19.1]; try rfl) ?_
      obtain ⟨r20, F20, B20, hc20, hf⟩ := gbind hf
      refine va_callv (va_runV (As := [.ref (ad 13 (F18 14 0 6) 0)]) (rest := []) ⟨hx, hb, hml, hown, hts⟩ (c_M_columns (l := l) hc20) (cwV 1 hts (gdV k_15_89 k_15_91 ks_248 k_1_9 k_15_92) rfl rfl rfl (by decide +kernel) ⟨Nat.le_of_ble_eq_true rfl, Nat.le_of_ble_eq_true rfl⟩) (zPV X hZ18 hS18 (ci := 14) (by decide) (by decide) (r := (RX14, TX14, 107)) rfl [.ref (ad 13 (F18 14 0 6) 0)]) rfl rfl hl.1 rfl (lv_room (Nat.le_of_ble_eq_true rfl)) (D_182 W_prog_15_method_202_code_128 15 rfl rfl rfl) ⟨Nat.le_of_ble_eq_true rfl, Nat.le_of_ble_eq_true rfl⟩) hS18 (fun q _ h => zAin X hS18 q h) (zAin X hS18) (fun u20 t20 H20 locs20 ht20 hv20 hw20 hB20 hz20 hk20 hS20 => ?_)
      have hZ20 := zBack X ht20 hB20
      refine lv_aload_n hx hb (D_42 W_prog_15_method_202_code_128 18 rfl rfl) rfl (lv_at hl 1 rfl) ?_
      refine lv_aload_n hx hb (D_42 W_prog_15_method_202_code_128 19 rfl rfl) rfl (lv_at hl 1 rfl) ?_
      refine zget (ci := 14) (C := RX14) (T := TX14) (v := va_rf (zrf ad 13 (F20 14 0 6))) (k := 6) hx hb hts inW_14 hown hK hZ20 (by decide) (by decide) rfl (by decide) k_11_4 rfl (D_180 W_prog_15_method_202_code_128 20 rfl rfl rfl) ?_
      obtain ⟨g21, hf⟩ := gif hf
      refine W.eq (g2 := F0 m 151 ls [.ref (ad 13 (F20 14 0 6) 0), .ref (ad 14 0 0)]) (by rw [zrf_pos (ad := ad) (t := 13) g21.1]; try rfl) ?_
      obtain ⟨r22, F22, B22, hc22, hf⟩ := gbind hf
      refine va_callv (va_runV (As := [.ref (ad 13 (F20 14 0 6) 0)]) (rest := []) ⟨hx, hb, hml, hown, hts⟩ (c_M_moments (l := l) hc22) (cwV 1 hts (gdV k_15_101 k_15_103 ks_251 k_1_9 k_15_104) rfl rfl rfl (by decide +kernel) ⟨Nat.le_of_ble_eq_true rfl, Nat.le_of_ble_eq_true rfl⟩) (zPV X hZ20 hS20 (ci := 14) (by decide) (by decide) (r := (RX14, TX14, 107)) rfl [.ref (ad 13 (F20 14 0 6) 0)]) rfl rfl hl.1 rfl (lv_room (Nat.le_of_ble_eq_true rfl)) (D_182 W_prog_15_method_202_code_128 23 rfl rfl rfl) ⟨Nat.le_of_ble_eq_true rfl, Nat.le_of_ble_eq_true rfl⟩) hS20 (fun q _ h => zAin X hS20 q h) (zAin X hS20) (fun u22 t22 H22 locs22 ht22 hv22 hw22 hB22 hz22 hk22 hS22 => ?_)
      have hZ22 := zBack X ht22 hB22
      refine lv_aload_n hx hb (D_42 W_prog_15_method_202_code_128 26 rfl rfl) rfl (lv_at hl 1 rfl) ?_
      refine lv_aload_n hx hb (D_42 W_prog_15_method_202_code_128 27 rfl rfl) rfl (lv_at hl 1 rfl) ?_
      refine zget (ci := 14) (C := RX14) (T := TX14) (v := va_rf (zrf ad 13 (F22 14 0 6))) (k := 6) hx hb hts inW_14 hown hK hZ22 (by decide) (by decide) rfl (by decide) k_11_4 rfl (D_180 W_prog_15_method_202_code_128 28 rfl rfl rfl) ?_
      obtain ⟨g23, hf⟩ := gif hf
      refine W.eq (g2 := F0 m 159 ls [.ref (ad 13 (F22 14 0 6) 0), .ref (ad 14 0 0)]) (by rw [zrf_pos (ad := ad) (t := 13) g23.1]; try rfl) ?_
      obtain ⟨r24, F24, B24, hc24, hf⟩ := gbind hf
      refine va_callv (va_runV (As := [.ref (ad 13 (F22 14 0 6) 0)]) (rest := []) ⟨hx, hb, hml, hown, hts⟩ (c_M_between_0 (l := l) hc24) (cwV 1 hts (gdV k_15_108 k_15_110 ks_252 k_1_9 k_15_111) rfl rfl rfl (by decide +kernel) ⟨Nat.le_of_ble_eq_true rfl, Nat.le_of_ble_eq_true rfl⟩) (zPV X hZ22 hS22 (ci := 14) (by decide) (by decide) (r := (RX14, TX14, 107)) rfl [.ref (ad 13 (F22 14 0 6) 0)]) rfl rfl hl.1 rfl (lv_room (Nat.le_of_ble_eq_true rfl)) (D_182 W_prog_15_method_202_code_128 31 rfl rfl rfl) ⟨Nat.le_of_ble_eq_true rfl, Nat.le_of_ble_eq_true rfl⟩) hS22 (fun q _ h => zAin X hS22 q h) (zAin X hS22) (fun u24 t24 H24 locs24 ht24 hv24 hw24 hB24 hz24 hk24 hS24 => ?_)
      have hZ24 := zBack X ht24 hB24
      refine lv_aload_n hx hb (D_42 W_prog_15_method_202_code_160 2 rfl rfl) rfl (lv_at hl 1 rfl) ?_
      refine zget (ci := 14) (C := RX14) (T := TX14) (v := va_rf (zrf ad 13 (F24 14 0 6))) (k := 6) hx hb hts inW_14 hown hK hZ24 (by decide) (by decide) rfl (by decide) k_11_4 rfl (D_180 W_prog_15_method_202_code_160 3 rfl rfl rfl) ?_
      refine lv_iconst (v := iI 0) hx hb (D_3 W_prog_15_method_202_code_160 6 rfl rfl) rfl ?_
      obtain ⟨g25, hf⟩ := gif hf
      refine W.eq (g2 := F0 m 167 ls [.int (iI 0), .ref (ad 13 (F24 14 0 6) 0)]) (by rw [zrf_pos (ad := ad) (t := 13) g25.1]; try rfl) ?_
      refine zput (ci := 13) (C := RX13) (T := TX13) (k := 48) (v := 0) (w := .int (iI 0)) hx hb hts inW_13 tyX13 tyX13_ok nmX13 hown hK hZ24 hS24 g25.1 g25.2 rfl (by decide) k_9_212 rfl (fun G h => congrArg (fun q => Value.int (iI q)) h) rfl rfl (zno (by decide)) (D_181 W_prog_15_method_202_code_160 7 rfl rfl rfl) (fun H26 locs26 hZ26 hS26 => ?_)
      refine lv_aload_n hx hb (D_42 W_prog_15_method_202_code_160 10 rfl rfl) rfl (lv_at hl 1 rfl) ?_
      refine zget (ci := 14) (C := RX14) (T := TX14) (v := va_rf (zrf ad 13 (F24 14 0 6))) (k := 6) hx hb hts inW_14 hown hK hZ26 (by decide) (by decide) rfl (by decide) k_11_4 (congrArg (fun q : Int => va_rf (zrf ad 13 q)) (show (zup3 F24 13 (F24 14 0 6) 48 0) 14 0 6 = F24 14 0 6 by simp [zup3])) (D_180 W_prog_15_method_202_code_160 11 rfl rfl rfl) ?_
      refine lv_iconst (v := iI 0) hx hb (D_3 W_prog_15_method_202_code_160 14 rfl rfl) rfl ?_
      refine W.eq (g2 := F0 m 175 ls [.int (iI 0), .ref (ad 13 (F24 14 0 6) 0)]) (by rw [zrf_pos (ad := ad) (t := 13) g25.1]; try rfl) ?_
      refine zput (ci := 13) (C := RX13) (T := TX13) (k := 53) (v := 0) (w := .int (iI 0)) hx hb hts inW_13 tyX13 tyX13_ok nmX13 hown hK hZ26 hS26 g25.1 g25.2 rfl (by decide) k_9_221 rfl (fun G h => congrArg (fun q => Value.int (iI q)) h) rfl rfl (zno (by decide)) (D_181 W_prog_15_method_202_code_160 15 rfl rfl rfl) (fun H27 locs27 hZ27 hS27 => ?_)
      refine lv_aload_n hx hb (D_42 W_prog_15_method_202_code_160 18 rfl rfl) rfl (lv_at hl 1 rfl) ?_
      refine zget (ci := 14) (C := RX14) (T := TX14) (v := va_rf (zrf ad 13 (F24 14 0 6))) (k := 6) hx hb hts inW_14 hown hK hZ27 (by decide) (by decide) rfl (by decide) k_11_4 (congrArg (fun q : Int => va_rf (zrf ad 13 q)) (show (zup3 (zup3 F24 13 (F24 14 0 6) 48 0) 13 (F24 14 0 6) 53 0) 14 0 6 = F24 14 0 6 by simp [zup3])) (D_180 W_prog_15_method_202_code_160 19 rfl rfl rfl) ?_
      refine lv_iconst (v := iI 0) hx hb (D_3 W_prog_15_method_202_code_160 22 rfl rfl) rfl ?_
      refine W.eq (g2 := F0 m 183 ls [.int (iI 0), .ref (ad 13 (F24 14 0 6) 0)]) (by rw [zrf_pos (ad := ad) (t := 13) g25.1]; try rfl) ?_
      refine zput (ci := 13) (C := RX13) (T := TX13) (k := 54) (v := 0) (w := .int (iI 0)) hx hb hts inW_13 tyX13 tyX13_ok nmX13 hown hK hZ27 hS27 g25.1 g25.2 rfl (by decide) k_9_222 rfl (fun G h => congrArg (fun q => Value.int (iI q)) h) rfl rfl (zno (by decide)) (D_181 W_prog_15_method_202_code_160 23 rfl rfl rfl) (fun H28 locs28 hZ28 hS28 => ?_)
      refine lv_aload_n hx hb (D_42 W_prog_15_method_202_code_160 26 rfl rfl) rfl (lv_at hl 1 rfl) ?_
      refine zget (ci := 14) (C := RX14) (T := TX14) (v := va_rf (zrf ad 13 (F24 14 0 6))) (k := 6) hx hb hts inW_14 hown hK hZ28 (by decide) (by decide) rfl (by decide) k_11_4 (congrArg (fun q : Int => va_rf (zrf ad 13 q)) (show (zup3 (zup3 (zup3 F24 13 (F24 14 0 6) 48 0) 13 (F24 14 0 6) 53 0) 13 (F24 14 0 6) 54 0) 14 0 6 = F24 14 0 6 by simp [zup3])) (D_180 W_prog_15_method_202_code_160 27 rfl rfl rfl) ?_
      refine lv_iconst (v := iI 0) hx hb (D_3 W_prog_15_method_202_code_160 30 rfl rfl) rfl ?_
      refine W.eq (g2 := F0 m 191 ls [.int (iI 0), .ref (ad 13 (F24 14 0 6) 0)]) (by rw [zrf_pos (ad := ad) (t := 13) g25.1]; try rfl) ?_
      refine zput (ci := 13) (C := RX13) (T := TX13) (k := 60) (v := 0) (w := .int (iI 0)) hx hb hts inW_13 tyX13 tyX13_ok nmX13 hown hK hZ28 hS28 g25.1 g25.2 rfl (by decide) k_9_233 rfl (fun G h => congrArg (fun q => Value.int (iI q)) h) rfl rfl (zno (by decide)) (D_181 W_prog_15_method_202_code_160 31 rfl rfl rfl) (fun H29 locs29 hZ29 hS29 => ?_)
      refine lv_aload_n hx hb (D_42 W_prog_15_method_202_code_192 2 rfl rfl) rfl (lv_at hl 1 rfl) ?_
      refine zget (ci := 14) (C := RX14) (T := TX14) (v := va_rf (zrf ad 13 (F24 14 0 6))) (k := 6) hx hb hts inW_14 hown hK hZ29 (by decide) (by decide) rfl (by decide) k_11_4 (congrArg (fun q : Int => va_rf (zrf ad 13 q)) (show (zup3 (zup3 (zup3 (zup3 F24 13 (F24 14 0 6) 48 0) 13 (F24 14 0 6) 53 0) 13 (F24 14 0 6) 54 0) 13 (F24 14 0 6) 60 0) 14 0 6 = F24 14 0 6 by simp [zup3])) (D_180 W_prog_15_method_202_code_192 3 rfl rfl rfl) ?_
      refine lv_iconst (v := iI 0) hx hb (D_3 W_prog_15_method_202_code_192 6 rfl rfl) rfl ?_
      refine W.eq (g2 := F0 m 199 ls [.int (iI 0), .ref (ad 13 (F24 14 0 6) 0)]) (by rw [zrf_pos (ad := ad) (t := 13) g25.1]; try rfl) ?_
      refine zput (ci := 13) (C := RX13) (T := TX13) (k := 65) (v := 0) (w := .int (iI 0)) hx hb hts inW_13 tyX13 tyX13_ok nmX13 hown hK hZ29 hS29 g25.1 g25.2 rfl (by decide) k_10_2 rfl (fun G h => congrArg (fun q => Value.int (iI q)) h) rfl rfl (zno (by decide)) (D_181 W_prog_15_method_202_code_192 7 rfl rfl rfl) (fun H30 locs30 hZ30 hS30 => ?_)
      refine lv_aload_n hx hb (D_42 W_prog_15_method_202_code_192 10 rfl rfl) rfl (lv_at hl 1 rfl) ?_
      refine zget (ci := 14) (C := RX14) (T := TX14) (v := va_rf (zrf ad 13 (F24 14 0 6))) (k := 6) hx hb hts inW_14 hown hK hZ30 (by decide) (by decide) rfl (by decide) k_11_4 (congrArg (fun q : Int => va_rf (zrf ad 13 q)) (show (zup3 (zup3 (zup3 (zup3 (zup3 F24 13 (F24 14 0 6) 48 0) 13 (F24 14 0 6) 53 0) 13 (F24 14 0 6) 54 0) 13 (F24 14 0 6) 60 0) 13 (F24 14 0 6) 65 0) 14 0 6 = F24 14 0 6 by simp [zup3])) (D_180 W_prog_15_method_202_code_192 11 rfl rfl rfl) ?_
      refine lv_iconst (v := iI 0) hx hb (D_3 W_prog_15_method_202_code_192 14 rfl rfl) rfl ?_
      refine W.eq (g2 := F0 m 207 ls [.int (iI 0), .ref (ad 13 (F24 14 0 6) 0)]) (by rw [zrf_pos (ad := ad) (t := 13) g25.1]; try rfl) ?_
      refine zput (ci := 13) (C := RX13) (T := TX13) (k := 66) (v := 0) (w := .int (iI 0)) hx hb hts inW_13 tyX13 tyX13_ok nmX13 hown hK hZ30 hS30 g25.1 g25.2 rfl (by decide) k_10_3 rfl (fun G h => congrArg (fun q => Value.int (iI q)) h) rfl rfl (zno (by decide)) (D_181 W_prog_15_method_202_code_192 15 rfl rfl rfl) (fun H31 locs31 hZ31 hS31 => ?_)
      refine lv_aload_n hx hb (D_42 W_prog_15_method_202_code_192 18 rfl rfl) rfl (lv_at hl 1 rfl) ?_
      refine zget (ci := 14) (C := RX14) (T := TX14) (v := va_rf (zrf ad 13 (F24 14 0 6))) (k := 6) hx hb hts inW_14 hown hK hZ31 (by decide) (by decide) rfl (by decide) k_11_4 (congrArg (fun q : Int => va_rf (zrf ad 13 q)) (show (zup3 (zup3 (zup3 (zup3 (zup3 (zup3 F24 13 (F24 14 0 6) 48 0) 13 (F24 14 0 6) 53 0) 13 (F24 14 0 6) 54 0) 13 (F24 14 0 6) 60 0) 13 (F24 14 0 6) 65 0) 13 (F24 14 0 6) 66 0) 14 0 6 = F24 14 0 6 by simp [zup3])) (D_180 W_prog_15_method_202_code_192 19 rfl rfl rfl) ?_
      refine lv_iconst (v := iI 1) hx hb (D_4 W_prog_15_method_202_code_192 22 rfl rfl) rfl ?_
      refine W.eq (g2 := F0 m 215 ls [.int (iI 1), .ref (ad 13 (F24 14 0 6) 0)]) (by rw [zrf_pos (ad := ad) (t := 13) g25.1]; try rfl) ?_
      refine zput (ci := 13) (C := RX13) (T := TX13) (k := 0) (v := 1) (w := .int (iI 1)) hx hb hts inW_13 tyX13 tyX13_ok nmX13 hown hK hZ31 hS31 g25.1 g25.2 rfl (by decide) k_9_125 rfl (fun G h => congrArg (fun q => Value.int (iI q)) h) rfl rfl (zno (by decide)) (D_181 W_prog_15_method_202_code_192 23 rfl rfl rfl) (fun H33 locs33 hZ33 hS33 => ?_)
      refine lv_aload_n hx hb (D_42 W_prog_15_method_202_code_192 26 rfl rfl) rfl (lv_at hl 1 rfl) ?_
      refine zget (ci := 14) (C := RX14) (T := TX14) (v := .ref (ad 14 0 (5 + 1))) (k := 5) hx hb hts inW_14 hown hK hZ33 (by decide) (by decide) rfl (by decide) k_11_3 rfl (D_180 W_prog_15_method_202_code_192 27 rfl rfl rfl) ?_
      refine lv_iload_n hx hb (D_27 W_prog_15_method_202_code_192 30 rfl rfl) rfl (lv_at hl 2 rfl) ?_
      obtain ⟨g34, hf⟩ := gif hf
      refine zaldR (t := 13) (x := 5) (ci := 14) (k := 5) hx hb hK rfl rfl hZ33 (by decide) (by decide) rfl (Nat.le_of_ble_eq_true rfl) g34.1 g34.2 (D_50 W_prog_15_method_202_code_192 31 rfl rfl) ?_
      refine zastore_n (lv' := [(0, .ref (ad 14 0 0)), (1, .int (iI l1))]) hx hb (D_77 W_prog_15_method_202_code_224 0 rfl rfl) rfl hl (by decide) (fun _ _ => rfl) (fun ls hl => ?_)
      refine lv_aload_n hx hb (D_42 W_prog_15_method_202_code_224 1 rfl rfl) rfl (lv_at hl 1 rfl) ?_
      refine zget (ci := 14) (C := RX14) (T := TX14) (v := .ref (ad 14 0 (5 + 1))) (k := 5) hx hb hts inW_14 hown hK hZ33 (by decide) (by decide) rfl (by decide) k_11_3 rfl (D_180 W_prog_15_method_202_code_224 2 rfl rfl rfl) ?_
      refine lv_iload_n hx hb (D_27 W_prog_15_method_202_code_224 5 rfl rfl) rfl (lv_at hl 2 rfl) ?_
      refine lv_aload_n hx hb (D_42 W_prog_15_method_202_code_224 6 rfl rfl) rfl (lv_at hl 1 rfl) ?_
      refine zget (ci := 14) (C := RX14) (T := TX14) (v := va_rf (zrf ad 13 (F24 14 0 6))) (k := 6) hx hb hts inW_14 hown hK hZ33 (by decide) (by decide) rfl (by decide) k_11_4 (congrArg (fun q : Int => va_rf (zrf ad 13 q)) (show (zup3 (zup3 (zup3 (zup3 (zup3 (zup3 (zup3 F24 13 (F24 14 0 6) 48 0) 13 (F24 14 0 6) 53 0) 13 (F24 14 0 6) 54 0) 13 (F24 14 0 6) 60 0) 13 (F24 14 0 6) 65 0) 13 (F24 14 0 6) 66 0) 13 (F24 14 0 6) 0 1) 14 0 6 = F24 14 0 6 by simp [zup3])) (D_180 W_prog_15_method_202_code_224 7 rfl rfl rfl) ?_
      refine W.eq (g2 := F0 m 234 ls [.ref (ad 13 (F24 14 0 6) 0), .int (iI l1), .ref (ad 14 0 (5 + 1))]) (by rw [zrf_pos (ad := ad) (t := 13) g25.1]; try rfl) ?_
      refine zastR (t := 13) (x := 5) (r := (RX13, TX13, 81)) (ci := 14) (k := 5) hx hb hK rfl rfl rfl hZ33 hS33 (by decide) (by decide) rfl (Nat.le_of_ble_eq_true rfl) g25.1 g25.2 g34.1 g34.2 (D_83 W_prog_15_method_202_code_224 10 rfl rfl) (fun H35 locs35 hZ35 hS35 => ?_)
      refine lv_aload_n hx hb (D_42 W_prog_15_method_202_code_224 11 rfl rfl) rfl (lv_at hl 1 rfl) ?_
      refine zaload_n hx hb (D_44 W_prog_15_method_202_code_224 12 rfl rfl) rfl (lv_at hl 0 rfl) ?_
      obtain ⟨g37, hf⟩ := gif hf
      refine zput (ci := 14) (C := RX14) (T := TX14) (k := 6) (v := (B24 14 0 5 l1)) (w := va_rf (zrf ad 13 (B24 14 0 5 l1))) hx hb hts inW_14 tyX14 tyX14_ok nmX14 hown hK hZ35 hS35 (by decide) (by decide) rfl (by decide) k_11_4 rfl (fun G h => congrArg (fun q => va_rf (zrf ad 13 q)) h) (zrf_nar rfl _) (zrf_fit rfl _) (zyes (t0 := 13) rfl g37) (D_181 W_prog_15_method_202_code_224 13 rfl rfl rfl) (fun H36 locs36 hZ36 hS36 => ?_)
      refine lv_aload_n hx hb (D_42 W_prog_15_method_202_code_224 16 rfl rfl) rfl (lv_at hl 1 rfl) ?_
      refine zget (ci := 14) (C := RX14) (T := TX14) (v := va_rf (zrf ad 13 (B24 14 0 5 l1))) (k := 6) hx hb hts inW_14 hown hK hZ36 (by decide) (by decide) rfl (by decide) k_11_4 (congrArg (fun q : Int => va_rf (zrf ad 13 q)) (show (zup3 (zup3 (zup3 (zup3 (zup3 (zup3 (zup3 (zup3 F24 13 (F24 14 0 6) 48 0) 13 (F24 14 0 6) 53 0) 13 (F24 14 0 6) 54 0) 13 (F24 14 0 6) 60 0) 13 (F24 14 0 6) 65 0) 13 (F24 14 0 6) 66 0) 13 (F24 14 0 6) 0 1) 14 0 6 (B24 14 0 5 l1)) 14 0 6 = B24 14 0 5 l1 by simp [zup3])) (D_180 W_prog_15_method_202_code_224 17 rfl rfl rfl) ?_
      refine lv_iconst (v := iI 0) hx hb (D_3 W_prog_15_method_202_code_224 20 rfl rfl) rfl ?_
      obtain ⟨g38, hf⟩ := gif hf
      refine W.eq (g2 := F0 m 245 ls [.int (iI 0), .ref (ad 13 (B24 14 0 5 l1) 0)]) (by rw [zrf_pos (ad := ad) (t := 13) g38.1]; try rfl) ?_
      refine zput (ci := 13) (C := RX13) (T := TX13) (k := 0) (v := 0) (w := .int (iI 0)) hx hb hts inW_13 tyX13 tyX13_ok nmX13 hown hK hZ36 hS36 g38.1 g38.2 rfl (by decide) k_9_125 rfl (fun G h => congrArg (fun q => Value.int (iI q)) h) rfl rfl (zno (by decide)) (D_181 W_prog_15_method_202_code_224 21 rfl rfl rfl) (fun H39 locs39 hZ39 hS39 => ?_)
      refine lv_iconst (v := iI 0) hx hb (D_3 W_prog_15_method_202_code_224 24 rfl rfl) rfl ?_
      cases hf
      exact W.iret hx hb hr (fun t ht hW => ⟨⟨_, (), rfl, rfl, by rw [ht]; exact hZ39, va_K.moved hW.alike hK⟩, hS39.F ht⟩) hS39.2.2 (D_172 W_prog_15_method_202_code_224 25 rfl rfl) hlk
    · replace hf := gneg hf h17
      refine lv_iconst (v := iI 0) hx hb (D_3 W_prog_15_method_202_code_64 4 rfl rfl) rfl ?_
      refine lv_istore_n (lv' := [(3, .int (iI 0)), (2, .int (iI l2)), (0, .ref (ad 14 0 0)), (1, .int (iI l1))]) hx hb (D_62 W_prog_15_method_202_code_64 5 rfl rfl) rfl hl (by decide) rfl (fun ls hl => ?_)
      exact b_M_read_70 X ih hf hZ hS (lv_sub hl [0, 1, 2, 3] rfl)

def f_M_read_35 (K : Nat) (l1 : Int) (F : zF) (B : zB) : zO := zbind (f_M_good K F B) (fun r11 F11 B11 => if r32 r11 then (if r11 = 0 then some ((F11 14 0 17) + (16 * (F11 14 0 18)), F11, B11) else f_M_read_57 K K 0 l1 F11 B11) else none)
set_option maxHeartbeats 4000000 in
set_option maxRecDepth 100000 in
theorem b_M_read_35 {D : va_G} {ca : Nat → ClassId} {ad : Nat → Int → Nat → Nat} {L : List Nat} {aS vS : Nat → Nat} {A : Nat → Prop} {p : Program} {l : Launch} {e : Env} {s : State} {m : MethodId} {args : Array Value} {below : List Frame} {meth : Method} {c : Code} {K : Nat} {r : Int} {F9 : zF} {B9 : zB} (X : zX D ca L aS vS A p s m args meth c prog_15_method_202_code 4 (Option.some Jvm.ClassFile.FieldType.int) "StaveHouseModel") {l1 : Int} {F : zF} {B : zB} {H : Heap} {locs : List Loc} {ls : Array Slot} (hf : f_M_read_35 K l1 F B = some (r, F9, B9)) (hZ : zH D ca ad lnM nM L F B A H) (hS : va_S A s.heap H locs) (hl : lv_has ls 4 [(0, .ref (ad 14 0 0)), (1, .int (iI l1))]) : W p l e ({ frames := 207, cells := 0, slots := 0, locals := 5766 } : Room) s m args below meth c H locs 0 0 (MQ below (Q_M_read D ca ad L r F9 B9 A) args s 0 0 A) (F0 m 35 ls []) := by
  obtain ⟨hx, hb, hr, hml, hown, hts, hlk, hK, hA, hL, hX⟩ := id X
  replace hf : (zbind (f_M_good K F B) (fun r11 F11 B11 => if r32 r11 then (if r11 = 0 then some ((F11 14 0 17) + (16 * (F11 14 0 18)), F11, B11) else f_M_read_57 K K 0 l1 F11 B11) else none)) = some (r, F9, B9) := hf
  refine lv_aload_n hx hb (D_42 W_prog_15_method_202_code_32 3 rfl rfl) rfl (lv_at hl 0 rfl) ?_
  obtain ⟨r11, F11, B11, hc11, hf⟩ := gbind hf
  refine va_calli (va_runV (As := []) (rest := []) ⟨hx, hb, hml, hown, hts⟩ (c_M_good (l := l) hc11) (cwV 0 hts (gdV k_13_15 k_13_17 ks_152 k_1_9 k_13_18) rfl rfl rfl (by decide +kernel) ⟨Nat.le_of_ble_eq_true rfl, Nat.le_of_ble_eq_true rfl⟩) (zPV X hZ hS (ci := 14) (by decide) (by decide) (r := (RX14, TX14, 107)) rfl []) rfl rfl hl.1 rfl (lv_room (Nat.le_of_ble_eq_true rfl)) (D_182 W_prog_15_method_202_code_32 4 rfl rfl rfl) ⟨Nat.le_of_ble_eq_true rfl, Nat.le_of_ble_eq_true rfl⟩) hS (fun q _ h => zAin X hS q h) (zAin X hS) (fun p11 u11 t11 H11 locs11 ht11 hv11 hw11 hB11 hz11 hk11 hS11 => ?_)
  have hZ11 := zBack X ht11 hB11
  subst hw11
  obtain ⟨g12, hf⟩ := gif hf
  refine z0ne (tgt := 55) hx hb g12 (D_154 W_prog_15_method_202_code_32 7 rfl rfl rfl) (by decide) (fun h13 => ?_) (fun h13 => ?_)
  · replace hf := gneg hf h13
    refine lv_iconst (v := iI 0) hx hb (D_3 W_prog_15_method_202_code_32 23 rfl rfl) rfl ?_
    refine lv_istore_n (lv' := [(2, .int (iI 0)), (0, .ref (ad 14 0 0)), (1, .int (iI l1))]) hx hb (D_61 W_prog_15_method_202_code_32 24 rfl rfl) rfl hl (by decide) rfl (fun ls hl => ?_)
    exact b_M_read_57 X hf hZ11 hS11 (lv_sub hl [0, 1, 2] rfl)
  · replace hf := gpos hf h13
    refine lv_aload_n hx hb (D_42 W_prog_15_method_202_code_32 10 rfl rfl) rfl (lv_at hl 0 rfl) ?_
    refine zget (ci := 14) (C := RX14) (T := TX14) (v := .int (iI (F11 14 0 17))) (k := 17) hx hb hts inW_14 hown hK hZ11 (by decide) (by decide) rfl (by decide) k_11_15 rfl (D_180 W_prog_15_method_202_code_32 11 rfl rfl rfl) ?_
    refine lv_bipush (v := iI 16) hx hb (D_16 W_prog_15_method_202_code_32 14 rfl rfl rfl) (by decide) ?_
    refine lv_aload_n hx hb (D_42 W_prog_15_method_202_code_32 16 rfl rfl) rfl (lv_at hl 0 rfl) ?_
    refine zget (ci := 14) (C := RX14) (T := TX14) (v := .int (iI (F11 14 0 18))) (k := 18) hx hb hts inW_14 hown hK hZ11 (by decide) (by decide) rfl (by decide) k_11_16 rfl (D_180 W_prog_15_method_202_code_32 17 rfl rfl rfl) ?_
    refine zmul hx hb (D_104 W_prog_15_method_202_code_32 20 rfl rfl) ?_
    refine zadd hx hb (D_96 W_prog_15_method_202_code_32 21 rfl rfl) ?_
    cases hf
    exact W.iret hx hb hr (fun t ht hW => ⟨⟨_, (), rfl, rfl, by rw [ht]; exact hZ11, va_K.moved hW.alike hK⟩, hS11.F ht⟩) hS11.2.2 (D_172 W_prog_15_method_202_code_32 22 rfl rfl) hlk

def f_M_read_9 (K : Nat)  (F : zF) (B : zB) : zO := some ((-1), F, B)
set_option maxHeartbeats 4000000 in
set_option maxRecDepth 100000 in
theorem b_M_read_9 {D : va_G} {ca : Nat → ClassId} {ad : Nat → Int → Nat → Nat} {L : List Nat} {aS vS : Nat → Nat} {A : Nat → Prop} {p : Program} {l : Launch} {e : Env} {s : State} {m : MethodId} {args : Array Value} {below : List Frame} {meth : Method} {c : Code} {K : Nat} {r : Int} {F9 : zF} {B9 : zB} (X : zX D ca L aS vS A p s m args meth c prog_15_method_202_code 4 (Option.some Jvm.ClassFile.FieldType.int) "StaveHouseModel")  {F : zF} {B : zB} {H : Heap} {locs : List Loc} {ls : Array Slot} (hf : f_M_read_9 K  F B = some (r, F9, B9)) (hZ : zH D ca ad lnM nM L F B A H) (hS : va_S A s.heap H locs) (hl : lv_has ls 4 []) : W p l e ({ frames := 207, cells := 0, slots := 0, locals := 5766 } : Room) s m args below meth c H locs 0 0 (MQ below (Q_M_read D ca ad L r F9 B9 A) args s 0 0 A) (F0 m 9 ls []) := by
  obtain ⟨hx, hb, hr, hml, hown, hts, hlk, hK, hA, hL, hX⟩ := id X
  replace hf : (some ((-1), F, B)) = some (r, F9, B9) := hf
  refine lv_iconst (v := iI (-1)) hx hb (D_2 W_prog_15_method_202_code_0 9 rfl rfl) rfl ?_
  cases hf
  exact W.iret hx hb hr (fun t ht hW => ⟨⟨_, (), rfl, rfl, by rw [ht]; exact hZ, va_K.moved hW.alike hK⟩, hS.F ht⟩) hS.2.2 (D_172 W_prog_15_method_202_code_0 10 rfl rfl) hlk

def f_M_read (K : Nat) (l1 : Int) (F : zF) (B : zB) : zO := if r32 l1 then (if l1 < 0 then f_M_read_9 K F B else (if l1 ≤ 1 then zbind (f_M_cut K F B) (fun r4 F4 B4 => zbind (f_M_text K (zup3 F4 14 0 3 0) B4) (fun r6 F6 B6 => zbind (f_M_good K F6 B6) (fun r7 F7 B7 => if r32 r7 then (if r7 = 0 then f_M_read_35 K l1 F7 B7 else zbind (f_M_through K F7 B7) (fun r10 F10 B10 => f_M_read_35 K l1 F10 B10)) else none))) else f_M_read_9 K F B)) else none
set_option maxHeartbeats 4000000 in
set_option maxRecDepth 100000 in
theorem c_M_read {l : Launch} {D : va_G} {ca : Nat → ClassId} {ad : Nat → Int → Nat → Nat} {L : List Nat} {aS vS : Nat → Nat} {sz K : Nat}  {l1 : Int} {F F9 : zF} {B B9 : zB} {r : Int} (hf : f_M_read K l1 F B = some (r, F9, B9)) : Met l ({ cls := "StaveHouseModel", name := "read", desc := "(I)I" } : Jvm.MethodName) (Cond.code ({ cls := "StaveHouseModel", name := "read", desc := "(I)I" } : Jvm.MethodName) prog_15_method_202_code 4 (Option.some Jvm.ClassFile.FieldType.int) :: wAll) ({ frames := 207, cells := 0, slots := 0, locals := 5766 } : Room) (va_Pc [.ref (ad 14 0 0), .int (iI l1)] (zPre D ca ad lnM nM L aS vS F B sz)) (Q_M_read D ca ad L r F9 B9 (zA L sz)) 0 0 (zA L sz) := by
  refine zMet (Qc := Q_M_read D ca ad L r F9 B9) (lv := [(0, .ref (ad 14 0 0)), (1, .int (iI l1))]) (by decide) (Nat.le_of_ble_eq_true rfl) rfl (fun A p e s m below meth c ls X hZ hS hl => ?_)
  obtain ⟨hx, hb, hr, hml, hown, hts, hlk, hK, hA, hL, hX⟩ := id X
  replace hf : (if r32 l1 then (if l1 < 0 then f_M_read_9 K F B else (if l1 ≤ 1 then zbind (f_M_cut K F B) (fun r4 F4 B4 => zbind (f_M_text K (zup3 F4 14 0 3 0) B4) (fun r6 F6 B6 => zbind (f_M_good K F6 B6) (fun r7 F7 B7 => if r32 r7 then (if r7 = 0 then f_M_read_35 K l1 F7 B7 else zbind (f_M_through K F7 B7) (fun r10 F10 B10 => f_M_read_35 K l1 F10 B10)) else none))) else f_M_read_9 K F B)) else none) = some (r, F9, B9) := hf
  refine lv_iload_n hx hb (D_27 W_prog_15_method_202_code_0 0 rfl rfl) rfl (lv_at hl 1 rfl) ?_
  obtain ⟨g1, hf⟩ := gif hf
  refine z0lt (tgt := 9) hx hb g1 (D_155 W_prog_15_method_202_code_0 1 rfl rfl rfl) (by decide) (fun h2 => ?_) (fun h2 => ?_)
  · replace hf := gpos hf h2
    exact b_M_read_9 X hf hZ hS (lv_sub hl [] rfl)
  · replace hf := gneg hf h2
    refine lv_iload_n hx hb (D_27 W_prog_15_method_202_code_0 4 rfl rfl) rfl (lv_at hl 1 rfl) ?_
    refine lv_iconst (v := iI 1) hx hb (D_4 W_prog_15_method_202_code_0 5 rfl rfl) rfl ?_
    refine zle (tgt := 11) hx hb g1 (by decide) (D_164 W_prog_15_method_202_code_0 6 rfl rfl rfl) (by decide) (fun h3 => ?_) (fun h3 => ?_)
    · replace hf := gpos hf h3
      refine lv_aload_n hx hb (D_42 W_prog_15_method_202_code_0 11 rfl rfl) rfl (lv_at hl 0 rfl) ?_
      obtain ⟨r4, F4, B4, hc4, hf⟩ := gbind hf
      refine va_callv (va_runV (As := []) (rest := []) ⟨hx, hb, hml, hown, hts⟩ (c_M_cut (l := l) hc4) (cwV 0 hts (gdV k_14_83 k_14_85 ks_196 k_1_9 k_14_86) rfl rfl rfl (by decide +kernel) ⟨Nat.le_of_ble_eq_true rfl, Nat.le_of_ble_eq_true rfl⟩) (zPV X hZ hS (ci := 14) (by decide) (by decide) (r := (RX14, TX14, 107)) rfl []) rfl rfl hl.1 rfl (lv_room (Nat.le_of_ble_eq_true rfl)) (D_182 W_prog_15_method_202_code_0 12 rfl rfl rfl) ⟨Nat.le_of_ble_eq_true rfl, Nat.le_of_ble_eq_true rfl⟩) hS (fun q _ h => zAin X hS q h) (zAin X hS) (fun u4 t4 H4 locs4 ht4 hv4 hw4 hB4 hz4 hk4 hS4 => ?_)
      have hZ4 := zBack X ht4 hB4
      refine lv_aload_n hx hb (D_42 W_prog_15_method_202_code_0 15 rfl rfl) rfl (lv_at hl 0 rfl) ?_
      refine lv_iconst (v := iI 0) hx hb (D_3 W_prog_15_method_202_code_0 16 rfl rfl) rfl ?_
      refine zput (ci := 14) (C := RX14) (T := TX14) (k := 3) (v := 0) (w := .int (iI 0)) hx hb hts inW_14 tyX14 tyX14_ok nmX14 hown hK hZ4 hS4 (by decide) (by decide) rfl (by decide) k_11_1 rfl (fun G h => congrArg (fun q => Value.int (iI q)) h) rfl rfl (zno (by decide)) (D_181 W_prog_15_method_202_code_0 17 rfl rfl rfl) (fun H5 locs5 hZ5 hS5 => ?_)
      refine lv_aload_n hx hb (D_42 W_prog_15_method_202_code_0 20 rfl rfl) rfl (lv_at hl 0 rfl) ?_
      obtain ⟨r6, F6, B6, hc6, hf⟩ := gbind hf
      refine va_callv (va_runV (As := []) (rest := []) ⟨hx, hb, hml, hown, hts⟩ (c_M_text (l := l) hc6) (cwV 0 hts (gdV k_14_108 k_14_110 ks_199 k_1_9 k_14_111) rfl rfl rfl (by decide +kernel) ⟨Nat.le_of_ble_eq_true rfl, Nat.le_of_ble_eq_true rfl⟩) (zPV X hZ5 hS5 (ci := 14) (by decide) (by decide) (r := (RX14, TX14, 107)) rfl []) rfl rfl hl.1 rfl (lv_room (Nat.le_of_ble_eq_true rfl)) (D_182 W_prog_15_method_202_code_0 21 rfl rfl rfl) ⟨Nat.le_of_ble_eq_true rfl, Nat.le_of_ble_eq_true rfl⟩) hS5 (fun q _ h => zAin X hS5 q h) (zAin X hS5) (fun u6 t6 H6 locs6 ht6 hv6 hw6 hB6 hz6 hk6 hS6 => ?_)
      have hZ6 := zBack X ht6 hB6
      refine lv_aload_n hx hb (D_42 W_prog_15_method_202_code_0 24 rfl rfl) rfl (lv_at hl 0 rfl) ?_
      obtain ⟨r7, F7, B7, hc7, hf⟩ := gbind hf
      refine va_calli (va_runV (As := []) (rest := []) ⟨hx, hb, hml, hown, hts⟩ (c_M_good (l := l) hc7) (cwV 0 hts (gdV k_13_15 k_13_17 ks_152 k_1_9 k_13_18) rfl rfl rfl (by decide +kernel) ⟨Nat.le_of_ble_eq_true rfl, Nat.le_of_ble_eq_true rfl⟩) (zPV X hZ6 hS6 (ci := 14) (by decide) (by decide) (r := (RX14, TX14, 107)) rfl []) rfl rfl hl.1 rfl (lv_room (Nat.le_of_ble_eq_true rfl)) (D_182 W_prog_15_method_202_code_0 25 rfl rfl rfl) ⟨Nat.le_of_ble_eq_true rfl, Nat.le_of_ble_eq_true rfl⟩) hS6 (fun q _ h => zAin X hS6 q h) (zAin X hS6) (fun p7 u7 t7 H7 locs7 ht7 hv7 hw7 hB7 hz7 hk7 hS7 => ?_)
      have hZ7 := zBack X ht7 hB7
      subst hw7
      obtain ⟨g8, hf⟩ := gif hf
      refine z0eq (tgt := 35) hx hb g8 (D_153 W_prog_15_method_202_code_0 28 rfl rfl rfl) (by decide) (fun h9 => ?_) (fun h9 => ?_)
      · replace hf := gpos hf h9
        exact b_M_read_35 X hf hZ7 hS7 (lv_sub hl [0, 1] rfl)
      · replace hf := gneg hf h9
        refine lv_aload_n hx hb (D_42 W_prog_15_method_202_code_0 31 rfl rfl) rfl (lv_at hl 0 rfl) ?_
        obtain ⟨r10, F10, B10, hc10, hf⟩ := gbind hf
        refine va_callv (va_runV (As := []) (rest := []) ⟨hx, hb, hml, hown, hts⟩ (c_M_through (l := l) hc10) (cwV 0 hts (gdV k_14_203 k_14_205 ks_222 k_1_9 k_14_206) rfl rfl rfl (by decide +kernel) ⟨Nat.le_of_ble_eq_true rfl, Nat.le_of_ble_eq_true rfl⟩) (zPV X hZ7 hS7 (ci := 14) (by decide) (by decide) (r := (RX14, TX14, 107)) rfl []) rfl rfl hl.1 rfl (lv_room (Nat.le_of_ble_eq_true rfl)) (D_182 W_prog_15_method_202_code_32 0 rfl rfl rfl) ⟨Nat.le_of_ble_eq_true rfl, Nat.le_of_ble_eq_true rfl⟩) hS7 (fun q _ h => zAin X hS7 q h) (zAin X hS7) (fun u10 t10 H10 locs10 ht10 hv10 hw10 hB10 hz10 hk10 hS10 => ?_)
        have hZ10 := zBack X ht10 hB10
        exact b_M_read_35 X hf hZ10 hS10 (lv_sub hl [0, 1] rfl)
    · replace hf := gneg hf h3
      exact b_M_read_9 X hf hZ hS (lv_sub hl [] rfl)

