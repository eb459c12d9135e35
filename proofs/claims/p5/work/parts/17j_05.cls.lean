set_option maxHeartbeats 4000000 in
set_option maxRecDepth 100000 in
theorem b_Performance_gather_35 {D : va_G} {ca : Nat → ClassId} {ad : Nat → Int → Nat → Nat} {L : List Nat} {aS vS : Nat → Nat} {A : Nat → Prop} {p : Program} {l : Launch} {e : Env} {s : State} {m : MethodId} {args : Array Value} {below : List Frame} {meth : Method} {c : Code} {K : zK} {r : Int} {F9 : zF} {B9 : zB} (X : zX D ca L aS vS A p s m args meth c prog_7_method_2_code 5 (Option.none : Option Jvm.ClassFile.FieldType) "StaveHouse$Performance") {rec17 : Int → Int → Int → zF → zB → zO} (hrec17 : ∀ {l2 : Int} {l0 : Int} {l1 : Int} {F : zF} {B : zB} {H : Heap} {locs : List Loc} {ls : Array Slot}, rec17 l2 l0 l1 F B = some (r, F9, B9) → zH D ca ad lnC K.2 L F B A H → va_S A s.heap H locs → lv_has ls 5 [(2, .int (iI l2)), (0, .ref (ad 5 l0 0)), (1, .ref (ad 6 l1 0))] → W p l e ({ frames := 4, cells := 0, slots := 0, locals := 97 } : Room) s m args below meth c H locs 0 0 (MQ below (Q_Performance_gather K D ca ad L r F9 B9 A) args s 0 0 A) (F0 m 17 ls [])) : ∀ {n : Nat} {l4 : Int} {l3 : Int} {l2 : Int} {l0 : Int} {l1 : Int} {F : zF} {B : zB} {H : Heap} {locs : List Loc} {ls : Array Slot}, f_Performance_gather_35 rec17 K n l4 l3 l2 l0 l1 F B = some (r, F9, B9) → zH D ca ad lnC K.2 L F B A H → va_S A s.heap H locs → lv_has ls 5 [(4, .int (iI l4)), (3, va_rf (zrf ad 4 l3)), (2, .int (iI l2)), (0, .ref (ad 5 l0 0)), (1, .ref (ad 6 l1 0))] → W p l e ({ frames := 4, cells := 0, slots := 0, locals := 97 } : Room) s m args below meth c H locs 0 0 (MQ below (Q_Performance_gather K D ca ad L r F9 B9 A) args s 0 0 A) (F0 m 35 ls []) := by
  obtain ⟨hx, hb, hr, hml, hown, hts, hlk, hK, hA, hL, hX⟩ := id X
  intro n
  induction n with
  | zero =>
    intros
    rename_i hf _ _ _
    cases hf
  | succ n ih =>
    intro l4 l3 l2 l0 l1 F B H locs ls hf hZ hS hl
    replace hf : (if 0 ≤ l3 ∧ l3 < K.2 4 then if r32 l4 then if r32 (F 4 l3 6) then (if (F 4 l3 6) ≤ l4 then f_Performance_gather_85 rec17 K l2 l0 l1 F B else if 0 ≤ l0 ∧ l0 < K.2 5 then if r32 (F 5 l0 1) then (if (F 5 l0 1) = 0 then zbind (f_Performance_isTrilled K l3 l4 F B) (fun r17 F17 B17 => if r32 r17 then (if r17 = 0 then zbind (f_Performance_soundAll K l0 l3 l2 l4 F17 B17) (fun r20 F20 B20 => f_Performance_gather_79 rec17 (f_Performance_gather_35 rec17 K n) K l4 l3 l2 l0 l1 F20 B20) else zbind (f_Performance_trill K l0 l1 l2 l4 F17 B17) (fun r21 F21 B21 => f_Performance_gather_79 rec17 (f_Performance_gather_35 rec17 K n) K l4 l3 l2 l0 l1 F21 B21)) else none) else f_Performance_gather_85 rec17 K l2 l0 l1 F B) else none else none) else none else none else none) = some (r, F9, B9) := hf
    refine lv_iload hx hb d_7_2_35 (lv_at hl 0 rfl) ?_
    refine zaload_n hx hb d_7_2_37 rfl (lv_at hl 1 rfl) ?_
    obtain ⟨g10, hf⟩ := gif hf
    refine zunrf g10.1 ?_
    refine zget (ci := 4) (C := RX4) (T := TX4) (v := .int (iI (F 4 l3 6))) (k := 6) hx hb hts inW_4 hown hK hZ g10.1 g10.2 rfl (by decide) k_4_136 rfl d_7_2_38 ?_
    obtain ⟨g11, hf⟩ := gif hf
    obtain ⟨g12, hf⟩ := gif hf
    refine zge (tgt := 85) hx hb g11 g12 d_7_2_41 (by decide) (fun h13 => ?_) (fun h13 => ?_)
    · replace hf := gpos hf h13
      exact b_Performance_gather_85 X hrec17 hf hZ hS (lv_sub hl [2, 3, 4] rfl)
    · replace hf := gneg hf h13
      refine lv_aload_n hx hb d_7_2_44 rfl (lv_at hl 3 rfl) ?_
      obtain ⟨g14, hf⟩ := gif hf
      refine zget (ci := 5) (C := RX5) (T := TX5) (v := .int (iI (F 5 l0 1))) (k := 1) hx hb hts inW_5 hown hK hZ g14.1 g14.2 rfl (by decide) k_6_65 rfl d_7_2_45 ?_
      obtain ⟨g15, hf⟩ := gif hf
      refine z0ne (tgt := 85) hx hb g15 d_7_2_48 (by decide) (fun h16 => ?_) (fun h16 => ?_)
      · replace hf := gneg hf h16
        exact b_Performance_gather_85 X hrec17 hf hZ hS (lv_sub hl [2, 3, 4] rfl)
      · replace hf := gpos hf h16
        refine zaload_n hx hb d_7_2_51 rfl (lv_at hl 1 rfl) ?_
        refine lv_iload hx hb d_7_2_52 (lv_at hl 0 rfl) ?_
        refine W.eq (g2 := F0 m 54 ls [.int (iI l4), .ref (ad 4 l3 0)]) (by rw [zrf_pos (ad := ad) (t := 4) g10.1]; try rfl) ?_
        obtain ⟨r17, F17, B17, hc17, hf⟩ := gbind hf
        refine va_calli (va_runS (As := [.ref (ad 4 l3 0), .int (iI l4)]) (rest := []) ⟨hx, hb, hml, hown, hts⟩ (c_Performance_isTrilled (l := l) hc17) (va_cwS 2 hts (gdS k_6_116 k_6_117 k_1_20 k_6_118) rfl rfl rfl (by decide +kernel) ⟨Nat.le_of_ble_eq_true rfl, Nat.le_of_ble_eq_true rfl⟩) (zPS X hZ hS [.ref (ad 4 l3 0), .int (iI l4)]) rfl rfl hl.1 rfl (lv_room (Nat.le_of_ble_eq_true rfl)) d_7_2_54 ⟨Nat.le_of_ble_eq_true rfl, Nat.le_of_ble_eq_true rfl⟩) hS (fun q _ h => zAin X hS q h) (zAin X hS) (fun p17 u17 t17 H17 locs17 ht17 hv17 hw17 hB17 hz17 hk17 hS17 => ?_)
        have hZ17 := zBack X ht17 hB17
        subst hw17
        obtain ⟨g18, hf⟩ := gif hf
        refine z0eq (tgt := 71) hx hb g18 d_7_2_57 (by decide) (fun h19 => ?_) (fun h19 => ?_)
        · replace hf := gpos hf h19
          refine lv_aload_n hx hb d_7_2_71 rfl (lv_at hl 3 rfl) ?_
          refine zaload_n hx hb d_7_2_72 rfl (lv_at hl 1 rfl) ?_
          refine lv_iload_n hx hb d_7_2_73 rfl (lv_at hl 2 rfl) ?_
          refine lv_iload hx hb d_7_2_74 (lv_at hl 0 rfl) ?_
          refine W.eq (g2 := F0 m 76 ls [.int (iI l4), .int (iI l2), .ref (ad 4 l3 0), .ref (ad 5 l0 0)]) (by rw [zrf_pos (ad := ad) (t := 4) g10.1]; try rfl) ?_
          obtain ⟨r20, F20, B20, hc20, hf⟩ := gbind hf
          refine va_callv (va_runV (As := [.ref (ad 4 l3 0), .int (iI l2), .int (iI l4)]) (rest := []) ⟨hx, hb, hml, hown, hts⟩ (c_Performance_soundAll (l := l) hc20) (cwV 3 hts (gdV k_6_142 k_6_144 ks_76 k_1_20 k_6_145) rfl rfl rfl (by decide +kernel) ⟨Nat.le_of_ble_eq_true rfl, Nat.le_of_ble_eq_true rfl⟩) (zPV X hZ17 hS17 (ci := 5) g14.1 g14.2 (r := (RX5, TX5, 14)) rfl [.ref (ad 4 l3 0), .int (iI l2), .int (iI l4)]) rfl rfl hl.1 rfl (lv_room (Nat.le_of_ble_eq_true rfl)) d_7_2_76 ⟨Nat.le_of_ble_eq_true rfl, Nat.le_of_ble_eq_true rfl⟩) hS17 (fun q _ h => zAin X hS17 q h) (zAin X hS17) (fun u20 t20 H20 locs20 ht20 hv20 hw20 hB20 hz20 hk20 hS20 => ?_)
          have hZ20 := zBack X ht20 hB20
          exact b_Performance_gather_79 X hrec17 ih hf hZ20 hS20 (lv_sub hl [0, 1, 2, 3, 4] rfl)
        · replace hf := gneg hf h19
          refine lv_aload_n hx hb d_7_2_60 rfl (lv_at hl 3 rfl) ?_
          refine lv_aload_n hx hb d_7_2_61 rfl (lv_at hl 4 rfl) ?_
          refine lv_iload_n hx hb d_7_2_62 rfl (lv_at hl 2 rfl) ?_
          refine lv_iload hx hb d_7_2_63 (lv_at hl 0 rfl) ?_
          obtain ⟨r21, F21, B21, hc21, hf⟩ := gbind hf
          refine va_callv (va_runV (As := [.ref (ad 6 l1 0), .int (iI l2), .int (iI l4)]) (rest := []) ⟨hx, hb, hml, hown, hts⟩ (c_Performance_trill (l := l) hc21) (cwV 3 hts (gdV k_6_122 k_6_124 ks_74 k_1_20 k_6_125) rfl rfl rfl (by decide +kernel) ⟨Nat.le_of_ble_eq_true rfl, Nat.le_of_ble_eq_true rfl⟩) (zPV X hZ17 hS17 (ci := 5) g14.1 g14.2 (r := (RX5, TX5, 14)) rfl [.ref (ad 6 l1 0), .int (iI l2), .int (iI l4)]) rfl rfl hl.1 rfl (lv_room (Nat.le_of_ble_eq_true rfl)) d_7_2_65 ⟨Nat.le_of_ble_eq_true rfl, Nat.le_of_ble_eq_true rfl⟩) hS17 (fun q _ h => zAin X hS17 q h) (zAin X hS17) (fun u21 t21 H21 locs21 ht21 hv21 hw21 hB21 hz21 hk21 hS21 => ?_)
          have hZ21 := zBack X ht21 hB21
          refine lv_goto (tgt := 79) hx hb d_7_2_68 (by decide) ?_
          exact b_Performance_gather_79 X hrec17 ih hf hZ21 hS21 (lv_sub hl [0, 1, 2, 3, 4] rfl)

noncomputable def f_Performance_gather_17 (K : zK) : Nat → Int → Int → Int → zF → zB → zO
  | 0, _, _, _, _, _ => none
  | n + 1, l2, l0, l1, F, B => if 0 ≤ l1 ∧ l1 < K.2 6 then if r32 l2 then if r32 (F 6 l1 1) then (if (F 6 l1 1) ≤ l2 then some (0, F, B) else if 0 ≤ l2 ∧ l2 < 4 then f_Performance_gather_35 (f_Performance_gather_17 K n) K K.1 0 (B 6 l1 0 l2) l2 l0 l1 F B else none) else none else none else none
set_option maxHeartbeats 4000000 in
set_option maxRecDepth 100000 in
theorem b_Performance_gather_17 {D : va_G} {ca : Nat → ClassId} {ad : Nat → Int → Nat → Nat} {L : List Nat} {aS vS : Nat → Nat} {A : Nat → Prop} {p : Program} {l : Launch} {e : Env} {s : State} {m : MethodId} {args : Array Value} {below : List Frame} {meth : Method} {c : Code} {K : zK} {r : Int} {F9 : zF} {B9 : zB} (X : zX D ca L aS vS A p s m args meth c prog_7_method_2_code 5 (Option.none : Option Jvm.ClassFile.FieldType) "StaveHouse$Performance") : ∀ {n : Nat} {l2 : Int} {l0 : Int} {l1 : Int} {F : zF} {B : zB} {H : Heap} {locs : List Loc} {ls : Array Slot}, f_Performance_gather_17 K n l2 l0 l1 F B = some (r, F9, B9) → zH D ca ad lnC K.2 L F B A H → va_S A s.heap H locs → lv_has ls 5 [(2, .int (iI l2)), (0, .ref (ad 5 l0 0)), (1, .ref (ad 6 l1 0))] → W p l e ({ frames := 4, cells := 0, slots := 0, locals := 97 } : Room) s m args below meth c H locs 0 0 (MQ below (Q_Performance_gather K D ca ad L r F9 B9 A) args s 0 0 A) (F0 m 17 ls []) := by
  obtain ⟨hx, hb, hr, hml, hown, hts, hlk, hK, hA, hL, hX⟩ := id X
  intro n
  induction n with
  | zero =>
    intros
    rename_i hf _ _ _
    cases hf
  | succ n ih =>
    intro l2 l0 l1 F B H locs ls hf hZ hS hl
    replace hf : (if 0 ≤ l1 ∧ l1 < K.2 6 then if r32 l2 then if r32 (F 6 l1 1) then (if (F 6 l1 1) ≤ l2 then some (0, F, B) else if 0 ≤ l2 ∧ l2 < 4 then f_Performance_gather_35 (f_Performance_gather_17 K n) K K.1 0 (B 6 l1 0 l2) l2 l0 l1 F B else none) else none else none else none) = some (r, F9, B9) := hf
    refine lv_iload_n hx hb d_7_2_17 rfl (lv_at hl 0 rfl) ?_
    refine lv_aload_n hx hb d_7_2_18 rfl (lv_at hl 2 rfl) ?_
    obtain ⟨g5, hf⟩ := gif hf
    refine zget (ci := 6) (C := RX6) (T := TX6) (v := .int (iI (F 6 l1 1))) (k := 1) hx hb hts inW_6 hown hK hZ g5.1 g5.2 rfl (by decide) k_2_191 rfl d_7_2_19 ?_
    obtain ⟨g6, hf⟩ := gif hf
    obtain ⟨g7, hf⟩ := gif hf
    refine zge (tgt := 91) hx hb g6 g7 d_7_2_22 (by decide) (fun h8 => ?_) (fun h8 => ?_)
    · replace hf := gpos hf h8
      cases hf
      exact W.vret hx hb hr (fun t ht hW => ⟨⟨(), rfl, trivial, by rw [ht]; exact hZ, va_K.moved hW.alike hK⟩, hS.F ht⟩) hS.2.2 d_7_2_91 hlk
    · replace hf := gneg hf h8
      refine lv_aload_n hx hb d_7_2_25 rfl (lv_at hl 2 rfl) ?_
      refine zget (ci := 6) (C := RX6) (T := TX6) (v := .ref (ad 6 l1 (0 + 1))) (k := 0) hx hb hts inW_6 hown hK hZ g5.1 g5.2 rfl (by decide) k_2_186 rfl d_7_2_26 ?_
      refine lv_iload_n hx hb d_7_2_29 rfl (lv_at hl 0 rfl) ?_
      obtain ⟨g9, hf⟩ := gif hf
      refine zaldR (t := 4) (x := 6) (ci := 6) (k := 0) hx hb hK rfl rfl hZ g5.1 g5.2 rfl (Nat.le_of_ble_eq_true rfl) g9.1 g9.2 d_7_2_30 ?_
      refine zastore_n (lv' := [(2, .int (iI l2)), (0, .ref (ad 5 l0 0)), (1, .ref (ad 6 l1 0))]) hx hb d_7_2_31 rfl hl (by decide) (fun _ _ => rfl) (fun ls hl => ?_)
      refine lv_iconst (v := iI 0) hx hb d_7_2_32 rfl ?_
      refine lv_istore (lv' := [(4, .int (iI 0)), (3, va_rf (zrf ad 4 (B 6 l1 0 l2))), (2, .int (iI l2)), (0, .ref (ad 5 l0 0)), (1, .ref (ad 6 l1 0))]) hx hb d_7_2_33 hl (by decide) (by cases zrf ad 4 (B 6 l1 0 l2) <;> rfl) (fun ls hl => ?_)
      exact b_Performance_gather_35 X ih hf hZ hS (lv_sub hl [0, 1, 2, 3, 4] rfl)

noncomputable def f_Performance_gather (K : zK) (l0 : Int) (l1 : Int) (F : zF) (B : zB) : zO := if 0 ≤ l0 ∧ l0 < K.2 5 then f_Performance_gather_17 K K.1 0 l0 l1 (zup3 (zup3 (zup3 F 5 l0 0 0) 5 l0 1 0) 5 l0 3 0) B else none
set_option maxHeartbeats 4000000 in
set_option maxRecDepth 100000 in
theorem c_Performance_gather {l : Launch} {D : va_G} {ca : Nat → ClassId} {ad : Nat → Int → Nat → Nat} {L : List Nat} {aS vS : Nat → Nat} {sz : Nat} {K : zK}  {l0 : Int} {l1 : Int} {F F9 : zF} {B B9 : zB} {r : Int} (hf : f_Performance_gather K l0 l1 F B = some (r, F9, B9)) : Met l ({ cls := "StaveHouse$Performance", name := "gather", desc := "(LStaveHouse$Piece;)V" } : Jvm.MethodName) (Cond.code ({ cls := "StaveHouse$Performance", name := "gather", desc := "(LStaveHouse$Piece;)V" } : Jvm.MethodName) prog_7_method_2_code 5 (Option.none : Option Jvm.ClassFile.FieldType) :: wAll) ({ frames := 4, cells := 0, slots := 0, locals := 97 } : Room) (va_Pc [.ref (ad 5 l0 0), .ref (ad 6 l1 0)] (zPre D ca ad lnC K.2 L aS vS F B sz)) (Q_Performance_gather K D ca ad L r F9 B9 (zA L sz)) 0 0 (zA L sz) := by
  refine zMet (Qc := Q_Performance_gather K D ca ad L r F9 B9) (lv := [(0, .ref (ad 5 l0 0)), (1, .ref (ad 6 l1 0))]) (by decide) (Nat.le_of_ble_eq_true rfl) rfl (fun A p e s m below meth c ls X hZ hS hl => ?_)
  obtain ⟨hx, hb, hr, hml, hown, hts, hlk, hK, hA, hL, hX⟩ := id X
  replace hf : (if 0 ≤ l0 ∧ l0 < K.2 5 then f_Performance_gather_17 K K.1 0 l0 l1 (zup3 (zup3 (zup3 F 5 l0 0 0) 5 l0 1 0) 5 l0 3 0) B else none) = some (r, F9, B9) := hf
  refine lv_aload_n hx hb d_7_2_0 rfl (lv_at hl 0 rfl) ?_
  refine lv_iconst (v := iI 0) hx hb d_7_2_1 rfl ?_
  obtain ⟨g1, hf⟩ := gif hf
  refine zput (ci := 5) (C := RX5) (T := TX5) (k := 0) (v := 0) (w := .int (iI 0)) hx hb hts inW_5 tyX5 tyX5_ok nmX5 hown hK hZ hS g1.1 g1.2 rfl (by decide) k_6_63 rfl (fun G h => congrArg (fun q => Value.int (iI q)) h) rfl rfl (zno (by decide)) d_7_2_2 (fun H2 locs2 hZ2 hS2 => ?_)
  refine lv_aload_n hx hb d_7_2_5 rfl (lv_at hl 0 rfl) ?_
  refine lv_iconst (v := iI 0) hx hb d_7_2_6 rfl ?_
  refine zput (ci := 5) (C := RX5) (T := TX5) (k := 1) (v := 0) (w := .int (iI 0)) hx hb hts inW_5 tyX5 tyX5_ok nmX5 hown hK hZ2 hS2 g1.1 g1.2 rfl (by decide) k_6_65 rfl (fun G h => congrArg (fun q => Value.int (iI q)) h) rfl rfl (zno (by decide)) d_7_2_7 (fun H3 locs3 hZ3 hS3 => ?_)
  refine lv_aload_n hx hb d_7_2_10 rfl (lv_at hl 0 rfl) ?_
  refine lv_iconst (v := iI 0) hx hb d_7_2_11 rfl ?_
  refine zput (ci := 5) (C := RX5) (T := TX5) (k := 3) (v := 0) (w := .int (iI 0)) hx hb hts inW_5 tyX5 tyX5_ok nmX5 hown hK hZ3 hS3 g1.1 g1.2 rfl (by decide) k_6_69 rfl (fun G h => congrArg (fun q => Value.int (iI q)) h) rfl rfl (zno (by decide)) d_7_2_12 (fun H4 locs4 hZ4 hS4 => ?_)
  refine lv_iconst (v := iI 0) hx hb d_7_2_15 rfl ?_
  refine lv_istore_n (lv' := [(2, .int (iI 0)), (0, .ref (ad 5 l0 0)), (1, .ref (ad 6 l1 0))]) hx hb d_7_2_16 rfl hl (by decide) rfl (fun ls hl => ?_)
  exact b_Performance_gather_17 X hf hZ4 hS4 (lv_sub hl [0, 1, 2] rfl)

noncomputable abbrev Q_Layout_setColumns (K : zK) (D : va_G) (ca : Nat → ClassId) (ad : Nat → Int → Nat → Nat) (L : List Nat) (r : Int) (F : zF) (B : zB) (A : Nat → Prop) : Array Value → State → Outcome → State → Prop := va_Qv (S := Unit) (fun _ => True) (fun _ => zPo D ca ad lnC K.2 L F B A) A
noncomputable def f_Layout_setColumns_108 (rec27 : Int → Int → Int → Int → zF → zB → zO) (K : zK) : Nat → Int → Int → Int → Int → Int → zF → zB → zO
  | 0, _, _, _, _, _, _, _ => none
  | n + 1, l4, l3, l0, l1, l2, F, B => if 0 ≤ l0 ∧ l0 < K.2 2 then if r32 l4 then if r32 (F 2 l0 4) then (if (F 2 l0 4) ≤ l4 then rec27 (l3 + 1) l0 l1 l2 F B else if 0 ≤ l3 ∧ l3 < 100 then if 0 ≤ l4 ∧ l4 < 3200 then f_Layout_setColumns_108 rec27 K n (l4 + 1) l3 l0 l1 l2 F (zup4 B 2 l0 6 l3 ((B 2 l0 6 l3) + (B 2 l0 2 l4))) else none else none) else none else none else none
set_option maxHeartbeats 4000000 in
set_option maxRecDepth 100000 in
theorem b_Layout_setColumns_108 {D : va_G} {ca : Nat → ClassId} {ad : Nat → Int → Nat → Nat} {L : List Nat} {aS vS : Nat → Nat} {A : Nat → Prop} {p : Program} {l : Launch} {e : Env} {s : State} {m : MethodId} {args : Array Value} {below : List Frame} {meth : Method} {c : Code} {K : zK} {r : Int} {F9 : zF} {B9 : zB} (X : zX D ca L aS vS A p s m args meth c prog_4_method_3_code 5 (Option.none : Option Jvm.ClassFile.FieldType) "StaveHouse$Layout") {rec27 : Int → Int → Int → Int → zF → zB → zO} (hrec27 : ∀ {l3 : Int} {l0 : Int} {l1 : Int} {l2 : Int} {F : zF} {B : zB} {H : Heap} {locs : List Loc} {ls : Array Slot}, rec27 l3 l0 l1 l2 F B = some (r, F9, B9) → zH D ca ad lnC K.2 L F B A H → va_S A s.heap H locs → lv_has ls 5 [(3, .int (iI l3)), (0, .ref (ad 2 l0 0)), (1, .ref (ad 6 l1 0)), (2, .int (iI l2))] → W p l e ({ frames := 3, cells := 0, slots := 0, locals := 77 } : Room) s m args below meth c H locs 0 0 (MQ below (Q_Layout_setColumns K D ca ad L r F9 B9 A) args s 0 0 A) (F0 m 27 ls [])) : ∀ {n : Nat} {l4 : Int} {l3 : Int} {l0 : Int} {l1 : Int} {l2 : Int} {F : zF} {B : zB} {H : Heap} {locs : List Loc} {ls : Array Slot}, f_Layout_setColumns_108 rec27 K n l4 l3 l0 l1 l2 F B = some (r, F9, B9) → zH D ca ad lnC K.2 L F B A H → va_S A s.heap H locs → lv_has ls 5 [(4, .int (iI l4)), (3, .int (iI l3)), (0, .ref (ad 2 l0 0)), (1, .ref (ad 6 l1 0)), (2, .int (iI l2))] → W p l e ({ frames := 3, cells := 0, slots := 0, locals := 77 } : Room) s m args below meth c H locs 0 0 (MQ below (Q_Layout_setColumns K D ca ad L r F9 B9 A) args s 0 0 A) (F0 m 108 ls []) := by
  obtain ⟨hx, hb, hr, hml, hown, hts, hlk, hK, hA, hL, hX⟩ := id X
  intro n
  induction n with
  | zero =>
    intros
    rename_i hf _ _ _
    cases hf
  | succ n ih =>
    intro l4 l3 l0 l1 l2 F B H locs ls hf hZ hS hl
    replace hf : (if 0 ≤ l0 ∧ l0 < K.2 2 then if r32 l4 then if r32 (F 2 l0 4) then (if (F 2 l0 4) ≤ l4 then rec27 (l3 + 1) l0 l1 l2 F B else if 0 ≤ l3 ∧ l3 < 100 then if 0 ≤ l4 ∧ l4 < 3200 then f_Layout_setColumns_108 rec27 K n (l4 + 1) l3 l0 l1 l2 F (zup4 B 2 l0 6 l3 ((B 2 l0 6 l3) + (B 2 l0 2 l4))) else none else none) else none else none else none) = some (r, F9, B9) := hf
    refine lv_iload hx hb d_4_3_108 (lv_at hl 0 rfl) ?_
    refine lv_aload_n hx hb d_4_3_110 rfl (lv_at hl 2 rfl) ?_
    obtain ⟨g31, hf⟩ := gif hf
    refine zget (ci := 2) (C := RX2) (T := TX2) (v := .int (iI (F 2 l0 4))) (k := 4) hx hb hts inW_2 hown hK hZ g31.1 g31.2 rfl (by decide) k_6_221 rfl d_4_3_111 ?_
    obtain ⟨g33, hf⟩ := gif hf
    obtain ⟨g34, hf⟩ := gif hf
    refine zge (tgt := 139) hx hb g33 g34 d_4_3_114 (by decide) (fun h35 => ?_) (fun h35 => ?_)
    · replace hf := gpos hf h35
      refine lv_iinc (v := iI (l3 + 1)) (lv' := [(3, .int (iI (l3 + 1))), (4, .int (iI l4)), (0, .ref (ad 2 l0 0)), (1, .ref (ad 6 l1 0)), (2, .int (iI l2))]) hx hb d_4_3_139 hl (k := 1) rfl (iI_add _ 1) (by decide) rfl (fun ls hl => ?_)
      refine lv_goto (tgt := 27) hx hb d_4_3_142 (by decide) ?_
      exact hrec27 hf hZ hS (lv_sub hl [0, 2, 3, 4] rfl)
    · replace hf := gneg hf h35
      refine lv_aload_n hx hb d_4_3_117 rfl (lv_at hl 2 rfl) ?_
      refine zget (ci := 2) (C := RX2) (T := TX2) (v := .ref (ad 2 l0 (6 + 1))) (k := 6) hx hb hts inW_2 hown hK hZ g31.1 g31.2 rfl (by decide) k_6_223 rfl d_4_3_118 ?_
      refine lv_iload_n hx hb d_4_3_121 rfl (lv_at hl 1 rfl) ?_
      refine lv_dup2_11 hx hb d_4_3_122 rfl rfl ?_
      obtain ⟨g36, hf⟩ := gif hf
      refine zald (ci := 2) (k := 6) hx hb hK rfl hZ g31.1 g31.2 rfl (Nat.le_of_ble_eq_true rfl) g36.1 g36.2 d_4_3_123 ?_
      refine lv_aload_n hx hb d_4_3_124 rfl (lv_at hl 2 rfl) ?_
      refine zget (ci := 2) (C := RX2) (T := TX2) (v := .ref (ad 2 l0 (2 + 1))) (k := 2) hx hb hts inW_2 hown hK hZ g31.1 g31.2 rfl (by decide) k_6_219 rfl d_4_3_125 ?_
      refine lv_iload hx hb d_4_3_128 (lv_at hl 0 rfl) ?_
      obtain ⟨g37, hf⟩ := gif hf
      refine zald (ci := 2) (k := 2) hx hb hK rfl hZ g31.1 g31.2 rfl (Nat.le_of_ble_eq_true rfl) g37.1 g37.2 d_4_3_130 ?_
      refine zadd hx hb d_4_3_131 ?_
      refine zast (ci := 2) (k := 6) hx hb hK rfl hZ hS g31.1 g31.2 rfl (Nat.le_of_ble_eq_true rfl) g36.1 g36.2 d_4_3_132 (fun H38 locs38 hZ38 hS38 => ?_)
      refine lv_iinc (v := iI (l4 + 1)) (lv' := [(4, .int (iI (l4 + 1))), (3, .int (iI l3)), (0, .ref (ad 2 l0 0)), (1, .ref (ad 6 l1 0)), (2, .int (iI l2))]) hx hb d_4_3_133 hl (k := 0) rfl (iI_add _ 1) (by decide) rfl (fun ls hl => ?_)
      refine lv_goto (tgt := 108) hx hb d_4_3_136 (by decide) ?_
      exact ih hf hZ38 hS38 (lv_sub hl [0, 1, 2, 3, 4] rfl)

noncomputable def f_Layout_setColumns_78 (rec27 : Int → Int → Int → Int → zF → zB → zO) (K : zK) (l3 : Int) (l0 : Int) (l1 : Int) (l2 : Int) (F : zF) (B : zB) : zO := if 0 ≤ l0 ∧ l0 < K.2 2 then if 0 ≤ l3 ∧ l3 < 101 then if 0 ≤ l1 ∧ l1 < K.2 6 then zbind (f_Piece_barLength K l1 F B) (fun r27 F27 B27 => zbind (f_Layout_widen K l0 (B 2 l0 5 l3) r27 F27 B27) (fun r28 F28 B28 => if 0 ≤ l3 ∧ l3 < 100 then f_Layout_setColumns_108 rec27 K K.1 ((zup4 B28 2 l0 6 l3 6) 2 l0 5 l3) l3 l0 l1 l2 F28 (zup4 B28 2 l0 6 l3 6) else none)) else none else none else none
set_option maxHeartbeats 4000000 in
set_option maxRecDepth 100000 in
theorem b_Layout_setColumns_78 {D : va_G} {ca : Nat → ClassId} {ad : Nat → Int → Nat → Nat} {L : List Nat} {aS vS : Nat → Nat} {A : Nat → Prop} {p : Program} {l : Launch} {e : Env} {s : State} {m : MethodId} {args : Array Value} {below : List Frame} {meth : Method} {c : Code} {K : zK} {r : Int} {F9 : zF} {B9 : zB} (X : zX D ca L aS vS A p s m args meth c prog_4_method_3_code 5 (Option.none : Option Jvm.ClassFile.FieldType) "StaveHouse$Layout") {rec27 : Int → Int → Int → Int → zF → zB → zO} (hrec27 : ∀ {l3 : Int} {l0 : Int} {l1 : Int} {l2 : Int} {F : zF} {B : zB} {H : Heap} {locs : List Loc} {ls : Array Slot}, rec27 l3 l0 l1 l2 F B = some (r, F9, B9) → zH D ca ad lnC K.2 L F B A H → va_S A s.heap H locs → lv_has ls 5 [(3, .int (iI l3)), (0, .ref (ad 2 l0 0)), (1, .ref (ad 6 l1 0)), (2, .int (iI l2))] → W p l e ({ frames := 3, cells := 0, slots := 0, locals := 77 } : Room) s m args below meth c H locs 0 0 (MQ below (Q_Layout_setColumns K D ca ad L r F9 B9 A) args s 0 0 A) (F0 m 27 ls [])) {l3 : Int} {l0 : Int} {l1 : Int} {l2 : Int} {F : zF} {B : zB} {H : Heap} {locs : List Loc} {ls : Array Slot} (hf : f_Layout_setColumns_78 rec27 K l3 l0 l1 l2 F B = some (r, F9, B9)) (hZ : zH D ca ad lnC K.2 L F B A H) (hS : va_S A s.heap H locs) (hl : lv_has ls 5 [(3, .int (iI l3)), (0, .ref (ad 2 l0 0)), (1, .ref (ad 6 l1 0)), (2, .int (iI l2))]) : W p l e ({ frames := 3, cells := 0, slots := 0, locals := 77 } : Room) s m args below meth c H locs 0 0 (MQ below (Q_Layout_setColumns K D ca ad L r F9 B9 A) args s 0 0 A) (F0 m 78 ls []) := by
  obtain ⟨hx, hb, hr, hml, hown, hts, hlk, hK, hA, hL, hX⟩ := id X
  replace hf : (if 0 ≤ l0 ∧ l0 < K.2 2 then if 0 ≤ l3 ∧ l3 < 101 then if 0 ≤ l1 ∧ l1 < K.2 6 then zbind (f_Piece_barLength K l1 F B) (fun r27 F27 B27 => zbind (f_Layout_widen K l0 (B 2 l0 5 l3) r27 F27 B27) (fun r28 F28 B28 => if 0 ≤ l3 ∧ l3 < 100 then f_Layout_setColumns_108 rec27 K K.1 ((zup4 B28 2 l0 6 l3 6) 2 l0 5 l3) l3 l0 l1 l2 F28 (zup4 B28 2 l0 6 l3 6) else none)) else none else none else none) = some (r, F9, B9) := hf
  refine lv_aload_n hx hb d_4_3_78 rfl (lv_at hl 1 rfl) ?_
  refine lv_aload_n hx hb d_4_3_79 rfl (lv_at hl 1 rfl) ?_
  obtain ⟨g24, hf⟩ := gif hf
  refine zget (ci := 2) (C := RX2) (T := TX2) (v := .ref (ad 2 l0 (5 + 1))) (k := 5) hx hb hts inW_2 hown hK hZ g24.1 g24.2 rfl (by decide) k_6_222 rfl d_4_3_80 ?_
  refine lv_iload_n hx hb d_4_3_83 rfl (lv_at hl 0 rfl) ?_
  obtain ⟨g25, hf⟩ := gif hf
  refine zald (ci := 2) (k := 5) hx hb hK rfl hZ g24.1 g24.2 rfl (Nat.le_of_ble_eq_true rfl) g25.1 g25.2 d_4_3_84 ?_
  refine lv_aload_n hx hb d_4_3_85 rfl (lv_at hl 2 rfl) ?_
  obtain ⟨g26, hf⟩ := gif hf
  obtain ⟨r27, F27, B27, hc27, hf⟩ := gbind hf
  refine va_calll (va_runV (As := []) (rest := [.int (iI (B 2 l0 5 l3)), .ref (ad 2 l0 0)]) ⟨hx, hb, hml, hown, hts⟩ (c_Piece_barLength (l := l) hc27) (cwV 0 hts (gdV k_7_39 k_4_190 k_4_191 k_1_15 k_4_192) rfl rfl rfl (by decide +kernel) ⟨Nat.le_of_ble_eq_true rfl, Nat.le_of_ble_eq_true rfl⟩) (zPV X hZ hS (ci := 6) g26.1 g26.2 (r := (RX6, TX6, 14)) rfl []) rfl rfl hl.1 rfl (lv_room (Nat.le_of_ble_eq_true rfl)) d_4_3_86 ⟨Nat.le_of_ble_eq_true rfl, Nat.le_of_ble_eq_true rfl⟩) hS (fun q _ h => zAin X hS q h) (zAin X hS) (fun p27 u27 t27 H27 locs27 ht27 hv27 hw27 hB27 hz27 hk27 hS27 => ?_)
  have hZ27 := zBack X ht27 hB27
  subst hw27
  obtain ⟨r28, F28, B28, hc28, hf⟩ := gbind hf
  refine va_callv (va_runV (As := [.int (iI (B 2 l0 5 l3)), .long (lI r27)]) (rest := []) ⟨hx, hb, hml, hown, hts⟩ (c_Layout_widen (l := l) hc28) (cwV 2 hts (gdV k_7_40 k_7_42 ks_82 k_1_21 k_7_43) rfl rfl rfl (by decide +kernel) ⟨Nat.le_of_ble_eq_true rfl, Nat.le_of_ble_eq_true rfl⟩) (zPV X hZ27 hS27 (ci := 2) g24.1 g24.2 (r := (RX2, TX2, 13)) rfl [.int (iI (B 2 l0 5 l3)), .long (lI r27)]) rfl rfl hl.1 rfl (lv_room (Nat.le_of_ble_eq_true rfl)) d_4_3_89 ⟨Nat.le_of_ble_eq_true rfl, Nat.le_of_ble_eq_true rfl⟩) hS27 (fun q _ h => zAin X hS27 q h) (zAin X hS27) (fun u28 t28 H28 locs28 ht28 hv28 hw28 hB28 hz28 hk28 hS28 => ?_)
  have hZ28 := zBack X ht28 hB28
  refine lv_aload_n hx hb d_4_3_92 rfl (lv_at hl 1 rfl) ?_
  refine zget (ci := 2) (C := RX2) (T := TX2) (v := .ref (ad 2 l0 (6 + 1))) (k := 6) hx hb hts inW_2 hown hK hZ28 g24.1 g24.2 rfl (by decide) k_6_223 rfl d_4_3_93 ?_
  refine lv_iload_n hx hb d_4_3_96 rfl (lv_at hl 0 rfl) ?_
  refine lv_bipush (v := iI 6) hx hb d_4_3_97 (by decide) ?_
  obtain ⟨g29, hf⟩ := gif hf
  refine zast (ci := 2) (k := 6) hx hb hK rfl hZ28 hS28 g24.1 g24.2 rfl (Nat.le_of_ble_eq_true rfl) g29.1 g29.2 d_4_3_99 (fun H30 locs30 hZ30 hS30 => ?_)
  refine lv_aload_n hx hb d_4_3_100 rfl (lv_at hl 1 rfl) ?_
  refine zget (ci := 2) (C := RX2) (T := TX2) (v := .ref (ad 2 l0 (5 + 1))) (k := 5) hx hb hts inW_2 hown hK hZ30 g24.1 g24.2 rfl (by decide) k_6_222 rfl d_4_3_101 ?_
  refine lv_iload_n hx hb d_4_3_104 rfl (lv_at hl 0 rfl) ?_
  refine zald (ci := 2) (k := 5) hx hb hK rfl hZ30 g24.1 g24.2 rfl (Nat.le_of_ble_eq_true rfl) g25.1 g25.2 d_4_3_105 ?_
  refine lv_istore (lv' := [(4, .int (iI ((zup4 B28 2 l0 6 l3 6) 2 l0 5 l3))), (3, .int (iI l3)), (0, .ref (ad 2 l0 0)), (1, .ref (ad 6 l1 0)), (2, .int (iI l2))]) hx hb d_4_3_106 hl (by decide) rfl (fun ls hl => ?_)
  exact b_Layout_setColumns_108 X hrec27 hf hZ30 hS30 (lv_sub hl [0, 1, 2, 3, 4] rfl)

noncomputable def f_Layout_setColumns_45 (rec27 : Int → Int → Int → Int → zF → zB → zO) (K : zK) : Nat → Int → Int → Int → Int → Int → zF → zB → zO
  | 0, _, _, _, _, _, _, _ => none
  | n + 1, l4, l3, l0, l1, l2, F, B => if r32 l4 then (if 3200 ≤ l4 then f_Layout_setColumns_78 rec27 K l3 l0 l1 l2 F B else if 0 ≤ l0 ∧ l0 < K.2 2 then zbind (f_Layout_addColumn K l0 l1 l3 F B) (fun r20 F20 B20 => if r32 r20 then (if r20 = 0 then f_Layout_setColumns_78 rec27 K l3 l0 l1 l2 F20 B20 else f_Layout_setColumns_45 rec27 K n (l4 + 1) l3 l0 l1 l2 (zup3 F20 2 l0 4 ((F20 2 l0 4) + 1)) B20) else none) else none) else none
set_option maxHeartbeats 4000000 in
set_option maxRecDepth 100000 in
theorem b_Layout_setColumns_45 {D : va_G} {ca : Nat → ClassId} {ad : Nat → Int → Nat → Nat} {L : List Nat} {aS vS : Nat → Nat} {A : Nat → Prop} {p : Program} {l : Launch} {e : Env} {s : State} {m : MethodId} {args : Array Value} {below : List Frame} {meth : Method} {c : Code} {K : zK} {r : Int} {F9 : zF} {B9 : zB} (X : zX D ca L aS vS A p s m args meth c prog_4_method_3_code 5 (Option.none : Option Jvm.ClassFile.FieldType) "StaveHouse$Layout") {rec27 : Int → Int → Int → Int → zF → zB → zO} (hrec27 : ∀ {l3 : Int} {l0 : Int} {l1 : Int} {l2 : Int} {F : zF} {B : zB} {H : Heap} {locs : List Loc} {ls : Array Slot}, rec27 l3 l0 l1 l2 F B = some (r, F9, B9) → zH D ca ad lnC K.2 L F B A H → va_S A s.heap H locs → lv_has ls 5 [(3, .int (iI l3)), (0, .ref (ad 2 l0 0)), (1, .ref (ad 6 l1 0)), (2, .int (iI l2))] → W p l e ({ frames := 3, cells := 0, slots := 0, locals := 77 } : Room) s m args below meth c H locs 0 0 (MQ below (Q_Layout_setColumns K D ca ad L r F9 B9 A) args s 0 0 A) (F0 m 27 ls [])) : ∀ {n : Nat} {l4 : Int} {l3 : Int} {l0 : Int} {l1 : Int} {l2 : Int} {F : zF} {B : zB} {H : Heap} {locs : List Loc} {ls : Array Slot}, f_Layout_setColumns_45 rec27 K n l4 l3 l0 l1 l2 F B = some (r, F9, B9) → zH D ca ad lnC K.2 L F B A H → va_S A s.heap H locs → lv_has ls 5 [(4, .int (iI l4)), (3, .int (iI l3)), (0, .ref (ad 2 l0 0)), (1, .ref (ad 6 l1 0)), (2, .int (iI l2))] → W p l e ({ frames := 3, cells := 0, slots := 0, locals := 77 } : Room) s m args below meth c H locs 0 0 (MQ below (Q_Layout_setColumns K D ca ad L r F9 B9 A) args s 0 0 A) (F0 m 45 ls []) := by
  obtain ⟨hx, hb, hr, hml, hown, hts, hlk, hK, hA, hL, hX⟩ := id X
  intro n
  induction n with
  | zero =>
    intros
    rename_i hf _ _ _
    cases hf
  | succ n ih =>
    intro l4 l3 l0 l1 l2 F B H locs ls hf hZ hS hl
    replace hf : (if r32 l4 then (if 3200 ≤ l4 then f_Layout_setColumns_78 rec27 K l3 l0 l1 l2 F B else if 0 ≤ l0 ∧ l0 < K.2 2 then zbind (f_Layout_addColumn K l0 l1 l3 F B) (fun r20 F20 B20 => if r32 r20 then (if r20 = 0 then f_Layout_setColumns_78 rec27 K l3 l0 l1 l2 F20 B20 else f_Layout_setColumns_45 rec27 K n (l4 + 1) l3 l0 l1 l2 (zup3 F20 2 l0 4 ((F20 2 l0 4) + 1)) B20) else none) else none) else none) = some (r, F9, B9) := hf
    refine lv_iload hx hb d_4_3_45 (lv_at hl 0 rfl) ?_
    refine lv_sipush (v := iI 3200) hx hb d_4_3_47 (by decide) ?_
    obtain ⟨g17, hf⟩ := gif hf
    refine zge (tgt := 78) hx hb g17 (by decide) d_4_3_50 (by decide) (fun h18 => ?_) (fun h18 => ?_)
    · replace hf := gpos hf h18
      exact b_Layout_setColumns_78 X hrec27 hf hZ hS (lv_sub hl [1, 2, 3, 4] rfl)
    · replace hf := gneg hf h18
      refine lv_aload_n hx hb d_4_3_53 rfl (lv_at hl 2 rfl) ?_
      refine lv_aload_n hx hb d_4_3_54 rfl (lv_at hl 3 rfl) ?_
      refine lv_iload_n hx hb d_4_3_55 rfl (lv_at hl 1 rfl) ?_
      obtain ⟨g19, hf⟩ := gif hf
      obtain ⟨r20, F20, B20, hc20, hf⟩ := gbind hf
      refine va_calli (va_runV (As := [.ref (ad 6 l1 0), .int (iI l3)]) (rest := []) ⟨hx, hb, hml, hown, hts⟩ (c_Layout_addColumn (l := l) hc20) (cwV 2 hts (gdV k_7_26 k_7_28 ks_80 k_1_21 k_7_29) rfl rfl rfl (by decide +kernel) ⟨Nat.le_of_ble_eq_true rfl, Nat.le_of_ble_eq_true rfl⟩) (zPV X hZ hS (ci := 2) g19.1 g19.2 (r := (RX2, TX2, 13)) rfl [.ref (ad 6 l1 0), .int (iI l3)]) rfl rfl hl.1 rfl (lv_room (Nat.le_of_ble_eq_true rfl)) d_4_3_56 ⟨Nat.le_of_ble_eq_true rfl, Nat.le_of_ble_eq_true rfl⟩) hS (fun q _ h => zAin X hS q h) (zAin X hS) (fun p20 u20 t20 H20 locs20 ht20 hv20 hw20 hB20 hz20 hk20 hS20 => ?_)
      have hZ20 := zBack X ht20 hB20
      subst hw20
      obtain ⟨g21, hf⟩ := gif hf
      refine z0eq (tgt := 78) hx hb g21 d_4_3_59 (by decide) (fun h22 => ?_) (fun h22 => ?_)
      · replace hf := gpos hf h22
        exact b_Layout_setColumns_78 X hrec27 hf hZ20 hS20 (lv_sub hl [1, 2, 3, 4] rfl)
      · replace hf := gneg hf h22
        refine lv_aload_n hx hb d_4_3_62 rfl (lv_at hl 2 rfl) ?_
        refine lv_dup hx hb d_4_3_63 rfl ?_
        refine zget (ci := 2) (C := RX2) (T := TX2) (v := .int (iI (F20 2 l0 4))) (k := 4) hx hb hts inW_2 hown hK hZ20 g19.1 g19.2 rfl (by decide) k_6_221 rfl d_4_3_64 ?_
        refine lv_iconst (v := iI 1) hx hb d_4_3_67 rfl ?_
        refine zadd hx hb d_4_3_68 ?_
        refine zput (ci := 2) (C := RX2) (T := TX2) (k := 4) (v := ((F20 2 l0 4) + 1)) (w := .int (iI ((F20 2 l0 4) + 1))) hx hb hts inW_2 tyX2 tyX2_ok nmX2 hown hK hZ20 hS20 g19.1 g19.2 rfl (by decide) k_6_221 rfl (fun G h => congrArg (fun q => Value.int (iI q)) h) rfl rfl (zno (by decide)) d_4_3_69 (fun H23 locs23 hZ23 hS23 => ?_)
        refine lv_iinc (v := iI (l4 + 1)) (lv' := [(4, .int (iI (l4 + 1))), (3, .int (iI l3)), (0, .ref (ad 2 l0 0)), (1, .ref (ad 6 l1 0)), (2, .int (iI l2))]) hx hb d_4_3_72 hl (k := 0) rfl (iI_add _ 1) (by decide) rfl (fun ls hl => ?_)
        refine lv_goto (tgt := 45) hx hb d_4_3_75 (by decide) ?_
        exact ih hf hZ23 hS23 (lv_sub hl [0, 1, 2, 3, 4] rfl)

noncomputable def f_Layout_setColumns_27 (K : zK) : Nat → Int → Int → Int → Int → zF → zB → zO
  | 0, _, _, _, _, _, _ => none
  | n + 1, l3, l0, l1, l2, F, B => if r32 l3 then if r32 l2 then (if l2 ≤ l3 then if 0 ≤ l0 ∧ l0 < K.2 2 then if 0 ≤ l2 ∧ l2 < 101 then some (0, F, (zup4 B 2 l0 5 l2 (F 2 l0 4))) else none else none else if 0 ≤ l0 ∧ l0 < K.2 2 then if 0 ≤ l3 ∧ l3 < 101 then f_Layout_setColumns_45 (f_Layout_setColumns_27 K n) K K.1 0 l3 l0 l1 l2 F (zup4 B 2 l0 5 l3 (F 2 l0 4)) else none else none) else none else none
set_option maxHeartbeats 4000000 in
set_option maxRecDepth 100000 in
theorem b_Layout_setColumns_27 {D : va_G} {ca : Nat → ClassId} {ad : Nat → Int → Nat → Nat} {L : List Nat} {aS vS : Nat → Nat} {A : Nat → Prop} {p : Program} {l : Launch} {e : Env} {s : State} {m : MethodId} {args : Array Value} {below : List Frame} {meth : Method} {c : Code} {K : zK} {r : Int} {F9 : zF} {B9 : zB} (X : zX D ca L aS vS A p s m args meth c prog_4_method_3_code 5 (Option.none : Option Jvm.ClassFile.FieldType) "StaveHouse$Layout") : ∀ {n : Nat} {l3 : Int} {l0 : Int} {l1 : Int} {l2 : Int} {F : zF} {B : zB} {H : Heap} {locs : List Loc} {ls : Array Slot}, f_Layout_setColumns_27 K n l3 l0 l1 l2 F B = some (r, F9, B9) → zH D ca ad lnC K.2 L F B A H → va_S A s.heap H locs → lv_has ls 5 [(3, .int (iI l3)), (0, .ref (ad 2 l0 0)), (1, .ref (ad 6 l1 0)), (2, .int (iI l2))] → W p l e ({ frames := 3, cells := 0, slots := 0, locals := 77 } : Room) s m args below meth c H locs 0 0 (MQ below (Q_Layout_setColumns K D ca ad L r F9 B9 A) args s 0 0 A) (F0 m 27 ls []) := by
  obtain ⟨hx, hb, hr, hml, hown, hts, hlk, hK, hA, hL, hX⟩ := id X
  intro n
  induction n with
  | zero =>
    intros
    rename_i hf _ _ _
    cases hf
  | succ n ih =>
    intro l3 l0 l1 l2 F B H locs ls hf hZ hS hl
    replace hf : (if r32 l3 then if r32 l2 then (if l2 ≤ l3 then if 0 ≤ l0 ∧ l0 < K.2 2 then if 0 ≤ l2 ∧ l2 < 101 then some (0, F, (zup4 B 2 l0 5 l2 (F 2 l0 4))) else none else none else if 0 ≤ l0 ∧ l0 < K.2 2 then if 0 ≤ l3 ∧ l3 < 101 then f_Layout_setColumns_45 (f_Layout_setColumns_27 K n) K K.1 0 l3 l0 l1 l2 F (zup4 B 2 l0 5 l3 (F 2 l0 4)) else none else none) else none else none) = some (r, F9, B9) := hf
    refine lv_iload_n hx hb d_4_3_27 rfl (lv_at hl 0 rfl) ?_
    refine lv_iload_n hx hb d_4_3_28 rfl (lv_at hl 3 rfl) ?_
    obtain ⟨g8, hf⟩ := gif hf
    obtain ⟨g9, hf⟩ := gif hf
    refine zge (tgt := 145) hx hb g8 g9 d_4_3_29 (by decide) (fun h10 => ?_) (fun h10 => ?_)
    · replace hf := gpos hf h10
      refine lv_aload_n hx hb d_4_3_145 rfl (lv_at hl 1 rfl) ?_
      obtain ⟨g11, hf⟩ := gif hf
      refine zget (ci := 2) (C := RX2) (T := TX2) (v := .ref (ad 2 l0 (5 + 1))) (k := 5) hx hb hts inW_2 hown hK hZ g11.1 g11.2 rfl (by decide) k_6_222 rfl d_4_3_146 ?_
      refine lv_iload_n hx hb d_4_3_149 rfl (lv_at hl 3 rfl) ?_
      refine lv_aload_n hx hb d_4_3_150 rfl (lv_at hl 1 rfl) ?_
      refine zget (ci := 2) (C := RX2) (T := TX2) (v := .int (iI (F 2 l0 4))) (k := 4) hx hb hts inW_2 hown hK hZ g11.1 g11.2 rfl (by decide) k_6_221 rfl d_4_3_151 ?_
      obtain ⟨g12, hf⟩ := gif hf
      refine zast (ci := 2) (k := 5) hx hb hK rfl hZ hS g11.1 g11.2 rfl (Nat.le_of_ble_eq_true rfl) g12.1 g12.2 d_4_3_154 (fun H13 locs13 hZ13 hS13 => ?_)
      cases hf
      exact W.vret hx hb hr (fun t ht hW => ⟨⟨(), rfl, trivial, by rw [ht]; exact hZ13, va_K.moved hW.alike hK⟩, hS13.F ht⟩) hS13.2.2 d_4_3_155 hlk
    · replace hf := gneg hf h10
      refine lv_aload_n hx hb d_4_3_32 rfl (lv_at hl 1 rfl) ?_
      obtain ⟨g14, hf⟩ := gif hf
      refine zget (ci := 2) (C := RX2) (T := TX2) (v := .ref (ad 2 l0 (5 + 1))) (k := 5) hx hb hts inW_2 hown hK hZ g14.1 g14.2 rfl (by decide) k_6_222 rfl d_4_3_33 ?_
      refine lv_iload_n hx hb d_4_3_36 rfl (lv_at hl 0 rfl) ?_
      refine lv_aload_n hx hb d_4_3_37 rfl (lv_at hl 1 rfl) ?_
      refine zget (ci := 2) (C := RX2) (T := TX2) (v := .int (iI (F 2 l0 4))) (k := 4) hx hb hts inW_2 hown hK hZ g14.1 g14.2 rfl (by decide) k_6_221 rfl d_4_3_38 ?_
      obtain ⟨g15, hf⟩ := gif hf
      refine zast (ci := 2) (k := 5) hx hb hK rfl hZ hS g14.1 g14.2 rfl (Nat.le_of_ble_eq_true rfl) g15.1 g15.2 d_4_3_41 (fun H16 locs16 hZ16 hS16 => ?_)
      refine lv_iconst (v := iI 0) hx hb d_4_3_42 rfl ?_
      refine lv_istore (lv' := [(4, .int (iI 0)), (3, .int (iI l3)), (0, .ref (ad 2 l0 0)), (1, .ref (ad 6 l1 0)), (2, .int (iI l2))]) hx hb d_4_3_43 hl (by decide) rfl (fun ls hl => ?_)
      exact b_Layout_setColumns_45 X ih hf hZ16 hS16 (lv_sub hl [0, 1, 2, 3, 4] rfl)

noncomputable def f_Layout_setColumns_7 (K : zK) : Nat → Int → Int → Int → Int → zF → zB → zO
  | 0, _, _, _, _, _, _ => none
  | n + 1, l3, l0, l1, l2, F, B => if r32 l3 then (if 4 ≤ l3 then f_Layout_setColumns_27 K K.1 0 l0 l1 l2 F B else if 0 ≤ l0 ∧ l0 < K.2 2 then if 0 ≤ l3 ∧ l3 < 4 then f_Layout_setColumns_7 K n (l3 + 1) l0 l1 l2 F (zup4 B 2 l0 12 l3 0) else none else none) else none
set_option maxHeartbeats 4000000 in
set_option maxRecDepth 100000 in
theorem b_Layout_setColumns_7 {D : va_G} {ca : Nat → ClassId} {ad : Nat → Int → Nat → Nat} {L : List Nat} {aS vS : Nat → Nat} {A : Nat → Prop} {p : Program} {l : Launch} {e : Env} {s : State} {m : MethodId} {args : Array Value} {below : List Frame} {meth : Method} {c : Code} {K : zK} {r : Int} {F9 : zF} {B9 : zB} (X : zX D ca L aS vS A p s m args meth c prog_4_method_3_code 5 (Option.none : Option Jvm.ClassFile.FieldType) "StaveHouse$Layout") : ∀ {n : Nat} {l3 : Int} {l0 : Int} {l1 : Int} {l2 : Int} {F : zF} {B : zB} {H : Heap} {locs : List Loc} {ls : Array Slot}, f_Layout_setColumns_7 K n l3 l0 l1 l2 F B = some (r, F9, B9) → zH D ca ad lnC K.2 L F B A H → va_S A s.heap H locs → lv_has ls 5 [(3, .int (iI l3)), (0, .ref (ad 2 l0 0)), (1, .ref (ad 6 l1 0)), (2, .int (iI l2))] → W p l e ({ frames := 3, cells := 0, slots := 0, locals := 77 } : Room) s m args below meth c H locs 0 0 (MQ below (Q_Layout_setColumns K D ca ad L r F9 B9 A) args s 0 0 A) (F0 m 7 ls []) := by
  obtain ⟨hx, hb, hr, hml, hown, hts, hlk, hK, hA, hL, hX⟩ := id X
  intro n
  induction n with
  | zero =>
    intros
    rename_i hf _ _ _
    cases hf
  | succ n ih =>
    intro l3 l0 l1 l2 F B H locs ls hf hZ hS hl
    replace hf : (if r32 l3 then (if 4 ≤ l3 then f_Layout_setColumns_27 K K.1 0 l0 l1 l2 F B else if 0 ≤ l0 ∧ l0 < K.2 2 then if 0 ≤ l3 ∧ l3 < 4 then f_Layout_setColumns_7 K n (l3 + 1) l0 l1 l2 F (zup4 B 2 l0 12 l3 0) else none else none) else none) = some (r, F9, B9) := hf
    refine lv_iload_n hx hb d_4_3_7 rfl (lv_at hl 0 rfl) ?_
    refine lv_iconst (v := iI 4) hx hb d_4_3_8 rfl ?_
    obtain ⟨g3, hf⟩ := gif hf
    refine zge (tgt := 25) hx hb g3 (by decide) d_4_3_9 (by decide) (fun h4 => ?_) (fun h4 => ?_)
    · replace hf := gpos hf h4
      refine lv_iconst (v := iI 0) hx hb d_4_3_25 rfl ?_
      refine lv_istore_n (lv' := [(3, .int (iI 0)), (0, .ref (ad 2 l0 0)), (1, .ref (ad 6 l1 0)), (2, .int (iI l2))]) hx hb d_4_3_26 rfl hl (by decide) rfl (fun ls hl => ?_)
      exact b_Layout_setColumns_27 X hf hZ hS (lv_sub hl [0, 1, 2, 3] rfl)
    · replace hf := gneg hf h4
      refine lv_aload_n hx hb d_4_3_12 rfl (lv_at hl 1 rfl) ?_
      obtain ⟨g5, hf⟩ := gif hf
      refine zget (ci := 2) (C := RX2) (T := TX2) (v := .ref (ad 2 l0 (12 + 1))) (k := 12) hx hb hts inW_2 hown hK hZ g5.1 g5.2 rfl (by decide) k_6_229 rfl d_4_3_13 ?_
      refine lv_iload_n hx hb d_4_3_16 rfl (lv_at hl 0 rfl) ?_
      refine lv_iconst (v := iI 0) hx hb d_4_3_17 rfl ?_
      obtain ⟨g6, hf⟩ := gif hf
      refine zast (ci := 2) (k := 12) hx hb hK rfl hZ hS g5.1 g5.2 rfl (Nat.le_of_ble_eq_true rfl) g6.1 g6.2 d_4_3_18 (fun H7 locs7 hZ7 hS7 => ?_)
      refine lv_iinc (v := iI (l3 + 1)) (lv' := [(3, .int (iI (l3 + 1))), (0, .ref (ad 2 l0 0)), (1, .ref (ad 6 l1 0)), (2, .int (iI l2))]) hx hb d_4_3_19 hl (k := 0) rfl (iI_add _ 1) (by decide) rfl (fun ls hl => ?_)
      refine lv_goto (tgt := 7) hx hb d_4_3_22 (by decide) ?_
      exact ih hf hZ7 hS7 (lv_sub hl [0, 1, 2, 3] rfl)

noncomputable def f_Layout_setColumns (K : zK) (l0 : Int) (l1 : Int) (l2 : Int) (F : zF) (B : zB) : zO := if 0 ≤ l0 ∧ l0 < K.2 2 then f_Layout_setColumns_7 K K.1 0 l0 l1 l2 (zup3 F 2 l0 4 0) B else none
set_option maxHeartbeats 4000000 in
set_option maxRecDepth 100000 in
theorem c_Layout_setColumns {l : Launch} {D : va_G} {ca : Nat → ClassId} {ad : Nat → Int → Nat → Nat} {L : List Nat} {aS vS : Nat → Nat} {sz : Nat} {K : zK}  {l0 : Int} {l1 : Int} {l2 : Int} {F F9 : zF} {B B9 : zB} {r : Int} (hf : f_Layout_setColumns K l0 l1 l2 F B = some (r, F9, B9)) : Met l ({ cls := "StaveHouse$Layout", name := "setColumns", desc := "(LStaveHouse$Piece;I)V" } : Jvm.MethodName) (Cond.code ({ cls := "StaveHouse$Layout", name := "setColumns", desc := "(LStaveHouse$Piece;I)V" } : Jvm.MethodName) prog_4_method_3_code 5 (Option.none : Option Jvm.ClassFile.FieldType) :: wAll) ({ frames := 3, cells := 0, slots := 0, locals := 77 } : Room) (va_Pc [.ref (ad 2 l0 0), .ref (ad 6 l1 0), .int (iI l2)] (zPre D ca ad lnC K.2 L aS vS F B sz)) (Q_Layout_setColumns K D ca ad L r F9 B9 (zA L sz)) 0 0 (zA L sz) := by
  refine zMet (Qc := Q_Layout_setColumns K D ca ad L r F9 B9) (lv := [(0, .ref (ad 2 l0 0)), (1, .ref (ad 6 l1 0)), (2, .int (iI l2))]) (by decide) (Nat.le_of_ble_eq_true rfl) rfl (fun A p e s m below meth c ls X hZ hS hl => ?_)
  obtain ⟨hx, hb, hr, hml, hown, hts, hlk, hK, hA, hL, hX⟩ := id X
  replace hf : (if 0 ≤ l0 ∧ l0 < K.2 2 then f_Layout_setColumns_7 K K.1 0 l0 l1 l2 (zup3 F 2 l0 4 0) B else none) = some (r, F9, B9) := hf
  refine lv_aload_n hx hb d_4_3_0 rfl (lv_at hl 0 rfl) ?_
  refine lv_iconst (v := iI 0) hx hb d_4_3_1 rfl ?_
  obtain ⟨g1, hf⟩ := gif hf
  refine zput (ci := 2) (C := RX2) (T := TX2) (k := 4) (v := 0) (w := .int (iI 0)) hx hb hts inW_2 tyX2 tyX2_ok nmX2 hown hK hZ hS g1.1 g1.2 rfl (by decide) k_6_221 rfl (fun G h => congrArg (fun q => Value.int (iI q)) h) rfl rfl (zno (by decide)) d_4_3_2 (fun H2 locs2 hZ2 hS2 => ?_)
  refine lv_iconst (v := iI 0) hx hb d_4_3_5 rfl ?_
  refine lv_istore_n (lv' := [(3, .int (iI 0)), (0, .ref (ad 2 l0 0)), (1, .ref (ad 6 l1 0)), (2, .int (iI l2))]) hx hb d_4_3_6 rfl hl (by decide) rfl (fun ls hl => ?_)
  exact b_Layout_setColumns_7 X hf hZ2 hS2 (lv_sub hl [0, 1, 2, 3] rfl)

noncomputable abbrev Q_ByteRow_putText (K : zK) (D : va_G) (ca : Nat → ClassId) (ad : Nat → Int → Nat → Nat) (L : List Nat) (r : Int) (F : zF) (B : zB) (A : Nat → Prop) : Array Value → State → Outcome → State → Prop := va_Qv (S := Unit) (fun _ => True) (fun _ => zPo D ca ad lnC K.2 L F B A) A
noncomputable def f_ByteRow_putText_2 (K : zK) : Nat → Int → Int → Nat → zF → zB → zO
  | 0, _, _, _, _, _ => none
  | n + 1, l2, l0, l1, F, B => if l1 < strL.length then zbind (f_CString_length K l1 F B) (fun r2 F2 B2 => if r32 l2 then if r32 r2 then (if r2 ≤ l2 then some (0, F2, B2) else zbind (f_CString_charAt K l1 l2 F2 B2) (fun r6 F6 B6 => if 0 ≤ l0 ∧ l0 < K.2 0 then zbind (f_ByteRow_put K l0 r6 F6 B6) (fun r8 F8 B8 => f_ByteRow_putText_2 K n (l2 + 1) l0 l1 F8 B8) else none)) else none else none) else none
set_option maxHeartbeats 4000000 in
set_option maxRecDepth 100000 in
theorem b_ByteRow_putText_2 {D : va_G} {ca : Nat → ClassId} {ad : Nat → Int → Nat → Nat} {L : List Nat} {aS vS : Nat → Nat} {A : Nat → Prop} {p : Program} {l : Launch} {e : Env} {s : State} {m : MethodId} {args : Array Value} {below : List Frame} {meth : Method} {c : Code} {K : zK} {r : Int} {F9 : zF} {B9 : zB} (X : zX D ca L aS vS A p s m args meth c prog_2_method_5_code 3 (Option.none : Option Jvm.ClassFile.FieldType) "StaveHouse$ByteRow") : ∀ {n : Nat} {l2 : Int} {l0 : Int} {l1 : Nat} {F : zF} {B : zB} {H : Heap} {locs : List Loc} {ls : Array Slot}, f_ByteRow_putText_2 K n l2 l0 l1 F B = some (r, F9, B9) → zH D ca ad lnC K.2 L F B A H → va_S A s.heap H locs → lv_has ls 3 [(2, .int (iI l2)), (0, .ref (ad 0 l0 0)), (1, .ref (aS l1))] → W p l e ({ frames := 4, cells := 0, slots := 0, locals := 85 } : Room) s m args below meth c H locs 0 0 (MQ below (Q_ByteRow_putText K D ca ad L r F9 B9 A) args s 0 0 A) (F0 m 2 ls []) := by
  obtain ⟨hx, hb, hr, hml, hown, hts, hlk, hK, hA, hL, hX⟩ := id X
  intro n
  induction n with
  | zero =>
    intros
    rename_i hf _ _ _
    cases hf
  | succ n ih =>
    intro l2 l0 l1 F B H locs ls hf hZ hS hl
    replace hf : (if l1 < strL.length then zbind (f_CString_length K l1 F B) (fun r2 F2 B2 => if r32 l2 then if r32 r2 then (if r2 ≤ l2 then some (0, F2, B2) else zbind (f_CString_charAt K l1 l2 F2 B2) (fun r6 F6 B6 => if 0 ≤ l0 ∧ l0 < K.2 0 then zbind (f_ByteRow_put K l0 r6 F6 B6) (fun r8 F8 B8 => f_ByteRow_putText_2 K n (l2 + 1) l0 l1 F8 B8) else none)) else none else none) else none) = some (r, F9, B9) := hf
    refine lv_iload_n hx hb d_2_5_2 rfl (lv_at hl 0 rfl) ?_
    refine lv_aload_n hx hb d_2_5_3 rfl (lv_at hl 2 rfl) ?_
    obtain ⟨g1, hf⟩ := gif hf
    obtain ⟨r2, F2, B2, hc2, hf⟩ := gbind hf
    refine va_calli (va_runV (As := []) (rest := [.int (iI l2)]) ⟨hx, hb, hml, hown, hts⟩ (c_CString_length (l := l) hc2) (cwV 0 hts (gdV k_7_132 k_3_82 k_3_83 k_1_11 k_3_84) rfl rfl rfl (by decide +kernel) ⟨Nat.le_of_ble_eq_true rfl, Nat.le_of_ble_eq_true rfl⟩) ⟨zBlind, zsrecv hX g1 hS, zAt X hZ hS [.ref (aS l1)]⟩ rfl rfl hl.1 rfl (lv_room (Nat.le_of_ble_eq_true rfl)) d_2_5_4 ⟨Nat.le_of_ble_eq_true rfl, Nat.le_of_ble_eq_true rfl⟩) hS (fun q _ h => zAin X hS q h) (zAin X hS) (fun p2 u2 t2 H2 locs2 ht2 hv2 hw2 hB2 hz2 hk2 hS2 => ?_)
    have hZ2 := zBack X ht2 hB2
    subst hw2
    obtain ⟨g3, hf⟩ := gif hf
    obtain ⟨g4, hf⟩ := gif hf
    refine zge (tgt := 25) hx hb g3 g4 d_2_5_7 (by decide) (fun h5 => ?_) (fun h5 => ?_)
    · replace hf := gpos hf h5
      cases hf
      exact W.vret hx hb hr (fun t ht hW => ⟨⟨(), rfl, trivial, by rw [ht]; exact hZ2, va_K.moved hW.alike hK⟩, hS2.F ht⟩) hS2.2.2 d_2_5_25 hlk
    · replace hf := gneg hf h5
      refine lv_aload_n hx hb d_2_5_10 rfl (lv_at hl 1 rfl) ?_
      refine lv_aload_n hx hb d_2_5_11 rfl (lv_at hl 2 rfl) ?_
      refine lv_iload_n hx hb d_2_5_12 rfl (lv_at hl 0 rfl) ?_
      obtain ⟨r6, F6, B6, hc6, hf⟩ := gbind hf
      refine va_calli (va_runV (As := [.int (iI l2)]) (rest := [.ref (ad 0 l0 0)]) ⟨hx, hb, hml, hown, hts⟩ (c_CString_charAt (l := l) hc6) (cwV 1 hts (gdV k_7_133 k_7_134 k_7_135 k_1_11 k_7_136) rfl rfl rfl (by decide +kernel) ⟨Nat.le_of_ble_eq_true rfl, Nat.le_of_ble_eq_true rfl⟩) ⟨zBlind, zsrecv hX g1 hS2, zAt X hZ2 hS2 [.ref (aS l1), .int (iI l2)]⟩ rfl rfl hl.1 rfl (lv_room (Nat.le_of_ble_eq_true rfl)) d_2_5_13 ⟨Nat.le_of_ble_eq_true rfl, Nat.le_of_ble_eq_true rfl⟩) hS2 (fun q _ h => zAin X hS2 q h) (zAin X hS2) (fun p6 u6 t6 H6 locs6 ht6 hv6 hw6 hB6 hz6 hk6 hS6 => ?_)
      have hZ6 := zBack X ht6 hB6
      subst hw6
      obtain ⟨g7, hf⟩ := gif hf
      obtain ⟨r8, F8, B8, hc8, hf⟩ := gbind hf
      refine va_callv (va_runV (As := [.int (iI r6)]) (rest := []) ⟨hx, hb, hml, hown, hts⟩ (c_ByteRow_put (l := l) hc8) (cwV 1 hts (gdV k_7_153 k_2_171 k_2_172 k_1_2 k_2_173) rfl rfl rfl (by decide +kernel) ⟨Nat.le_of_ble_eq_true rfl, Nat.le_of_ble_eq_true rfl⟩) (zPV X hZ6 hS6 (ci := 0) g7.1 g7.2 (r := (RX0, TX0, 3)) rfl [.int (iI r6)]) rfl rfl hl.1 rfl (lv_room (Nat.le_of_ble_eq_true rfl)) d_2_5_16 ⟨Nat.le_of_ble_eq_true rfl, Nat.le_of_ble_eq_true rfl⟩) hS6 (fun q _ h => zAin X hS6 q h) (zAin X hS6) (fun u8 t8 H8 locs8 ht8 hv8 hw8 hB8 hz8 hk8 hS8 => ?_)
      have hZ8 := zBack X ht8 hB8
      refine lv_iinc (v := iI (l2 + 1)) (lv' := [(2, .int (iI (l2 + 1))), (0, .ref (ad 0 l0 0)), (1, .ref (aS l1))]) hx hb d_2_5_19 hl (k := 0) rfl (iI_add _ 1) (by decide) rfl (fun ls hl => ?_)
      refine lv_goto (tgt := 2) hx hb d_2_5_22 (by decide) ?_
      exact ih hf hZ8 hS8 (lv_sub hl [0, 1, 2] rfl)

noncomputable def f_ByteRow_putText (K : zK) (l0 : Int) (l1 : Nat) (F : zF) (B : zB) : zO := f_ByteRow_putText_2 K K.1 0 l0 l1 F B
set_option maxHeartbeats 4000000 in
set_option maxRecDepth 100000 in
theorem c_ByteRow_putText {l : Launch} {D : va_G} {ca : Nat → ClassId} {ad : Nat → Int → Nat → Nat} {L : List Nat} {aS vS : Nat → Nat} {sz : Nat} {K : zK}  {l0 : Int} {l1 : Nat} {F F9 : zF} {B B9 : zB} {r : Int} (hf : f_ByteRow_putText K l0 l1 F B = some (r, F9, B9)) : Met l ({ cls := "StaveHouse$ByteRow", name := "putText", desc := "(Ljava/lang/String;)V" } : Jvm.MethodName) (Cond.code ({ cls := "StaveHouse$ByteRow", name := "putText", desc := "(Ljava/lang/String;)V" } : Jvm.MethodName) prog_2_method_5_code 3 (Option.none : Option Jvm.ClassFile.FieldType) :: wAll) ({ frames := 4, cells := 0, slots := 0, locals := 85 } : Room) (va_Pc [.ref (ad 0 l0 0), .ref (aS l1)] (zPre D ca ad lnC K.2 L aS vS F B sz)) (Q_ByteRow_putText K D ca ad L r F9 B9 (zA L sz)) 0 0 (zA L sz) := by
  refine zMet (Qc := Q_ByteRow_putText K D ca ad L r F9 B9) (lv := [(0, .ref (ad 0 l0 0)), (1, .ref (aS l1))]) (by decide) (Nat.le_of_ble_eq_true rfl) rfl (fun A p e s m below meth c ls X hZ hS hl => ?_)
  obtain ⟨hx, hb, hr, hml, hown, hts, hlk, hK, hA, hL, hX⟩ := id X
  replace hf : (f_ByteRow_putText_2 K K.1 0 l0 l1 F B) = some (r, F9, B9) := hf
  refine lv_iconst (v := iI 0) hx hb d_2_5_0 rfl ?_
  refine lv_istore_n (lv' := [(2, .int (iI 0)), (0, .ref (ad 0 l0 0)), (1, .ref (aS l1))]) hx hb d_2_5_1 rfl hl (by decide) rfl (fun ls hl => ?_)
  exact b_ByteRow_putText_2 X hf hZ hS (lv_sub hl [0, 1, 2] rfl)

noncomputable abbrev Q_Performance_beginTrack (K : zK) (D : va_G) (ca : Nat → ClassId) (ad : Nat → Int → Nat → Nat) (L : List Nat) (r : Int) (F : zF) (B : zB) (A : Nat → Prop) : Array Value → State → Outcome → State → Prop := va_Qi (S := Unit) (fun p _ => p = iI r) (fun _ => zPo D ca ad lnC K.2 L F B A) A
noncomputable def f_Performance_beginTrack (K : zK) (l0 : Int) (F : zF) (B : zB) : zO := if 0 ≤ l0 ∧ l0 < K.2 0 then zbind (f_ByteRow_putText K l0 2 F B) (fun r2 F2 B2 => zbind (f_ByteRow_putWide K l0 0 4 F2 B2) (fun r3 F3 B3 => some (F3 0 l0 1, F3, B3))) else none
set_option maxHeartbeats 4000000 in
set_option maxRecDepth 100000 in
theorem c_Performance_beginTrack {l : Launch} {D : va_G} {ca : Nat → ClassId} {ad : Nat → Int → Nat → Nat} {L : List Nat} {aS vS : Nat → Nat} {sz : Nat} {K : zK}  {l0 : Int} {F F9 : zF} {B B9 : zB} {r : Int} (hf : f_Performance_beginTrack K l0 F B = some (r, F9, B9)) : Met l ({ cls := "StaveHouse$Performance", name := "beginTrack", desc := "(LStaveHouse$ByteRow;)I" } : Jvm.MethodName) (Cond.code ({ cls := "StaveHouse$Performance", name := "beginTrack", desc := "(LStaveHouse$ByteRow;)I" } : Jvm.MethodName) prog_7_method_18_code 1 (Option.some Jvm.ClassFile.FieldType.int) :: wAll) ({ frames := 5, cells := 0, slots := 0, locals := 107 } : Room) (va_Pc [.ref (ad 0 l0 0)] (zPre D ca ad lnC K.2 L aS vS F B sz)) (Q_Performance_beginTrack K D ca ad L r F9 B9 (zA L sz)) 0 0 (zA L sz) := by
  refine zMet (Qc := Q_Performance_beginTrack K D ca ad L r F9 B9) (lv := [(0, .ref (ad 0 l0 0))]) (by decide) (Nat.le_of_ble_eq_true rfl) rfl (fun A p e s m below meth c ls X hZ hS hl => ?_)
  obtain ⟨hx, hb, hr, hml, hown, hts, hlk, hK, hA, hL, hX⟩ := id X
  replace hf : (if 0 ≤ l0 ∧ l0 < K.2 0 then zbind (f_ByteRow_putText K l0 2 F B) (fun r2 F2 B2 => zbind (f_ByteRow_putWide K l0 0 4 F2 B2) (fun r3 F3 B3 => some (F3 0 l0 1, F3, B3))) else none) = some (r, F9, B9) := hf
  refine lv_aload_n hx hb d_7_18_0 rfl (lv_at hl 0 rfl) ?_
  refine va_ldcS hx hb hown (hX.2.2.2.2.1 2 _ rfl).1 d_7_18_1 ?_
  obtain ⟨g1, hf⟩ := gif hf
  obtain ⟨r2, F2, B2, hc2, hf⟩ := gbind hf
  refine va_callv (va_runV (As := [.ref (aS 2)]) (rest := []) ⟨hx, hb, hml, hown, hts⟩ (c_ByteRow_putText (l := l) hc2) (cwV 1 hts (gdV k_7_128 k_7_129 k_7_130 k_1_2 k_7_131) rfl rfl rfl (by decide +kernel) ⟨Nat.le_of_ble_eq_true rfl, Nat.le_of_ble_eq_true rfl⟩) (zPV X hZ hS (ci := 0) g1.1 g1.2 (r := (RX0, TX0, 3)) rfl [.ref (aS 2)]) rfl rfl hl.1 rfl (lv_room (Nat.le_of_ble_eq_true rfl)) d_7_18_3 ⟨Nat.le_of_ble_eq_true rfl, Nat.le_of_ble_eq_true rfl⟩) hS (fun q _ h => zAin X hS q h) (zAin X hS) (fun u2 t2 H2 locs2 ht2 hv2 hw2 hB2 hz2 hk2 hS2 => ?_)
  have hZ2 := zBack X ht2 hB2
  refine lv_aload_n hx hb d_7_18_6 rfl (lv_at hl 0 rfl) ?_
  refine lv_iconst (v := iI 0) hx hb d_7_18_7 rfl ?_
  refine lv_iconst (v := iI 4) hx hb d_7_18_8 rfl ?_
  obtain ⟨r3, F3, B3, hc3, hf⟩ := gbind hf
  refine va_callv (va_runV (As := [.int (iI 0), .int (iI 4)]) (rest := []) ⟨hx, hb, hml, hown, hts⟩ (c_ByteRow_putWide (l := l) hc3) (cwV 2 hts (gdV k_7_154 k_7_155 k_7_156 k_1_2 k_7_157) rfl rfl rfl (by decide +kernel) ⟨Nat.le_of_ble_eq_true rfl, Nat.le_of_ble_eq_true rfl⟩) (zPV X hZ2 hS2 (ci := 0) g1.1 g1.2 (r := (RX0, TX0, 3)) rfl [.int (iI 0), .int (iI 4)]) rfl rfl hl.1 rfl (lv_room (Nat.le_of_ble_eq_true rfl)) d_7_18_9 ⟨Nat.le_of_ble_eq_true rfl, Nat.le_of_ble_eq_true rfl⟩) hS2 (fun q _ h => zAin X hS2 q h) (zAin X hS2) (fun u3 t3 H3 locs3 ht3 hv3 hw3 hB3 hz3 hk3 hS3 => ?_)
  have hZ3 := zBack X ht3 hB3
  refine lv_aload_n hx hb d_7_18_12 rfl (lv_at hl 0 rfl) ?_
  refine zget (ci := 0) (C := RX0) (T := TX0) (v := .int (iI (F3 0 l0 1))) (k := 1) hx hb hts inW_0 hown hK hZ3 g1.1 g1.2 rfl (by decide) k_1_47 rfl d_7_18_13 ?_
  cases hf
  exact W.iret hx hb hr (fun t ht hW => ⟨⟨_, (), rfl, rfl, by rw [ht]; exact hZ3, va_K.moved hW.alike hK⟩, hS3.F ht⟩) hS3.2.2 d_7_18_16 hlk

noncomputable abbrev Q_Performance_writeVoice (K : zK) (D : va_G) (ca : Nat → ClassId) (ad : Nat → Int → Nat → Nat) (L : List Nat) (r : Int) (F : zF) (B : zB) (A : Nat → Prop) : Array Value → State → Outcome → State → Prop := va_Qv (S := Unit) (fun _ => True) (fun _ => zPo D ca ad lnC K.2 L F B A) A
noncomputable def f_Performance_writeVoice_56 (K : zK) : Nat → Int → Int → Int → Int → Int → Int → zF → zB → zO
  | 0, _, _, _, _, _, _, _, _ => none
  | n + 1, l6, l4, l0, l1, l2, l3, F, B => if r32 l6 then (if l6 < 0 then if 0 ≤ l3 ∧ l3 < K.2 0 then zbind (f_ByteRow_put K l3 0 F B) (fun r11 F11 B11 => zbind (f_ByteRow_put K l3 (192 + l2) F11 B11) (fun r12 F12 B12 => if 0 ≤ l1 ∧ l1 < K.2 4 then zbind (f_ByteRow_put K l3 (F12 4 l1 2) F12 B12) (fun r14 F14 B14 => if 0 ≤ l0 ∧ l0 < K.2 5 then zbind (f_Performance_writeStrokes K l0 l2 l3 F14 B14) (fun r16 F16 B16 => zbind (f_Performance_endTrack K l3 l4 F16 B16) (fun r17 F17 B17 => some (0, F17, B17))) else none) else none)) else none else if 0 ≤ l1 ∧ l1 < K.2 4 then if 0 ≤ l3 ∧ l3 < K.2 0 then zbind (f_ByteRow_put K l3 (zlushr (F 4 l1 0) (8 * l6)) F B) (fun r20 F20 B20 => f_Performance_writeVoice_56 K n (l6 - 1) l4 l0 l1 l2 l3 F20 B20) else none else none) else none
