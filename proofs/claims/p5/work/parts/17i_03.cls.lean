set_option maxHeartbeats 4000000 in
set_option maxRecDepth 100000 in
theorem b_Study_findFaults_22 {D : va_G} {ca : Nat → ClassId} {ad : Nat → Int → Nat → Nat} {L : List Nat} {aS vS : Nat → Nat} {A : Nat → Prop} {p : Program} {l : Launch} {e : Env} {s : State} {m : MethodId} {args : Array Value} {below : List Frame} {meth : Method} {c : Code} {K : zK} {r : Int} {F9 : zF} {B9 : zB} (X : zX D ca L aS vS A p s m args meth c prog_11_method_7_code 6 (Option.none : Option Jvm.ClassFile.FieldType) "StaveHouse$Study") {rec2 : Int → Int → Int → Int → zF → zB → zO} {rec10 : Int → Int → Int → Int → Int → zF → zB → zO} (hrec2 : ∀ {l3 : Int} {l0 : Int} {l1 : Int} {l2 : Int} {F : zF} {B : zB} {H : Heap} {locs : List Loc} {ls : Array Slot}, rec2 l3 l0 l1 l2 F B = some (r, F9, B9) → zH D ca ad lnC K.2 L F B A H → va_S A s.heap H locs → lv_has ls 6 [(3, .int (iI l3)), (0, .ref (ad 9 l0 0)), (1, .int (iI l1)), (2, .int (iI l2))] → W p l e ({ frames := 3, cells := 0, slots := 0, locals := 77 } : Room) s m args below meth c H locs 0 0 (MQ below (Q_Study_findFaults K D ca ad L r F9 B9 A) args s 0 0 A) (F0 m 2 ls [])) (hrec10 : ∀ {l4 : Int} {l3 : Int} {l0 : Int} {l1 : Int} {l2 : Int} {F : zF} {B : zB} {H : Heap} {locs : List Loc} {ls : Array Slot}, rec10 l4 l3 l0 l1 l2 F B = some (r, F9, B9) → zH D ca ad lnC K.2 L F B A H → va_S A s.heap H locs → lv_has ls 6 [(4, .int (iI l4)), (3, .int (iI l3)), (0, .ref (ad 9 l0 0)), (1, .int (iI l1)), (2, .int (iI l2))] → W p l e ({ frames := 3, cells := 0, slots := 0, locals := 77 } : Room) s m args below meth c H locs 0 0 (MQ below (Q_Study_findFaults K D ca ad L r F9 B9 A) args s 0 0 A) (F0 m 10 ls [])) : ∀ {n : Nat} {l5 : Int} {l4 : Int} {l3 : Int} {l0 : Int} {l1 : Int} {l2 : Int} {F : zF} {B : zB} {H : Heap} {locs : List Loc} {ls : Array Slot}, f_Study_findFaults_22 rec2 rec10 K n l5 l4 l3 l0 l1 l2 F B = some (r, F9, B9) → zH D ca ad lnC K.2 L F B A H → va_S A s.heap H locs → lv_has ls 6 [(5, .int (iI l5)), (4, .int (iI l4)), (3, .int (iI l3)), (0, .ref (ad 9 l0 0)), (1, .int (iI l1)), (2, .int (iI l2))] → W p l e ({ frames := 3, cells := 0, slots := 0, locals := 77 } : Room) s m args below meth c H locs 0 0 (MQ below (Q_Study_findFaults K D ca ad L r F9 B9 A) args s 0 0 A) (F0 m 22 ls []) := by
  obtain ⟨hx, hb, hr, hml, hown, hts, hlk, hK, hA, hL, hX⟩ := id X
  intro n
  induction n with
  | zero =>
    intros
    rename_i hf _ _ _
    cases hf
  | succ n ih =>
    intro l5 l4 l3 l0 l1 l2 F B H locs ls hf hZ hS hl
    replace hf : (if r32 l5 then if r32 l1 then (if l1 ≤ l5 then rec10 (l4 + 1) l3 l0 l1 l2 F B else if 0 ≤ l0 ∧ l0 < K.2 9 then zbind (f_Study_isFaultOfTwo K l0 l3 l4 l5 F B) (fun r10 F10 B10 => if r32 r10 then (if r10 = 0 then f_Study_findFaults_50 rec2 rec10 (f_Study_findFaults_22 rec2 rec10 K n) K l5 l4 l3 l0 l1 l2 F10 B10 else zbind (f_Study_addFault K l0 l2 l3 l4 l5 F10 B10) (fun r13 F13 B13 => f_Study_findFaults_50 rec2 rec10 (f_Study_findFaults_22 rec2 rec10 K n) K l5 l4 l3 l0 l1 l2 F13 B13)) else none) else none) else none else none) = some (r, F9, B9) := hf
    refine lv_iload hx hb d_11_7_22 (lv_at hl 0 rfl) ?_
    refine lv_iload_n hx hb d_11_7_24 rfl (lv_at hl 4 rfl) ?_
    obtain ⟨g6, hf⟩ := gif hf
    obtain ⟨g7, hf⟩ := gif hf
    refine zge (tgt := 56) hx hb g6 g7 d_11_7_25 (by decide) (fun h8 => ?_) (fun h8 => ?_)
    · replace hf := gpos hf h8
      refine lv_iinc (v := iI (l4 + 1)) (lv' := [(4, .int (iI (l4 + 1))), (5, .int (iI l5)), (3, .int (iI l3)), (0, .ref (ad 9 l0 0)), (1, .int (iI l1)), (2, .int (iI l2))]) hx hb d_11_7_56 hl (k := 1) rfl (iI_add _ 1) (by decide) rfl (fun ls hl => ?_)
      refine lv_goto (tgt := 10) hx hb d_11_7_59 (by decide) ?_
      exact hrec10 hf hZ hS (lv_sub hl [0, 2, 3, 4, 5] rfl)
    · replace hf := gneg hf h8
      refine lv_aload_n hx hb d_11_7_28 rfl (lv_at hl 3 rfl) ?_
      refine lv_iload_n hx hb d_11_7_29 rfl (lv_at hl 2 rfl) ?_
      refine lv_iload hx hb d_11_7_30 (lv_at hl 1 rfl) ?_
      refine lv_iload hx hb d_11_7_32 (lv_at hl 0 rfl) ?_
      obtain ⟨g9, hf⟩ := gif hf
      obtain ⟨r10, F10, B10, hc10, hf⟩ := gbind hf
      refine va_calli (va_runV (As := [.int (iI l3), .int (iI l4), .int (iI l5)]) (rest := []) ⟨hx, hb, hml, hown, hts⟩ (c_Study_isFaultOfTwo (l := l) hc10) (cwV 3 hts (gdV k_6_31 k_6_33 ks_71 k_1_19 k_6_34) rfl rfl rfl (by decide +kernel) ⟨Nat.le_of_ble_eq_true rfl, Nat.le_of_ble_eq_true rfl⟩) (zPV X hZ hS (ci := 9) g9.1 g9.2 (r := (RX9, TX9, 11)) rfl [.int (iI l3), .int (iI l4), .int (iI l5)]) rfl rfl hl.1 rfl (lv_room (Nat.le_of_ble_eq_true rfl)) d_11_7_34 ⟨Nat.le_of_ble_eq_true rfl, Nat.le_of_ble_eq_true rfl⟩) hS (fun q _ h => zAin X hS q h) (zAin X hS) (fun p10 u10 t10 H10 locs10 ht10 hv10 hw10 hB10 hz10 hk10 hS10 => ?_)
      have hZ10 := zBack X ht10 hB10
      subst hw10
      obtain ⟨g11, hf⟩ := gif hf
      refine z0eq (tgt := 50) hx hb g11 d_11_7_37 (by decide) (fun h12 => ?_) (fun h12 => ?_)
      · replace hf := gpos hf h12
        exact b_Study_findFaults_50 X hrec2 hrec10 ih hf hZ10 hS10 (lv_sub hl [0, 1, 2, 3, 4, 5] rfl)
      · replace hf := gneg hf h12
        refine lv_aload_n hx hb d_11_7_40 rfl (lv_at hl 3 rfl) ?_
        refine lv_iload_n hx hb d_11_7_41 rfl (lv_at hl 5 rfl) ?_
        refine lv_iload_n hx hb d_11_7_42 rfl (lv_at hl 2 rfl) ?_
        refine lv_iload hx hb d_11_7_43 (lv_at hl 1 rfl) ?_
        refine lv_iload hx hb d_11_7_45 (lv_at hl 0 rfl) ?_
        obtain ⟨r13, F13, B13, hc13, hf⟩ := gbind hf
        refine va_callv (va_runV (As := [.int (iI l2), .int (iI l3), .int (iI l4), .int (iI l5)]) (rest := []) ⟨hx, hb, hml, hown, hts⟩ (c_Study_addFault (l := l) hc13) (cwV 4 hts (gdV k_6_40 k_6_42 ks_72 k_1_19 k_6_43) rfl rfl rfl (by decide +kernel) ⟨Nat.le_of_ble_eq_true rfl, Nat.le_of_ble_eq_true rfl⟩) (zPV X hZ10 hS10 (ci := 9) g9.1 g9.2 (r := (RX9, TX9, 11)) rfl [.int (iI l2), .int (iI l3), .int (iI l4), .int (iI l5)]) rfl rfl hl.1 rfl (lv_room (Nat.le_of_ble_eq_true rfl)) d_11_7_47 ⟨Nat.le_of_ble_eq_true rfl, Nat.le_of_ble_eq_true rfl⟩) hS10 (fun q _ h => zAin X hS10 q h) (zAin X hS10) (fun u13 t13 H13 locs13 ht13 hv13 hw13 hB13 hz13 hk13 hS13 => ?_)
        have hZ13 := zBack X ht13 hB13
        exact b_Study_findFaults_50 X hrec2 hrec10 ih hf hZ13 hS13 (lv_sub hl [0, 1, 2, 3, 4, 5] rfl)

noncomputable def f_Study_findFaults_10 (rec2 : Int → Int → Int → Int → zF → zB → zO) (K : zK) : Nat → Int → Int → Int → Int → Int → zF → zB → zO
  | 0, _, _, _, _, _, _, _ => none
  | n + 1, l4, l3, l0, l1, l2, F, B => if r32 l4 then if r32 l1 then (if l1 ≤ l4 then rec2 (l3 + 1) l0 l1 l2 F B else f_Study_findFaults_22 rec2 (f_Study_findFaults_10 rec2 K n) K K.1 (l4 + 1) l4 l3 l0 l1 l2 F B) else none else none
set_option maxHeartbeats 4000000 in
set_option maxRecDepth 100000 in
theorem b_Study_findFaults_10 {D : va_G} {ca : Nat → ClassId} {ad : Nat → Int → Nat → Nat} {L : List Nat} {aS vS : Nat → Nat} {A : Nat → Prop} {p : Program} {l : Launch} {e : Env} {s : State} {m : MethodId} {args : Array Value} {below : List Frame} {meth : Method} {c : Code} {K : zK} {r : Int} {F9 : zF} {B9 : zB} (X : zX D ca L aS vS A p s m args meth c prog_11_method_7_code 6 (Option.none : Option Jvm.ClassFile.FieldType) "StaveHouse$Study") {rec2 : Int → Int → Int → Int → zF → zB → zO} (hrec2 : ∀ {l3 : Int} {l0 : Int} {l1 : Int} {l2 : Int} {F : zF} {B : zB} {H : Heap} {locs : List Loc} {ls : Array Slot}, rec2 l3 l0 l1 l2 F B = some (r, F9, B9) → zH D ca ad lnC K.2 L F B A H → va_S A s.heap H locs → lv_has ls 6 [(3, .int (iI l3)), (0, .ref (ad 9 l0 0)), (1, .int (iI l1)), (2, .int (iI l2))] → W p l e ({ frames := 3, cells := 0, slots := 0, locals := 77 } : Room) s m args below meth c H locs 0 0 (MQ below (Q_Study_findFaults K D ca ad L r F9 B9 A) args s 0 0 A) (F0 m 2 ls [])) : ∀ {n : Nat} {l4 : Int} {l3 : Int} {l0 : Int} {l1 : Int} {l2 : Int} {F : zF} {B : zB} {H : Heap} {locs : List Loc} {ls : Array Slot}, f_Study_findFaults_10 rec2 K n l4 l3 l0 l1 l2 F B = some (r, F9, B9) → zH D ca ad lnC K.2 L F B A H → va_S A s.heap H locs → lv_has ls 6 [(4, .int (iI l4)), (3, .int (iI l3)), (0, .ref (ad 9 l0 0)), (1, .int (iI l1)), (2, .int (iI l2))] → W p l e ({ frames := 3, cells := 0, slots := 0, locals := 77 } : Room) s m args below meth c H locs 0 0 (MQ below (Q_Study_findFaults K D ca ad L r F9 B9 A) args s 0 0 A) (F0 m 10 ls []) := by
  obtain ⟨hx, hb, hr, hml, hown, hts, hlk, hK, hA, hL, hX⟩ := id X
  intro n
  induction n with
  | zero =>
    intros
    rename_i hf _ _ _
    cases hf
  | succ n ih =>
    intro l4 l3 l0 l1 l2 F B H locs ls hf hZ hS hl
    replace hf : (if r32 l4 then if r32 l1 then (if l1 ≤ l4 then rec2 (l3 + 1) l0 l1 l2 F B else f_Study_findFaults_22 rec2 (f_Study_findFaults_10 rec2 K n) K K.1 (l4 + 1) l4 l3 l0 l1 l2 F B) else none else none) = some (r, F9, B9) := hf
    refine lv_iload hx hb d_11_7_10 (lv_at hl 0 rfl) ?_
    refine lv_iload_n hx hb d_11_7_12 rfl (lv_at hl 3 rfl) ?_
    obtain ⟨g3, hf⟩ := gif hf
    obtain ⟨g4, hf⟩ := gif hf
    refine zge (tgt := 62) hx hb g3 g4 d_11_7_13 (by decide) (fun h5 => ?_) (fun h5 => ?_)
    · replace hf := gpos hf h5
      refine lv_iinc (v := iI (l3 + 1)) (lv' := [(3, .int (iI (l3 + 1))), (4, .int (iI l4)), (0, .ref (ad 9 l0 0)), (1, .int (iI l1)), (2, .int (iI l2))]) hx hb d_11_7_62 hl (k := 1) rfl (iI_add _ 1) (by decide) rfl (fun ls hl => ?_)
      refine lv_goto (tgt := 2) hx hb d_11_7_65 (by decide) ?_
      exact hrec2 hf hZ hS (lv_sub hl [0, 2, 3, 4] rfl)
    · replace hf := gneg hf h5
      refine lv_iload hx hb d_11_7_16 (lv_at hl 0 rfl) ?_
      refine lv_iconst (v := iI 1) hx hb d_11_7_18 rfl ?_
      refine zadd hx hb d_11_7_19 ?_
      refine lv_istore (lv' := [(5, .int (iI (l4 + 1))), (4, .int (iI l4)), (3, .int (iI l3)), (0, .ref (ad 9 l0 0)), (1, .int (iI l1)), (2, .int (iI l2))]) hx hb d_11_7_20 hl (by decide) rfl (fun ls hl => ?_)
      exact b_Study_findFaults_22 X hrec2 ih hf hZ hS (lv_sub hl [0, 1, 2, 3, 4, 5] rfl)

noncomputable def f_Study_findFaults_2 (K : zK) : Nat → Int → Int → Int → Int → zF → zB → zO
  | 0, _, _, _, _, _, _ => none
  | n + 1, l3, l0, l1, l2, F, B => if r32 l3 then (if 4 < l3 then f_Study_findFaults_70 K K.1 5 l0 l1 l2 F B else f_Study_findFaults_10 (f_Study_findFaults_2 K n) K K.1 0 l3 l0 l1 l2 F B) else none
set_option maxHeartbeats 4000000 in
set_option maxRecDepth 100000 in
theorem b_Study_findFaults_2 {D : va_G} {ca : Nat → ClassId} {ad : Nat → Int → Nat → Nat} {L : List Nat} {aS vS : Nat → Nat} {A : Nat → Prop} {p : Program} {l : Launch} {e : Env} {s : State} {m : MethodId} {args : Array Value} {below : List Frame} {meth : Method} {c : Code} {K : zK} {r : Int} {F9 : zF} {B9 : zB} (X : zX D ca L aS vS A p s m args meth c prog_11_method_7_code 6 (Option.none : Option Jvm.ClassFile.FieldType) "StaveHouse$Study") : ∀ {n : Nat} {l3 : Int} {l0 : Int} {l1 : Int} {l2 : Int} {F : zF} {B : zB} {H : Heap} {locs : List Loc} {ls : Array Slot}, f_Study_findFaults_2 K n l3 l0 l1 l2 F B = some (r, F9, B9) → zH D ca ad lnC K.2 L F B A H → va_S A s.heap H locs → lv_has ls 6 [(3, .int (iI l3)), (0, .ref (ad 9 l0 0)), (1, .int (iI l1)), (2, .int (iI l2))] → W p l e ({ frames := 3, cells := 0, slots := 0, locals := 77 } : Room) s m args below meth c H locs 0 0 (MQ below (Q_Study_findFaults K D ca ad L r F9 B9 A) args s 0 0 A) (F0 m 2 ls []) := by
  obtain ⟨hx, hb, hr, hml, hown, hts, hlk, hK, hA, hL, hX⟩ := id X
  intro n
  induction n with
  | zero =>
    intros
    rename_i hf _ _ _
    cases hf
  | succ n ih =>
    intro l3 l0 l1 l2 F B H locs ls hf hZ hS hl
    replace hf : (if r32 l3 then (if 4 < l3 then f_Study_findFaults_70 K K.1 5 l0 l1 l2 F B else f_Study_findFaults_10 (f_Study_findFaults_2 K n) K K.1 0 l3 l0 l1 l2 F B) else none) = some (r, F9, B9) := hf
    refine lv_iload_n hx hb d_11_7_2 rfl (lv_at hl 0 rfl) ?_
    refine lv_iconst (v := iI 4) hx hb d_11_7_3 rfl ?_
    obtain ⟨g1, hf⟩ := gif hf
    refine zgt (tgt := 68) hx hb g1 (by decide) d_11_7_4 (by decide) (fun h2 => ?_) (fun h2 => ?_)
    · replace hf := gpos hf h2
      refine lv_iconst (v := iI 5) hx hb d_11_7_68 rfl ?_
      refine lv_istore_n (lv' := [(3, .int (iI 5)), (0, .ref (ad 9 l0 0)), (1, .int (iI l1)), (2, .int (iI l2))]) hx hb d_11_7_69 rfl hl (by decide) rfl (fun ls hl => ?_)
      exact b_Study_findFaults_70 X hf hZ hS (lv_sub hl [0, 1, 2, 3] rfl)
    · replace hf := gneg hf h2
      refine lv_iconst (v := iI 0) hx hb d_11_7_7 rfl ?_
      refine lv_istore (lv' := [(4, .int (iI 0)), (3, .int (iI l3)), (0, .ref (ad 9 l0 0)), (1, .int (iI l1)), (2, .int (iI l2))]) hx hb d_11_7_8 hl (by decide) rfl (fun ls hl => ?_)
      exact b_Study_findFaults_10 X ih hf hZ hS (lv_sub hl [0, 1, 2, 3, 4] rfl)

noncomputable def f_Study_findFaults (K : zK) (l0 : Int) (l1 : Int) (l2 : Int) (F : zF) (B : zB) : zO := f_Study_findFaults_2 K K.1 1 l0 l1 l2 F B
set_option maxHeartbeats 4000000 in
set_option maxRecDepth 100000 in
theorem c_Study_findFaults {l : Launch} {D : va_G} {ca : Nat → ClassId} {ad : Nat → Int → Nat → Nat} {L : List Nat} {aS vS : Nat → Nat} {sz : Nat} {K : zK}  {l0 : Int} {l1 : Int} {l2 : Int} {F F9 : zF} {B B9 : zB} {r : Int} (hf : f_Study_findFaults K l0 l1 l2 F B = some (r, F9, B9)) : Met l ({ cls := "StaveHouse$Study", name := "findFaults", desc := "(II)V" } : Jvm.MethodName) (Cond.code ({ cls := "StaveHouse$Study", name := "findFaults", desc := "(II)V" } : Jvm.MethodName) prog_11_method_7_code 6 (Option.none : Option Jvm.ClassFile.FieldType) :: wAll) ({ frames := 3, cells := 0, slots := 0, locals := 77 } : Room) (va_Pc [.ref (ad 9 l0 0), .int (iI l1), .int (iI l2)] (zPre D ca ad lnC K.2 L aS vS F B sz)) (Q_Study_findFaults K D ca ad L r F9 B9 (zA L sz)) 0 0 (zA L sz) := by
  refine zMet (Qc := Q_Study_findFaults K D ca ad L r F9 B9) (lv := [(0, .ref (ad 9 l0 0)), (1, .int (iI l1)), (2, .int (iI l2))]) (by decide) (Nat.le_of_ble_eq_true rfl) rfl (fun A p e s m below meth c ls X hZ hS hl => ?_)
  obtain ⟨hx, hb, hr, hml, hown, hts, hlk, hK, hA, hL, hX⟩ := id X
  replace hf : (f_Study_findFaults_2 K K.1 1 l0 l1 l2 F B) = some (r, F9, B9) := hf
  refine lv_iconst (v := iI 1) hx hb d_11_7_0 rfl ?_
  refine lv_istore_n (lv' := [(3, .int (iI 1)), (0, .ref (ad 9 l0 0)), (1, .int (iI l1)), (2, .int (iI l2))]) hx hb d_11_7_1 rfl hl (by decide) rfl (fun ls hl => ?_)
  exact b_Study_findFaults_2 X hf hZ hS (lv_sub hl [0, 1, 2, 3] rfl)

noncomputable abbrev Q_Performance_isTrilled (K : zK) (D : va_G) (ca : Nat → ClassId) (ad : Nat → Int → Nat → Nat) (L : List Nat) (r : Int) (F : zF) (B : zB) (A : Nat → Prop) : Array Value → State → Outcome → State → Prop := va_Qi (S := Unit) (fun p _ => p = iI r) (fun _ => zPo D ca ad lnC K.2 L F B A) A
noncomputable def f_Performance_isTrilled_46 (K : zK) (s0 : Int) (F : zF) (B : zB) : zO := if (s0 = 0 ∨ s0 = 1) then some (s0, F, B) else none
set_option maxHeartbeats 4000000 in
set_option maxRecDepth 100000 in
theorem b_Performance_isTrilled_46 {D : va_G} {ca : Nat → ClassId} {ad : Nat → Int → Nat → Nat} {L : List Nat} {aS vS : Nat → Nat} {A : Nat → Prop} {p : Program} {l : Launch} {e : Env} {s : State} {m : MethodId} {args : Array Value} {below : List Frame} {meth : Method} {c : Code} {K : zK} {r : Int} {F9 : zF} {B9 : zB} (X : zX D ca L aS vS A p s m args meth c prog_7_method_3_code 3 (Option.some Jvm.ClassFile.FieldType.boolean) "StaveHouse$Performance") {s0 : Int} {F : zF} {B : zB} {H : Heap} {locs : List Loc} {ls : Array Slot} (hf : f_Performance_isTrilled_46 K s0 F B = some (r, F9, B9)) (hZ : zH D ca ad lnC K.2 L F B A H) (hS : va_S A s.heap H locs) (hl : lv_has ls 3 []) : W p l e ({ frames := 3, cells := 0, slots := 0, locals := 67 } : Room) s m args below meth c H locs 0 0 (MQ below (Q_Performance_isTrilled K D ca ad L r F9 B9 A) args s 0 0 A) (F0 m 46 ls [.int (iI s0)]) := by
  obtain ⟨hx, hb, hr, hml, hown, hts, hlk, hK, hA, hL, hX⟩ := id X
  replace hf : (if (s0 = 0 ∨ s0 = 1) then some (s0, F, B) else none) = some (r, F9, B9) := hf
  obtain ⟨g15, hf⟩ := gif hf
  cases hf
  exact W.zret hx hb hr (zbool g15) (fun t ht hW => ⟨⟨_, (), rfl, rfl, by rw [ht]; exact hZ, va_K.moved hW.alike hK⟩, hS.F ht⟩) hS.2.2 d_7_3_46 hlk

noncomputable def f_Performance_isTrilled_45 (K : zK)  (F : zF) (B : zB) : zO := f_Performance_isTrilled_46 K 0 F B
set_option maxHeartbeats 4000000 in
set_option maxRecDepth 100000 in
theorem b_Performance_isTrilled_45 {D : va_G} {ca : Nat → ClassId} {ad : Nat → Int → Nat → Nat} {L : List Nat} {aS vS : Nat → Nat} {A : Nat → Prop} {p : Program} {l : Launch} {e : Env} {s : State} {m : MethodId} {args : Array Value} {below : List Frame} {meth : Method} {c : Code} {K : zK} {r : Int} {F9 : zF} {B9 : zB} (X : zX D ca L aS vS A p s m args meth c prog_7_method_3_code 3 (Option.some Jvm.ClassFile.FieldType.boolean) "StaveHouse$Performance")  {F : zF} {B : zB} {H : Heap} {locs : List Loc} {ls : Array Slot} (hf : f_Performance_isTrilled_45 K  F B = some (r, F9, B9)) (hZ : zH D ca ad lnC K.2 L F B A H) (hS : va_S A s.heap H locs) (hl : lv_has ls 3 []) : W p l e ({ frames := 3, cells := 0, slots := 0, locals := 67 } : Room) s m args below meth c H locs 0 0 (MQ below (Q_Performance_isTrilled K D ca ad L r F9 B9 A) args s 0 0 A) (F0 m 45 ls []) := by
  obtain ⟨hx, hb, hr, hml, hown, hts, hlk, hK, hA, hL, hX⟩ := id X
  replace hf : (f_Performance_isTrilled_46 K 0 F B) = some (r, F9, B9) := hf
  refine lv_iconst (v := iI 0) hx hb d_7_3_45 rfl ?_
  exact b_Performance_isTrilled_46 X hf hZ hS (lv_sub hl [] rfl)

noncomputable def f_Performance_isTrilled (K : zK) (l0 : Int) (l1 : Int) (F : zF) (B : zB) : zO := if 0 ≤ l0 ∧ l0 < K.2 4 then if 0 ≤ l1 ∧ l1 < 200 then if 0 ≤ (B 4 l0 5 l1) ∧ (B 4 l0 5 l1) < K.2 1 then zbind (f_Event_has K (B 4 l0 5 l1) 64 F B) (fun r4 F4 B4 => if r32 r4 then (if r4 = 0 then f_Performance_isTrilled_45 K F4 B4 else if r32 (F4 1 (B 4 l0 5 l1) 10) then (if (F4 1 (B 4 l0 5 l1) 10) = 1 then zbind (f_Part_tiedPitches K l0 l1 F4 B4) (fun r9 F9 B9 => if r32 r9 then (if r9 = 0 then zbind (f_Part_isTiedFrom K l0 l1 0 F9 B9) (fun r12 F12 B12 => if r32 r12 then (if r12 = 0 then f_Performance_isTrilled_46 K 1 F12 B12 else f_Performance_isTrilled_45 K F12 B12) else none) else f_Performance_isTrilled_45 K F9 B9) else none) else f_Performance_isTrilled_45 K F4 B4) else none) else none) else none else none else none
set_option maxHeartbeats 4000000 in
set_option maxRecDepth 100000 in
theorem c_Performance_isTrilled {l : Launch} {D : va_G} {ca : Nat → ClassId} {ad : Nat → Int → Nat → Nat} {L : List Nat} {aS vS : Nat → Nat} {sz : Nat} {K : zK}  {l0 : Int} {l1 : Int} {F F9 : zF} {B B9 : zB} {r : Int} (hf : f_Performance_isTrilled K l0 l1 F B = some (r, F9, B9)) : Met l ({ cls := "StaveHouse$Performance", name := "isTrilled", desc := "(LStaveHouse$Part;I)Z" } : Jvm.MethodName) (Cond.code ({ cls := "StaveHouse$Performance", name := "isTrilled", desc := "(LStaveHouse$Part;I)Z" } : Jvm.MethodName) prog_7_method_3_code 3 (Option.some Jvm.ClassFile.FieldType.boolean) :: wAll) ({ frames := 3, cells := 0, slots := 0, locals := 67 } : Room) (va_Pc [.ref (ad 4 l0 0), .int (iI l1)] (zPre D ca ad lnC K.2 L aS vS F B sz)) (Q_Performance_isTrilled K D ca ad L r F9 B9 (zA L sz)) 0 0 (zA L sz) := by
  refine zMet (Qc := Q_Performance_isTrilled K D ca ad L r F9 B9) (lv := [(0, .ref (ad 4 l0 0)), (1, .int (iI l1))]) (by decide) (Nat.le_of_ble_eq_true rfl) rfl (fun A p e s m below meth c ls X hZ hS hl => ?_)
  obtain ⟨hx, hb, hr, hml, hown, hts, hlk, hK, hA, hL, hX⟩ := id X
  replace hf : (if 0 ≤ l0 ∧ l0 < K.2 4 then if 0 ≤ l1 ∧ l1 < 200 then if 0 ≤ (B 4 l0 5 l1) ∧ (B 4 l0 5 l1) < K.2 1 then zbind (f_Event_has K (B 4 l0 5 l1) 64 F B) (fun r4 F4 B4 => if r32 r4 then (if r4 = 0 then f_Performance_isTrilled_45 K F4 B4 else if r32 (F4 1 (B 4 l0 5 l1) 10) then (if (F4 1 (B 4 l0 5 l1) 10) = 1 then zbind (f_Part_tiedPitches K l0 l1 F4 B4) (fun r9 F9 B9 => if r32 r9 then (if r9 = 0 then zbind (f_Part_isTiedFrom K l0 l1 0 F9 B9) (fun r12 F12 B12 => if r32 r12 then (if r12 = 0 then f_Performance_isTrilled_46 K 1 F12 B12 else f_Performance_isTrilled_45 K F12 B12) else none) else f_Performance_isTrilled_45 K F9 B9) else none) else f_Performance_isTrilled_45 K F4 B4) else none) else none) else none else none else none) = some (r, F9, B9) := hf
  refine lv_aload_n hx hb d_7_3_0 rfl (lv_at hl 0 rfl) ?_
  obtain ⟨g1, hf⟩ := gif hf
  refine zget (ci := 4) (C := RX4) (T := TX4) (v := .ref (ad 4 l0 (5 + 1))) (k := 5) hx hb hts inW_4 hown hK hZ g1.1 g1.2 rfl (by decide) k_4_131 rfl d_7_3_1 ?_
  refine lv_iload_n hx hb d_7_3_4 rfl (lv_at hl 1 rfl) ?_
  obtain ⟨g2, hf⟩ := gif hf
  refine zaldR (t := 1) (x := 7) (ci := 4) (k := 5) hx hb hK rfl rfl hZ g1.1 g1.2 rfl (Nat.le_of_ble_eq_true rfl) g2.1 g2.2 d_7_3_5 ?_
  refine zastore_n (lv' := [(0, .ref (ad 4 l0 0)), (1, .int (iI l1))]) hx hb d_7_3_6 rfl hl (by decide) (fun _ _ => rfl) (fun ls hl => ?_)
  refine zaload_n hx hb d_7_3_7 rfl (lv_at hl 0 rfl) ?_
  refine lv_bipush (v := iI 64) hx hb d_7_3_8 (by decide) ?_
  obtain ⟨g3, hf⟩ := gif hf
  refine W.eq (g2 := F0 m 10 ls [.int (iI 64), .ref (ad 1 (B 4 l0 5 l1) 0)]) (by rw [zrf_pos (ad := ad) (t := 1) g3.1]; try rfl) ?_
  obtain ⟨r4, F4, B4, hc4, hf⟩ := gbind hf
  refine va_calli (va_runV (As := [.int (iI 64)]) (rest := []) ⟨hx, hb, hml, hown, hts⟩ (c_Event_has (l := l) hc4) (cwV 1 hts (gdV k_6_119 k_5_16 k_5_17 k_1_8 k_5_18) rfl rfl rfl (by decide +kernel) ⟨Nat.le_of_ble_eq_true rfl, Nat.le_of_ble_eq_true rfl⟩) (zPV X hZ hS (ci := 1) g3.1 g3.2 (r := (RX1, TX1, 14)) rfl [.int (iI 64)]) rfl rfl hl.1 rfl (lv_room (Nat.le_of_ble_eq_true rfl)) d_7_3_10 ⟨Nat.le_of_ble_eq_true rfl, Nat.le_of_ble_eq_true rfl⟩) hS (fun q _ h => zAin X hS q h) (zAin X hS) (fun p4 u4 t4 H4 locs4 ht4 hv4 hw4 hB4 hz4 hk4 hS4 => ?_)
  have hZ4 := zBack X ht4 hB4
  subst hw4
  obtain ⟨g5, hf⟩ := gif hf
  refine z0eq (tgt := 45) hx hb g5 d_7_3_13 (by decide) (fun h6 => ?_) (fun h6 => ?_)
  · replace hf := gpos hf h6
    exact b_Performance_isTrilled_45 X hf hZ4 hS4 (lv_sub hl [] rfl)
  · replace hf := gneg hf h6
    refine zaload_n hx hb d_7_3_16 rfl (lv_at hl 0 rfl) ?_
    refine zunrf g3.1 ?_
    refine zget (ci := 1) (C := RX1) (T := TX1) (v := .int (iI (F4 1 (B 4 l0 5 l1) 10))) (k := 10) hx hb hts inW_1 hown hK hZ4 g3.1 g3.2 rfl (by decide) k_2_49 rfl d_7_3_17 ?_
    refine lv_iconst (v := iI 1) hx hb d_7_3_20 rfl ?_
    obtain ⟨g7, hf⟩ := gif hf
    refine zne (tgt := 45) hx hb g7 (by decide) d_7_3_21 (by decide) (fun h8 => ?_) (fun h8 => ?_)
    · replace hf := gneg hf h8
      exact b_Performance_isTrilled_45 X hf hZ4 hS4 (lv_sub hl [] rfl)
    · replace hf := gpos hf h8
      refine lv_aload_n hx hb d_7_3_24 rfl (lv_at hl 1 rfl) ?_
      refine lv_iload_n hx hb d_7_3_25 rfl (lv_at hl 2 rfl) ?_
      obtain ⟨r9, F9, B9, hc9, hf⟩ := gbind hf
      refine va_calli (va_runV (As := [.int (iI l1)]) (rest := []) ⟨hx, hb, hml, hown, hts⟩ (c_Part_tiedPitches (l := l) hc9) (cwV 1 hts (gdV k_6_120 k_5_38 k_5_39 k_1_18 k_5_40) rfl rfl rfl (by decide +kernel) ⟨Nat.le_of_ble_eq_true rfl, Nat.le_of_ble_eq_true rfl⟩) (zPV X hZ4 hS4 (ci := 4) g1.1 g1.2 (r := (RX4, TX4, 13)) rfl [.int (iI l1)]) rfl rfl hl.1 rfl (lv_room (Nat.le_of_ble_eq_true rfl)) d_7_3_26 ⟨Nat.le_of_ble_eq_true rfl, Nat.le_of_ble_eq_true rfl⟩) hS4 (fun q _ h => zAin X hS4 q h) (zAin X hS4) (fun p9 u9 t9 H9 locs9 ht9 hv9 hw9 hB9 hz9 hk9 hS9 => ?_)
      have hZ9 := zBack X ht9 hB9
      subst hw9
      obtain ⟨g10, hf⟩ := gif hf
      refine z0ne (tgt := 45) hx hb g10 d_7_3_29 (by decide) (fun h11 => ?_) (fun h11 => ?_)
      · replace hf := gneg hf h11
        exact b_Performance_isTrilled_45 X hf hZ9 hS9 (lv_sub hl [] rfl)
      · replace hf := gpos hf h11
        refine lv_aload_n hx hb d_7_3_32 rfl (lv_at hl 1 rfl) ?_
        refine lv_iload_n hx hb d_7_3_33 rfl (lv_at hl 2 rfl) ?_
        refine lv_iconst (v := iI 0) hx hb d_7_3_34 rfl ?_
        obtain ⟨r12, F12, B12, hc12, hf⟩ := gbind hf
        refine va_calli (va_runV (As := [.int (iI l1), .int (iI 0)]) (rest := []) ⟨hx, hb, hml, hown, hts⟩ (c_Part_isTiedFrom (l := l) hc12) (cwV 2 hts (gdV k_6_121 k_5_126 k_5_127 k_1_18 k_5_128) rfl rfl rfl (by decide +kernel) ⟨Nat.le_of_ble_eq_true rfl, Nat.le_of_ble_eq_true rfl⟩) (zPV X hZ9 hS9 (ci := 4) g1.1 g1.2 (r := (RX4, TX4, 13)) rfl [.int (iI l1), .int (iI 0)]) rfl rfl hl.1 rfl (lv_room (Nat.le_of_ble_eq_true rfl)) d_7_3_35 ⟨Nat.le_of_ble_eq_true rfl, Nat.le_of_ble_eq_true rfl⟩) hS9 (fun q _ h => zAin X hS9 q h) (zAin X hS9) (fun p12 u12 t12 H12 locs12 ht12 hv12 hw12 hB12 hz12 hk12 hS12 => ?_)
        have hZ12 := zBack X ht12 hB12
        subst hw12
        obtain ⟨g13, hf⟩ := gif hf
        refine z0ne (tgt := 45) hx hb g13 d_7_3_38 (by decide) (fun h14 => ?_) (fun h14 => ?_)
        · replace hf := gneg hf h14
          exact b_Performance_isTrilled_45 X hf hZ12 hS12 (lv_sub hl [] rfl)
        · replace hf := gpos hf h14
          refine lv_iconst (v := iI 1) hx hb d_7_3_41 rfl ?_
          refine lv_goto (tgt := 46) hx hb d_7_3_42 (by decide) ?_
          exact b_Performance_isTrilled_46 X hf hZ12 hS12 (lv_sub hl [] rfl)

noncomputable abbrev Q_Performance_trill (K : zK) (D : va_G) (ca : Nat → ClassId) (ad : Nat → Int → Nat → Nat) (L : List Nat) (r : Int) (F : zF) (B : zB) (A : Nat → Prop) : Array Value → State → Outcome → State → Prop := va_Qv (S := Unit) (fun _ => True) (fun _ => zPo D ca ad lnC K.2 L F B A) A
noncomputable def f_Performance_trill_157 (K : zK)  (F : zF) (B : zB) : zO := some (0, F, B)
set_option maxHeartbeats 4000000 in
set_option maxRecDepth 100000 in
theorem b_Performance_trill_157 {D : va_G} {ca : Nat → ClassId} {ad : Nat → Int → Nat → Nat} {L : List Nat} {aS vS : Nat → Nat} {A : Nat → Prop} {p : Program} {l : Launch} {e : Env} {s : State} {m : MethodId} {args : Array Value} {below : List Frame} {meth : Method} {c : Code} {K : zK} {r : Int} {F9 : zF} {B9 : zB} (X : zX D ca L aS vS A p s m args meth c prog_7_method_10_code 11 (Option.none : Option Jvm.ClassFile.FieldType) "StaveHouse$Performance")  {F : zF} {B : zB} {H : Heap} {locs : List Loc} {ls : Array Slot} (hf : f_Performance_trill_157 K  F B = some (r, F9, B9)) (hZ : zH D ca ad lnC K.2 L F B A H) (hS : va_S A s.heap H locs) (hl : lv_has ls 11 []) : W p l e ({ frames := 3, cells := 0, slots := 0, locals := 67 } : Room) s m args below meth c H locs 0 0 (MQ below (Q_Performance_trill K D ca ad L r F9 B9 A) args s 0 0 A) (F0 m 157 ls []) := by
  obtain ⟨hx, hb, hr, hml, hown, hts, hlk, hK, hA, hL, hX⟩ := id X
  replace hf : (some (0, F, B)) = some (r, F9, B9) := hf
  cases hf
  exact W.vret hx hb hr (fun t ht hW => ⟨⟨(), rfl, trivial, by rw [ht]; exact hZ, va_K.moved hW.alike hK⟩, hS.F ht⟩) hS.2.2 d_7_10_157 hlk

noncomputable def f_Performance_trill_149 (rec93 : Int → Int → Int → Int → Int → Int → Int → Int → Int → zF → zB → zO) (K : zK) (l10 : Int) (l8 : Int) (l6 : Int) (l5 : Int) (l4 : Int) (l0 : Int) (l2 : Int) (l3 : Int) (s0 : Int) (F : zF) (B : zB) : zO := rec93 (l10 + 12) s0 l8 l6 l5 l4 l0 l2 l3 F B
set_option maxHeartbeats 4000000 in
set_option maxRecDepth 100000 in
theorem b_Performance_trill_149 {D : va_G} {ca : Nat → ClassId} {ad : Nat → Int → Nat → Nat} {L : List Nat} {aS vS : Nat → Nat} {A : Nat → Prop} {p : Program} {l : Launch} {e : Env} {s : State} {m : MethodId} {args : Array Value} {below : List Frame} {meth : Method} {c : Code} {K : zK} {r : Int} {F9 : zF} {B9 : zB} (X : zX D ca L aS vS A p s m args meth c prog_7_method_10_code 11 (Option.none : Option Jvm.ClassFile.FieldType) "StaveHouse$Performance") {rec93 : Int → Int → Int → Int → Int → Int → Int → Int → Int → zF → zB → zO} (hrec93 : ∀ {l10 : Int} {l9 : Int} {l8 : Int} {l6 : Int} {l5 : Int} {l4 : Int} {l0 : Int} {l2 : Int} {l3 : Int} {F : zF} {B : zB} {H : Heap} {locs : List Loc} {ls : Array Slot}, rec93 l10 l9 l8 l6 l5 l4 l0 l2 l3 F B = some (r, F9, B9) → zH D ca ad lnC K.2 L F B A H → va_S A s.heap H locs → lv_has ls 11 [(10, .int (iI l10)), (9, .int (iI l9)), (8, .int (iI l8)), (6, .int (iI l6)), (5, .int (iI l5)), (4, va_rf (zrf ad 1 l4)), (0, .ref (ad 5 l0 0)), (2, .int (iI l2)), (3, .int (iI l3))] → W p l e ({ frames := 3, cells := 0, slots := 0, locals := 67 } : Room) s m args below meth c H locs 0 0 (MQ below (Q_Performance_trill K D ca ad L r F9 B9 A) args s 0 0 A) (F0 m 93 ls [])) {l10 : Int} {l8 : Int} {l6 : Int} {l5 : Int} {l4 : Int} {l0 : Int} {l2 : Int} {l3 : Int} {s0 : Int} {F : zF} {B : zB} {H : Heap} {locs : List Loc} {ls : Array Slot} (hf : f_Performance_trill_149 rec93 K l10 l8 l6 l5 l4 l0 l2 l3 s0 F B = some (r, F9, B9)) (hZ : zH D ca ad lnC K.2 L F B A H) (hS : va_S A s.heap H locs) (hl : lv_has ls 11 [(10, .int (iI l10)), (8, .int (iI l8)), (6, .int (iI l6)), (5, .int (iI l5)), (4, va_rf (zrf ad 1 l4)), (0, .ref (ad 5 l0 0)), (2, .int (iI l2)), (3, .int (iI l3))]) : W p l e ({ frames := 3, cells := 0, slots := 0, locals := 67 } : Room) s m args below meth c H locs 0 0 (MQ below (Q_Performance_trill K D ca ad L r F9 B9 A) args s 0 0 A) (F0 m 149 ls [.int (iI s0)]) := by
  obtain ⟨hx, hb, hr, hml, hown, hts, hlk, hK, hA, hL, hX⟩ := id X
  replace hf : (rec93 (l10 + 12) s0 l8 l6 l5 l4 l0 l2 l3 F B) = some (r, F9, B9) := hf
  refine lv_istore (lv' := [(9, .int (iI s0)), (10, .int (iI l10)), (8, .int (iI l8)), (6, .int (iI l6)), (5, .int (iI l5)), (4, va_rf (zrf ad 1 l4)), (0, .ref (ad 5 l0 0)), (2, .int (iI l2)), (3, .int (iI l3))]) hx hb d_7_10_149 hl (by decide) rfl (fun ls hl => ?_)
  refine lv_iinc (v := iI (l10 + 12)) (lv' := [(10, .int (iI (l10 + 12))), (9, .int (iI s0)), (8, .int (iI l8)), (6, .int (iI l6)), (5, .int (iI l5)), (4, va_rf (zrf ad 1 l4)), (0, .ref (ad 5 l0 0)), (2, .int (iI l2)), (3, .int (iI l3))]) hx hb d_7_10_151 hl (k := 1) rfl (iI_add _ 12) (by decide) rfl (fun ls hl => ?_)
  refine lv_goto (tgt := 93) hx hb d_7_10_154 (by decide) ?_
  exact hrec93 hf hZ hS (lv_sub hl [0, 1, 2, 3, 4, 5, 6, 7, 8] rfl)

noncomputable def f_Performance_trill_122 (rec93 : Int → Int → Int → Int → Int → Int → Int → Int → Int → zF → zB → zO) (K : zK) (l10 : Int) (l9 : Int) (l8 : Int) (l6 : Int) (l5 : Int) (l4 : Int) (l0 : Int) (l2 : Int) (l3 : Int) (s0 : Int) (s1 : Int) (s2 : Int) (s3 : Int) (F : zF) (B : zB) : zO := if 0 ≤ s0 ∧ s0 < K.2 5 then if 0 ≤ l4 ∧ l4 < K.2 1 then if r32 (l10 + 12) then if r32 l5 then zbind (f_Performance_addSound K s0 s1 s2 s3 l4 l10 (zmin (l10 + 12) l5) F B) (fun r26 F26 B26 => if r32 l9 then (if l9 = 0 then f_Performance_trill_149 rec93 K l10 l8 l6 l5 l4 l0 l2 l3 1 F26 B26 else f_Performance_trill_149 rec93 K l10 l8 l6 l5 l4 l0 l2 l3 0 F26 B26) else none) else none else none else none else none
set_option maxHeartbeats 4000000 in
set_option maxRecDepth 100000 in
theorem b_Performance_trill_122 {D : va_G} {ca : Nat → ClassId} {ad : Nat → Int → Nat → Nat} {L : List Nat} {aS vS : Nat → Nat} {A : Nat → Prop} {p : Program} {l : Launch} {e : Env} {s : State} {m : MethodId} {args : Array Value} {below : List Frame} {meth : Method} {c : Code} {K : zK} {r : Int} {F9 : zF} {B9 : zB} (X : zX D ca L aS vS A p s m args meth c prog_7_method_10_code 11 (Option.none : Option Jvm.ClassFile.FieldType) "StaveHouse$Performance") {rec93 : Int → Int → Int → Int → Int → Int → Int → Int → Int → zF → zB → zO} (hrec93 : ∀ {l10 : Int} {l9 : Int} {l8 : Int} {l6 : Int} {l5 : Int} {l4 : Int} {l0 : Int} {l2 : Int} {l3 : Int} {F : zF} {B : zB} {H : Heap} {locs : List Loc} {ls : Array Slot}, rec93 l10 l9 l8 l6 l5 l4 l0 l2 l3 F B = some (r, F9, B9) → zH D ca ad lnC K.2 L F B A H → va_S A s.heap H locs → lv_has ls 11 [(10, .int (iI l10)), (9, .int (iI l9)), (8, .int (iI l8)), (6, .int (iI l6)), (5, .int (iI l5)), (4, va_rf (zrf ad 1 l4)), (0, .ref (ad 5 l0 0)), (2, .int (iI l2)), (3, .int (iI l3))] → W p l e ({ frames := 3, cells := 0, slots := 0, locals := 67 } : Room) s m args below meth c H locs 0 0 (MQ below (Q_Performance_trill K D ca ad L r F9 B9 A) args s 0 0 A) (F0 m 93 ls [])) {l10 : Int} {l9 : Int} {l8 : Int} {l6 : Int} {l5 : Int} {l4 : Int} {l0 : Int} {l2 : Int} {l3 : Int} {s0 : Int} {s1 : Int} {s2 : Int} {s3 : Int} {F : zF} {B : zB} {H : Heap} {locs : List Loc} {ls : Array Slot} (hf : f_Performance_trill_122 rec93 K l10 l9 l8 l6 l5 l4 l0 l2 l3 s0 s1 s2 s3 F B = some (r, F9, B9)) (hZ : zH D ca ad lnC K.2 L F B A H) (hS : va_S A s.heap H locs) (hl : lv_has ls 11 [(10, .int (iI l10)), (9, .int (iI l9)), (8, .int (iI l8)), (6, .int (iI l6)), (5, .int (iI l5)), (4, va_rf (zrf ad 1 l4)), (0, .ref (ad 5 l0 0)), (2, .int (iI l2)), (3, .int (iI l3))]) : W p l e ({ frames := 3, cells := 0, slots := 0, locals := 67 } : Room) s m args below meth c H locs 0 0 (MQ below (Q_Performance_trill K D ca ad L r F9 B9 A) args s 0 0 A) (F0 m 122 ls [.int (iI s3), .int (iI s2), .int (iI s1), va_rf (zrf ad 5 s0)]) := by
  obtain ⟨hx, hb, hr, hml, hown, hts, hlk, hK, hA, hL, hX⟩ := id X
  replace hf : (if 0 ≤ s0 ∧ s0 < K.2 5 then if 0 ≤ l4 ∧ l4 < K.2 1 then if r32 (l10 + 12) then if r32 l5 then zbind (f_Performance_addSound K s0 s1 s2 s3 l4 l10 (zmin (l10 + 12) l5) F B) (fun r26 F26 B26 => if r32 l9 then (if l9 = 0 then f_Performance_trill_149 rec93 K l10 l8 l6 l5 l4 l0 l2 l3 1 F26 B26 else f_Performance_trill_149 rec93 K l10 l8 l6 l5 l4 l0 l2 l3 0 F26 B26) else none) else none else none else none else none) = some (r, F9, B9) := hf
  refine zaload hx hb d_7_10_122 (lv_at hl 5 rfl) ?_
  refine lv_iload hx hb d_7_10_124 (lv_at hl 0 rfl) ?_
  refine lv_iload hx hb d_7_10_126 (lv_at hl 0 rfl) ?_
  refine lv_bipush (v := iI 12) hx hb d_7_10_128 (by decide) ?_
  refine zadd hx hb d_7_10_130 ?_
  refine lv_iload hx hb d_7_10_131 (lv_at hl 4 rfl) ?_
  obtain ⟨g22, hf⟩ := gif hf
  refine W.eq (g2 := F0 m 133 ls [.int (iI l5), .int (iI (l10 + 12)), .int (iI l10), va_rf (zrf ad 1 l4), .int (iI s3), .int (iI s2), .int (iI s1), .ref (ad 5 s0 0)]) (by rw [zrf_pos (ad := ad) (t := 5) g22.1]; try rfl) ?_
  obtain ⟨g23, hf⟩ := gif hf
  refine W.eq (g2 := F0 m 133 ls [.int (iI l5), .int (iI (l10 + 12)), .int (iI l10), .ref (ad 1 l4 0), .int (iI s3), .int (iI s2), .int (iI s1), .ref (ad 5 s0 0)]) (by rw [zrf_pos (ad := ad) (t := 1) g23.1]; try rfl) ?_
  obtain ⟨g24, hf⟩ := gif hf
  obtain ⟨g25, hf⟩ := gif hf
  refine va_mmin hx hb (by rw [hml]; exact hl.1.symm) hown (hts _ k_6_134) (hts _ k_3_97) (hts _ k_1_3) (hts _ k_3_98) (Nat.le_of_ble_eq_true rfl) (Nat.le_of_ble_eq_true rfl) (Nat.le_of_ble_eq_true rfl) (Nat.le_of_ble_eq_true rfl) d_7_10_133 ?_
  rw [zmin_e g24 g25]
  obtain ⟨r26, F26, B26, hc26, hf⟩ := gbind hf
  refine va_callv (va_runV (As := [.int (iI s1), .int (iI s2), .int (iI s3), .ref (ad 1 l4 0), .int (iI l10), .int (iI (zmin (l10 + 12) l5))]) (rest := []) ⟨hx, hb, hml, hown, hts⟩ (c_Performance_addSound (l := l) hc26) (cwV 6 hts (gdV k_6_135 k_6_137 ks_75 k_1_20 k_6_138) rfl rfl rfl (by decide +kernel) ⟨Nat.le_of_ble_eq_true rfl, Nat.le_of_ble_eq_true rfl⟩) (zPV X hZ hS (ci := 5) g22.1 g22.2 (r := (RX5, TX5, 14)) rfl [.int (iI s1), .int (iI s2), .int (iI s3), .ref (ad 1 l4 0), .int (iI l10), .int (iI (zmin (l10 + 12) l5))]) rfl rfl hl.1 rfl (lv_room (Nat.le_of_ble_eq_true rfl)) d_7_10_136 ⟨Nat.le_of_ble_eq_true rfl, Nat.le_of_ble_eq_true rfl⟩) hS (fun q _ h => zAin X hS q h) (zAin X hS) (fun u26 t26 H26 locs26 ht26 hv26 hw26 hB26 hz26 hk26 hS26 => ?_)
  have hZ26 := zBack X ht26 hB26
  refine lv_iload hx hb d_7_10_139 (lv_at hl 1 rfl) ?_
  obtain ⟨g27, hf⟩ := gif hf
  refine z0ne (tgt := 148) hx hb g27 d_7_10_141 (by decide) (fun h28 => ?_) (fun h28 => ?_)
  · replace hf := gneg hf h28
    refine lv_iconst (v := iI 0) hx hb d_7_10_148 rfl ?_
    exact b_Performance_trill_149 X hrec93 hf hZ26 hS26 (lv_sub hl [0, 2, 3, 4, 5, 6, 7, 8] rfl)
  · replace hf := gpos hf h28
    refine lv_iconst (v := iI 1) hx hb d_7_10_144 rfl ?_
    refine lv_goto (tgt := 149) hx hb d_7_10_145 (by decide) ?_
    exact b_Performance_trill_149 X hrec93 hf hZ26 hS26 (lv_sub hl [0, 2, 3, 4, 5, 6, 7, 8] rfl)

noncomputable def f_Performance_trill_93 (K : zK) : Nat → Int → Int → Int → Int → Int → Int → Int → Int → Int → zF → zB → zO
  | 0, _, _, _, _, _, _, _, _, _, _, _ => none
  | n + 1, l10, l9, l8, l6, l5, l4, l0, l2, l3, F, B => if r32 l10 then if r32 l5 then (if l5 ≤ l10 then f_Performance_trill_157 K F B else if 0 ≤ l0 ∧ l0 < K.2 5 then if r32 (F 5 l0 1) then (if (F 5 l0 1) = 0 then if r32 l9 then (if l9 = 0 then f_Performance_trill_122 (f_Performance_trill_93 K n) K l10 l9 l8 l6 l5 l4 l0 l2 l3 l0 l2 l3 l6 F B else f_Performance_trill_122 (f_Performance_trill_93 K n) K l10 l9 l8 l6 l5 l4 l0 l2 l3 l0 l2 l3 l8 F B) else none else f_Performance_trill_157 K F B) else none else none) else none else none
set_option maxHeartbeats 4000000 in
set_option maxRecDepth 100000 in
theorem b_Performance_trill_93 {D : va_G} {ca : Nat → ClassId} {ad : Nat → Int → Nat → Nat} {L : List Nat} {aS vS : Nat → Nat} {A : Nat → Prop} {p : Program} {l : Launch} {e : Env} {s : State} {m : MethodId} {args : Array Value} {below : List Frame} {meth : Method} {c : Code} {K : zK} {r : Int} {F9 : zF} {B9 : zB} (X : zX D ca L aS vS A p s m args meth c prog_7_method_10_code 11 (Option.none : Option Jvm.ClassFile.FieldType) "StaveHouse$Performance") : ∀ {n : Nat} {l10 : Int} {l9 : Int} {l8 : Int} {l6 : Int} {l5 : Int} {l4 : Int} {l0 : Int} {l2 : Int} {l3 : Int} {F : zF} {B : zB} {H : Heap} {locs : List Loc} {ls : Array Slot}, f_Performance_trill_93 K n l10 l9 l8 l6 l5 l4 l0 l2 l3 F B = some (r, F9, B9) → zH D ca ad lnC K.2 L F B A H → va_S A s.heap H locs → lv_has ls 11 [(10, .int (iI l10)), (9, .int (iI l9)), (8, .int (iI l8)), (6, .int (iI l6)), (5, .int (iI l5)), (4, va_rf (zrf ad 1 l4)), (0, .ref (ad 5 l0 0)), (2, .int (iI l2)), (3, .int (iI l3))] → W p l e ({ frames := 3, cells := 0, slots := 0, locals := 67 } : Room) s m args below meth c H locs 0 0 (MQ below (Q_Performance_trill K D ca ad L r F9 B9 A) args s 0 0 A) (F0 m 93 ls []) := by
  obtain ⟨hx, hb, hr, hml, hown, hts, hlk, hK, hA, hL, hX⟩ := id X
  intro n
  induction n with
  | zero =>
    intros
    rename_i hf _ _ _
    cases hf
  | succ n ih =>
    intro l10 l9 l8 l6 l5 l4 l0 l2 l3 F B H locs ls hf hZ hS hl
    replace hf : (if r32 l10 then if r32 l5 then (if l5 ≤ l10 then f_Performance_trill_157 K F B else if 0 ≤ l0 ∧ l0 < K.2 5 then if r32 (F 5 l0 1) then (if (F 5 l0 1) = 0 then if r32 l9 then (if l9 = 0 then f_Performance_trill_122 (f_Performance_trill_93 K n) K l10 l9 l8 l6 l5 l4 l0 l2 l3 l0 l2 l3 l6 F B else f_Performance_trill_122 (f_Performance_trill_93 K n) K l10 l9 l8 l6 l5 l4 l0 l2 l3 l0 l2 l3 l8 F B) else none else f_Performance_trill_157 K F B) else none else none) else none else none) = some (r, F9, B9) := hf
    refine lv_iload hx hb d_7_10_93 (lv_at hl 0 rfl) ?_
    refine lv_iload hx hb d_7_10_95 (lv_at hl 4 rfl) ?_
    obtain ⟨g14, hf⟩ := gif hf
    obtain ⟨g15, hf⟩ := gif hf
    refine zge (tgt := 157) hx hb g14 g15 d_7_10_97 (by decide) (fun h16 => ?_) (fun h16 => ?_)
    · replace hf := gpos hf h16
      exact b_Performance_trill_157 X hf hZ hS (lv_sub hl [] rfl)
    · replace hf := gneg hf h16
      refine lv_aload_n hx hb d_7_10_100 rfl (lv_at hl 6 rfl) ?_
      obtain ⟨g17, hf⟩ := gif hf
      refine zget (ci := 5) (C := RX5) (T := TX5) (v := .int (iI (F 5 l0 1))) (k := 1) hx hb hts inW_5 hown hK hZ g17.1 g17.2 rfl (by decide) k_6_65 rfl d_7_10_101 ?_
      obtain ⟨g18, hf⟩ := gif hf
      refine z0ne (tgt := 157) hx hb g18 d_7_10_104 (by decide) (fun h19 => ?_) (fun h19 => ?_)
      · replace hf := gneg hf h19
        exact b_Performance_trill_157 X hf hZ hS (lv_sub hl [] rfl)
      · replace hf := gpos hf h19
        refine lv_aload_n hx hb d_7_10_107 rfl (lv_at hl 6 rfl) ?_
        refine lv_iload_n hx hb d_7_10_108 rfl (lv_at hl 7 rfl) ?_
        refine lv_iload_n hx hb d_7_10_109 rfl (lv_at hl 8 rfl) ?_
        refine lv_iload hx hb d_7_10_110 (lv_at hl 1 rfl) ?_
        obtain ⟨g20, hf⟩ := gif hf
        refine z0eq (tgt := 120) hx hb g20 d_7_10_112 (by decide) (fun h21 => ?_) (fun h21 => ?_)
        · replace hf := gpos hf h21
          refine lv_iload hx hb d_7_10_120 (lv_at hl 3 rfl) ?_
          refine W.eq (g2 := F0 m 122 ls [.int (iI l6), .int (iI l3), .int (iI l2), va_rf (zrf ad 5 l0)]) (by rw [zrf_pos (ad := ad) (t := 5) g17.1]; try rfl) ?_
          exact b_Performance_trill_122 X ih hf hZ hS (lv_sub hl [0, 1, 2, 3, 4, 5, 6, 7, 8] rfl)
        · replace hf := gneg hf h21
          refine lv_iload hx hb d_7_10_115 (lv_at hl 2 rfl) ?_
          refine lv_goto (tgt := 122) hx hb d_7_10_117 (by decide) ?_
          refine W.eq (g2 := F0 m 122 ls [.int (iI l8), .int (iI l3), .int (iI l2), va_rf (zrf ad 5 l0)]) (by rw [zrf_pos (ad := ad) (t := 5) g17.1]; try rfl) ?_
          exact b_Performance_trill_122 X ih hf hZ hS (lv_sub hl [0, 1, 2, 3, 4, 5, 6, 7, 8] rfl)

noncomputable def f_Performance_trill_78 (K : zK) (l6 : Int) (l5 : Int) (l4 : Int) (l0 : Int) (l2 : Int) (l3 : Int) (s0 : Int) (F : zF) (B : zB) : zO := if 0 ≤ l4 ∧ l4 < K.2 1 then zbind (f_Performance_tick K (F 1 l4 0) F B) (fun r13 F13 B13 => f_Performance_trill_93 K K.1 r13 0 s0 l6 l5 l4 l0 l2 l3 F13 B13) else none
set_option maxHeartbeats 4000000 in
set_option maxRecDepth 100000 in
theorem b_Performance_trill_78 {D : va_G} {ca : Nat → ClassId} {ad : Nat → Int → Nat → Nat} {L : List Nat} {aS vS : Nat → Nat} {A : Nat → Prop} {p : Program} {l : Launch} {e : Env} {s : State} {m : MethodId} {args : Array Value} {below : List Frame} {meth : Method} {c : Code} {K : zK} {r : Int} {F9 : zF} {B9 : zB} (X : zX D ca L aS vS A p s m args meth c prog_7_method_10_code 11 (Option.none : Option Jvm.ClassFile.FieldType) "StaveHouse$Performance") {l6 : Int} {l5 : Int} {l4 : Int} {l0 : Int} {l2 : Int} {l3 : Int} {s0 : Int} {F : zF} {B : zB} {H : Heap} {locs : List Loc} {ls : Array Slot} (hf : f_Performance_trill_78 K l6 l5 l4 l0 l2 l3 s0 F B = some (r, F9, B9)) (hZ : zH D ca ad lnC K.2 L F B A H) (hS : va_S A s.heap H locs) (hl : lv_has ls 11 [(6, .int (iI l6)), (5, .int (iI l5)), (4, va_rf (zrf ad 1 l4)), (0, .ref (ad 5 l0 0)), (2, .int (iI l2)), (3, .int (iI l3))]) : W p l e ({ frames := 3, cells := 0, slots := 0, locals := 67 } : Room) s m args below meth c H locs 0 0 (MQ below (Q_Performance_trill K D ca ad L r F9 B9 A) args s 0 0 A) (F0 m 78 ls [.int (iI s0)]) := by
  obtain ⟨hx, hb, hr, hml, hown, hts, hlk, hK, hA, hL, hX⟩ := id X
  replace hf : (if 0 ≤ l4 ∧ l4 < K.2 1 then zbind (f_Performance_tick K (F 1 l4 0) F B) (fun r13 F13 B13 => f_Performance_trill_93 K K.1 r13 0 s0 l6 l5 l4 l0 l2 l3 F13 B13) else none) = some (r, F9, B9) := hf
  refine lv_istore (lv' := [(8, .int (iI s0)), (6, .int (iI l6)), (5, .int (iI l5)), (4, va_rf (zrf ad 1 l4)), (0, .ref (ad 5 l0 0)), (2, .int (iI l2)), (3, .int (iI l3))]) hx hb d_7_10_78 hl (by decide) rfl (fun ls hl => ?_)
  refine lv_iconst (v := iI 0) hx hb d_7_10_80 rfl ?_
  refine lv_istore (lv' := [(9, .int (iI 0)), (8, .int (iI s0)), (6, .int (iI l6)), (5, .int (iI l5)), (4, va_rf (zrf ad 1 l4)), (0, .ref (ad 5 l0 0)), (2, .int (iI l2)), (3, .int (iI l3))]) hx hb d_7_10_81 hl (by decide) rfl (fun ls hl => ?_)
  refine zaload hx hb d_7_10_83 (lv_at hl 4 rfl) ?_
  obtain ⟨g12, hf⟩ := gif hf
  refine zunrf g12.1 ?_
  refine zget (ci := 1) (C := RX1) (T := TX1) (v := .long (lI (F 1 l4 0))) (k := 0) hx hb hts inW_1 hown hK hZ g12.1 g12.2 rfl (by decide) k_2_22 rfl d_7_10_85 ?_
  obtain ⟨r13, F13, B13, hc13, hf⟩ := gbind hf
  refine va_calli (va_runS (As := [.long (lI (F 1 l4 0))]) (rest := []) ⟨hx, hb, hml, hown, hts⟩ (c_Performance_tick (l := l) hc13) (va_cwS 1 hts (gdS k_6_126 k_6_127 k_1_20 k_6_128) rfl rfl rfl (by decide +kernel) ⟨Nat.le_of_ble_eq_true rfl, Nat.le_of_ble_eq_true rfl⟩) (zPS X hZ hS [.long (lI (F 1 l4 0))]) rfl rfl hl.1 rfl (lv_room (Nat.le_of_ble_eq_true rfl)) d_7_10_88 ⟨Nat.le_of_ble_eq_true rfl, Nat.le_of_ble_eq_true rfl⟩) hS (fun q _ h => zAin X hS q h) (zAin X hS) (fun p13 u13 t13 H13 locs13 ht13 hv13 hw13 hB13 hz13 hk13 hS13 => ?_)
  have hZ13 := zBack X ht13 hB13
  subst hw13
  refine lv_istore (lv' := [(10, .int (iI r13)), (9, .int (iI 0)), (8, .int (iI s0)), (6, .int (iI l6)), (5, .int (iI l5)), (4, va_rf (zrf ad 1 l4)), (0, .ref (ad 5 l0 0)), (2, .int (iI l2)), (3, .int (iI l3))]) hx hb d_7_10_91 hl (by decide) rfl (fun ls hl => ?_)
  exact b_Performance_trill_93 X hf hZ13 hS13 (lv_sub hl [0, 1, 2, 3, 4, 5, 6, 7, 8] rfl)

noncomputable def f_Performance_trill (K : zK) (l0 : Int) (l1 : Int) (l2 : Int) (l3 : Int) (F : zF) (B : zB) : zO := if 0 ≤ l1 ∧ l1 < K.2 6 then if 0 ≤ l2 ∧ l2 < 4 then if 0 ≤ (B 6 l1 0 l2) ∧ (B 6 l1 0 l2) < K.2 4 then if 0 ≤ l3 ∧ l3 < 200 then if 0 ≤ (B 4 (B 6 l1 0 l2) 5 l3) ∧ (B 4 (B 6 l1 0 l2) 5 l3) < K.2 1 then zbind (f_Performance_tick K ((F 1 (B 4 (B 6 l1 0 l2) 5 l3) 0) + (F 1 (B 4 (B 6 l1 0 l2) 5 l3) 1)) F B) (fun r6 F6 B6 => zbind (f_Event_tone K (B 4 (B 6 l1 0 l2) 5 l3) 0 F6 B6) (fun r7 F7 B7 => if r32 ((B7 1 (B 4 (B 6 l1 0 l2) 5 l3) 12 0) + 1) then (if 63 ≤ ((B7 1 (B 4 (B 6 l1 0 l2) 5 l3) 12 0) + 1) then f_Performance_trill_78 K r7 r6 (B 4 (B 6 l1 0 l2) 5 l3) l0 l2 l3 r7 F7 B7 else zbind (f_S_naturalTone K ((B7 1 (B 4 (B 6 l1 0 l2) 5 l3) 12 0) + 1) F7 B7) (fun r10 F10 B10 => zbind (f_S_keyAlteration K (F10 6 l1 2) (zrm ((B7 1 (B 4 (B 6 l1 0 l2) 5 l3) 12 0) + 1) 7) F10 B10) (fun r11 F11 B11 => f_Performance_trill_78 K r7 r6 (B 4 (B 6 l1 0 l2) 5 l3) l0 l2 l3 (r10 + r11) F11 B11))) else none)) else none else none else none else none else none
set_option maxHeartbeats 4000000 in
set_option maxRecDepth 100000 in
theorem c_Performance_trill {l : Launch} {D : va_G} {ca : Nat → ClassId} {ad : Nat → Int → Nat → Nat} {L : List Nat} {aS vS : Nat → Nat} {sz : Nat} {K : zK}  {l0 : Int} {l1 : Int} {l2 : Int} {l3 : Int} {F F9 : zF} {B B9 : zB} {r : Int} (hf : f_Performance_trill K l0 l1 l2 l3 F B = some (r, F9, B9)) : Met l ({ cls := "StaveHouse$Performance", name := "trill", desc := "(LStaveHouse$Piece;II)V" } : Jvm.MethodName) (Cond.code ({ cls := "StaveHouse$Performance", name := "trill", desc := "(LStaveHouse$Piece;II)V" } : Jvm.MethodName) prog_7_method_10_code 11 (Option.none : Option Jvm.ClassFile.FieldType) :: wAll) ({ frames := 3, cells := 0, slots := 0, locals := 67 } : Room) (va_Pc [.ref (ad 5 l0 0), .ref (ad 6 l1 0), .int (iI l2), .int (iI l3)] (zPre D ca ad lnC K.2 L aS vS F B sz)) (Q_Performance_trill K D ca ad L r F9 B9 (zA L sz)) 0 0 (zA L sz) := by
  refine zMet (Qc := Q_Performance_trill K D ca ad L r F9 B9) (lv := [(0, .ref (ad 5 l0 0)), (1, .ref (ad 6 l1 0)), (2, .int (iI l2)), (3, .int (iI l3))]) (by decide) (Nat.le_of_ble_eq_true rfl) rfl (fun A p e s m below meth c ls X hZ hS hl => ?_)
  obtain ⟨hx, hb, hr, hml, hown, hts, hlk, hK, hA, hL, hX⟩ := id X
  replace hf : (if 0 ≤ l1 ∧ l1 < K.2 6 then if 0 ≤ l2 ∧ l2 < 4 then if 0 ≤ (B 6 l1 0 l2) ∧ (B 6 l1 0 l2) < K.2 4 then if 0 ≤ l3 ∧ l3 < 200 then if 0 ≤ (B 4 (B 6 l1 0 l2) 5 l3) ∧ (B 4 (B 6 l1 0 l2) 5 l3) < K.2 1 then zbind (f_Performance_tick K ((F 1 (B 4 (B 6 l1 0 l2) 5 l3) 0) + (F 1 (B 4 (B 6 l1 0 l2) 5 l3) 1)) F B) (fun r6 F6 B6 => zbind (f_Event_tone K (B 4 (B 6 l1 0 l2) 5 l3) 0 F6 B6) (fun r7 F7 B7 => if r32 ((B7 1 (B 4 (B 6 l1 0 l2) 5 l3) 12 0) + 1) then (if 63 ≤ ((B7 1 (B 4 (B 6 l1 0 l2) 5 l3) 12 0) + 1) then f_Performance_trill_78 K r7 r6 (B 4 (B 6 l1 0 l2) 5 l3) l0 l2 l3 r7 F7 B7 else zbind (f_S_naturalTone K ((B7 1 (B 4 (B 6 l1 0 l2) 5 l3) 12 0) + 1) F7 B7) (fun r10 F10 B10 => zbind (f_S_keyAlteration K (F10 6 l1 2) (zrm ((B7 1 (B 4 (B 6 l1 0 l2) 5 l3) 12 0) + 1) 7) F10 B10) (fun r11 F11 B11 => f_Performance_trill_78 K r7 r6 (B 4 (B 6 l1 0 l2) 5 l3) l0 l2 l3 (r10 + r11) F11 B11))) else none)) else none else none else none else none else none) = some (r, F9, B9) := hf
  refine lv_aload_n hx hb d_7_10_0 rfl (lv_at hl 1 rfl) ?_
  obtain ⟨g1, hf⟩ := gif hf
  refine zget (ci := 6) (C := RX6) (T := TX6) (v := .ref (ad 6 l1 (0 + 1))) (k := 0) hx hb hts inW_6 hown hK hZ g1.1 g1.2 rfl (by decide) k_2_186 rfl d_7_10_1 ?_
  refine lv_iload_n hx hb d_7_10_4 rfl (lv_at hl 2 rfl) ?_
  obtain ⟨g2, hf⟩ := gif hf
  refine zaldR (t := 4) (x := 6) (ci := 6) (k := 0) hx hb hK rfl rfl hZ g1.1 g1.2 rfl (Nat.le_of_ble_eq_true rfl) g2.1 g2.2 d_7_10_5 ?_
  obtain ⟨g3, hf⟩ := gif hf
  refine zunrf g3.1 ?_
  refine zget (ci := 4) (C := RX4) (T := TX4) (v := .ref (ad 4 (B 6 l1 0 l2) (5 + 1))) (k := 5) hx hb hts inW_4 hown hK hZ g3.1 g3.2 rfl (by decide) k_4_131 rfl d_7_10_6 ?_
  refine lv_iload_n hx hb d_7_10_9 rfl (lv_at hl 3 rfl) ?_
  obtain ⟨g4, hf⟩ := gif hf
  refine zaldR (t := 1) (x := 7) (ci := 4) (k := 5) hx hb hK rfl rfl hZ g3.1 g3.2 rfl (Nat.le_of_ble_eq_true rfl) g4.1 g4.2 d_7_10_10 ?_
  refine zastore (lv' := [(0, .ref (ad 5 l0 0)), (1, .ref (ad 6 l1 0)), (2, .int (iI l2)), (3, .int (iI l3))]) hx hb d_7_10_11 hl (by decide) (fun _ _ => rfl) (fun ls hl => ?_)
  refine zaload hx hb d_7_10_13 (lv_at hl 0 rfl) ?_
  obtain ⟨g5, hf⟩ := gif hf
  refine zunrf g5.1 ?_
  refine zget (ci := 1) (C := RX1) (T := TX1) (v := .long (lI (F 1 (B 4 (B 6 l1 0 l2) 5 l3) 0))) (k := 0) hx hb hts inW_1 hown hK hZ g5.1 g5.2 rfl (by decide) k_2_22 rfl d_7_10_15 ?_
  refine zaload hx hb d_7_10_18 (lv_at hl 0 rfl) ?_
  refine zunrf g5.1 ?_
  refine zget (ci := 1) (C := RX1) (T := TX1) (v := .long (lI (F 1 (B 4 (B 6 l1 0 l2) 5 l3) 1))) (k := 1) hx hb hts inW_1 hown hK hZ g5.1 g5.2 rfl (by decide) k_2_25 rfl d_7_10_20 ?_
  refine zladd hx hb d_7_10_23 ?_
  obtain ⟨r6, F6, B6, hc6, hf⟩ := gbind hf
  refine va_calli (va_runS (As := [.long (lI ((F 1 (B 4 (B 6 l1 0 l2) 5 l3) 0) + (F 1 (B 4 (B 6 l1 0 l2) 5 l3) 1)))]) (rest := []) ⟨hx, hb, hml, hown, hts⟩ (c_Performance_tick (l := l) hc6) (va_cwS 1 hts (gdS k_6_126 k_6_127 k_1_20 k_6_128) rfl rfl rfl (by decide +kernel) ⟨Nat.le_of_ble_eq_true rfl, Nat.le_of_ble_eq_true rfl⟩) (zPS X hZ hS [.long (lI ((F 1 (B 4 (B 6 l1 0 l2) 5 l3) 0) + (F 1 (B 4 (B 6 l1 0 l2) 5 l3) 1)))]) rfl rfl hl.1 rfl (lv_room (Nat.le_of_ble_eq_true rfl)) d_7_10_24 ⟨Nat.le_of_ble_eq_true rfl, Nat.le_of_ble_eq_true rfl⟩) hS (fun q _ h => zAin X hS q h) (zAin X hS) (fun p6 u6 t6 H6 locs6 ht6 hv6 hw6 hB6 hz6 hk6 hS6 => ?_)
  have hZ6 := zBack X ht6 hB6
  subst hw6
  refine lv_istore (lv' := [(5, .int (iI r6)), (4, va_rf (zrf ad 1 (B 4 (B 6 l1 0 l2) 5 l3))), (0, .ref (ad 5 l0 0)), (1, .ref (ad 6 l1 0)), (2, .int (iI l2)), (3, .int (iI l3))]) hx hb d_7_10_27 hl (by decide) (by cases zrf ad 1 (B 4 (B 6 l1 0 l2) 5 l3) <;> rfl) (fun ls hl => ?_)
  refine zaload hx hb d_7_10_29 (lv_at hl 1 rfl) ?_
  refine lv_iconst (v := iI 0) hx hb d_7_10_31 rfl ?_
  refine W.eq (g2 := F0 m 32 ls [.int (iI 0), .ref (ad 1 (B 4 (B 6 l1 0 l2) 5 l3) 0)]) (by rw [zrf_pos (ad := ad) (t := 1) g5.1]; try rfl) ?_
  obtain ⟨r7, F7, B7, hc7, hf⟩ := gbind hf
  refine va_calli (va_runV (As := [.int (iI 0)]) (rest := []) ⟨hx, hb, hml, hown, hts⟩ (c_Event_tone (l := l) hc7) (cwV 1 hts (gdV k_6_131 k_6_22 k_6_23 k_1_8 k_6_24) rfl rfl rfl (by decide +kernel) ⟨Nat.le_of_ble_eq_true rfl, Nat.le_of_ble_eq_true rfl⟩) (zPV X hZ6 hS6 (ci := 1) g5.1 g5.2 (r := (RX1, TX1, 14)) rfl [.int (iI 0)]) rfl rfl hl.1 rfl (lv_room (Nat.le_of_ble_eq_true rfl)) d_7_10_32 ⟨Nat.le_of_ble_eq_true rfl, Nat.le_of_ble_eq_true rfl⟩) hS6 (fun q _ h => zAin X hS6 q h) (zAin X hS6) (fun p7 u7 t7 H7 locs7 ht7 hv7 hw7 hB7 hz7 hk7 hS7 => ?_)
  have hZ7 := zBack X ht7 hB7
  subst hw7
  refine lv_istore (lv' := [(6, .int (iI r7)), (5, .int (iI r6)), (4, va_rf (zrf ad 1 (B 4 (B 6 l1 0 l2) 5 l3))), (0, .ref (ad 5 l0 0)), (1, .ref (ad 6 l1 0)), (2, .int (iI l2)), (3, .int (iI l3))]) hx hb d_7_10_35 hl (by decide) rfl (fun ls hl => ?_)
  refine zaload hx hb d_7_10_37 (lv_at hl 2 rfl) ?_
  refine zunrf g5.1 ?_
  refine zget (ci := 1) (C := RX1) (T := TX1) (v := .ref (ad 1 (B 4 (B 6 l1 0 l2) 5 l3) (12 + 1))) (k := 12) hx hb hts inW_1 hown hK hZ7 g5.1 g5.2 rfl (by decide) k_2_59 rfl d_7_10_39 ?_
  refine lv_iconst (v := iI 0) hx hb d_7_10_42 rfl ?_
  refine zald (ci := 1) (k := 12) hx hb hK rfl hZ7 g5.1 g5.2 rfl (Nat.le_of_ble_eq_true rfl) (by decide) (show (0 : Int) < 6 by decide) d_7_10_43 ?_
  refine lv_iconst (v := iI 1) hx hb d_7_10_44 rfl ?_
  refine zadd hx hb d_7_10_45 ?_
  refine lv_istore (lv' := [(7, .int (iI ((B7 1 (B 4 (B 6 l1 0 l2) 5 l3) 12 0) + 1))), (6, .int (iI r7)), (5, .int (iI r6)), (4, va_rf (zrf ad 1 (B 4 (B 6 l1 0 l2) 5 l3))), (0, .ref (ad 5 l0 0)), (1, .ref (ad 6 l1 0)), (2, .int (iI l2)), (3, .int (iI l3))]) hx hb d_7_10_46 hl (by decide) rfl (fun ls hl => ?_)
  refine lv_iload hx hb d_7_10_48 (lv_at hl 0 rfl) ?_
  refine lv_bipush (v := iI 63) hx hb d_7_10_50 (by decide) ?_
  obtain ⟨g8, hf⟩ := gif hf
  refine zge (tgt := 76) hx hb g8 (by decide) d_7_10_52 (by decide) (fun h9 => ?_) (fun h9 => ?_)
  · replace hf := gpos hf h9
    refine lv_iload hx hb d_7_10_76 (lv_at hl 1 rfl) ?_
    exact b_Performance_trill_78 X hf hZ7 hS7 (lv_sub hl [1, 2, 3, 4, 6, 7] rfl)
  · replace hf := gneg hf h9
    refine lv_iload hx hb d_7_10_55 (lv_at hl 0 rfl) ?_
    obtain ⟨r10, F10, B10, hc10, hf⟩ := gbind hf
    refine va_calli (va_runSN (As := [.int (iI ((B7 1 (B 4 (B 6 l1 0 l2) 5 l3) 12 0) + 1))]) (rest := []) ⟨hx, hb, hml, hown, hts⟩ (c_S_naturalTone (l := l) hc10) ⟨va_cnB 1 hts (gdC k_4_64) rfl rfl rfl (hX.1 _ (List.mem_of_getElem? (i := 20) rfl)) (hts _ k_1_1) (by decide +kernel) ⟨Nat.le_of_ble_eq_true rfl, Nat.le_of_ble_eq_true rfl⟩, hts _ k_4_63, trivial⟩ (zPS X hZ7 hS7 [.int (iI ((B7 1 (B 4 (B 6 l1 0 l2) 5 l3) 12 0) + 1))]) rfl rfl hl.1 rfl (lv_room (Nat.le_of_ble_eq_true rfl)) d_7_10_57 ⟨Nat.le_of_ble_eq_true rfl, Nat.le_of_ble_eq_true rfl⟩) hS7 (fun q _ h => zAin X hS7 q h) (zAin X hS7) (fun p10 u10 t10 H10 locs10 ht10 hv10 hw10 hB10 hz10 hk10 hS10 => ?_)
    have hZ10 := zBack X ht10 hB10
    subst hw10
    refine lv_aload_n hx hb d_7_10_60 rfl (lv_at hl 5 rfl) ?_
    refine zget (ci := 6) (C := RX6) (T := TX6) (v := .int (iI (F10 6 l1 2))) (k := 2) hx hb hts inW_6 hown hK hZ10 g1.1 g1.2 rfl (by decide) k_2_199 rfl d_7_10_61 ?_
    refine lv_iload hx hb d_7_10_64 (lv_at hl 0 rfl) ?_
    refine lv_bipush (v := iI 7) hx hb d_7_10_66 (by decide) ?_
    refine zrm_r hx hb (by decide) d_7_10_68 ?_
    obtain ⟨r11, F11, B11, hc11, hf⟩ := gbind hf
    refine va_calli (va_runSN (As := [.int (iI (F10 6 l1 2)), .int (iI (zrm ((B7 1 (B 4 (B 6 l1 0 l2) 5 l3) 12 0) + 1) 7))]) (rest := [.int (iI r10)]) ⟨hx, hb, hml, hown, hts⟩ (c_S_keyAlteration (l := l) hc11) ⟨va_cnB 2 hts (gdC k_5_118) rfl rfl rfl (hX.1 _ (List.mem_of_getElem? (i := 21) rfl)) (hts _ k_1_1) (by decide +kernel) ⟨Nat.le_of_ble_eq_true rfl, Nat.le_of_ble_eq_true rfl⟩, hts _ k_5_117, trivial⟩ (zPS X hZ10 hS10 [.int (iI (F10 6 l1 2)), .int (iI (zrm ((B7 1 (B 4 (B 6 l1 0 l2) 5 l3) 12 0) + 1) 7))]) rfl rfl hl.1 rfl (lv_room (Nat.le_of_ble_eq_true rfl)) d_7_10_69 ⟨Nat.le_of_ble_eq_true rfl, Nat.le_of_ble_eq_true rfl⟩) hS10 (fun q _ h => zAin X hS10 q h) (zAin X hS10) (fun p11 u11 t11 H11 locs11 ht11 hv11 hw11 hB11 hz11 hk11 hS11 => ?_)
    have hZ11 := zBack X ht11 hB11
    subst hw11
    refine zadd hx hb d_7_10_72 ?_
    refine lv_goto (tgt := 78) hx hb d_7_10_73 (by decide) ?_
    exact b_Performance_trill_78 X hf hZ11 hS11 (lv_sub hl [1, 2, 3, 4, 6, 7] rfl)

noncomputable abbrev Q_S_event (K : zK) (D : va_G) (ca : Nat → ClassId) (ad : Nat → Int → Nat → Nat) (L : List Nat) (r : Int) (F : zF) (B : zB) (A : Nat → Prop) : Array Value → State → Outcome → State → Prop := va_Ql (S := Unit) (fun p _ => p = lI r) (fun _ => zPo D ca ad lnC K.2 L F B A) A
noncomputable def f_S_event (K : zK) (l0 : Int) (l1 : Int) (l2 : Int) (l3 : Int) (l4 : Int) (F : zF) (B : zB) : zO := if 0 ≤ l0 ∧ l0 < K.2 12 then zbind (f_S_eventAt K l0 l1 l2 l3 F B) (fun r2 F2 B2 => (if r2 < 0 then some ((-1), F2, B2) else if r32 l4 then (if l4 = 0 then if 0 ≤ r2 ∧ r2 < K.2 1 then zbind (f_S_above K (F2 1 r2 0) F2 B2) (fun r7 F7 B7 => some (r7, F7, B7)) else none else (if l4 = 1 then if 0 ≤ r2 ∧ r2 < K.2 1 then zbind (f_S_below K (F2 1 r2 0) F2 B2) (fun r10 F10 B10 => some (r10, F10, B10)) else none else (if l4 = 2 then if 0 ≤ r2 ∧ r2 < K.2 1 then zbind (f_S_above K (F2 1 r2 1) F2 B2) (fun r13 F13 B13 => some (r13, F13, B13)) else none else (if l4 = 3 then if 0 ≤ r2 ∧ r2 < K.2 1 then zbind (f_S_below K (F2 1 r2 1) F2 B2) (fun r16 F16 B16 => some (r16, F16, B16)) else none else (if l4 = 4 then if 0 ≤ r2 ∧ r2 < K.2 1 then if r32 (F2 1 r2 10) then some (F2 1 r2 10, F2, B2) else none else none else (if l4 = 5 then if 0 ≤ r2 ∧ r2 < K.2 1 then if r32 (F2 1 r2 7) then some (F2 1 r2 7, F2, B2) else none else none else (if l4 = 6 then if 0 ≤ r2 ∧ r2 < K.2 1 then if r32 (F2 1 r2 8) then some (F2 1 r2 8, F2, B2) else none else none else (if l4 = 7 then if 0 ≤ r2 ∧ r2 < K.2 1 then if r32 (F2 1 r2 9) then some (F2 1 r2 9, F2, B2) else none else none else some ((-1), F2, B2))))))))) else none)) else none
