theorem d_7_25_185 : decode prog_7_method_25_code 185 = .ok (.iload_n 2, 1) := D_28 W_prog_7_method_25_code_160 25 rfl rfl
theorem d_7_25_186 : decode prog_7_method_25_code 186 = .ok (.iaload, 1) := D_46 W_prog_7_method_25_code_160 26 rfl rfl
theorem d_7_25_187 : decode prog_7_method_25_code 187 = .ok (.imul, 1) := D_104 W_prog_7_method_25_code_160 27 rfl rfl
theorem d_7_25_188 : decode prog_7_method_25_code 188 = .ok (.sipush 1024, 3) := D_17 W_prog_7_method_25_code_160 28 rfl rfl rfl
theorem d_7_25_191 : decode prog_7_method_25_code 191 = .ok (.idiv, 1) := D_108 W_prog_7_method_25_code_160 31 rfl rfl
theorem d_7_25_192 : decode prog_7_method_25_code 192 = .ok (.iadd, 1) := D_96 W_prog_7_method_25_code_192 0 rfl rfl
theorem d_7_25_193 : decode prog_7_method_25_code 193 = .ok (.iastore, 1) := D_79 W_prog_7_method_25_code_192 1 rfl rfl
theorem d_7_25_194 : decode prog_7_method_25_code 194 = .ok (.iload 12, 2) := D_21 W_prog_7_method_25_code_192 2 rfl rfl
theorem d_7_25_196 : decode prog_7_method_25_code 196 = .ok (.iload 10, 2) := D_21 W_prog_7_method_25_code_192 4 rfl rfl
theorem d_7_25_198 : decode prog_7_method_25_code 198 = .ok (.iadd, 1) := D_96 W_prog_7_method_25_code_192 6 rfl rfl
theorem d_7_25_199 : decode prog_7_method_25_code 199 = .ok (.istore 12, 2) := D_54 W_prog_7_method_25_code_192 7 rfl rfl
theorem d_7_25_201 : decode prog_7_method_25_code 201 = .ok (.iinc 13 1, 3) := D_132 W_prog_7_method_25_code_192 9 rfl rfl rfl
theorem d_7_25_204 : decode prog_7_method_25_code 204 = .ok (.goto (-73), 3) := D_167 W_prog_7_method_25_code_192 12 rfl rfl rfl
noncomputable abbrev Q_Part_setAccidentals (K : zK) (D : va_G) (ca : Nat → ClassId) (ad : Nat → Int → Nat → Nat) (L : List Nat) (r : Int) (F : zF) (B : zB) (A : Nat → Prop) : Array Value → State → Outcome → State → Prop := va_Qv (S := Unit) (fun _ => True) (fun _ => zPo D ca ad lnC K.2 L F B A) A
noncomputable def f_Part_setAccidentals_117 (rec4 : Int → Int → Int → Int → zF → zB → zO) (K : zK) (l3 : Int) (l2 : Int) (l0 : Int) (l1 : Int) (s0 : Int) (s1 : Int) (s2 : Int) (F : zF) (B : zB) : zO := if 0 ≤ s0 ∧ s0 < K.2 4 then if 0 ≤ s1 ∧ s1 < 800 then rec4 (l3 + 1) l2 l0 l1 F (zup4 B 4 s0 367 s1 s2) else none else none
set_option maxHeartbeats 4000000 in
set_option maxRecDepth 100000 in
theorem b_Part_setAccidentals_117 {D : va_G} {ca : Nat → ClassId} {ad : Nat → Int → Nat → Nat} {L : List Nat} {aS vS : Nat → Nat} {A : Nat → Prop} {p : Program} {l : Launch} {e : Env} {s : State} {m : MethodId} {args : Array Value} {below : List Frame} {meth : Method} {c : Code} {K : zK} {r : Int} {F9 : zF} {B9 : zB} (X : zX D ca L aS vS A p s m args meth c prog_6_method_17_code 5 (Option.none : Option Jvm.ClassFile.FieldType) "StaveHouse$Part") {rec4 : Int → Int → Int → Int → zF → zB → zO} (hrec4 : ∀ {l3 : Int} {l2 : Int} {l0 : Int} {l1 : Int} {F : zF} {B : zB} {H : Heap} {locs : List Loc} {ls : Array Slot}, rec4 l3 l2 l0 l1 F B = some (r, F9, B9) → zH D ca ad lnC K.2 L F B A H → va_S A s.heap H locs → lv_has ls 5 [(3, .int (iI l3)), (2, .int (iI l2)), (0, .ref (ad 4 l0 0)), (1, .int (iI l1))] → W p l e ({ frames := 3, cells := 0, slots := 0, locals := 71 } : Room) s m args below meth c H locs 0 0 (MQ below (Q_Part_setAccidentals K D ca ad L r F9 B9 A) args s 0 0 A) (F0 m 4 ls [])) {l3 : Int} {l2 : Int} {l0 : Int} {l1 : Int} {s0 : Int} {s1 : Int} {s2 : Int} {F : zF} {B : zB} {H : Heap} {locs : List Loc} {ls : Array Slot} (hf : f_Part_setAccidentals_117 rec4 K l3 l2 l0 l1 s0 s1 s2 F B = some (r, F9, B9)) (hZ : zH D ca ad lnC K.2 L F B A H) (hS : va_S A s.heap H locs) (hl : lv_has ls 5 [(3, .int (iI l3)), (2, .int (iI l2)), (0, .ref (ad 4 l0 0)), (1, .int (iI l1))]) : W p l e ({ frames := 3, cells := 0, slots := 0, locals := 71 } : Room) s m args below meth c H locs 0 0 (MQ below (Q_Part_setAccidentals K D ca ad L r F9 B9 A) args s 0 0 A) (F0 m 117 ls [.int (iI s2), .int (iI s1), .ref (ad 4 s0 (367 + 1))]) := by
  obtain ⟨hx, hb, hr, hml, hown, hts, hlk, hK, hA, hL, hX⟩ := id X
  replace hf : (if 0 ≤ s0 ∧ s0 < K.2 4 then if 0 ≤ s1 ∧ s1 < 800 then rec4 (l3 + 1) l2 l0 l1 F (zup4 B 4 s0 367 s1 s2) else none else none) = some (r, F9, B9) := hf
  obtain ⟨g27, hf⟩ := gif hf
  obtain ⟨g28, hf⟩ := gif hf
  refine zast (ci := 4) (k := 367) hx hb hK rfl hZ hS g27.1 g27.2 rfl (Nat.le_of_ble_eq_true rfl) g28.1 g28.2 d_6_17_117 (fun H29 locs29 hZ29 hS29 => ?_)
  refine lv_iinc (v := iI (l3 + 1)) (lv' := [(3, .int (iI (l3 + 1))), (2, .int (iI l2)), (0, .ref (ad 4 l0 0)), (1, .int (iI l1))]) hx hb d_6_17_118 hl (k := 0) rfl (iI_add _ 1) (by decide) rfl (fun ls hl => ?_)
  refine lv_goto (tgt := 4) hx hb d_6_17_121 (by decide) ?_
  exact hrec4 hf hZ29 hS29 (lv_sub hl [0, 1, 2, 3] rfl)

noncomputable def f_Part_setAccidentals_86 (rec4 : Int → Int → Int → Int → zF → zB → zO) (K : zK) (l3 : Int) (l2 : Int) (l0 : Int) (l1 : Int) (s0 : Int) (F : zF) (B : zB) : zO := if 0 ≤ l0 ∧ l0 < K.2 4 then if r32 s0 then (if s0 = 0 then f_Part_setAccidentals_117 rec4 K l3 l2 l0 l1 l0 l3 0 F B else if 0 ≤ l3 ∧ l3 < 800 then zbind (f_Part_accidentalsOf K l0 (B 4 l0 360 l3) F B) (fun r26 F26 B26 => f_Part_setAccidentals_117 rec4 K l3 l2 l0 l1 l0 l3 r26 F26 B26) else none) else none else none
set_option maxHeartbeats 4000000 in
set_option maxRecDepth 100000 in
theorem b_Part_setAccidentals_86 {D : va_G} {ca : Nat → ClassId} {ad : Nat → Int → Nat → Nat} {L : List Nat} {aS vS : Nat → Nat} {A : Nat → Prop} {p : Program} {l : Launch} {e : Env} {s : State} {m : MethodId} {args : Array Value} {below : List Frame} {meth : Method} {c : Code} {K : zK} {r : Int} {F9 : zF} {B9 : zB} (X : zX D ca L aS vS A p s m args meth c prog_6_method_17_code 5 (Option.none : Option Jvm.ClassFile.FieldType) "StaveHouse$Part") {rec4 : Int → Int → Int → Int → zF → zB → zO} (hrec4 : ∀ {l3 : Int} {l2 : Int} {l0 : Int} {l1 : Int} {F : zF} {B : zB} {H : Heap} {locs : List Loc} {ls : Array Slot}, rec4 l3 l2 l0 l1 F B = some (r, F9, B9) → zH D ca ad lnC K.2 L F B A H → va_S A s.heap H locs → lv_has ls 5 [(3, .int (iI l3)), (2, .int (iI l2)), (0, .ref (ad 4 l0 0)), (1, .int (iI l1))] → W p l e ({ frames := 3, cells := 0, slots := 0, locals := 71 } : Room) s m args below meth c H locs 0 0 (MQ below (Q_Part_setAccidentals K D ca ad L r F9 B9 A) args s 0 0 A) (F0 m 4 ls [])) {l3 : Int} {l2 : Int} {l0 : Int} {l1 : Int} {s0 : Int} {F : zF} {B : zB} {H : Heap} {locs : List Loc} {ls : Array Slot} (hf : f_Part_setAccidentals_86 rec4 K l3 l2 l0 l1 s0 F B = some (r, F9, B9)) (hZ : zH D ca ad lnC K.2 L F B A H) (hS : va_S A s.heap H locs) (hl : lv_has ls 5 [(3, .int (iI l3)), (2, .int (iI l2)), (0, .ref (ad 4 l0 0)), (1, .int (iI l1))]) : W p l e ({ frames := 3, cells := 0, slots := 0, locals := 71 } : Room) s m args below meth c H locs 0 0 (MQ below (Q_Part_setAccidentals K D ca ad L r F9 B9 A) args s 0 0 A) (F0 m 86 ls [.int (iI s0)]) := by
  obtain ⟨hx, hb, hr, hml, hown, hts, hlk, hK, hA, hL, hX⟩ := id X
  replace hf : (if 0 ≤ l0 ∧ l0 < K.2 4 then if r32 s0 then (if s0 = 0 then f_Part_setAccidentals_117 rec4 K l3 l2 l0 l1 l0 l3 0 F B else if 0 ≤ l3 ∧ l3 < 800 then zbind (f_Part_accidentalsOf K l0 (B 4 l0 360 l3) F B) (fun r26 F26 B26 => f_Part_setAccidentals_117 rec4 K l3 l2 l0 l1 l0 l3 r26 F26 B26) else none) else none else none) = some (r, F9, B9) := hf
  refine lv_istore (lv' := [(4, .int (iI s0)), (3, .int (iI l3)), (2, .int (iI l2)), (0, .ref (ad 4 l0 0)), (1, .int (iI l1))]) hx hb d_6_17_86 hl (by decide) rfl (fun ls hl => ?_)
  refine lv_aload_n hx hb d_6_17_88 rfl (lv_at hl 3 rfl) ?_
  obtain ⟨g22, hf⟩ := gif hf
  refine zget (ci := 4) (C := RX4) (T := TX4) (v := .ref (ad 4 l0 (8 + 1))) (k := 8) hx hb hts inW_4 hown hK hZ g22.1 g22.2 rfl (by decide) k_4_142 rfl d_6_17_89 ?_
  refine lv_bipush (v := iI 7) hx hb d_6_17_92 (by decide) ?_
  refine zaldQ (t := 0) (ci := 4) (k := 8) hx hb hK rfl hZ g22.1 g22.2 rfl (Nat.le_of_ble_eq_true rfl) (by decide) (by decide) d_6_17_94 ?_
  refine W.eq (g2 := F0 m 95 ls [.ref (ad 4 l0 (367 + 1))]) rfl ?_
  refine lv_iload_n hx hb d_6_17_95 rfl (lv_at hl 1 rfl) ?_
  refine lv_iload hx hb d_6_17_96 (lv_at hl 0 rfl) ?_
  obtain ⟨g23, hf⟩ := gif hf
  refine z0eq (tgt := 116) hx hb g23 d_6_17_98 (by decide) (fun h24 => ?_) (fun h24 => ?_)
  · replace hf := gpos hf h24
    refine lv_iconst (v := iI 0) hx hb d_6_17_116 rfl ?_
    exact b_Part_setAccidentals_117 X hrec4 hf hZ hS (lv_sub hl [1, 2, 3, 4] rfl)
  · replace hf := gneg hf h24
    refine lv_aload_n hx hb d_6_17_101 rfl (lv_at hl 3 rfl) ?_
    refine lv_aload_n hx hb d_6_17_102 rfl (lv_at hl 3 rfl) ?_
    refine zget (ci := 4) (C := RX4) (T := TX4) (v := .ref (ad 4 l0 (8 + 1))) (k := 8) hx hb hts inW_4 hown hK hZ g22.1 g22.2 rfl (by decide) k_4_142 rfl d_6_17_103 ?_
    refine lv_iconst (v := iI 0) hx hb d_6_17_106 rfl ?_
    refine zaldQ (t := 0) (ci := 4) (k := 8) hx hb hK rfl hZ g22.1 g22.2 rfl (Nat.le_of_ble_eq_true rfl) (by decide) (by decide) d_6_17_107 ?_
    refine W.eq (g2 := F0 m 108 ls [.ref (ad 4 l0 (360 + 1)), .ref (ad 4 l0 0), .int (iI l3), .ref (ad 4 l0 (367 + 1))]) rfl ?_
    refine lv_iload_n hx hb d_6_17_108 rfl (lv_at hl 1 rfl) ?_
    obtain ⟨g25, hf⟩ := gif hf
    refine zald (ci := 4) (k := 360) hx hb hK rfl hZ g22.1 g22.2 rfl (Nat.le_of_ble_eq_true rfl) g25.1 g25.2 d_6_17_109 ?_
    obtain ⟨r26, F26, B26, hc26, hf⟩ := gbind hf
    refine va_calli (va_runV (As := [.int (iI (B 4 l0 360 l3))]) (rest := [.int (iI l3), .ref (ad 4 l0 (367 + 1))]) ⟨hx, hb, hml, hown, hts⟩ (c_Part_accidentalsOf (l := l) hc26) (cwV 1 hts (gdV k_5_121 k_5_123 ks_57 k_1_18 k_5_124) rfl rfl rfl (by decide +kernel) ⟨Nat.le_of_ble_eq_true rfl, Nat.le_of_ble_eq_true rfl⟩) (zPV X hZ hS (ci := 4) g22.1 g22.2 (r := (RX4, TX4, 13)) rfl [.int (iI (B 4 l0 360 l3))]) rfl rfl hl.1 rfl (lv_room (Nat.le_of_ble_eq_true rfl)) d_6_17_110 ⟨Nat.le_of_ble_eq_true rfl, Nat.le_of_ble_eq_true rfl⟩) hS (fun q _ h => zAin X hS q h) (zAin X hS) (fun p26 u26 t26 H26 locs26 ht26 hv26 hw26 hB26 hz26 hk26 hS26 => ?_)
    have hZ26 := zBack X ht26 hB26
    subst hw26
    refine lv_goto (tgt := 117) hx hb d_6_17_113 (by decide) ?_
    exact b_Part_setAccidentals_117 X hrec4 hf hZ26 hS26 (lv_sub hl [1, 2, 3, 4] rfl)

noncomputable def f_Part_setAccidentals_85 (rec4 : Int → Int → Int → Int → zF → zB → zO) (K : zK) (l3 : Int) (l2 : Int) (l0 : Int) (l1 : Int) (F : zF) (B : zB) : zO := f_Part_setAccidentals_86 rec4 K l3 l2 l0 l1 0 F B
set_option maxHeartbeats 4000000 in
set_option maxRecDepth 100000 in
theorem b_Part_setAccidentals_85 {D : va_G} {ca : Nat → ClassId} {ad : Nat → Int → Nat → Nat} {L : List Nat} {aS vS : Nat → Nat} {A : Nat → Prop} {p : Program} {l : Launch} {e : Env} {s : State} {m : MethodId} {args : Array Value} {below : List Frame} {meth : Method} {c : Code} {K : zK} {r : Int} {F9 : zF} {B9 : zB} (X : zX D ca L aS vS A p s m args meth c prog_6_method_17_code 5 (Option.none : Option Jvm.ClassFile.FieldType) "StaveHouse$Part") {rec4 : Int → Int → Int → Int → zF → zB → zO} (hrec4 : ∀ {l3 : Int} {l2 : Int} {l0 : Int} {l1 : Int} {F : zF} {B : zB} {H : Heap} {locs : List Loc} {ls : Array Slot}, rec4 l3 l2 l0 l1 F B = some (r, F9, B9) → zH D ca ad lnC K.2 L F B A H → va_S A s.heap H locs → lv_has ls 5 [(3, .int (iI l3)), (2, .int (iI l2)), (0, .ref (ad 4 l0 0)), (1, .int (iI l1))] → W p l e ({ frames := 3, cells := 0, slots := 0, locals := 71 } : Room) s m args below meth c H locs 0 0 (MQ below (Q_Part_setAccidentals K D ca ad L r F9 B9 A) args s 0 0 A) (F0 m 4 ls [])) {l3 : Int} {l2 : Int} {l0 : Int} {l1 : Int} {F : zF} {B : zB} {H : Heap} {locs : List Loc} {ls : Array Slot} (hf : f_Part_setAccidentals_85 rec4 K l3 l2 l0 l1 F B = some (r, F9, B9)) (hZ : zH D ca ad lnC K.2 L F B A H) (hS : va_S A s.heap H locs) (hl : lv_has ls 5 [(3, .int (iI l3)), (2, .int (iI l2)), (0, .ref (ad 4 l0 0)), (1, .int (iI l1))]) : W p l e ({ frames := 3, cells := 0, slots := 0, locals := 71 } : Room) s m args below meth c H locs 0 0 (MQ below (Q_Part_setAccidentals K D ca ad L r F9 B9 A) args s 0 0 A) (F0 m 85 ls []) := by
  obtain ⟨hx, hb, hr, hml, hown, hts, hlk, hK, hA, hL, hX⟩ := id X
  replace hf : (f_Part_setAccidentals_86 rec4 K l3 l2 l0 l1 0 F B) = some (r, F9, B9) := hf
  refine lv_iconst (v := iI 0) hx hb d_6_17_85 rfl ?_
  exact b_Part_setAccidentals_86 X hrec4 hf hZ hS (lv_sub hl [0, 1, 2, 3] rfl)

noncomputable def f_Part_setAccidentals_65 (rec4 : Int → Int → Int → Int → zF → zB → zO) (K : zK) (l3 : Int) (l2 : Int) (l0 : Int) (l1 : Int) (F : zF) (B : zB) : zO := if 0 ≤ l0 ∧ l0 < K.2 4 then zbind (f_Part_isRestNote K l0 l3 F B) (fun r16 F16 B16 => if r32 r16 then (if r16 = 0 then zbind (f_Part_continues K l0 l3 F16 B16) (fun r19 F19 B19 => if r32 r19 then (if r19 = 0 then f_Part_setAccidentals_86 rec4 K l3 l2 l0 l1 1 F19 B19 else f_Part_setAccidentals_85 rec4 K l3 l2 l0 l1 F19 B19) else none) else f_Part_setAccidentals_85 rec4 K l3 l2 l0 l1 F16 B16) else none) else none
set_option maxHeartbeats 4000000 in
set_option maxRecDepth 100000 in
theorem b_Part_setAccidentals_65 {D : va_G} {ca : Nat → ClassId} {ad : Nat → Int → Nat → Nat} {L : List Nat} {aS vS : Nat → Nat} {A : Nat → Prop} {p : Program} {l : Launch} {e : Env} {s : State} {m : MethodId} {args : Array Value} {below : List Frame} {meth : Method} {c : Code} {K : zK} {r : Int} {F9 : zF} {B9 : zB} (X : zX D ca L aS vS A p s m args meth c prog_6_method_17_code 5 (Option.none : Option Jvm.ClassFile.FieldType) "StaveHouse$Part") {rec4 : Int → Int → Int → Int → zF → zB → zO} (hrec4 : ∀ {l3 : Int} {l2 : Int} {l0 : Int} {l1 : Int} {F : zF} {B : zB} {H : Heap} {locs : List Loc} {ls : Array Slot}, rec4 l3 l2 l0 l1 F B = some (r, F9, B9) → zH D ca ad lnC K.2 L F B A H → va_S A s.heap H locs → lv_has ls 5 [(3, .int (iI l3)), (2, .int (iI l2)), (0, .ref (ad 4 l0 0)), (1, .int (iI l1))] → W p l e ({ frames := 3, cells := 0, slots := 0, locals := 71 } : Room) s m args below meth c H locs 0 0 (MQ below (Q_Part_setAccidentals K D ca ad L r F9 B9 A) args s 0 0 A) (F0 m 4 ls [])) {l3 : Int} {l2 : Int} {l0 : Int} {l1 : Int} {F : zF} {B : zB} {H : Heap} {locs : List Loc} {ls : Array Slot} (hf : f_Part_setAccidentals_65 rec4 K l3 l2 l0 l1 F B = some (r, F9, B9)) (hZ : zH D ca ad lnC K.2 L F B A H) (hS : va_S A s.heap H locs) (hl : lv_has ls 5 [(3, .int (iI l3)), (2, .int (iI l2)), (0, .ref (ad 4 l0 0)), (1, .int (iI l1))]) : W p l e ({ frames := 3, cells := 0, slots := 0, locals := 71 } : Room) s m args below meth c H locs 0 0 (MQ below (Q_Part_setAccidentals K D ca ad L r F9 B9 A) args s 0 0 A) (F0 m 65 ls []) := by
  obtain ⟨hx, hb, hr, hml, hown, hts, hlk, hK, hA, hL, hX⟩ := id X
  replace hf : (if 0 ≤ l0 ∧ l0 < K.2 4 then zbind (f_Part_isRestNote K l0 l3 F B) (fun r16 F16 B16 => if r32 r16 then (if r16 = 0 then zbind (f_Part_continues K l0 l3 F16 B16) (fun r19 F19 B19 => if r32 r19 then (if r19 = 0 then f_Part_setAccidentals_86 rec4 K l3 l2 l0 l1 1 F19 B19 else f_Part_setAccidentals_85 rec4 K l3 l2 l0 l1 F19 B19) else none) else f_Part_setAccidentals_85 rec4 K l3 l2 l0 l1 F16 B16) else none) else none) = some (r, F9, B9) := hf
  refine lv_aload_n hx hb d_6_17_65 rfl (lv_at hl 2 rfl) ?_
  refine lv_iload_n hx hb d_6_17_66 rfl (lv_at hl 0 rfl) ?_
  obtain ⟨g15, hf⟩ := gif hf
  obtain ⟨r16, F16, B16, hc16, hf⟩ := gbind hf
  refine va_calli (va_runV (As := [.int (iI l3)]) (rest := []) ⟨hx, hb, hml, hown, hts⟩ (c_Part_isRestNote (l := l) hc16) (cwV 1 hts (gdV k_5_104 k_5_106 ks_54 k_1_18 k_5_107) rfl rfl rfl (by decide +kernel) ⟨Nat.le_of_ble_eq_true rfl, Nat.le_of_ble_eq_true rfl⟩) (zPV X hZ hS (ci := 4) g15.1 g15.2 (r := (RX4, TX4, 13)) rfl [.int (iI l3)]) rfl rfl hl.1 rfl (lv_room (Nat.le_of_ble_eq_true rfl)) d_6_17_67 ⟨Nat.le_of_ble_eq_true rfl, Nat.le_of_ble_eq_true rfl⟩) hS (fun q _ h => zAin X hS q h) (zAin X hS) (fun p16 u16 t16 H16 locs16 ht16 hv16 hw16 hB16 hz16 hk16 hS16 => ?_)
  have hZ16 := zBack X ht16 hB16
  subst hw16
  obtain ⟨g17, hf⟩ := gif hf
  refine z0ne (tgt := 85) hx hb g17 d_6_17_70 (by decide) (fun h18 => ?_) (fun h18 => ?_)
  · replace hf := gneg hf h18
    exact b_Part_setAccidentals_85 X hrec4 hf hZ16 hS16 (lv_sub hl [0, 1, 2, 3] rfl)
  · replace hf := gpos hf h18
    refine lv_aload_n hx hb d_6_17_73 rfl (lv_at hl 2 rfl) ?_
    refine lv_iload_n hx hb d_6_17_74 rfl (lv_at hl 0 rfl) ?_
    obtain ⟨r19, F19, B19, hc19, hf⟩ := gbind hf
    refine va_calli (va_runV (As := [.int (iI l3)]) (rest := []) ⟨hx, hb, hml, hown, hts⟩ (c_Part_continues (l := l) hc19) (cwV 1 hts (gdV k_5_108 k_5_110 ks_55 k_1_18 k_5_111) rfl rfl rfl (by decide +kernel) ⟨Nat.le_of_ble_eq_true rfl, Nat.le_of_ble_eq_true rfl⟩) (zPV X hZ16 hS16 (ci := 4) g15.1 g15.2 (r := (RX4, TX4, 13)) rfl [.int (iI l3)]) rfl rfl hl.1 rfl (lv_room (Nat.le_of_ble_eq_true rfl)) d_6_17_75 ⟨Nat.le_of_ble_eq_true rfl, Nat.le_of_ble_eq_true rfl⟩) hS16 (fun q _ h => zAin X hS16 q h) (zAin X hS16) (fun p19 u19 t19 H19 locs19 ht19 hv19 hw19 hB19 hz19 hk19 hS19 => ?_)
    have hZ19 := zBack X ht19 hB19
    subst hw19
    obtain ⟨g20, hf⟩ := gif hf
    refine z0ne (tgt := 85) hx hb g20 d_6_17_78 (by decide) (fun h21 => ?_) (fun h21 => ?_)
    · replace hf := gneg hf h21
      exact b_Part_setAccidentals_85 X hrec4 hf hZ19 hS19 (lv_sub hl [0, 1, 2, 3] rfl)
    · replace hf := gpos hf h21
      refine lv_iconst (v := iI 1) hx hb d_6_17_81 rfl ?_
      refine lv_goto (tgt := 86) hx hb d_6_17_82 (by decide) ?_
      exact b_Part_setAccidentals_86 X hrec4 hf hZ19 hS19 (lv_sub hl [0, 1, 2, 3] rfl)

noncomputable def f_Part_setAccidentals_36 (rec4 : Int → Int → Int → Int → zF → zB → zO) (K : zK) : Nat → Int → Int → Int → Int → Int → zF → zB → zO
  | 0, _, _, _, _, _, _, _ => none
  | n + 1, l4, l2, l3, l0, l1, F, B => if r32 l4 then (if 63 ≤ l4 then f_Part_setAccidentals_65 rec4 K l3 l2 l0 l1 F B else if 0 ≤ l0 ∧ l0 < K.2 4 then zbind (f_S_keyAlteration K l1 (zrm l4 7) F B) (fun r12 F12 B12 => if 0 ≤ l4 ∧ l4 < 63 then f_Part_setAccidentals_36 rec4 K n (l4 + 1) l2 l3 l0 l1 F12 (zup4 B12 4 l0 12 l4 r12) else none) else none) else none
set_option maxHeartbeats 4000000 in
set_option maxRecDepth 100000 in
theorem b_Part_setAccidentals_36 {D : va_G} {ca : Nat → ClassId} {ad : Nat → Int → Nat → Nat} {L : List Nat} {aS vS : Nat → Nat} {A : Nat → Prop} {p : Program} {l : Launch} {e : Env} {s : State} {m : MethodId} {args : Array Value} {below : List Frame} {meth : Method} {c : Code} {K : zK} {r : Int} {F9 : zF} {B9 : zB} (X : zX D ca L aS vS A p s m args meth c prog_6_method_17_code 5 (Option.none : Option Jvm.ClassFile.FieldType) "StaveHouse$Part") {rec4 : Int → Int → Int → Int → zF → zB → zO} (hrec4 : ∀ {l3 : Int} {l2 : Int} {l0 : Int} {l1 : Int} {F : zF} {B : zB} {H : Heap} {locs : List Loc} {ls : Array Slot}, rec4 l3 l2 l0 l1 F B = some (r, F9, B9) → zH D ca ad lnC K.2 L F B A H → va_S A s.heap H locs → lv_has ls 5 [(3, .int (iI l3)), (2, .int (iI l2)), (0, .ref (ad 4 l0 0)), (1, .int (iI l1))] → W p l e ({ frames := 3, cells := 0, slots := 0, locals := 71 } : Room) s m args below meth c H locs 0 0 (MQ below (Q_Part_setAccidentals K D ca ad L r F9 B9 A) args s 0 0 A) (F0 m 4 ls [])) : ∀ {n : Nat} {l4 : Int} {l2 : Int} {l3 : Int} {l0 : Int} {l1 : Int} {F : zF} {B : zB} {H : Heap} {locs : List Loc} {ls : Array Slot}, f_Part_setAccidentals_36 rec4 K n l4 l2 l3 l0 l1 F B = some (r, F9, B9) → zH D ca ad lnC K.2 L F B A H → va_S A s.heap H locs → lv_has ls 5 [(4, .int (iI l4)), (2, .int (iI l2)), (3, .int (iI l3)), (0, .ref (ad 4 l0 0)), (1, .int (iI l1))] → W p l e ({ frames := 3, cells := 0, slots := 0, locals := 71 } : Room) s m args below meth c H locs 0 0 (MQ below (Q_Part_setAccidentals K D ca ad L r F9 B9 A) args s 0 0 A) (F0 m 36 ls []) := by
  obtain ⟨hx, hb, hr, hml, hown, hts, hlk, hK, hA, hL, hX⟩ := id X
  intro n
  induction n with
  | zero =>
    intros
    rename_i hf _ _ _
    cases hf
  | succ n ih =>
    intro l4 l2 l3 l0 l1 F B H locs ls hf hZ hS hl
    replace hf : (if r32 l4 then (if 63 ≤ l4 then f_Part_setAccidentals_65 rec4 K l3 l2 l0 l1 F B else if 0 ≤ l0 ∧ l0 < K.2 4 then zbind (f_S_keyAlteration K l1 (zrm l4 7) F B) (fun r12 F12 B12 => if 0 ≤ l4 ∧ l4 < 63 then f_Part_setAccidentals_36 rec4 K n (l4 + 1) l2 l3 l0 l1 F12 (zup4 B12 4 l0 12 l4 r12) else none) else none) else none) = some (r, F9, B9) := hf
    refine lv_iload hx hb d_6_17_36 (lv_at hl 0 rfl) ?_
    refine lv_bipush (v := iI 63) hx hb d_6_17_38 (by decide) ?_
    obtain ⟨g9, hf⟩ := gif hf
    refine zge (tgt := 65) hx hb g9 (by decide) d_6_17_40 (by decide) (fun h10 => ?_) (fun h10 => ?_)
    · replace hf := gpos hf h10
      exact b_Part_setAccidentals_65 X hrec4 hf hZ hS (lv_sub hl [2, 1, 3, 4] rfl)
    · replace hf := gneg hf h10
      refine lv_aload_n hx hb d_6_17_43 rfl (lv_at hl 3 rfl) ?_
      obtain ⟨g11, hf⟩ := gif hf
      refine zget (ci := 4) (C := RX4) (T := TX4) (v := .ref (ad 4 l0 (12 + 1))) (k := 12) hx hb hts inW_4 hown hK hZ g11.1 g11.2 rfl (by decide) k_4_152 rfl d_6_17_44 ?_
      refine lv_iload hx hb d_6_17_47 (lv_at hl 0 rfl) ?_
      refine lv_iload_n hx hb d_6_17_49 rfl (lv_at hl 4 rfl) ?_
      refine lv_iload hx hb d_6_17_50 (lv_at hl 0 rfl) ?_
      refine lv_bipush (v := iI 7) hx hb d_6_17_52 (by decide) ?_
      refine zrm_r hx hb (by decide) d_6_17_54 ?_
      obtain ⟨r12, F12, B12, hc12, hf⟩ := gbind hf
      refine va_calli (va_runSN (As := [.int (iI l1), .int (iI (zrm l4 7))]) (rest := [.int (iI l4), .ref (ad 4 l0 (12 + 1))]) ⟨hx, hb, hml, hown, hts⟩ (c_S_keyAlteration (l := l) hc12) ⟨va_cnB 2 hts (gdC k_5_118) rfl rfl rfl (hX.1 _ (List.mem_of_getElem? (i := 17) rfl)) (hts _ k_1_1) (by decide +kernel) ⟨Nat.le_of_ble_eq_true rfl, Nat.le_of_ble_eq_true rfl⟩, hts _ k_5_117, trivial⟩ (zPS X hZ hS [.int (iI l1), .int (iI (zrm l4 7))]) rfl rfl hl.1 rfl (lv_room (Nat.le_of_ble_eq_true rfl)) d_6_17_55 ⟨Nat.le_of_ble_eq_true rfl, Nat.le_of_ble_eq_true rfl⟩) hS (fun q _ h => zAin X hS q h) (zAin X hS) (fun p12 u12 t12 H12 locs12 ht12 hv12 hw12 hB12 hz12 hk12 hS12 => ?_)
      have hZ12 := zBack X ht12 hB12
      subst hw12
      obtain ⟨g13, hf⟩ := gif hf
      refine zast (ci := 4) (k := 12) hx hb hK rfl hZ12 hS12 g11.1 g11.2 rfl (Nat.le_of_ble_eq_true rfl) g13.1 g13.2 d_6_17_58 (fun H14 locs14 hZ14 hS14 => ?_)
      refine lv_iinc (v := iI (l4 + 1)) (lv' := [(4, .int (iI (l4 + 1))), (2, .int (iI l2)), (3, .int (iI l3)), (0, .ref (ad 4 l0 0)), (1, .int (iI l1))]) hx hb d_6_17_59 hl (k := 0) rfl (iI_add _ 1) (by decide) rfl (fun ls hl => ?_)
      refine lv_goto (tgt := 36) hx hb d_6_17_62 (by decide) ?_
      exact ih hf hZ14 hS14 (lv_sub hl [0, 1, 2, 3, 4] rfl)

noncomputable def f_Part_setAccidentals_4 (K : zK) : Nat → Int → Int → Int → Int → zF → zB → zO
  | 0, _, _, _, _, _, _ => none
  | n + 1, l3, l2, l0, l1, F, B => if 0 ≤ l0 ∧ l0 < K.2 4 then if r32 l3 then if r32 (F 4 l0 10) then (if (F 4 l0 10) ≤ l3 then some (0, F, B) else if 0 ≤ l3 ∧ l3 < 800 then if r32 (B 4 l0 361 l3) then if r32 l2 then (if (B 4 l0 361 l3) = l2 then f_Part_setAccidentals_65 (f_Part_setAccidentals_4 K n) K l3 l2 l0 l1 F B else f_Part_setAccidentals_36 (f_Part_setAccidentals_4 K n) K K.1 0 (B 4 l0 361 l3) l3 l0 l1 F B) else none else none else none) else none else none else none
set_option maxHeartbeats 4000000 in
set_option maxRecDepth 100000 in
theorem b_Part_setAccidentals_4 {D : va_G} {ca : Nat → ClassId} {ad : Nat → Int → Nat → Nat} {L : List Nat} {aS vS : Nat → Nat} {A : Nat → Prop} {p : Program} {l : Launch} {e : Env} {s : State} {m : MethodId} {args : Array Value} {below : List Frame} {meth : Method} {c : Code} {K : zK} {r : Int} {F9 : zF} {B9 : zB} (X : zX D ca L aS vS A p s m args meth c prog_6_method_17_code 5 (Option.none : Option Jvm.ClassFile.FieldType) "StaveHouse$Part") : ∀ {n : Nat} {l3 : Int} {l2 : Int} {l0 : Int} {l1 : Int} {F : zF} {B : zB} {H : Heap} {locs : List Loc} {ls : Array Slot}, f_Part_setAccidentals_4 K n l3 l2 l0 l1 F B = some (r, F9, B9) → zH D ca ad lnC K.2 L F B A H → va_S A s.heap H locs → lv_has ls 5 [(3, .int (iI l3)), (2, .int (iI l2)), (0, .ref (ad 4 l0 0)), (1, .int (iI l1))] → W p l e ({ frames := 3, cells := 0, slots := 0, locals := 71 } : Room) s m args below meth c H locs 0 0 (MQ below (Q_Part_setAccidentals K D ca ad L r F9 B9 A) args s 0 0 A) (F0 m 4 ls []) := by
  obtain ⟨hx, hb, hr, hml, hown, hts, hlk, hK, hA, hL, hX⟩ := id X
  intro n
  induction n with
  | zero =>
    intros
    rename_i hf _ _ _
    cases hf
  | succ n ih =>
    intro l3 l2 l0 l1 F B H locs ls hf hZ hS hl
    replace hf : (if 0 ≤ l0 ∧ l0 < K.2 4 then if r32 l3 then if r32 (F 4 l0 10) then (if (F 4 l0 10) ≤ l3 then some (0, F, B) else if 0 ≤ l3 ∧ l3 < 800 then if r32 (B 4 l0 361 l3) then if r32 l2 then (if (B 4 l0 361 l3) = l2 then f_Part_setAccidentals_65 (f_Part_setAccidentals_4 K n) K l3 l2 l0 l1 F B else f_Part_setAccidentals_36 (f_Part_setAccidentals_4 K n) K K.1 0 (B 4 l0 361 l3) l3 l0 l1 F B) else none else none else none) else none else none else none) = some (r, F9, B9) := hf
    refine lv_iload_n hx hb d_6_17_4 rfl (lv_at hl 0 rfl) ?_
    refine lv_aload_n hx hb d_6_17_5 rfl (lv_at hl 2 rfl) ?_
    obtain ⟨g1, hf⟩ := gif hf
    refine zget (ci := 4) (C := RX4) (T := TX4) (v := .int (iI (F 4 l0 10))) (k := 10) hx hb hts inW_4 hown hK hZ g1.1 g1.2 rfl (by decide) k_4_148 rfl d_6_17_6 ?_
    obtain ⟨g2, hf⟩ := gif hf
    obtain ⟨g3, hf⟩ := gif hf
    refine zge (tgt := 124) hx hb g2 g3 d_6_17_9 (by decide) (fun h4 => ?_) (fun h4 => ?_)
    · replace hf := gpos hf h4
      cases hf
      exact W.vret hx hb hr (fun t ht hW => ⟨⟨(), rfl, trivial, by rw [ht]; exact hZ, va_K.moved hW.alike hK⟩, hS.F ht⟩) hS.2.2 d_6_17_124 hlk
    · replace hf := gneg hf h4
      refine lv_aload_n hx hb d_6_17_12 rfl (lv_at hl 2 rfl) ?_
      refine zget (ci := 4) (C := RX4) (T := TX4) (v := .ref (ad 4 l0 (8 + 1))) (k := 8) hx hb hts inW_4 hown hK hZ g1.1 g1.2 rfl (by decide) k_4_142 rfl d_6_17_13 ?_
      refine lv_iconst (v := iI 1) hx hb d_6_17_16 rfl ?_
      refine zaldQ (t := 0) (ci := 4) (k := 8) hx hb hK rfl hZ g1.1 g1.2 rfl (Nat.le_of_ble_eq_true rfl) (by decide) (by decide) d_6_17_17 ?_
      refine W.eq (g2 := F0 m 18 ls [.ref (ad 4 l0 (361 + 1))]) rfl ?_
      refine lv_iload_n hx hb d_6_17_18 rfl (lv_at hl 0 rfl) ?_
      obtain ⟨g5, hf⟩ := gif hf
      refine zald (ci := 4) (k := 361) hx hb hK rfl hZ g1.1 g1.2 rfl (Nat.le_of_ble_eq_true rfl) g5.1 g5.2 d_6_17_19 ?_
      refine lv_iload_n hx hb d_6_17_20 rfl (lv_at hl 1 rfl) ?_
      obtain ⟨g6, hf⟩ := gif hf
      obtain ⟨g7, hf⟩ := gif hf
      refine zeq (tgt := 65) hx hb g6 g7 d_6_17_21 (by decide) (fun h8 => ?_) (fun h8 => ?_)
      · replace hf := gpos hf h8
        exact b_Part_setAccidentals_65 X ih hf hZ hS (lv_sub hl [0, 1, 2, 3] rfl)
      · replace hf := gneg hf h8
        refine lv_aload_n hx hb d_6_17_24 rfl (lv_at hl 2 rfl) ?_
        refine zget (ci := 4) (C := RX4) (T := TX4) (v := .ref (ad 4 l0 (8 + 1))) (k := 8) hx hb hts inW_4 hown hK hZ g1.1 g1.2 rfl (by decide) k_4_142 rfl d_6_17_25 ?_
        refine lv_iconst (v := iI 1) hx hb d_6_17_28 rfl ?_
        refine zaldQ (t := 0) (ci := 4) (k := 8) hx hb hK rfl hZ g1.1 g1.2 rfl (Nat.le_of_ble_eq_true rfl) (by decide) (by decide) d_6_17_29 ?_
        refine W.eq (g2 := F0 m 30 ls [.ref (ad 4 l0 (361 + 1))]) rfl ?_
        refine lv_iload_n hx hb d_6_17_30 rfl (lv_at hl 0 rfl) ?_
        refine zald (ci := 4) (k := 361) hx hb hK rfl hZ g1.1 g1.2 rfl (Nat.le_of_ble_eq_true rfl) g5.1 g5.2 d_6_17_31 ?_
        refine lv_istore_n (lv' := [(2, .int (iI (B 4 l0 361 l3))), (3, .int (iI l3)), (0, .ref (ad 4 l0 0)), (1, .int (iI l1))]) hx hb d_6_17_32 rfl hl (by decide) rfl (fun ls hl => ?_)
        refine lv_iconst (v := iI 0) hx hb d_6_17_33 rfl ?_
        refine lv_istore (lv' := [(4, .int (iI 0)), (2, .int (iI (B 4 l0 361 l3))), (3, .int (iI l3)), (0, .ref (ad 4 l0 0)), (1, .int (iI l1))]) hx hb d_6_17_34 hl (by decide) rfl (fun ls hl => ?_)
        exact b_Part_setAccidentals_36 X ih hf hZ hS (lv_sub hl [0, 1, 2, 3, 4] rfl)

noncomputable def f_Part_setAccidentals (K : zK) (l0 : Int) (l1 : Int) (F : zF) (B : zB) : zO := f_Part_setAccidentals_4 K K.1 0 (-1) l0 l1 F B
set_option maxHeartbeats 4000000 in
set_option maxRecDepth 100000 in
theorem c_Part_setAccidentals {l : Launch} {D : va_G} {ca : Nat → ClassId} {ad : Nat → Int → Nat → Nat} {L : List Nat} {aS vS : Nat → Nat} {sz : Nat} {K : zK}  {l0 : Int} {l1 : Int} {F F9 : zF} {B B9 : zB} {r : Int} (hf : f_Part_setAccidentals K l0 l1 F B = some (r, F9, B9)) : Met l ({ cls := "StaveHouse$Part", name := "setAccidentals", desc := "(I)V" } : Jvm.MethodName) (Cond.code ({ cls := "StaveHouse$Part", name := "setAccidentals", desc := "(I)V" } : Jvm.MethodName) prog_6_method_17_code 5 (Option.none : Option Jvm.ClassFile.FieldType) :: wAll) ({ frames := 3, cells := 0, slots := 0, locals := 71 } : Room) (va_Pc [.ref (ad 4 l0 0), .int (iI l1)] (zPre D ca ad lnC K.2 L aS vS F B sz)) (Q_Part_setAccidentals K D ca ad L r F9 B9 (zA L sz)) 0 0 (zA L sz) := by
  refine zMet (Qc := Q_Part_setAccidentals K D ca ad L r F9 B9) (lv := [(0, .ref (ad 4 l0 0)), (1, .int (iI l1))]) (by decide) (Nat.le_of_ble_eq_true rfl) rfl (fun A p e s m below meth c ls X hZ hS hl => ?_)
  obtain ⟨hx, hb, hr, hml, hown, hts, hlk, hK, hA, hL, hX⟩ := id X
  replace hf : (f_Part_setAccidentals_4 K K.1 0 (-1) l0 l1 F B) = some (r, F9, B9) := hf
  refine lv_iconst (v := iI (-1)) hx hb d_6_17_0 rfl ?_
  refine lv_istore_n (lv' := [(2, .int (iI (-1))), (0, .ref (ad 4 l0 0)), (1, .int (iI l1))]) hx hb d_6_17_1 rfl hl (by decide) rfl (fun ls hl => ?_)
  refine lv_iconst (v := iI 0) hx hb d_6_17_2 rfl ?_
  refine lv_istore_n (lv' := [(3, .int (iI 0)), (2, .int (iI (-1))), (0, .ref (ad 4 l0 0)), (1, .int (iI l1))]) hx hb d_6_17_3 rfl hl (by decide) rfl (fun ls hl => ?_)
  exact b_Part_setAccidentals_4 X hf hZ hS (lv_sub hl [0, 1, 2, 3] rfl)

noncomputable abbrev Q_Event_top (K : zK) (D : va_G) (ca : Nat → ClassId) (ad : Nat → Int → Nat → Nat) (L : List Nat) (r : Int) (F : zF) (B : zB) (A : Nat → Prop) : Array Value → State → Outcome → State → Prop := va_Qi (S := Unit) (fun p _ => p = iI r) (fun _ => zPo D ca ad lnC K.2 L F B A) A
noncomputable def f_Event_top_32 (rec4 : Int → Int → Int → zF → zB → zO) (K : zK) (l2 : Int) (l1 : Int) (l0 : Int) (F : zF) (B : zB) : zO := rec4 (l2 + 1) l1 l0 F B
set_option maxHeartbeats 4000000 in
set_option maxRecDepth 100000 in
theorem b_Event_top_32 {D : va_G} {ca : Nat → ClassId} {ad : Nat → Int → Nat → Nat} {L : List Nat} {aS vS : Nat → Nat} {A : Nat → Prop} {p : Program} {l : Launch} {e : Env} {s : State} {m : MethodId} {args : Array Value} {below : List Frame} {meth : Method} {c : Code} {K : zK} {r : Int} {F9 : zF} {B9 : zB} (X : zX D ca L aS vS A p s m args meth c prog_3_method_8_code 3 (Option.some Jvm.ClassFile.FieldType.int) "StaveHouse$Event") {rec4 : Int → Int → Int → zF → zB → zO} (hrec4 : ∀ {l2 : Int} {l1 : Int} {l0 : Int} {F : zF} {B : zB} {H : Heap} {locs : List Loc} {ls : Array Slot}, rec4 l2 l1 l0 F B = some (r, F9, B9) → zH D ca ad lnC K.2 L F B A H → va_S A s.heap H locs → lv_has ls 3 [(2, .int (iI l2)), (1, .int (iI l1)), (0, .ref (ad 1 l0 0))] → W p l e ({ frames := 3, cells := 0, slots := 0, locals := 63 } : Room) s m args below meth c H locs 0 0 (MQ below (Q_Event_top K D ca ad L r F9 B9 A) args s 0 0 A) (F0 m 4 ls [])) {l2 : Int} {l1 : Int} {l0 : Int} {F : zF} {B : zB} {H : Heap} {locs : List Loc} {ls : Array Slot} (hf : f_Event_top_32 rec4 K l2 l1 l0 F B = some (r, F9, B9)) (hZ : zH D ca ad lnC K.2 L F B A H) (hS : va_S A s.heap H locs) (hl : lv_has ls 3 [(2, .int (iI l2)), (1, .int (iI l1)), (0, .ref (ad 1 l0 0))]) : W p l e ({ frames := 3, cells := 0, slots := 0, locals := 63 } : Room) s m args below meth c H locs 0 0 (MQ below (Q_Event_top K D ca ad L r F9 B9 A) args s 0 0 A) (F0 m 32 ls []) := by
  obtain ⟨hx, hb, hr, hml, hown, hts, hlk, hK, hA, hL, hX⟩ := id X
  replace hf : (rec4 (l2 + 1) l1 l0 F B) = some (r, F9, B9) := hf
  refine lv_iinc (v := iI (l2 + 1)) (lv' := [(2, .int (iI (l2 + 1))), (1, .int (iI l1)), (0, .ref (ad 1 l0 0))]) hx hb d_3_8_32 hl (k := 0) rfl (iI_add _ 1) (by decide) rfl (fun ls hl => ?_)
  refine lv_goto (tgt := 4) hx hb d_3_8_35 (by decide) ?_
  exact hrec4 hf hZ hS (lv_sub hl [0, 1, 2] rfl)

noncomputable def f_Event_top_30 (rec4 : Int → Int → Int → zF → zB → zO) (K : zK) (l2 : Int) (l0 : Int) (F : zF) (B : zB) : zO := f_Event_top_32 rec4 K l2 l2 l0 F B
set_option maxHeartbeats 4000000 in
set_option maxRecDepth 100000 in
theorem b_Event_top_30 {D : va_G} {ca : Nat → ClassId} {ad : Nat → Int → Nat → Nat} {L : List Nat} {aS vS : Nat → Nat} {A : Nat → Prop} {p : Program} {l : Launch} {e : Env} {s : State} {m : MethodId} {args : Array Value} {below : List Frame} {meth : Method} {c : Code} {K : zK} {r : Int} {F9 : zF} {B9 : zB} (X : zX D ca L aS vS A p s m args meth c prog_3_method_8_code 3 (Option.some Jvm.ClassFile.FieldType.int) "StaveHouse$Event") {rec4 : Int → Int → Int → zF → zB → zO} (hrec4 : ∀ {l2 : Int} {l1 : Int} {l0 : Int} {F : zF} {B : zB} {H : Heap} {locs : List Loc} {ls : Array Slot}, rec4 l2 l1 l0 F B = some (r, F9, B9) → zH D ca ad lnC K.2 L F B A H → va_S A s.heap H locs → lv_has ls 3 [(2, .int (iI l2)), (1, .int (iI l1)), (0, .ref (ad 1 l0 0))] → W p l e ({ frames := 3, cells := 0, slots := 0, locals := 63 } : Room) s m args below meth c H locs 0 0 (MQ below (Q_Event_top K D ca ad L r F9 B9 A) args s 0 0 A) (F0 m 4 ls [])) {l2 : Int} {l0 : Int} {F : zF} {B : zB} {H : Heap} {locs : List Loc} {ls : Array Slot} (hf : f_Event_top_30 rec4 K l2 l0 F B = some (r, F9, B9)) (hZ : zH D ca ad lnC K.2 L F B A H) (hS : va_S A s.heap H locs) (hl : lv_has ls 3 [(2, .int (iI l2)), (0, .ref (ad 1 l0 0))]) : W p l e ({ frames := 3, cells := 0, slots := 0, locals := 63 } : Room) s m args below meth c H locs 0 0 (MQ below (Q_Event_top K D ca ad L r F9 B9 A) args s 0 0 A) (F0 m 30 ls []) := by
  obtain ⟨hx, hb, hr, hml, hown, hts, hlk, hK, hA, hL, hX⟩ := id X
  replace hf : (f_Event_top_32 rec4 K l2 l2 l0 F B) = some (r, F9, B9) := hf
  refine lv_iload_n hx hb d_3_8_30 rfl (lv_at hl 0 rfl) ?_
  refine lv_istore_n (lv' := [(1, .int (iI l2)), (2, .int (iI l2)), (0, .ref (ad 1 l0 0))]) hx hb d_3_8_31 rfl hl (by decide) rfl (fun ls hl => ?_)
  exact b_Event_top_32 X hrec4 hf hZ hS (lv_sub hl [1, 0, 2] rfl)

noncomputable def f_Event_top_4 (K : zK) : Nat → Int → Int → Int → zF → zB → zO
  | 0, _, _, _, _, _ => none
  | n + 1, l2, l1, l0, F, B => if 0 ≤ l0 ∧ l0 < K.2 1 then if r32 l2 then if r32 (F 1 l0 10) then (if (F 1 l0 10) ≤ l2 then some (l1, F, B) else if r32 l1 then (if l1 = (-1) then f_Event_top_30 (f_Event_top_4 K n) K l2 l0 F B else zbind (f_Event_tone K l0 l2 F B) (fun r7 F7 B7 => zbind (f_Event_tone K l0 l1 F7 B7) (fun r8 F8 B8 => if r32 r7 then if r32 r8 then (if r7 < r8 then f_Event_top_32 (f_Event_top_4 K n) K l2 l1 l0 F8 B8 else f_Event_top_30 (f_Event_top_4 K n) K l2 l0 F8 B8) else none else none))) else none) else none else none else none
set_option maxHeartbeats 4000000 in
set_option maxRecDepth 100000 in
theorem b_Event_top_4 {D : va_G} {ca : Nat → ClassId} {ad : Nat → Int → Nat → Nat} {L : List Nat} {aS vS : Nat → Nat} {A : Nat → Prop} {p : Program} {l : Launch} {e : Env} {s : State} {m : MethodId} {args : Array Value} {below : List Frame} {meth : Method} {c : Code} {K : zK} {r : Int} {F9 : zF} {B9 : zB} (X : zX D ca L aS vS A p s m args meth c prog_3_method_8_code 3 (Option.some Jvm.ClassFile.FieldType.int) "StaveHouse$Event") : ∀ {n : Nat} {l2 : Int} {l1 : Int} {l0 : Int} {F : zF} {B : zB} {H : Heap} {locs : List Loc} {ls : Array Slot}, f_Event_top_4 K n l2 l1 l0 F B = some (r, F9, B9) → zH D ca ad lnC K.2 L F B A H → va_S A s.heap H locs → lv_has ls 3 [(2, .int (iI l2)), (1, .int (iI l1)), (0, .ref (ad 1 l0 0))] → W p l e ({ frames := 3, cells := 0, slots := 0, locals := 63 } : Room) s m args below meth c H locs 0 0 (MQ below (Q_Event_top K D ca ad L r F9 B9 A) args s 0 0 A) (F0 m 4 ls []) := by
  obtain ⟨hx, hb, hr, hml, hown, hts, hlk, hK, hA, hL, hX⟩ := id X
  intro n
  induction n with
  | zero =>
    intros
    rename_i hf _ _ _
    cases hf
  | succ n ih =>
    intro l2 l1 l0 F B H locs ls hf hZ hS hl
    replace hf : (if 0 ≤ l0 ∧ l0 < K.2 1 then if r32 l2 then if r32 (F 1 l0 10) then (if (F 1 l0 10) ≤ l2 then some (l1, F, B) else if r32 l1 then (if l1 = (-1) then f_Event_top_30 (f_Event_top_4 K n) K l2 l0 F B else zbind (f_Event_tone K l0 l2 F B) (fun r7 F7 B7 => zbind (f_Event_tone K l0 l1 F7 B7) (fun r8 F8 B8 => if r32 r7 then if r32 r8 then (if r7 < r8 then f_Event_top_32 (f_Event_top_4 K n) K l2 l1 l0 F8 B8 else f_Event_top_30 (f_Event_top_4 K n) K l2 l0 F8 B8) else none else none))) else none) else none else none else none) = some (r, F9, B9) := hf
    refine lv_iload_n hx hb d_3_8_4 rfl (lv_at hl 0 rfl) ?_
    refine lv_aload_n hx hb d_3_8_5 rfl (lv_at hl 2 rfl) ?_
    obtain ⟨g1, hf⟩ := gif hf
    refine zget (ci := 1) (C := RX1) (T := TX1) (v := .int (iI (F 1 l0 10))) (k := 10) hx hb hts inW_1 hown hK hZ g1.1 g1.2 rfl (by decide) k_2_48 rfl d_3_8_6 ?_
    obtain ⟨g2, hf⟩ := gif hf
    obtain ⟨g3, hf⟩ := gif hf
    refine zge (tgt := 38) hx hb g2 g3 d_3_8_9 (by decide) (fun h4 => ?_) (fun h4 => ?_)
    · replace hf := gpos hf h4
      refine lv_iload_n hx hb d_3_8_38 rfl (lv_at hl 1 rfl) ?_
      cases hf
      exact W.iret hx hb hr (fun t ht hW => ⟨⟨_, (), rfl, rfl, by rw [ht]; exact hZ, va_K.moved hW.alike hK⟩, hS.F ht⟩) hS.2.2 d_3_8_39 hlk
    · replace hf := gneg hf h4
      refine lv_iload_n hx hb d_3_8_12 rfl (lv_at hl 1 rfl) ?_
      refine lv_iconst (v := iI (-1)) hx hb d_3_8_13 rfl ?_
      obtain ⟨g5, hf⟩ := gif hf
      refine zeq (tgt := 30) hx hb g5 (by decide) d_3_8_14 (by decide) (fun h6 => ?_) (fun h6 => ?_)
      · replace hf := gpos hf h6
        exact b_Event_top_30 X ih hf hZ hS (lv_sub hl [0, 2] rfl)
      · replace hf := gneg hf h6
        refine lv_aload_n hx hb d_3_8_17 rfl (lv_at hl 2 rfl) ?_
        refine lv_iload_n hx hb d_3_8_18 rfl (lv_at hl 0 rfl) ?_
        obtain ⟨r7, F7, B7, hc7, hf⟩ := gbind hf
        refine va_calli (va_runV (As := [.int (iI l2)]) (rest := []) ⟨hx, hb, hml, hown, hts⟩ (c_Event_tone (l := l) hc7) (cwV 1 hts (gdV k_6_21 k_6_22 k_6_23 k_1_8 k_6_24) rfl rfl rfl (by decide +kernel) ⟨Nat.le_of_ble_eq_true rfl, Nat.le_of_ble_eq_true rfl⟩) (zPV X hZ hS (ci := 1) g1.1 g1.2 (r := (RX1, TX1, 14)) rfl [.int (iI l2)]) rfl rfl hl.1 rfl (lv_room (Nat.le_of_ble_eq_true rfl)) d_3_8_19 ⟨Nat.le_of_ble_eq_true rfl, Nat.le_of_ble_eq_true rfl⟩) hS (fun q _ h => zAin X hS q h) (zAin X hS) (fun p7 u7 t7 H7 locs7 ht7 hv7 hw7 hB7 hz7 hk7 hS7 => ?_)
        have hZ7 := zBack X ht7 hB7
        subst hw7
        refine lv_aload_n hx hb d_3_8_22 rfl (lv_at hl 2 rfl) ?_
        refine lv_iload_n hx hb d_3_8_23 rfl (lv_at hl 1 rfl) ?_
        obtain ⟨r8, F8, B8, hc8, hf⟩ := gbind hf
        refine va_calli (va_runV (As := [.int (iI l1)]) (rest := [.int (iI r7)]) ⟨hx, hb, hml, hown, hts⟩ (c_Event_tone (l := l) hc8) (cwV 1 hts (gdV k_6_21 k_6_22 k_6_23 k_1_8 k_6_24) rfl rfl rfl (by decide +kernel) ⟨Nat.le_of_ble_eq_true rfl, Nat.le_of_ble_eq_true rfl⟩) (zPV X hZ7 hS7 (ci := 1) g1.1 g1.2 (r := (RX1, TX1, 14)) rfl [.int (iI l1)]) rfl rfl hl.1 rfl (lv_room (Nat.le_of_ble_eq_true rfl)) d_3_8_24 ⟨Nat.le_of_ble_eq_true rfl, Nat.le_of_ble_eq_true rfl⟩) hS7 (fun q _ h => zAin X hS7 q h) (zAin X hS7) (fun p8 u8 t8 H8 locs8 ht8 hv8 hw8 hB8 hz8 hk8 hS8 => ?_)
        have hZ8 := zBack X ht8 hB8
        subst hw8
        obtain ⟨g9, hf⟩ := gif hf
        obtain ⟨g10, hf⟩ := gif hf
        refine zlt (tgt := 32) hx hb g9 g10 d_3_8_27 (by decide) (fun h11 => ?_) (fun h11 => ?_)
        · replace hf := gpos hf h11
          exact b_Event_top_32 X ih hf hZ8 hS8 (lv_sub hl [0, 1, 2] rfl)
        · replace hf := gneg hf h11
          exact b_Event_top_30 X ih hf hZ8 hS8 (lv_sub hl [0, 2] rfl)

noncomputable def f_Event_top (K : zK) (l0 : Int) (F : zF) (B : zB) : zO := f_Event_top_4 K K.1 0 (-1) l0 F B
set_option maxHeartbeats 4000000 in
set_option maxRecDepth 100000 in
theorem c_Event_top {l : Launch} {D : va_G} {ca : Nat → ClassId} {ad : Nat → Int → Nat → Nat} {L : List Nat} {aS vS : Nat → Nat} {sz : Nat} {K : zK}  {l0 : Int} {F F9 : zF} {B B9 : zB} {r : Int} (hf : f_Event_top K l0 F B = some (r, F9, B9)) : Met l ({ cls := "StaveHouse$Event", name := "top", desc := "()I" } : Jvm.MethodName) (Cond.code ({ cls := "StaveHouse$Event", name := "top", desc := "()I" } : Jvm.MethodName) prog_3_method_8_code 3 (Option.some Jvm.ClassFile.FieldType.int) :: wAll) ({ frames := 3, cells := 0, slots := 0, locals := 63 } : Room) (va_Pc [.ref (ad 1 l0 0)] (zPre D ca ad lnC K.2 L aS vS F B sz)) (Q_Event_top K D ca ad L r F9 B9 (zA L sz)) 0 0 (zA L sz) := by
  refine zMet (Qc := Q_Event_top K D ca ad L r F9 B9) (lv := [(0, .ref (ad 1 l0 0))]) (by decide) (Nat.le_of_ble_eq_true rfl) rfl (fun A p e s m below meth c ls X hZ hS hl => ?_)
  obtain ⟨hx, hb, hr, hml, hown, hts, hlk, hK, hA, hL, hX⟩ := id X
  replace hf : (f_Event_top_4 K K.1 0 (-1) l0 F B) = some (r, F9, B9) := hf
  refine lv_iconst (v := iI (-1)) hx hb d_3_8_0 rfl ?_
  refine lv_istore_n (lv' := [(1, .int (iI (-1))), (0, .ref (ad 1 l0 0))]) hx hb d_3_8_1 rfl hl (by decide) rfl (fun ls hl => ?_)
  refine lv_iconst (v := iI 0) hx hb d_3_8_2 rfl ?_
  refine lv_istore_n (lv' := [(2, .int (iI 0)), (1, .int (iI (-1))), (0, .ref (ad 1 l0 0))]) hx hb d_3_8_3 rfl hl (by decide) rfl (fun ls hl => ?_)
  exact b_Event_top_4 X hf hZ hS (lv_sub hl [0, 1, 2] rfl)

noncomputable abbrev Q_Study_findFaults (K : zK) (D : va_G) (ca : Nat → ClassId) (ad : Nat → Int → Nat → Nat) (L : List Nat) (r : Int) (F : zF) (B : zB) (A : Nat → Prop) : Array Value → State → Outcome → State → Prop := va_Qv (S := Unit) (fun _ => True) (fun _ => zPo D ca ad lnC K.2 L F B A) A
noncomputable def f_Study_findFaults_104 (rec70 : Int → Int → Int → Int → zF → zB → zO) (rec79 : Int → Int → Int → Int → Int → zF → zB → zO) (K : zK) (l4 : Int) (l3 : Int) (l0 : Int) (l1 : Int) (l2 : Int) (F : zF) (B : zB) : zO := rec79 (l4 + 1) l3 l0 l1 l2 F B
set_option maxHeartbeats 4000000 in
set_option maxRecDepth 100000 in
theorem b_Study_findFaults_104 {D : va_G} {ca : Nat → ClassId} {ad : Nat → Int → Nat → Nat} {L : List Nat} {aS vS : Nat → Nat} {A : Nat → Prop} {p : Program} {l : Launch} {e : Env} {s : State} {m : MethodId} {args : Array Value} {below : List Frame} {meth : Method} {c : Code} {K : zK} {r : Int} {F9 : zF} {B9 : zB} (X : zX D ca L aS vS A p s m args meth c prog_11_method_7_code 6 (Option.none : Option Jvm.ClassFile.FieldType) "StaveHouse$Study") {rec70 : Int → Int → Int → Int → zF → zB → zO} {rec79 : Int → Int → Int → Int → Int → zF → zB → zO} (hrec70 : ∀ {l3 : Int} {l0 : Int} {l1 : Int} {l2 : Int} {F : zF} {B : zB} {H : Heap} {locs : List Loc} {ls : Array Slot}, rec70 l3 l0 l1 l2 F B = some (r, F9, B9) → zH D ca ad lnC K.2 L F B A H → va_S A s.heap H locs → lv_has ls 6 [(3, .int (iI l3)), (0, .ref (ad 9 l0 0)), (1, .int (iI l1)), (2, .int (iI l2))] → W p l e ({ frames := 3, cells := 0, slots := 0, locals := 77 } : Room) s m args below meth c H locs 0 0 (MQ below (Q_Study_findFaults K D ca ad L r F9 B9 A) args s 0 0 A) (F0 m 70 ls [])) (hrec79 : ∀ {l4 : Int} {l3 : Int} {l0 : Int} {l1 : Int} {l2 : Int} {F : zF} {B : zB} {H : Heap} {locs : List Loc} {ls : Array Slot}, rec79 l4 l3 l0 l1 l2 F B = some (r, F9, B9) → zH D ca ad lnC K.2 L F B A H → va_S A s.heap H locs → lv_has ls 6 [(4, .int (iI l4)), (3, .int (iI l3)), (0, .ref (ad 9 l0 0)), (1, .int (iI l1)), (2, .int (iI l2))] → W p l e ({ frames := 3, cells := 0, slots := 0, locals := 77 } : Room) s m args below meth c H locs 0 0 (MQ below (Q_Study_findFaults K D ca ad L r F9 B9 A) args s 0 0 A) (F0 m 79 ls [])) {l4 : Int} {l3 : Int} {l0 : Int} {l1 : Int} {l2 : Int} {F : zF} {B : zB} {H : Heap} {locs : List Loc} {ls : Array Slot} (hf : f_Study_findFaults_104 rec70 rec79 K l4 l3 l0 l1 l2 F B = some (r, F9, B9)) (hZ : zH D ca ad lnC K.2 L F B A H) (hS : va_S A s.heap H locs) (hl : lv_has ls 6 [(4, .int (iI l4)), (3, .int (iI l3)), (0, .ref (ad 9 l0 0)), (1, .int (iI l1)), (2, .int (iI l2))]) : W p l e ({ frames := 3, cells := 0, slots := 0, locals := 77 } : Room) s m args below meth c H locs 0 0 (MQ below (Q_Study_findFaults K D ca ad L r F9 B9 A) args s 0 0 A) (F0 m 104 ls []) := by
  obtain ⟨hx, hb, hr, hml, hown, hts, hlk, hK, hA, hL, hX⟩ := id X
  replace hf : (rec79 (l4 + 1) l3 l0 l1 l2 F B) = some (r, F9, B9) := hf
  refine lv_iinc (v := iI (l4 + 1)) (lv' := [(4, .int (iI (l4 + 1))), (3, .int (iI l3)), (0, .ref (ad 9 l0 0)), (1, .int (iI l1)), (2, .int (iI l2))]) hx hb d_11_7_104 hl (k := 0) rfl (iI_add _ 1) (by decide) rfl (fun ls hl => ?_)
  refine lv_goto (tgt := 79) hx hb d_11_7_107 (by decide) ?_
  exact hrec79 hf hZ hS (lv_sub hl [0, 1, 2, 3, 4] rfl)

noncomputable def f_Study_findFaults_79 (rec70 : Int → Int → Int → Int → zF → zB → zO) (K : zK) : Nat → Int → Int → Int → Int → Int → zF → zB → zO
  | 0, _, _, _, _, _, _, _ => none
  | n + 1, l4, l3, l0, l1, l2, F, B => if r32 l4 then if r32 l1 then (if l1 ≤ l4 then rec70 (l3 + 1) l0 l1 l2 F B else if 0 ≤ l0 ∧ l0 < K.2 9 then zbind (f_Study_isFaultOfOne K l0 l3 l4 F B) (fun r20 F20 B20 => if r32 r20 then (if r20 = 0 then f_Study_findFaults_104 rec70 (f_Study_findFaults_79 rec70 K n) K l4 l3 l0 l1 l2 F20 B20 else zbind (f_Study_addFault K l0 l2 l3 l4 (-1) F20 B20) (fun r23 F23 B23 => f_Study_findFaults_104 rec70 (f_Study_findFaults_79 rec70 K n) K l4 l3 l0 l1 l2 F23 B23)) else none) else none) else none else none
set_option maxHeartbeats 4000000 in
set_option maxRecDepth 100000 in
theorem b_Study_findFaults_79 {D : va_G} {ca : Nat → ClassId} {ad : Nat → Int → Nat → Nat} {L : List Nat} {aS vS : Nat → Nat} {A : Nat → Prop} {p : Program} {l : Launch} {e : Env} {s : State} {m : MethodId} {args : Array Value} {below : List Frame} {meth : Method} {c : Code} {K : zK} {r : Int} {F9 : zF} {B9 : zB} (X : zX D ca L aS vS A p s m args meth c prog_11_method_7_code 6 (Option.none : Option Jvm.ClassFile.FieldType) "StaveHouse$Study") {rec70 : Int → Int → Int → Int → zF → zB → zO} (hrec70 : ∀ {l3 : Int} {l0 : Int} {l1 : Int} {l2 : Int} {F : zF} {B : zB} {H : Heap} {locs : List Loc} {ls : Array Slot}, rec70 l3 l0 l1 l2 F B = some (r, F9, B9) → zH D ca ad lnC K.2 L F B A H → va_S A s.heap H locs → lv_has ls 6 [(3, .int (iI l3)), (0, .ref (ad 9 l0 0)), (1, .int (iI l1)), (2, .int (iI l2))] → W p l e ({ frames := 3, cells := 0, slots := 0, locals := 77 } : Room) s m args below meth c H locs 0 0 (MQ below (Q_Study_findFaults K D ca ad L r F9 B9 A) args s 0 0 A) (F0 m 70 ls [])) : ∀ {n : Nat} {l4 : Int} {l3 : Int} {l0 : Int} {l1 : Int} {l2 : Int} {F : zF} {B : zB} {H : Heap} {locs : List Loc} {ls : Array Slot}, f_Study_findFaults_79 rec70 K n l4 l3 l0 l1 l2 F B = some (r, F9, B9) → zH D ca ad lnC K.2 L F B A H → va_S A s.heap H locs → lv_has ls 6 [(4, .int (iI l4)), (3, .int (iI l3)), (0, .ref (ad 9 l0 0)), (1, .int (iI l1)), (2, .int (iI l2))] → W p l e ({ frames := 3, cells := 0, slots := 0, locals := 77 } : Room) s m args below meth c H locs 0 0 (MQ below (Q_Study_findFaults K D ca ad L r F9 B9 A) args s 0 0 A) (F0 m 79 ls []) := by
  obtain ⟨hx, hb, hr, hml, hown, hts, hlk, hK, hA, hL, hX⟩ := id X
  intro n
  induction n with
  | zero =>
    intros
    rename_i hf _ _ _
    cases hf
  | succ n ih =>
    intro l4 l3 l0 l1 l2 F B H locs ls hf hZ hS hl
    replace hf : (if r32 l4 then if r32 l1 then (if l1 ≤ l4 then rec70 (l3 + 1) l0 l1 l2 F B else if 0 ≤ l0 ∧ l0 < K.2 9 then zbind (f_Study_isFaultOfOne K l0 l3 l4 F B) (fun r20 F20 B20 => if r32 r20 then (if r20 = 0 then f_Study_findFaults_104 rec70 (f_Study_findFaults_79 rec70 K n) K l4 l3 l0 l1 l2 F20 B20 else zbind (f_Study_addFault K l0 l2 l3 l4 (-1) F20 B20) (fun r23 F23 B23 => f_Study_findFaults_104 rec70 (f_Study_findFaults_79 rec70 K n) K l4 l3 l0 l1 l2 F23 B23)) else none) else none) else none else none) = some (r, F9, B9) := hf
    refine lv_iload hx hb d_11_7_79 (lv_at hl 0 rfl) ?_
    refine lv_iload_n hx hb d_11_7_81 rfl (lv_at hl 3 rfl) ?_
    obtain ⟨g16, hf⟩ := gif hf
    obtain ⟨g17, hf⟩ := gif hf
    refine zge (tgt := 110) hx hb g16 g17 d_11_7_82 (by decide) (fun h18 => ?_) (fun h18 => ?_)
    · replace hf := gpos hf h18
      refine lv_iinc (v := iI (l3 + 1)) (lv' := [(3, .int (iI (l3 + 1))), (4, .int (iI l4)), (0, .ref (ad 9 l0 0)), (1, .int (iI l1)), (2, .int (iI l2))]) hx hb d_11_7_110 hl (k := 1) rfl (iI_add _ 1) (by decide) rfl (fun ls hl => ?_)
      refine lv_goto (tgt := 70) hx hb d_11_7_113 (by decide) ?_
      exact hrec70 hf hZ hS (lv_sub hl [0, 2, 3, 4] rfl)
    · replace hf := gneg hf h18
      refine lv_aload_n hx hb d_11_7_85 rfl (lv_at hl 2 rfl) ?_
      refine lv_iload_n hx hb d_11_7_86 rfl (lv_at hl 1 rfl) ?_
      refine lv_iload hx hb d_11_7_87 (lv_at hl 0 rfl) ?_
      obtain ⟨g19, hf⟩ := gif hf
      obtain ⟨r20, F20, B20, hc20, hf⟩ := gbind hf
      refine va_calli (va_runV (As := [.int (iI l3), .int (iI l4)]) (rest := []) ⟨hx, hb, hml, hown, hts⟩ (c_Study_isFaultOfOne (l := l) hc20) (cwV 2 hts (gdV k_6_44 k_6_46 ks_73 k_1_19 k_6_47) rfl rfl rfl (by decide +kernel) ⟨Nat.le_of_ble_eq_true rfl, Nat.le_of_ble_eq_true rfl⟩) (zPV X hZ hS (ci := 9) g19.1 g19.2 (r := (RX9, TX9, 11)) rfl [.int (iI l3), .int (iI l4)]) rfl rfl hl.1 rfl (lv_room (Nat.le_of_ble_eq_true rfl)) d_11_7_89 ⟨Nat.le_of_ble_eq_true rfl, Nat.le_of_ble_eq_true rfl⟩) hS (fun q _ h => zAin X hS q h) (zAin X hS) (fun p20 u20 t20 H20 locs20 ht20 hv20 hw20 hB20 hz20 hk20 hS20 => ?_)
      have hZ20 := zBack X ht20 hB20
      subst hw20
      obtain ⟨g21, hf⟩ := gif hf
      refine z0eq (tgt := 104) hx hb g21 d_11_7_92 (by decide) (fun h22 => ?_) (fun h22 => ?_)
      · replace hf := gpos hf h22
        exact b_Study_findFaults_104 X hrec70 ih hf hZ20 hS20 (lv_sub hl [0, 1, 2, 3, 4] rfl)
      · replace hf := gneg hf h22
        refine lv_aload_n hx hb d_11_7_95 rfl (lv_at hl 2 rfl) ?_
        refine lv_iload_n hx hb d_11_7_96 rfl (lv_at hl 4 rfl) ?_
        refine lv_iload_n hx hb d_11_7_97 rfl (lv_at hl 1 rfl) ?_
        refine lv_iload hx hb d_11_7_98 (lv_at hl 0 rfl) ?_
        refine lv_iconst (v := iI (-1)) hx hb d_11_7_100 rfl ?_
        obtain ⟨r23, F23, B23, hc23, hf⟩ := gbind hf
        refine va_callv (va_runV (As := [.int (iI l2), .int (iI l3), .int (iI l4), .int (iI (-1))]) (rest := []) ⟨hx, hb, hml, hown, hts⟩ (c_Study_addFault (l := l) hc23) (cwV 4 hts (gdV k_6_40 k_6_42 ks_72 k_1_19 k_6_43) rfl rfl rfl (by decide +kernel) ⟨Nat.le_of_ble_eq_true rfl, Nat.le_of_ble_eq_true rfl⟩) (zPV X hZ20 hS20 (ci := 9) g19.1 g19.2 (r := (RX9, TX9, 11)) rfl [.int (iI l2), .int (iI l3), .int (iI l4), .int (iI (-1))]) rfl rfl hl.1 rfl (lv_room (Nat.le_of_ble_eq_true rfl)) d_11_7_101 ⟨Nat.le_of_ble_eq_true rfl, Nat.le_of_ble_eq_true rfl⟩) hS20 (fun q _ h => zAin X hS20 q h) (zAin X hS20) (fun u23 t23 H23 locs23 ht23 hv23 hw23 hB23 hz23 hk23 hS23 => ?_)
        have hZ23 := zBack X ht23 hB23
        exact b_Study_findFaults_104 X hrec70 ih hf hZ23 hS23 (lv_sub hl [0, 1, 2, 3, 4] rfl)

noncomputable def f_Study_findFaults_70 (K : zK) : Nat → Int → Int → Int → Int → zF → zB → zO
  | 0, _, _, _, _, _, _ => none
  | n + 1, l3, l0, l1, l2, F, B => if r32 l3 then (if 6 < l3 then some (0, F, B) else f_Study_findFaults_79 (f_Study_findFaults_70 K n) K K.1 0 l3 l0 l1 l2 F B) else none
set_option maxHeartbeats 4000000 in
set_option maxRecDepth 100000 in
theorem b_Study_findFaults_70 {D : va_G} {ca : Nat → ClassId} {ad : Nat → Int → Nat → Nat} {L : List Nat} {aS vS : Nat → Nat} {A : Nat → Prop} {p : Program} {l : Launch} {e : Env} {s : State} {m : MethodId} {args : Array Value} {below : List Frame} {meth : Method} {c : Code} {K : zK} {r : Int} {F9 : zF} {B9 : zB} (X : zX D ca L aS vS A p s m args meth c prog_11_method_7_code 6 (Option.none : Option Jvm.ClassFile.FieldType) "StaveHouse$Study") : ∀ {n : Nat} {l3 : Int} {l0 : Int} {l1 : Int} {l2 : Int} {F : zF} {B : zB} {H : Heap} {locs : List Loc} {ls : Array Slot}, f_Study_findFaults_70 K n l3 l0 l1 l2 F B = some (r, F9, B9) → zH D ca ad lnC K.2 L F B A H → va_S A s.heap H locs → lv_has ls 6 [(3, .int (iI l3)), (0, .ref (ad 9 l0 0)), (1, .int (iI l1)), (2, .int (iI l2))] → W p l e ({ frames := 3, cells := 0, slots := 0, locals := 77 } : Room) s m args below meth c H locs 0 0 (MQ below (Q_Study_findFaults K D ca ad L r F9 B9 A) args s 0 0 A) (F0 m 70 ls []) := by
  obtain ⟨hx, hb, hr, hml, hown, hts, hlk, hK, hA, hL, hX⟩ := id X
  intro n
  induction n with
  | zero =>
    intros
    rename_i hf _ _ _
    cases hf
  | succ n ih =>
    intro l3 l0 l1 l2 F B H locs ls hf hZ hS hl
    replace hf : (if r32 l3 then (if 6 < l3 then some (0, F, B) else f_Study_findFaults_79 (f_Study_findFaults_70 K n) K K.1 0 l3 l0 l1 l2 F B) else none) = some (r, F9, B9) := hf
    refine lv_iload_n hx hb d_11_7_70 rfl (lv_at hl 0 rfl) ?_
    refine lv_bipush (v := iI 6) hx hb d_11_7_71 (by decide) ?_
    obtain ⟨g14, hf⟩ := gif hf
    refine zgt (tgt := 116) hx hb g14 (by decide) d_11_7_73 (by decide) (fun h15 => ?_) (fun h15 => ?_)
    · replace hf := gpos hf h15
      cases hf
      exact W.vret hx hb hr (fun t ht hW => ⟨⟨(), rfl, trivial, by rw [ht]; exact hZ, va_K.moved hW.alike hK⟩, hS.F ht⟩) hS.2.2 d_11_7_116 hlk
    · replace hf := gneg hf h15
      refine lv_iconst (v := iI 0) hx hb d_11_7_76 rfl ?_
      refine lv_istore (lv' := [(4, .int (iI 0)), (3, .int (iI l3)), (0, .ref (ad 9 l0 0)), (1, .int (iI l1)), (2, .int (iI l2))]) hx hb d_11_7_77 hl (by decide) rfl (fun ls hl => ?_)
      exact b_Study_findFaults_79 X ih hf hZ hS (lv_sub hl [0, 1, 2, 3, 4] rfl)

noncomputable def f_Study_findFaults_50 (rec2 : Int → Int → Int → Int → zF → zB → zO) (rec10 : Int → Int → Int → Int → Int → zF → zB → zO) (rec22 : Int → Int → Int → Int → Int → Int → zF → zB → zO) (K : zK) (l5 : Int) (l4 : Int) (l3 : Int) (l0 : Int) (l1 : Int) (l2 : Int) (F : zF) (B : zB) : zO := rec22 (l5 + 1) l4 l3 l0 l1 l2 F B
set_option maxHeartbeats 4000000 in
set_option maxRecDepth 100000 in
theorem b_Study_findFaults_50 {D : va_G} {ca : Nat → ClassId} {ad : Nat → Int → Nat → Nat} {L : List Nat} {aS vS : Nat → Nat} {A : Nat → Prop} {p : Program} {l : Launch} {e : Env} {s : State} {m : MethodId} {args : Array Value} {below : List Frame} {meth : Method} {c : Code} {K : zK} {r : Int} {F9 : zF} {B9 : zB} (X : zX D ca L aS vS A p s m args meth c prog_11_method_7_code 6 (Option.none : Option Jvm.ClassFile.FieldType) "StaveHouse$Study") {rec2 : Int → Int → Int → Int → zF → zB → zO} {rec10 : Int → Int → Int → Int → Int → zF → zB → zO} {rec22 : Int → Int → Int → Int → Int → Int → zF → zB → zO} (hrec2 : ∀ {l3 : Int} {l0 : Int} {l1 : Int} {l2 : Int} {F : zF} {B : zB} {H : Heap} {locs : List Loc} {ls : Array Slot}, rec2 l3 l0 l1 l2 F B = some (r, F9, B9) → zH D ca ad lnC K.2 L F B A H → va_S A s.heap H locs → lv_has ls 6 [(3, .int (iI l3)), (0, .ref (ad 9 l0 0)), (1, .int (iI l1)), (2, .int (iI l2))] → W p l e ({ frames := 3, cells := 0, slots := 0, locals := 77 } : Room) s m args below meth c H locs 0 0 (MQ below (Q_Study_findFaults K D ca ad L r F9 B9 A) args s 0 0 A) (F0 m 2 ls [])) (hrec10 : ∀ {l4 : Int} {l3 : Int} {l0 : Int} {l1 : Int} {l2 : Int} {F : zF} {B : zB} {H : Heap} {locs : List Loc} {ls : Array Slot}, rec10 l4 l3 l0 l1 l2 F B = some (r, F9, B9) → zH D ca ad lnC K.2 L F B A H → va_S A s.heap H locs → lv_has ls 6 [(4, .int (iI l4)), (3, .int (iI l3)), (0, .ref (ad 9 l0 0)), (1, .int (iI l1)), (2, .int (iI l2))] → W p l e ({ frames := 3, cells := 0, slots := 0, locals := 77 } : Room) s m args below meth c H locs 0 0 (MQ below (Q_Study_findFaults K D ca ad L r F9 B9 A) args s 0 0 A) (F0 m 10 ls [])) (hrec22 : ∀ {l5 : Int} {l4 : Int} {l3 : Int} {l0 : Int} {l1 : Int} {l2 : Int} {F : zF} {B : zB} {H : Heap} {locs : List Loc} {ls : Array Slot}, rec22 l5 l4 l3 l0 l1 l2 F B = some (r, F9, B9) → zH D ca ad lnC K.2 L F B A H → va_S A s.heap H locs → lv_has ls 6 [(5, .int (iI l5)), (4, .int (iI l4)), (3, .int (iI l3)), (0, .ref (ad 9 l0 0)), (1, .int (iI l1)), (2, .int (iI l2))] → W p l e ({ frames := 3, cells := 0, slots := 0, locals := 77 } : Room) s m args below meth c H locs 0 0 (MQ below (Q_Study_findFaults K D ca ad L r F9 B9 A) args s 0 0 A) (F0 m 22 ls [])) {l5 : Int} {l4 : Int} {l3 : Int} {l0 : Int} {l1 : Int} {l2 : Int} {F : zF} {B : zB} {H : Heap} {locs : List Loc} {ls : Array Slot} (hf : f_Study_findFaults_50 rec2 rec10 rec22 K l5 l4 l3 l0 l1 l2 F B = some (r, F9, B9)) (hZ : zH D ca ad lnC K.2 L F B A H) (hS : va_S A s.heap H locs) (hl : lv_has ls 6 [(5, .int (iI l5)), (4, .int (iI l4)), (3, .int (iI l3)), (0, .ref (ad 9 l0 0)), (1, .int (iI l1)), (2, .int (iI l2))]) : W p l e ({ frames := 3, cells := 0, slots := 0, locals := 77 } : Room) s m args below meth c H locs 0 0 (MQ below (Q_Study_findFaults K D ca ad L r F9 B9 A) args s 0 0 A) (F0 m 50 ls []) := by
  obtain ⟨hx, hb, hr, hml, hown, hts, hlk, hK, hA, hL, hX⟩ := id X
  replace hf : (rec22 (l5 + 1) l4 l3 l0 l1 l2 F B) = some (r, F9, B9) := hf
  refine lv_iinc (v := iI (l5 + 1)) (lv' := [(5, .int (iI (l5 + 1))), (4, .int (iI l4)), (3, .int (iI l3)), (0, .ref (ad 9 l0 0)), (1, .int (iI l1)), (2, .int (iI l2))]) hx hb d_11_7_50 hl (k := 0) rfl (iI_add _ 1) (by decide) rfl (fun ls hl => ?_)
  refine lv_goto (tgt := 22) hx hb d_11_7_53 (by decide) ?_
  exact hrec22 hf hZ hS (lv_sub hl [0, 1, 2, 3, 4, 5] rfl)

noncomputable def f_Study_findFaults_22 (rec2 : Int → Int → Int → Int → zF → zB → zO) (rec10 : Int → Int → Int → Int → Int → zF → zB → zO) (K : zK) : Nat → Int → Int → Int → Int → Int → Int → zF → zB → zO
  | 0, _, _, _, _, _, _, _, _ => none
  | n + 1, l5, l4, l3, l0, l1, l2, F, B => if r32 l5 then if r32 l1 then (if l1 ≤ l5 then rec10 (l4 + 1) l3 l0 l1 l2 F B else if 0 ≤ l0 ∧ l0 < K.2 9 then zbind (f_Study_isFaultOfTwo K l0 l3 l4 l5 F B) (fun r10 F10 B10 => if r32 r10 then (if r10 = 0 then f_Study_findFaults_50 rec2 rec10 (f_Study_findFaults_22 rec2 rec10 K n) K l5 l4 l3 l0 l1 l2 F10 B10 else zbind (f_Study_addFault K l0 l2 l3 l4 l5 F10 B10) (fun r13 F13 B13 => f_Study_findFaults_50 rec2 rec10 (f_Study_findFaults_22 rec2 rec10 K n) K l5 l4 l3 l0 l1 l2 F13 B13)) else none) else none) else none else none
