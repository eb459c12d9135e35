set_option maxHeartbeats 4000000 in
set_option maxRecDepth 100000 in
theorem b_Part_hasShape_124 {D : va_G} {ca : Nat → ClassId} {ad : Nat → Int → Nat → Nat} {L : List Nat} {aS vS : Nat → Nat} {A : Nat → Prop} {p : Program} {l : Launch} {e : Env} {s : State} {m : MethodId} {args : Array Value} {below : List Frame} {meth : Method} {c : Code} {K : zK} {r : Int} {F9 : zF} {B9 : zB} (X : zX D ca L aS vS A p s m args meth c prog_6_method_28_code 18 (Option.some Jvm.ClassFile.FieldType.boolean) "StaveHouse$Part") {rec81 : Int → Int → Int → Int → Int → Int → Int → Int → Int → Int → Int → Int → Int → zF → zB → zO} (hrec81 : ∀ {l13 : Int} {l12 : Int} {l11 : Int} {l10 : Int} {l9 : Int} {l8 : Int} {l7 : Int} {l6 : Int} {l0 : Int} {l1 : Int} {l2 : Int} {l3 : Int} {l4 : Int} {F : zF} {B : zB} {H : Heap} {locs : List Loc} {ls : Array Slot}, rec81 l13 l12 l11 l10 l9 l8 l7 l6 l0 l1 l2 l3 l4 F B = some (r, F9, B9) → zH D ca ad lnC K.2 L F B A H → va_S A s.heap H locs → lv_has ls 18 [(13, .int (iI l13)), (12, va_rf (zrf ad 1 l12)), (11, va_rf (zrf ad 1 l11)), (10, va_rf (zrf ad 1 l10)), (9, va_rf (zrf ad 1 l9)), (8, .int (iI l8)), (7, .int (iI l7)), (6, .int (iI l6)), (0, .ref (ad 4 l0 0)), (1, .int (iI l1)), (2, .ref (ad 4 l2 0)), (3, .int (iI l3)), (4, .int (iI l4))] → W p l e ({ frames := 5, cells := 0, slots := 0, locals := 106 } : Room) s m args below meth c H locs 0 0 (MQ below (Q_Part_hasShape K D ca ad L r F9 B9 A) args s 0 0 A) (F0 m 81 ls [])) {l14 : Int} {l13 : Int} {l12 : Int} {l11 : Int} {l10 : Int} {l9 : Int} {l8 : Int} {l7 : Int} {l6 : Int} {l0 : Int} {l1 : Int} {l2 : Int} {l3 : Int} {l4 : Int} {s0 : Int} {s1 : Int} {F : zF} {B : zB} {H : Heap} {locs : List Loc} {ls : Array Slot} (hf : f_Part_hasShape_124 rec81 K l14 l13 l12 l11 l10 l9 l8 l7 l6 l0 l1 l2 l3 l4 s0 s1 F B = some (r, F9, B9)) (hZ : zH D ca ad lnC K.2 L F B A H) (hS : va_S A s.heap H locs) (hl : lv_has ls 18 [(14, va_rf (zrf ad 1 l14)), (13, .int (iI l13)), (12, va_rf (zrf ad 1 l12)), (11, va_rf (zrf ad 1 l11)), (10, va_rf (zrf ad 1 l10)), (9, va_rf (zrf ad 1 l9)), (8, .int (iI l8)), (7, .int (iI l7)), (6, .int (iI l6)), (0, .ref (ad 4 l0 0)), (1, .int (iI l1)), (2, .ref (ad 4 l2 0)), (3, .int (iI l3)), (4, .int (iI l4))]) : W p l e ({ frames := 5, cells := 0, slots := 0, locals := 106 } : Room) s m args below meth c H locs 0 0 (MQ below (Q_Part_hasShape K D ca ad L r F9 B9 A) args s 0 0 A) (F0 m 124 ls [.int (iI s1), .ref (ad 4 s0 (5 + 1))]) := by
  obtain ⟨hx, hb, hr, hml, hown, hts, hlk, hK, hA, hL, hX⟩ := id X
  replace hf : (if 0 ≤ s0 ∧ s0 < K.2 4 then if 0 ≤ s1 ∧ s1 < 200 then if r32 l8 then (if l8 = 0 then if 0 ≤ l14 ∧ l14 < K.2 1 then if 0 ≤ (B 4 s0 5 s1) ∧ (B 4 s0 5 s1) < K.2 1 then if r64 (F 1 l14 1) then if r64 (F 1 (B 4 s0 5 s1) 1) then (if (zcmp (F 1 l14 1) (F 1 (B 4 s0 5 s1) 1)) = 0 then f_Part_hasShape_165 rec81 K (B 4 s0 5 s1) l14 l13 l12 l11 l10 l9 l8 l7 l6 l0 l1 l2 l3 l4 1 F B else f_Part_hasShape_165 rec81 K (B 4 s0 5 s1) l14 l13 l12 l11 l10 l9 l8 l7 l6 l0 l1 l2 l3 l4 0 F B) else none else none else none else none else if 0 ≤ l9 ∧ l9 < K.2 1 then if 0 ≤ l10 ∧ l10 < K.2 1 then if 0 ≤ l14 ∧ l14 < K.2 1 then if 0 ≤ (B 4 s0 5 s1) ∧ (B 4 s0 5 s1) < K.2 1 then zbind (f_Part_sameFraction K l9 l10 l14 (B 4 s0 5 s1) F B) (fun r36 F36 B36 => f_Part_hasShape_165 rec81 K (B 4 s0 5 s1) l14 l13 l12 l11 l10 l9 l8 l7 l6 l0 l1 l2 l3 l4 r36 F36 B36) else none else none else none else none) else none else none else none) = some (r, F9, B9) := hf
  obtain ⟨g22, hf⟩ := gif hf
  obtain ⟨g23, hf⟩ := gif hf
  refine zaldR (t := 1) (x := 7) (ci := 4) (k := 5) hx hb hK rfl rfl hZ g22.1 g22.2 rfl (Nat.le_of_ble_eq_true rfl) g23.1 g23.2 d_6_28_124 ?_
  refine zastore (lv' := [(14, va_rf (zrf ad 1 l14)), (13, .int (iI l13)), (12, va_rf (zrf ad 1 l12)), (11, va_rf (zrf ad 1 l11)), (10, va_rf (zrf ad 1 l10)), (9, va_rf (zrf ad 1 l9)), (8, .int (iI l8)), (7, .int (iI l7)), (6, .int (iI l6)), (0, .ref (ad 4 l0 0)), (1, .int (iI l1)), (2, .ref (ad 4 l2 0)), (3, .int (iI l3)), (4, .int (iI l4))]) hx hb d_6_28_125 hl (by decide) (fun v hv => by cases zrf ad 1 l14 <;> rfl) (fun ls hl => ?_)
  refine lv_iload hx hb d_6_28_127 (lv_at hl 7 rfl) ?_
  obtain ⟨g24, hf⟩ := gif hf
  refine z0eq (tgt := 146) hx hb g24 d_6_28_129 (by decide) (fun h25 => ?_) (fun h25 => ?_)
  · replace hf := gpos hf h25
    refine zaload hx hb d_6_28_146 (lv_at hl 1 rfl) ?_
    obtain ⟨g26, hf⟩ := gif hf
    refine zunrf g26.1 ?_
    refine zget (ci := 1) (C := RX1) (T := TX1) (v := .long (lI (F 1 l14 1))) (k := 1) hx hb hts inW_1 hown hK hZ g26.1 g26.2 rfl (by decide) k_2_24 rfl d_6_28_148 ?_
    refine zaload hx hb d_6_28_151 (lv_at hl 0 rfl) ?_
    obtain ⟨g27, hf⟩ := gif hf
    refine zunrf g27.1 ?_
    refine zget (ci := 1) (C := RX1) (T := TX1) (v := .long (lI (F 1 (B 4 s0 5 s1) 1))) (k := 1) hx hb hts inW_1 hown hK hZ g27.1 g27.2 rfl (by decide) k_2_24 rfl d_6_28_153 ?_
    obtain ⟨g28, hf⟩ := gif hf
    obtain ⟨g29, hf⟩ := gif hf
    refine zcmp_r hx hb g28 g29 d_6_28_156 ?_
    refine z0ne (tgt := 164) hx hb zcmp_32 d_6_28_157 (by decide) (fun h30 => ?_) (fun h30 => ?_)
    · replace hf := gneg hf h30
      refine lv_iconst (v := iI 0) hx hb d_6_28_164 rfl ?_
      exact b_Part_hasShape_165 X hrec81 hf hZ hS (lv_sub hl [0, 1, 2, 3, 4, 5, 6, 7, 8, 9, 10, 11, 12, 13, 14] rfl)
    · replace hf := gpos hf h30
      refine lv_iconst (v := iI 1) hx hb d_6_28_160 rfl ?_
      refine lv_goto (tgt := 165) hx hb d_6_28_161 (by decide) ?_
      exact b_Part_hasShape_165 X hrec81 hf hZ hS (lv_sub hl [0, 1, 2, 3, 4, 5, 6, 7, 8, 9, 10, 11, 12, 13, 14] rfl)
  · replace hf := gneg hf h25
    refine zaload hx hb d_6_28_132 (lv_at hl 6 rfl) ?_
    refine zaload hx hb d_6_28_134 (lv_at hl 5 rfl) ?_
    refine zaload hx hb d_6_28_136 (lv_at hl 1 rfl) ?_
    refine zaload hx hb d_6_28_138 (lv_at hl 0 rfl) ?_
    obtain ⟨g31, hf⟩ := gif hf
    refine W.eq (g2 := F0 m 140 ls [va_rf (zrf ad 1 (B 4 s0 5 s1)), va_rf (zrf ad 1 l14), va_rf (zrf ad 1 l10), .ref (ad 1 l9 0)]) (by rw [zrf_pos (ad := ad) (t := 1) g31.1]; try rfl) ?_
    obtain ⟨g33, hf⟩ := gif hf
    refine W.eq (g2 := F0 m 140 ls [va_rf (zrf ad 1 (B 4 s0 5 s1)), va_rf (zrf ad 1 l14), .ref (ad 1 l10 0), .ref (ad 1 l9 0)]) (by rw [zrf_pos (ad := ad) (t := 1) g33.1]; try rfl) ?_
    obtain ⟨g34, hf⟩ := gif hf
    refine W.eq (g2 := F0 m 140 ls [va_rf (zrf ad 1 (B 4 s0 5 s1)), .ref (ad 1 l14 0), .ref (ad 1 l10 0), .ref (ad 1 l9 0)]) (by rw [zrf_pos (ad := ad) (t := 1) g34.1]; try rfl) ?_
    obtain ⟨g35, hf⟩ := gif hf
    refine W.eq (g2 := F0 m 140 ls [.ref (ad 1 (B 4 s0 5 s1) 0), .ref (ad 1 l14 0), .ref (ad 1 l10 0), .ref (ad 1 l9 0)]) (by rw [zrf_pos (ad := ad) (t := 1) g35.1]; try rfl) ?_
    obtain ⟨r36, F36, B36, hc36, hf⟩ := gbind hf
    refine va_calli (va_runS (As := [.ref (ad 1 l9 0), .ref (ad 1 l10 0), .ref (ad 1 l14 0), .ref (ad 1 (B 4 s0 5 s1) 0)]) (rest := []) ⟨hx, hb, hml, hown, hts⟩ (c_Part_sameFraction (l := l) hc36) (va_cwS 4 hts (gdS k_9_107 k_9_108 k_1_18 k_9_109) rfl rfl rfl (by decide +kernel) ⟨Nat.le_of_ble_eq_true rfl, Nat.le_of_ble_eq_true rfl⟩) (zPS X hZ hS [.ref (ad 1 l9 0), .ref (ad 1 l10 0), .ref (ad 1 l14 0), .ref (ad 1 (B 4 s0 5 s1) 0)]) rfl rfl hl.1 rfl (lv_room (Nat.le_of_ble_eq_true rfl)) d_6_28_140 ⟨Nat.le_of_ble_eq_true rfl, Nat.le_of_ble_eq_true rfl⟩) hS (fun q _ h => zAin X hS q h) (zAin X hS) (fun p36 u36 t36 H36 locs36 ht36 hv36 hw36 hB36 hz36 hk36 hS36 => ?_)
    have hZ36 := zBack X ht36 hB36
    subst hw36
    refine lv_goto (tgt := 165) hx hb d_6_28_143 (by decide) ?_
    exact b_Part_hasShape_165 X hrec81 hf hZ36 hS36 (lv_sub hl [0, 1, 2, 3, 4, 5, 6, 7, 8, 9, 10, 11, 12, 13, 14] rfl)

noncomputable def f_Part_hasShape_81 (K : zK) : Nat → Int → Int → Int → Int → Int → Int → Int → Int → Int → Int → Int → Int → Int → zF → zB → zO
  | 0, _, _, _, _, _, _, _, _, _, _, _, _, _, _, _ => none
  | n + 1, l13, l12, l11, l10, l9, l8, l7, l6, l0, l1, l2, l3, l4, F, B => if r32 l13 then if r32 l4 then (if l4 ≤ l13 then some (1, F, B) else if 0 ≤ l2 ∧ l2 < K.2 4 then if 0 ≤ (l3 + l13) ∧ (l3 + l13) < 200 then if 0 ≤ l0 ∧ l0 < K.2 4 then if r32 l7 then (if l7 = 0 then f_Part_hasShape_124 (f_Part_hasShape_81 K n) K (B 4 l2 5 (l3 + l13)) l13 l12 l11 l10 l9 l8 l7 l6 l0 l1 l2 l3 l4 l0 (l1 + l13) F B else f_Part_hasShape_124 (f_Part_hasShape_81 K n) K (B 4 l2 5 (l3 + l13)) l13 l12 l11 l10 l9 l8 l7 l6 l0 l1 l2 l3 l4 l0 (((l1 + l4) - 1) - l13) F B) else none else none else none else none) else none else none
set_option maxHeartbeats 4000000 in
set_option maxRecDepth 100000 in
theorem b_Part_hasShape_81 {D : va_G} {ca : Nat → ClassId} {ad : Nat → Int → Nat → Nat} {L : List Nat} {aS vS : Nat → Nat} {A : Nat → Prop} {p : Program} {l : Launch} {e : Env} {s : State} {m : MethodId} {args : Array Value} {below : List Frame} {meth : Method} {c : Code} {K : zK} {r : Int} {F9 : zF} {B9 : zB} (X : zX D ca L aS vS A p s m args meth c prog_6_method_28_code 18 (Option.some Jvm.ClassFile.FieldType.boolean) "StaveHouse$Part") : ∀ {n : Nat} {l13 : Int} {l12 : Int} {l11 : Int} {l10 : Int} {l9 : Int} {l8 : Int} {l7 : Int} {l6 : Int} {l0 : Int} {l1 : Int} {l2 : Int} {l3 : Int} {l4 : Int} {F : zF} {B : zB} {H : Heap} {locs : List Loc} {ls : Array Slot}, f_Part_hasShape_81 K n l13 l12 l11 l10 l9 l8 l7 l6 l0 l1 l2 l3 l4 F B = some (r, F9, B9) → zH D ca ad lnC K.2 L F B A H → va_S A s.heap H locs → lv_has ls 18 [(13, .int (iI l13)), (12, va_rf (zrf ad 1 l12)), (11, va_rf (zrf ad 1 l11)), (10, va_rf (zrf ad 1 l10)), (9, va_rf (zrf ad 1 l9)), (8, .int (iI l8)), (7, .int (iI l7)), (6, .int (iI l6)), (0, .ref (ad 4 l0 0)), (1, .int (iI l1)), (2, .ref (ad 4 l2 0)), (3, .int (iI l3)), (4, .int (iI l4))] → W p l e ({ frames := 5, cells := 0, slots := 0, locals := 106 } : Room) s m args below meth c H locs 0 0 (MQ below (Q_Part_hasShape K D ca ad L r F9 B9 A) args s 0 0 A) (F0 m 81 ls []) := by
  obtain ⟨hx, hb, hr, hml, hown, hts, hlk, hK, hA, hL, hX⟩ := id X
  intro n
  induction n with
  | zero =>
    intros
    rename_i hf _ _ _
    cases hf
  | succ n ih =>
    intro l13 l12 l11 l10 l9 l8 l7 l6 l0 l1 l2 l3 l4 F B H locs ls hf hZ hS hl
    replace hf : (if r32 l13 then if r32 l4 then (if l4 ≤ l13 then some (1, F, B) else if 0 ≤ l2 ∧ l2 < K.2 4 then if 0 ≤ (l3 + l13) ∧ (l3 + l13) < 200 then if 0 ≤ l0 ∧ l0 < K.2 4 then if r32 l7 then (if l7 = 0 then f_Part_hasShape_124 (f_Part_hasShape_81 K n) K (B 4 l2 5 (l3 + l13)) l13 l12 l11 l10 l9 l8 l7 l6 l0 l1 l2 l3 l4 l0 (l1 + l13) F B else f_Part_hasShape_124 (f_Part_hasShape_81 K n) K (B 4 l2 5 (l3 + l13)) l13 l12 l11 l10 l9 l8 l7 l6 l0 l1 l2 l3 l4 l0 (((l1 + l4) - 1) - l13) F B) else none else none else none else none) else none else none) = some (r, F9, B9) := hf
    refine lv_iload hx hb d_6_28_81 (lv_at hl 0 rfl) ?_
    refine lv_iload hx hb d_6_28_83 (lv_at hl 12 rfl) ?_
    obtain ⟨g14, hf⟩ := gif hf
    obtain ⟨g15, hf⟩ := gif hf
    refine zge (tgt := 274) hx hb g14 g15 d_6_28_85 (by decide) (fun h16 => ?_) (fun h16 => ?_)
    · replace hf := gpos hf h16
      refine lv_iconst (v := iI 1) hx hb d_6_28_274 rfl ?_
      cases hf
      exact W.zret hx hb hr rfl (fun t ht hW => ⟨⟨_, (), rfl, rfl, by rw [ht]; exact hZ, va_K.moved hW.alike hK⟩, hS.F ht⟩) hS.2.2 d_6_28_275 hlk
    · replace hf := gneg hf h16
      refine lv_aload_n hx hb d_6_28_88 rfl (lv_at hl 10 rfl) ?_
      obtain ⟨g17, hf⟩ := gif hf
      refine zget (ci := 4) (C := RX4) (T := TX4) (v := .ref (ad 4 l2 (5 + 1))) (k := 5) hx hb hts inW_4 hown hK hZ g17.1 g17.2 rfl (by decide) k_4_130 rfl d_6_28_89 ?_
      refine lv_iload_n hx hb d_6_28_92 rfl (lv_at hl 11 rfl) ?_
      refine lv_iload hx hb d_6_28_93 (lv_at hl 0 rfl) ?_
      refine zadd hx hb d_6_28_95 ?_
      obtain ⟨g18, hf⟩ := gif hf
      refine zaldR (t := 1) (x := 7) (ci := 4) (k := 5) hx hb hK rfl rfl hZ g17.1 g17.2 rfl (Nat.le_of_ble_eq_true rfl) g18.1 g18.2 d_6_28_96 ?_
      refine zastore (lv' := [(13, .int (iI l13)), (12, va_rf (zrf ad 1 l12)), (11, va_rf (zrf ad 1 l11)), (10, va_rf (zrf ad 1 l10)), (9, va_rf (zrf ad 1 l9)), (8, .int (iI l8)), (7, .int (iI l7)), (6, .int (iI l6)), (0, .ref (ad 4 l0 0)), (1, .int (iI l1)), (2, .ref (ad 4 l2 0)), (3, .int (iI l3)), (4, .int (iI l4))]) hx hb d_6_28_97 hl (by decide) (fun _ _ => rfl) (fun ls hl => ?_)
      refine lv_aload_n hx hb d_6_28_99 rfl (lv_at hl 9 rfl) ?_
      obtain ⟨g19, hf⟩ := gif hf
      refine zget (ci := 4) (C := RX4) (T := TX4) (v := .ref (ad 4 l0 (5 + 1))) (k := 5) hx hb hts inW_4 hown hK hZ g19.1 g19.2 rfl (by decide) k_4_130 rfl d_6_28_100 ?_
      refine lv_iload hx hb d_6_28_103 (lv_at hl 7 rfl) ?_
      obtain ⟨g20, hf⟩ := gif hf
      refine z0eq (tgt := 120) hx hb g20 d_6_28_105 (by decide) (fun h21 => ?_) (fun h21 => ?_)
      · replace hf := gpos hf h21
        refine lv_iload_n hx hb d_6_28_120 rfl (lv_at hl 10 rfl) ?_
        refine lv_iload hx hb d_6_28_121 (lv_at hl 1 rfl) ?_
        refine zadd hx hb d_6_28_123 ?_
        exact b_Part_hasShape_124 X ih hf hZ hS (lv_sub hl [0, 1, 2, 3, 4, 5, 6, 7, 8, 9, 10, 11, 12, 13] rfl)
      · replace hf := gneg hf h21
        refine lv_iload_n hx hb d_6_28_108 rfl (lv_at hl 10 rfl) ?_
        refine lv_iload hx hb d_6_28_109 (lv_at hl 13 rfl) ?_
        refine zadd hx hb d_6_28_111 ?_
        refine lv_iconst (v := iI 1) hx hb d_6_28_112 rfl ?_
        refine zsub hx hb d_6_28_113 ?_
        refine lv_iload hx hb d_6_28_114 (lv_at hl 1 rfl) ?_
        refine zsub hx hb d_6_28_116 ?_
        refine lv_goto (tgt := 124) hx hb d_6_28_117 (by decide) ?_
        exact b_Part_hasShape_124 X ih hf hZ hS (lv_sub hl [0, 1, 2, 3, 4, 5, 6, 7, 8, 9, 10, 11, 12, 13] rfl)

noncomputable def f_Part_hasShape_69 (K : zK) (l9 : Int) (l8 : Int) (l7 : Int) (l6 : Int) (l0 : Int) (l1 : Int) (l2 : Int) (l3 : Int) (l4 : Int) (s0 : Int) (s1 : Int) (F : zF) (B : zB) : zO := if 0 ≤ s0 ∧ s0 < K.2 4 then if 0 ≤ s1 ∧ s1 < 200 then f_Part_hasShape_81 K K.1 0 (-1) (-1) (B 4 s0 5 s1) l9 l8 l7 l6 l0 l1 l2 l3 l4 F B else none else none
set_option maxHeartbeats 4000000 in
set_option maxRecDepth 100000 in
theorem b_Part_hasShape_69 {D : va_G} {ca : Nat → ClassId} {ad : Nat → Int → Nat → Nat} {L : List Nat} {aS vS : Nat → Nat} {A : Nat → Prop} {p : Program} {l : Launch} {e : Env} {s : State} {m : MethodId} {args : Array Value} {below : List Frame} {meth : Method} {c : Code} {K : zK} {r : Int} {F9 : zF} {B9 : zB} (X : zX D ca L aS vS A p s m args meth c prog_6_method_28_code 18 (Option.some Jvm.ClassFile.FieldType.boolean) "StaveHouse$Part") {l9 : Int} {l8 : Int} {l7 : Int} {l6 : Int} {l0 : Int} {l1 : Int} {l2 : Int} {l3 : Int} {l4 : Int} {s0 : Int} {s1 : Int} {F : zF} {B : zB} {H : Heap} {locs : List Loc} {ls : Array Slot} (hf : f_Part_hasShape_69 K l9 l8 l7 l6 l0 l1 l2 l3 l4 s0 s1 F B = some (r, F9, B9)) (hZ : zH D ca ad lnC K.2 L F B A H) (hS : va_S A s.heap H locs) (hl : lv_has ls 18 [(9, va_rf (zrf ad 1 l9)), (8, .int (iI l8)), (7, .int (iI l7)), (6, .int (iI l6)), (0, .ref (ad 4 l0 0)), (1, .int (iI l1)), (2, .ref (ad 4 l2 0)), (3, .int (iI l3)), (4, .int (iI l4))]) : W p l e ({ frames := 5, cells := 0, slots := 0, locals := 106 } : Room) s m args below meth c H locs 0 0 (MQ below (Q_Part_hasShape K D ca ad L r F9 B9 A) args s 0 0 A) (F0 m 69 ls [.int (iI s1), .ref (ad 4 s0 (5 + 1))]) := by
  obtain ⟨hx, hb, hr, hml, hown, hts, hlk, hK, hA, hL, hX⟩ := id X
  replace hf : (if 0 ≤ s0 ∧ s0 < K.2 4 then if 0 ≤ s1 ∧ s1 < 200 then f_Part_hasShape_81 K K.1 0 (-1) (-1) (B 4 s0 5 s1) l9 l8 l7 l6 l0 l1 l2 l3 l4 F B else none else none) = some (r, F9, B9) := hf
  obtain ⟨g12, hf⟩ := gif hf
  obtain ⟨g13, hf⟩ := gif hf
  refine zaldR (t := 1) (x := 7) (ci := 4) (k := 5) hx hb hK rfl rfl hZ g12.1 g12.2 rfl (Nat.le_of_ble_eq_true rfl) g13.1 g13.2 d_6_28_69 ?_
  refine zastore (lv' := [(9, va_rf (zrf ad 1 l9)), (8, .int (iI l8)), (7, .int (iI l7)), (6, .int (iI l6)), (0, .ref (ad 4 l0 0)), (1, .int (iI l1)), (2, .ref (ad 4 l2 0)), (3, .int (iI l3)), (4, .int (iI l4))]) hx hb d_6_28_70 hl (by decide) (fun v hv => by cases zrf ad 1 l9 <;> rfl) (fun ls hl => ?_)
  refine lv_null hx hb d_6_28_72 ?_
  refine W.eq (g2 := F0 m 73 ls [va_rf (zrf ad 1 (-1))]) rfl ?_
  refine zastore (lv' := [(10, va_rf (zrf ad 1 (B 4 s0 5 s1))), (9, va_rf (zrf ad 1 l9)), (8, .int (iI l8)), (7, .int (iI l7)), (6, .int (iI l6)), (0, .ref (ad 4 l0 0)), (1, .int (iI l1)), (2, .ref (ad 4 l2 0)), (3, .int (iI l3)), (4, .int (iI l4))]) hx hb d_6_28_73 hl (by decide) (fun v hv => by cases zrf ad 1 (B 4 s0 5 s1) <;> rfl) (fun ls hl => ?_)
  refine lv_null hx hb d_6_28_75 ?_
  refine W.eq (g2 := F0 m 76 ls [va_rf (zrf ad 1 (-1))]) rfl ?_
  refine zastore (lv' := [(11, va_rf (zrf ad 1 (-1))), (10, va_rf (zrf ad 1 (B 4 s0 5 s1))), (9, va_rf (zrf ad 1 l9)), (8, .int (iI l8)), (7, .int (iI l7)), (6, .int (iI l6)), (0, .ref (ad 4 l0 0)), (1, .int (iI l1)), (2, .ref (ad 4 l2 0)), (3, .int (iI l3)), (4, .int (iI l4))]) hx hb d_6_28_76 hl (by decide) (fun v hv => by cases zrf ad 1 (-1) <;> rfl) (fun ls hl => ?_)
  refine lv_iconst (v := iI 0) hx hb d_6_28_78 rfl ?_
  refine lv_istore (lv' := [(13, .int (iI 0)), (12, va_rf (zrf ad 1 (-1))), (11, va_rf (zrf ad 1 (-1))), (10, va_rf (zrf ad 1 (B 4 s0 5 s1))), (9, va_rf (zrf ad 1 l9)), (8, .int (iI l8)), (7, .int (iI l7)), (6, .int (iI l6)), (0, .ref (ad 4 l0 0)), (1, .int (iI l1)), (2, .ref (ad 4 l2 0)), (3, .int (iI l3)), (4, .int (iI l4))]) hx hb d_6_28_79 hl (by decide) (by cases zrf ad 1 (-1) <;> rfl) (fun ls hl => ?_)
  exact b_Part_hasShape_81 X hf hZ hS (lv_sub hl [0, 1, 2, 3, 4, 5, 6, 7, 8, 9, 10, 11, 12] rfl)

noncomputable def f_Part_hasShape_40 (K : zK) (l7 : Int) (l6 : Int) (l0 : Int) (l1 : Int) (l2 : Int) (l3 : Int) (l4 : Int) (s0 : Int) (F : zF) (B : zB) : zO := if 0 ≤ l2 ∧ l2 < K.2 4 then if 0 ≤ l3 ∧ l3 < 200 then if 0 ≤ l0 ∧ l0 < K.2 4 then if r32 l7 then (if l7 = 0 then f_Part_hasShape_69 K (B 4 l2 5 l3) s0 l7 l6 l0 l1 l2 l3 l4 l0 l1 F B else f_Part_hasShape_69 K (B 4 l2 5 l3) s0 l7 l6 l0 l1 l2 l3 l4 l0 ((l1 + l4) - 1) F B) else none else none else none else none
set_option maxHeartbeats 4000000 in
set_option maxRecDepth 100000 in
theorem b_Part_hasShape_40 {D : va_G} {ca : Nat → ClassId} {ad : Nat → Int → Nat → Nat} {L : List Nat} {aS vS : Nat → Nat} {A : Nat → Prop} {p : Program} {l : Launch} {e : Env} {s : State} {m : MethodId} {args : Array Value} {below : List Frame} {meth : Method} {c : Code} {K : zK} {r : Int} {F9 : zF} {B9 : zB} (X : zX D ca L aS vS A p s m args meth c prog_6_method_28_code 18 (Option.some Jvm.ClassFile.FieldType.boolean) "StaveHouse$Part") {l7 : Int} {l6 : Int} {l0 : Int} {l1 : Int} {l2 : Int} {l3 : Int} {l4 : Int} {s0 : Int} {F : zF} {B : zB} {H : Heap} {locs : List Loc} {ls : Array Slot} (hf : f_Part_hasShape_40 K l7 l6 l0 l1 l2 l3 l4 s0 F B = some (r, F9, B9)) (hZ : zH D ca ad lnC K.2 L F B A H) (hS : va_S A s.heap H locs) (hl : lv_has ls 18 [(7, .int (iI l7)), (6, .int (iI l6)), (0, .ref (ad 4 l0 0)), (1, .int (iI l1)), (2, .ref (ad 4 l2 0)), (3, .int (iI l3)), (4, .int (iI l4))]) : W p l e ({ frames := 5, cells := 0, slots := 0, locals := 106 } : Room) s m args below meth c H locs 0 0 (MQ below (Q_Part_hasShape K D ca ad L r F9 B9 A) args s 0 0 A) (F0 m 40 ls [.int (iI s0)]) := by
  obtain ⟨hx, hb, hr, hml, hown, hts, hlk, hK, hA, hL, hX⟩ := id X
  replace hf : (if 0 ≤ l2 ∧ l2 < K.2 4 then if 0 ≤ l3 ∧ l3 < 200 then if 0 ≤ l0 ∧ l0 < K.2 4 then if r32 l7 then (if l7 = 0 then f_Part_hasShape_69 K (B 4 l2 5 l3) s0 l7 l6 l0 l1 l2 l3 l4 l0 l1 F B else f_Part_hasShape_69 K (B 4 l2 5 l3) s0 l7 l6 l0 l1 l2 l3 l4 l0 ((l1 + l4) - 1) F B) else none else none else none else none) = some (r, F9, B9) := hf
  refine lv_istore (lv' := [(8, .int (iI s0)), (7, .int (iI l7)), (6, .int (iI l6)), (0, .ref (ad 4 l0 0)), (1, .int (iI l1)), (2, .ref (ad 4 l2 0)), (3, .int (iI l3)), (4, .int (iI l4))]) hx hb d_6_28_40 hl (by decide) rfl (fun ls hl => ?_)
  refine lv_aload_n hx hb d_6_28_42 rfl (lv_at hl 5 rfl) ?_
  obtain ⟨g7, hf⟩ := gif hf
  refine zget (ci := 4) (C := RX4) (T := TX4) (v := .ref (ad 4 l2 (5 + 1))) (k := 5) hx hb hts inW_4 hown hK hZ g7.1 g7.2 rfl (by decide) k_4_130 rfl d_6_28_43 ?_
  refine lv_iload_n hx hb d_6_28_46 rfl (lv_at hl 6 rfl) ?_
  obtain ⟨g8, hf⟩ := gif hf
  refine zaldR (t := 1) (x := 7) (ci := 4) (k := 5) hx hb hK rfl rfl hZ g7.1 g7.2 rfl (Nat.le_of_ble_eq_true rfl) g8.1 g8.2 d_6_28_47 ?_
  refine zastore (lv' := [(8, .int (iI s0)), (7, .int (iI l7)), (6, .int (iI l6)), (0, .ref (ad 4 l0 0)), (1, .int (iI l1)), (2, .ref (ad 4 l2 0)), (3, .int (iI l3)), (4, .int (iI l4))]) hx hb d_6_28_48 hl (by decide) (fun _ _ => rfl) (fun ls hl => ?_)
  refine lv_aload_n hx hb d_6_28_50 rfl (lv_at hl 4 rfl) ?_
  obtain ⟨g9, hf⟩ := gif hf
  refine zget (ci := 4) (C := RX4) (T := TX4) (v := .ref (ad 4 l0 (5 + 1))) (k := 5) hx hb hts inW_4 hown hK hZ g9.1 g9.2 rfl (by decide) k_4_130 rfl d_6_28_51 ?_
  refine lv_iload hx hb d_6_28_54 (lv_at hl 2 rfl) ?_
  obtain ⟨g10, hf⟩ := gif hf
  refine z0eq (tgt := 68) hx hb g10 d_6_28_56 (by decide) (fun h11 => ?_) (fun h11 => ?_)
  · replace hf := gpos hf h11
    refine lv_iload_n hx hb d_6_28_68 rfl (lv_at hl 5 rfl) ?_
    exact b_Part_hasShape_69 X hf hZ hS (lv_sub hl [0, 1, 2, 3, 4, 5, 6, 7, 8] rfl)
  · replace hf := gneg hf h11
    refine lv_iload_n hx hb d_6_28_59 rfl (lv_at hl 5 rfl) ?_
    refine lv_iload hx hb d_6_28_60 (lv_at hl 8 rfl) ?_
    refine zadd hx hb d_6_28_62 ?_
    refine lv_iconst (v := iI 1) hx hb d_6_28_63 rfl ?_
    refine zsub hx hb d_6_28_64 ?_
    refine lv_goto (tgt := 69) hx hb d_6_28_65 (by decide) ?_
    exact b_Part_hasShape_69 X hf hZ hS (lv_sub hl [0, 1, 2, 3, 4, 5, 6, 7, 8] rfl)

noncomputable def f_Part_hasShape_26 (K : zK) (l6 : Int) (l0 : Int) (l1 : Int) (l2 : Int) (l3 : Int) (l4 : Int) (l5 : Int) (s0 : Int) (F : zF) (B : zB) : zO := if r32 (zand l5 4) then (if (zand l5 4) = 0 then f_Part_hasShape_40 K s0 l6 l0 l1 l2 l3 l4 0 F B else f_Part_hasShape_40 K s0 l6 l0 l1 l2 l3 l4 1 F B) else none
set_option maxHeartbeats 4000000 in
set_option maxRecDepth 100000 in
theorem b_Part_hasShape_26 {D : va_G} {ca : Nat → ClassId} {ad : Nat → Int → Nat → Nat} {L : List Nat} {aS vS : Nat → Nat} {A : Nat → Prop} {p : Program} {l : Launch} {e : Env} {s : State} {m : MethodId} {args : Array Value} {below : List Frame} {meth : Method} {c : Code} {K : zK} {r : Int} {F9 : zF} {B9 : zB} (X : zX D ca L aS vS A p s m args meth c prog_6_method_28_code 18 (Option.some Jvm.ClassFile.FieldType.boolean) "StaveHouse$Part") {l6 : Int} {l0 : Int} {l1 : Int} {l2 : Int} {l3 : Int} {l4 : Int} {l5 : Int} {s0 : Int} {F : zF} {B : zB} {H : Heap} {locs : List Loc} {ls : Array Slot} (hf : f_Part_hasShape_26 K l6 l0 l1 l2 l3 l4 l5 s0 F B = some (r, F9, B9)) (hZ : zH D ca ad lnC K.2 L F B A H) (hS : va_S A s.heap H locs) (hl : lv_has ls 18 [(6, .int (iI l6)), (0, .ref (ad 4 l0 0)), (1, .int (iI l1)), (2, .ref (ad 4 l2 0)), (3, .int (iI l3)), (4, .int (iI l4)), (5, .int (iI l5))]) : W p l e ({ frames := 5, cells := 0, slots := 0, locals := 106 } : Room) s m args below meth c H locs 0 0 (MQ below (Q_Part_hasShape K D ca ad L r F9 B9 A) args s 0 0 A) (F0 m 26 ls [.int (iI s0)]) := by
  obtain ⟨hx, hb, hr, hml, hown, hts, hlk, hK, hA, hL, hX⟩ := id X
  replace hf : (if r32 (zand l5 4) then (if (zand l5 4) = 0 then f_Part_hasShape_40 K s0 l6 l0 l1 l2 l3 l4 0 F B else f_Part_hasShape_40 K s0 l6 l0 l1 l2 l3 l4 1 F B) else none) = some (r, F9, B9) := hf
  refine lv_istore (lv' := [(7, .int (iI s0)), (6, .int (iI l6)), (0, .ref (ad 4 l0 0)), (1, .int (iI l1)), (2, .ref (ad 4 l2 0)), (3, .int (iI l3)), (4, .int (iI l4)), (5, .int (iI l5))]) hx hb d_6_28_26 hl (by decide) rfl (fun ls hl => ?_)
  refine lv_iload hx hb d_6_28_28 (lv_at hl 7 rfl) ?_
  refine lv_iconst (v := iI 4) hx hb d_6_28_30 rfl ?_
  refine zand_r hx hb d_6_28_31 ?_
  obtain ⟨g5, hf⟩ := gif hf
  refine z0eq (tgt := 39) hx hb g5 d_6_28_32 (by decide) (fun h6 => ?_) (fun h6 => ?_)
  · replace hf := gpos hf h6
    refine lv_iconst (v := iI 0) hx hb d_6_28_39 rfl ?_
    exact b_Part_hasShape_40 X hf hZ hS (lv_sub hl [0, 1, 2, 3, 4, 5, 6] rfl)
  · replace hf := gneg hf h6
    refine lv_iconst (v := iI 1) hx hb d_6_28_35 rfl ?_
    refine lv_goto (tgt := 40) hx hb d_6_28_36 (by decide) ?_
    exact b_Part_hasShape_40 X hf hZ hS (lv_sub hl [0, 1, 2, 3, 4, 5, 6] rfl)

noncomputable def f_Part_hasShape_12 (K : zK) (l0 : Int) (l1 : Int) (l2 : Int) (l3 : Int) (l4 : Int) (l5 : Int) (s0 : Int) (F : zF) (B : zB) : zO := if r32 (zand l5 2) then (if (zand l5 2) = 0 then f_Part_hasShape_26 K s0 l0 l1 l2 l3 l4 l5 0 F B else f_Part_hasShape_26 K s0 l0 l1 l2 l3 l4 l5 1 F B) else none
set_option maxHeartbeats 4000000 in
set_option maxRecDepth 100000 in
theorem b_Part_hasShape_12 {D : va_G} {ca : Nat → ClassId} {ad : Nat → Int → Nat → Nat} {L : List Nat} {aS vS : Nat → Nat} {A : Nat → Prop} {p : Program} {l : Launch} {e : Env} {s : State} {m : MethodId} {args : Array Value} {below : List Frame} {meth : Method} {c : Code} {K : zK} {r : Int} {F9 : zF} {B9 : zB} (X : zX D ca L aS vS A p s m args meth c prog_6_method_28_code 18 (Option.some Jvm.ClassFile.FieldType.boolean) "StaveHouse$Part") {l0 : Int} {l1 : Int} {l2 : Int} {l3 : Int} {l4 : Int} {l5 : Int} {s0 : Int} {F : zF} {B : zB} {H : Heap} {locs : List Loc} {ls : Array Slot} (hf : f_Part_hasShape_12 K l0 l1 l2 l3 l4 l5 s0 F B = some (r, F9, B9)) (hZ : zH D ca ad lnC K.2 L F B A H) (hS : va_S A s.heap H locs) (hl : lv_has ls 18 [(0, .ref (ad 4 l0 0)), (1, .int (iI l1)), (2, .ref (ad 4 l2 0)), (3, .int (iI l3)), (4, .int (iI l4)), (5, .int (iI l5))]) : W p l e ({ frames := 5, cells := 0, slots := 0, locals := 106 } : Room) s m args below meth c H locs 0 0 (MQ below (Q_Part_hasShape K D ca ad L r F9 B9 A) args s 0 0 A) (F0 m 12 ls [.int (iI s0)]) := by
  obtain ⟨hx, hb, hr, hml, hown, hts, hlk, hK, hA, hL, hX⟩ := id X
  replace hf : (if r32 (zand l5 2) then (if (zand l5 2) = 0 then f_Part_hasShape_26 K s0 l0 l1 l2 l3 l4 l5 0 F B else f_Part_hasShape_26 K s0 l0 l1 l2 l3 l4 l5 1 F B) else none) = some (r, F9, B9) := hf
  refine lv_istore (lv' := [(6, .int (iI s0)), (0, .ref (ad 4 l0 0)), (1, .int (iI l1)), (2, .ref (ad 4 l2 0)), (3, .int (iI l3)), (4, .int (iI l4)), (5, .int (iI l5))]) hx hb d_6_28_12 hl (by decide) rfl (fun ls hl => ?_)
  refine lv_iload hx hb d_6_28_14 (lv_at hl 6 rfl) ?_
  refine lv_iconst (v := iI 2) hx hb d_6_28_16 rfl ?_
  refine zand_r hx hb d_6_28_17 ?_
  obtain ⟨g3, hf⟩ := gif hf
  refine z0eq (tgt := 25) hx hb g3 d_6_28_18 (by decide) (fun h4 => ?_) (fun h4 => ?_)
  · replace hf := gpos hf h4
    refine lv_iconst (v := iI 0) hx hb d_6_28_25 rfl ?_
    exact b_Part_hasShape_26 X hf hZ hS (lv_sub hl [0, 1, 2, 3, 4, 5, 6] rfl)
  · replace hf := gneg hf h4
    refine lv_iconst (v := iI 1) hx hb d_6_28_21 rfl ?_
    refine lv_goto (tgt := 26) hx hb d_6_28_22 (by decide) ?_
    exact b_Part_hasShape_26 X hf hZ hS (lv_sub hl [0, 1, 2, 3, 4, 5, 6] rfl)

noncomputable def f_Part_hasShape (K : zK) (l0 : Int) (l1 : Int) (l2 : Int) (l3 : Int) (l4 : Int) (l5 : Int) (F : zF) (B : zB) : zO := if r32 (zand l5 1) then (if (zand l5 1) = 0 then f_Part_hasShape_12 K l0 l1 l2 l3 l4 l5 0 F B else f_Part_hasShape_12 K l0 l1 l2 l3 l4 l5 1 F B) else none
set_option maxHeartbeats 4000000 in
set_option maxRecDepth 100000 in
theorem c_Part_hasShape {l : Launch} {D : va_G} {ca : Nat → ClassId} {ad : Nat → Int → Nat → Nat} {L : List Nat} {aS vS : Nat → Nat} {sz : Nat} {K : zK}  {l0 : Int} {l1 : Int} {l2 : Int} {l3 : Int} {l4 : Int} {l5 : Int} {F F9 : zF} {B B9 : zB} {r : Int} (hf : f_Part_hasShape K l0 l1 l2 l3 l4 l5 F B = some (r, F9, B9)) : Met l ({ cls := "StaveHouse$Part", name := "hasShape", desc := "(ILStaveHouse$Part;III)Z" } : Jvm.MethodName) (Cond.code ({ cls := "StaveHouse$Part", name := "hasShape", desc := "(ILStaveHouse$Part;III)Z" } : Jvm.MethodName) prog_6_method_28_code 18 (Option.some Jvm.ClassFile.FieldType.boolean) :: wAll) ({ frames := 5, cells := 0, slots := 0, locals := 106 } : Room) (va_Pc [.ref (ad 4 l0 0), .int (iI l1), .ref (ad 4 l2 0), .int (iI l3), .int (iI l4), .int (iI l5)] (zPre D ca ad lnC K.2 L aS vS F B sz)) (Q_Part_hasShape K D ca ad L r F9 B9 (zA L sz)) 0 0 (zA L sz) := by
  refine zMet (Qc := Q_Part_hasShape K D ca ad L r F9 B9) (lv := [(0, .ref (ad 4 l0 0)), (1, .int (iI l1)), (2, .ref (ad 4 l2 0)), (3, .int (iI l3)), (4, .int (iI l4)), (5, .int (iI l5))]) (by decide) (Nat.le_of_ble_eq_true rfl) rfl (fun A p e s m below meth c ls X hZ hS hl => ?_)
  obtain ⟨hx, hb, hr, hml, hown, hts, hlk, hK, hA, hL, hX⟩ := id X
  replace hf : (if r32 (zand l5 1) then (if (zand l5 1) = 0 then f_Part_hasShape_12 K l0 l1 l2 l3 l4 l5 0 F B else f_Part_hasShape_12 K l0 l1 l2 l3 l4 l5 1 F B) else none) = some (r, F9, B9) := hf
  refine lv_iload hx hb d_6_28_0 (lv_at hl 5 rfl) ?_
  refine lv_iconst (v := iI 1) hx hb d_6_28_2 rfl ?_
  refine zand_r hx hb d_6_28_3 ?_
  obtain ⟨g1, hf⟩ := gif hf
  refine z0eq (tgt := 11) hx hb g1 d_6_28_4 (by decide) (fun h2 => ?_) (fun h2 => ?_)
  · replace hf := gpos hf h2
    refine lv_iconst (v := iI 0) hx hb d_6_28_11 rfl ?_
    exact b_Part_hasShape_12 X hf hZ hS (lv_sub hl [0, 1, 2, 3, 4, 5] rfl)
  · replace hf := gneg hf h2
    refine lv_iconst (v := iI 1) hx hb d_6_28_7 rfl ?_
    refine lv_goto (tgt := 12) hx hb d_6_28_8 (by decide) ?_
    exact b_Part_hasShape_12 X hf hZ hS (lv_sub hl [0, 1, 2, 3, 4, 5] rfl)

noncomputable abbrev Q_CString_indexOf_0 (K : zK) (D : va_G) (ca : Nat → ClassId) (ad : Nat → Int → Nat → Nat) (L : List Nat) (r : Int) (F : zF) (B : zB) (A : Nat → Prop) : Array Value → State → Outcome → State → Prop := va_Qi (S := Unit) (fun p _ => p = iI r) (fun _ => zPo D ca ad lnC K.2 L F B A) A
noncomputable def f_CString_indexOf_0 (K : zK) (l0 : Nat) (l1 : Int) (F : zF) (B : zB) : zO := if l0 < strL.length then zbind (f_CString_indexOf_1 K l0 l1 0 F B) (fun r2 F2 B2 => some (r2, F2, B2)) else none
set_option maxHeartbeats 4000000 in
set_option maxRecDepth 100000 in
theorem c_CString_indexOf_0 {l : Launch} {D : va_G} {ca : Nat → ClassId} {ad : Nat → Int → Nat → Nat} {L : List Nat} {aS vS : Nat → Nat} {sz : Nat} {K : zK}  {l0 : Nat} {l1 : Int} {F F9 : zF} {B B9 : zB} {r : Int} (hf : f_CString_indexOf_0 K l0 l1 F B = some (r, F9, B9)) : Met l ({ cls := "java/lang/String", name := "indexOf", desc := "(I)I" } : Jvm.MethodName) (Cond.code ({ cls := "java/lang/String", name := "indexOf", desc := "(I)I" } : Jvm.MethodName) prog_21_method_79_code 2 (Option.some Jvm.ClassFile.FieldType.int) :: wAll) ({ frames := 3, cells := 0, slots := 0, locals := 70 } : Room) (va_Pc [.ref (aS l0), .int (iI l1)] (zPre D ca ad lnC K.2 L aS vS F B sz)) (Q_CString_indexOf_0 K D ca ad L r F9 B9 (zA L sz)) 0 0 (zA L sz) := by
  refine zMet (Qc := Q_CString_indexOf_0 K D ca ad L r F9 B9) (lv := [(0, .ref (aS l0)), (1, .int (iI l1))]) (by decide) (Nat.le_of_ble_eq_true rfl) rfl (fun A p e s m below meth c ls X hZ hS hl => ?_)
  obtain ⟨hx, hb, hr, hml, hown, hts, hlk, hK, hA, hL, hX⟩ := id X
  replace hf : (if l0 < strL.length then zbind (f_CString_indexOf_1 K l0 l1 0 F B) (fun r2 F2 B2 => some (r2, F2, B2)) else none) = some (r, F9, B9) := hf
  refine lv_aload_n hx hb d_21_79_0 rfl (lv_at hl 0 rfl) ?_
  refine lv_iload_n hx hb d_21_79_1 rfl (lv_at hl 1 rfl) ?_
  refine lv_iconst (v := iI 0) hx hb d_21_79_2 rfl ?_
  obtain ⟨g1, hf⟩ := gif hf
  obtain ⟨r2, F2, B2, hc2, hf⟩ := gbind hf
  refine va_calli (va_runV (As := [.int (iI l1), .int (iI 0)]) (rest := []) ⟨hx, hb, hml, hown, hts⟩ (c_CString_indexOf_1 (l := l) hc2) (cwV 2 hts (gdV k_3_71 k_3_72 k_3_73 k_1_11 k_3_74) rfl rfl rfl (by decide +kernel) ⟨Nat.le_of_ble_eq_true rfl, Nat.le_of_ble_eq_true rfl⟩) ⟨zBlind, zsrecv hX g1 hS, zAt X hZ hS [.ref (aS l0), .int (iI l1), .int (iI 0)]⟩ rfl rfl hl.1 rfl (lv_room (Nat.le_of_ble_eq_true rfl)) d_21_79_3 ⟨Nat.le_of_ble_eq_true rfl, Nat.le_of_ble_eq_true rfl⟩) hS (fun q _ h => zAin X hS q h) (zAin X hS) (fun p2 u2 t2 H2 locs2 ht2 hv2 hw2 hB2 hz2 hk2 hS2 => ?_)
  have hZ2 := zBack X ht2 hB2
  subst hw2
  cases hf
  exact W.iret hx hb hr (fun t ht hW => ⟨⟨_, (), rfl, rfl, by rw [ht]; exact hZ2, va_K.moved hW.alike hK⟩, hS2.F ht⟩) hS2.2.2 d_21_79_6 hlk

noncomputable abbrev Q_Parser_takeMarks (K : zK) (D : va_G) (ca : Nat → ClassId) (ad : Nat → Int → Nat → Nat) (L : List Nat) (r : Int) (F : zF) (B : zB) (A : Nat → Prop) : Array Value → State → Outcome → State → Prop := va_Qv (S := Unit) (fun _ => True) (fun _ => zPo D ca ad lnC K.2 L F B A) A
noncomputable def f_Parser_takeMarks_82 (K : zK)  (F : zF) (B : zB) : zO := some (0, F, B)
set_option maxHeartbeats 4000000 in
set_option maxRecDepth 100000 in
theorem b_Parser_takeMarks_82 {D : va_G} {ca : Nat → ClassId} {ad : Nat → Int → Nat → Nat} {L : List Nat} {aS vS : Nat → Nat} {A : Nat → Prop} {p : Program} {l : Launch} {e : Env} {s : State} {m : MethodId} {args : Array Value} {below : List Frame} {meth : Method} {c : Code} {K : zK} {r : Int} {F9 : zF} {B9 : zB} (X : zX D ca L aS vS A p s m args meth c prog_5_method_27_code 4 (Option.none : Option Jvm.ClassFile.FieldType) "StaveHouse$Parser")  {F : zF} {B : zB} {H : Heap} {locs : List Loc} {ls : Array Slot} (hf : f_Parser_takeMarks_82 K  F B = some (r, F9, B9)) (hZ : zH D ca ad lnC K.2 L F B A H) (hS : va_S A s.heap H locs) (hl : lv_has ls 4 []) : W p l e ({ frames := 4, cells := 0, slots := 0, locals := 91 } : Room) s m args below meth c H locs 0 0 (MQ below (Q_Parser_takeMarks K D ca ad L r F9 B9 A) args s 0 0 A) (F0 m 82 ls []) := by
  obtain ⟨hx, hb, hr, hml, hown, hts, hlk, hK, hA, hL, hX⟩ := id X
  replace hf : (some (0, F, B)) = some (r, F9, B9) := hf
  cases hf
  exact W.vret hx hb hr (fun t ht hW => ⟨⟨(), rfl, trivial, by rw [ht]; exact hZ, va_K.moved hW.alike hK⟩, hS.F ht⟩) hS.2.2 d_5_27_82 hlk

noncomputable def f_Parser_takeMarks_56 (K : zK)  (F : zF) (B : zB) : zO := some (0, F, B)
set_option maxHeartbeats 4000000 in
set_option maxRecDepth 100000 in
theorem b_Parser_takeMarks_56 {D : va_G} {ca : Nat → ClassId} {ad : Nat → Int → Nat → Nat} {L : List Nat} {aS vS : Nat → Nat} {A : Nat → Prop} {p : Program} {l : Launch} {e : Env} {s : State} {m : MethodId} {args : Array Value} {below : List Frame} {meth : Method} {c : Code} {K : zK} {r : Int} {F9 : zF} {B9 : zB} (X : zX D ca L aS vS A p s m args meth c prog_5_method_27_code 4 (Option.none : Option Jvm.ClassFile.FieldType) "StaveHouse$Parser")  {F : zF} {B : zB} {H : Heap} {locs : List Loc} {ls : Array Slot} (hf : f_Parser_takeMarks_56 K  F B = some (r, F9, B9)) (hZ : zH D ca ad lnC K.2 L F B A H) (hS : va_S A s.heap H locs) (hl : lv_has ls 4 []) : W p l e ({ frames := 4, cells := 0, slots := 0, locals := 91 } : Room) s m args below meth c H locs 0 0 (MQ below (Q_Parser_takeMarks K D ca ad L r F9 B9 A) args s 0 0 A) (F0 m 56 ls []) := by
  obtain ⟨hx, hb, hr, hml, hown, hts, hlk, hK, hA, hL, hX⟩ := id X
  replace hf : (some (0, F, B)) = some (r, F9, B9) := hf
  cases hf
  exact W.vret hx hb hr (fun t ht hW => ⟨⟨(), rfl, trivial, by rw [ht]; exact hZ, va_K.moved hW.alike hK⟩, hS.F ht⟩) hS.2.2 d_5_27_56 hlk

noncomputable def f_Parser_takeMarks_2 (K : zK) : Nat → Int → Int → Int → zF → zB → zO
  | 0, _, _, _, _, _ => none
  | n + 1, l2, l0, l1, F, B => zbind (f_CString_length K 0 F B) (fun r1 F1 B1 => if r32 l2 then if r32 r1 then (if r1 ≤ l2 then f_Parser_takeMarks_82 K F1 B1 else if 0 ≤ l0 ∧ l0 < K.2 3 then if 0 ≤ (F1 3 l0 11) ∧ (F1 3 l0 11) < K.2 10 then if r32 (F1 10 (F1 3 l0 11) 0) then (if (F1 10 (F1 3 l0 11) 0) = 5 then zbind (f_CString_indexOf_0 K 0 (zi2c (F1 10 (F1 3 l0 11) 2)) F1 B1) (fun r9 F9 B9 => if r32 r9 then (if r9 < 0 then f_Parser_takeMarks_56 K F9 B9 else if 0 ≤ l1 ∧ l1 < 3000 then if r32 (zand (zshr (B9 3 l0 7 l1) r9) 1) then (if (zand (zshr (B9 3 l0 7 l1) r9) 1) = 0 then if 0 ≤ (F9 3 l0 11) ∧ (F9 3 l0 11) < K.2 10 then zbind (f_Tokens_advance K (F9 3 l0 11) F9 (zup4 B9 3 l0 7 l1 (zor (B9 3 l0 7 l1) (zshl 1 r9)))) (fun r17 F17 B17 => f_Parser_takeMarks_2 K n (l2 + 1) l0 l1 F17 B17) else none else f_Parser_takeMarks_56 K F9 B9) else none else none) else none) else f_Parser_takeMarks_82 K F1 B1) else none else none else none) else none else none)
set_option maxHeartbeats 4000000 in
set_option maxRecDepth 100000 in
theorem b_Parser_takeMarks_2 {D : va_G} {ca : Nat → ClassId} {ad : Nat → Int → Nat → Nat} {L : List Nat} {aS vS : Nat → Nat} {A : Nat → Prop} {p : Program} {l : Launch} {e : Env} {s : State} {m : MethodId} {args : Array Value} {below : List Frame} {meth : Method} {c : Code} {K : zK} {r : Int} {F9 : zF} {B9 : zB} (X : zX D ca L aS vS A p s m args meth c prog_5_method_27_code 4 (Option.none : Option Jvm.ClassFile.FieldType) "StaveHouse$Parser") : ∀ {n : Nat} {l2 : Int} {l0 : Int} {l1 : Int} {F : zF} {B : zB} {H : Heap} {locs : List Loc} {ls : Array Slot}, f_Parser_takeMarks_2 K n l2 l0 l1 F B = some (r, F9, B9) → zH D ca ad lnC K.2 L F B A H → va_S A s.heap H locs → lv_has ls 4 [(2, .int (iI l2)), (0, .ref (ad 3 l0 0)), (1, .int (iI l1))] → W p l e ({ frames := 4, cells := 0, slots := 0, locals := 91 } : Room) s m args below meth c H locs 0 0 (MQ below (Q_Parser_takeMarks K D ca ad L r F9 B9 A) args s 0 0 A) (F0 m 2 ls []) := by
  obtain ⟨hx, hb, hr, hml, hown, hts, hlk, hK, hA, hL, hX⟩ := id X
  intro n
  induction n with
  | zero =>
    intros
    rename_i hf _ _ _
    cases hf
  | succ n ih =>
    intro l2 l0 l1 F B H locs ls hf hZ hS hl
    replace hf : (zbind (f_CString_length K 0 F B) (fun r1 F1 B1 => if r32 l2 then if r32 r1 then (if r1 ≤ l2 then f_Parser_takeMarks_82 K F1 B1 else if 0 ≤ l0 ∧ l0 < K.2 3 then if 0 ≤ (F1 3 l0 11) ∧ (F1 3 l0 11) < K.2 10 then if r32 (F1 10 (F1 3 l0 11) 0) then (if (F1 10 (F1 3 l0 11) 0) = 5 then zbind (f_CString_indexOf_0 K 0 (zi2c (F1 10 (F1 3 l0 11) 2)) F1 B1) (fun r9 F9 B9 => if r32 r9 then (if r9 < 0 then f_Parser_takeMarks_56 K F9 B9 else if 0 ≤ l1 ∧ l1 < 3000 then if r32 (zand (zshr (B9 3 l0 7 l1) r9) 1) then (if (zand (zshr (B9 3 l0 7 l1) r9) 1) = 0 then if 0 ≤ (F9 3 l0 11) ∧ (F9 3 l0 11) < K.2 10 then zbind (f_Tokens_advance K (F9 3 l0 11) F9 (zup4 B9 3 l0 7 l1 (zor (B9 3 l0 7 l1) (zshl 1 r9)))) (fun r17 F17 B17 => f_Parser_takeMarks_2 K n (l2 + 1) l0 l1 F17 B17) else none else f_Parser_takeMarks_56 K F9 B9) else none else none) else none) else f_Parser_takeMarks_82 K F1 B1) else none else none else none) else none else none)) = some (r, F9, B9) := hf
    refine lv_iload_n hx hb d_5_27_2 rfl (lv_at hl 0 rfl) ?_
    refine gldcwS hx hb hown (hX.2.2.2.2.1 0 _ rfl).1 d_5_27_3 ?_
    obtain ⟨r1, F1, B1, hc1, hf⟩ := gbind hf
    refine va_calli (va_runV (As := []) (rest := [.int (iI l2)]) ⟨hx, hb, hml, hown, hts⟩ (c_CString_length (l := l) hc1) (cwV 0 hts (gdV k_4_27 k_3_82 k_3_83 k_1_11 k_3_84) rfl rfl rfl (by decide +kernel) ⟨Nat.le_of_ble_eq_true rfl, Nat.le_of_ble_eq_true rfl⟩) ⟨zBlind, zsrecv hX (by decide) hS, zAt X hZ hS [.ref (aS 0)]⟩ rfl rfl hl.1 rfl (lv_room (Nat.le_of_ble_eq_true rfl)) d_5_27_6 ⟨Nat.le_of_ble_eq_true rfl, Nat.le_of_ble_eq_true rfl⟩) hS (fun q _ h => zAin X hS q h) (zAin X hS) (fun p1 u1 t1 H1 locs1 ht1 hv1 hw1 hB1 hz1 hk1 hS1 => ?_)
    have hZ1 := zBack X ht1 hB1
    subst hw1
    obtain ⟨g2, hf⟩ := gif hf
    obtain ⟨g3, hf⟩ := gif hf
    refine zge (tgt := 82) hx hb g2 g3 d_5_27_9 (by decide) (fun h4 => ?_) (fun h4 => ?_)
    · replace hf := gpos hf h4
      exact b_Parser_takeMarks_82 X hf hZ1 hS1 (lv_sub hl [] rfl)
    · replace hf := gneg hf h4
      refine lv_aload_n hx hb d_5_27_12 rfl (lv_at hl 1 rfl) ?_
      obtain ⟨g5, hf⟩ := gif hf
      refine zget (ci := 3) (C := RX3) (T := TX3) (v := va_rf (zrf ad 10 (F1 3 l0 11))) (k := 11) hx hb hts inW_3 hown hK hZ1 g5.1 g5.2 rfl (by decide) k_1_128 rfl d_5_27_13 ?_
      obtain ⟨g6, hf⟩ := gif hf
      refine zunrf g6.1 ?_
      refine zget (ci := 10) (C := RX10) (T := TX10) (v := .int (iI (F1 10 (F1 3 l0 11) 0))) (k := 0) hx hb hts inW_10 hown hK hZ1 g6.1 g6.2 rfl (by decide) k_1_72 rfl d_5_27_16 ?_
      refine lv_iconst (v := iI 5) hx hb d_5_27_19 rfl ?_
      obtain ⟨g7, hf⟩ := gif hf
      refine zne (tgt := 82) hx hb g7 (by decide) d_5_27_20 (by decide) (fun h8 => ?_) (fun h8 => ?_)
      · replace hf := gneg hf h8
        exact b_Parser_takeMarks_82 X hf hZ1 hS1 (lv_sub hl [] rfl)
      · replace hf := gpos hf h8
        refine gldcwS hx hb hown (hX.2.2.2.2.1 0 _ rfl).1 d_5_27_23 ?_
        refine lv_aload_n hx hb d_5_27_26 rfl (lv_at hl 1 rfl) ?_
        refine zget (ci := 3) (C := RX3) (T := TX3) (v := va_rf (zrf ad 10 (F1 3 l0 11))) (k := 11) hx hb hts inW_3 hown hK hZ1 g5.1 g5.2 rfl (by decide) k_1_128 rfl d_5_27_27 ?_
        refine zunrf g6.1 ?_
        refine zget (ci := 10) (C := RX10) (T := TX10) (v := .long (lI (F1 10 (F1 3 l0 11) 2))) (k := 2) hx hb hts inW_10 hown hK hZ1 g6.1 g6.2 rfl (by decide) k_1_77 rfl d_5_27_30 ?_
        refine zl2iw hx hb d_5_27_33 ?_
        refine zi2c_r hx hb d_5_27_34 ?_
        obtain ⟨r9, F9, B9, hc9, hf⟩ := gbind hf
        refine va_calli (va_runV (As := [.int (iI (zi2c (F1 10 (F1 3 l0 11) 2)))]) (rest := []) ⟨hx, hb, hml, hown, hts⟩ (c_CString_indexOf_0 (l := l) hc9) (cwV 1 hts (gdV k_4_28 k_3_68 k_3_69 k_1_11 k_3_70) rfl rfl rfl (by decide +kernel) ⟨Nat.le_of_ble_eq_true rfl, Nat.le_of_ble_eq_true rfl⟩) ⟨zBlind, zsrecv hX (by decide) hS1, zAt X hZ1 hS1 [.ref (aS 0), .int (iI (zi2c (F1 10 (F1 3 l0 11) 2)))]⟩ rfl rfl hl.1 rfl (lv_room (Nat.le_of_ble_eq_true rfl)) d_5_27_35 ⟨Nat.le_of_ble_eq_true rfl, Nat.le_of_ble_eq_true rfl⟩) hS1 (fun q _ h => zAin X hS1 q h) (zAin X hS1) (fun p9 u9 t9 H9 locs9 ht9 hv9 hw9 hB9 hz9 hk9 hS9 => ?_)
        have hZ9 := zBack X ht9 hB9
        subst hw9
        refine lv_istore_n (lv' := [(3, .int (iI r9)), (2, .int (iI l2)), (0, .ref (ad 3 l0 0)), (1, .int (iI l1))]) hx hb d_5_27_38 rfl hl (by decide) rfl (fun ls hl => ?_)
        refine lv_iload_n hx hb d_5_27_39 rfl (lv_at hl 0 rfl) ?_
        obtain ⟨g10, hf⟩ := gif hf
        refine z0lt (tgt := 56) hx hb g10 d_5_27_40 (by decide) (fun h11 => ?_) (fun h11 => ?_)
        · replace hf := gpos hf h11
          exact b_Parser_takeMarks_56 X hf hZ9 hS9 (lv_sub hl [] rfl)
        · replace hf := gneg hf h11
          refine lv_aload_n hx hb d_5_27_43 rfl (lv_at hl 2 rfl) ?_
          refine zget (ci := 3) (C := RX3) (T := TX3) (v := .ref (ad 3 l0 (7 + 1))) (k := 7) hx hb hts inW_3 hown hK hZ9 g5.1 g5.2 rfl (by decide) k_1_120 rfl d_5_27_44 ?_
          refine lv_iload_n hx hb d_5_27_47 rfl (lv_at hl 3 rfl) ?_
          obtain ⟨g12, hf⟩ := gif hf
          refine zald (ci := 3) (k := 7) hx hb hK rfl hZ9 g5.1 g5.2 rfl (Nat.le_of_ble_eq_true rfl) g12.1 g12.2 d_5_27_48 ?_
          refine lv_iload_n hx hb d_5_27_49 rfl (lv_at hl 0 rfl) ?_
          refine zshr_r hx hb d_5_27_50 ?_
          refine lv_iconst (v := iI 1) hx hb d_5_27_51 rfl ?_
          refine zand_r hx hb d_5_27_52 ?_
          obtain ⟨g13, hf⟩ := gif hf
          refine z0eq (tgt := 57) hx hb g13 d_5_27_53 (by decide) (fun h14 => ?_) (fun h14 => ?_)
          · replace hf := gpos hf h14
            refine lv_aload_n hx hb d_5_27_57 rfl (lv_at hl 2 rfl) ?_
            refine zget (ci := 3) (C := RX3) (T := TX3) (v := .ref (ad 3 l0 (7 + 1))) (k := 7) hx hb hts inW_3 hown hK hZ9 g5.1 g5.2 rfl (by decide) k_1_120 rfl d_5_27_58 ?_
            refine lv_iload_n hx hb d_5_27_61 rfl (lv_at hl 3 rfl) ?_
            refine lv_dup2_11 hx hb d_5_27_62 rfl rfl ?_
            refine zald (ci := 3) (k := 7) hx hb hK rfl hZ9 g5.1 g5.2 rfl (Nat.le_of_ble_eq_true rfl) g12.1 g12.2 d_5_27_63 ?_
            refine lv_iconst (v := iI 1) hx hb d_5_27_64 rfl ?_
            refine lv_iload_n hx hb d_5_27_65 rfl (lv_at hl 0 rfl) ?_
            refine zshl_r hx hb d_5_27_66 ?_
            refine zor_r hx hb d_5_27_67 ?_
            refine zast (ci := 3) (k := 7) hx hb hK rfl hZ9 hS9 g5.1 g5.2 rfl (Nat.le_of_ble_eq_true rfl) g12.1 g12.2 d_5_27_68 (fun H15 locs15 hZ15 hS15 => ?_)
            refine lv_aload_n hx hb d_5_27_69 rfl (lv_at hl 2 rfl) ?_
            refine zget (ci := 3) (C := RX3) (T := TX3) (v := va_rf (zrf ad 10 (F9 3 l0 11))) (k := 11) hx hb hts inW_3 hown hK hZ15 g5.1 g5.2 rfl (by decide) k_1_128 rfl d_5_27_70 ?_
            obtain ⟨g16, hf⟩ := gif hf
            refine W.eq (g2 := F0 m 73 ls [.ref (ad 10 (F9 3 l0 11) 0)]) (by rw [zrf_pos (ad := ad) (t := 10) g16.1]; try rfl) ?_
            obtain ⟨r17, F17, B17, hc17, hf⟩ := gbind hf
            refine va_callv (va_runV (As := []) (rest := []) ⟨hx, hb, hml, hown, hts⟩ (c_Tokens_advance (l := l) hc17) (cwV 0 hts (gdV k_3_180 k_3_152 k_3_153 k_1_5 k_3_154) rfl rfl rfl (by decide +kernel) ⟨Nat.le_of_ble_eq_true rfl, Nat.le_of_ble_eq_true rfl⟩) (zPV X hZ15 hS15 (ci := 10) g16.1 g16.2 (r := (RX10, TX10, 9)) rfl []) rfl rfl hl.1 rfl (lv_room (Nat.le_of_ble_eq_true rfl)) d_5_27_73 ⟨Nat.le_of_ble_eq_true rfl, Nat.le_of_ble_eq_true rfl⟩) hS15 (fun q _ h => zAin X hS15 q h) (zAin X hS15) (fun u17 t17 H17 locs17 ht17 hv17 hw17 hB17 hz17 hk17 hS17 => ?_)
            have hZ17 := zBack X ht17 hB17
            refine lv_iinc (v := iI (l2 + 1)) (lv' := [(2, .int (iI (l2 + 1))), (3, .int (iI r9)), (0, .ref (ad 3 l0 0)), (1, .int (iI l1))]) hx hb d_5_27_76 hl (k := 1) rfl (iI_add _ 1) (by decide) rfl (fun ls hl => ?_)
            refine lv_goto (tgt := 2) hx hb d_5_27_79 (by decide) ?_
            exact ih hf hZ17 hS17 (lv_sub hl [0, 2, 3] rfl)
          · replace hf := gneg hf h14
            exact b_Parser_takeMarks_56 X hf hZ9 hS9 (lv_sub hl [] rfl)

noncomputable def f_Parser_takeMarks (K : zK) (l0 : Int) (l1 : Int) (F : zF) (B : zB) : zO := f_Parser_takeMarks_2 K K.1 0 l0 l1 F B
set_option maxHeartbeats 4000000 in
set_option maxRecDepth 100000 in
theorem c_Parser_takeMarks {l : Launch} {D : va_G} {ca : Nat → ClassId} {ad : Nat → Int → Nat → Nat} {L : List Nat} {aS vS : Nat → Nat} {sz : Nat} {K : zK}  {l0 : Int} {l1 : Int} {F F9 : zF} {B B9 : zB} {r : Int} (hf : f_Parser_takeMarks K l0 l1 F B = some (r, F9, B9)) : Met l ({ cls := "StaveHouse$Parser", name := "takeMarks", desc := "(I)V" } : Jvm.MethodName) (Cond.code ({ cls := "StaveHouse$Parser", name := "takeMarks", desc := "(I)V" } : Jvm.MethodName) prog_5_method_27_code 4 (Option.none : Option Jvm.ClassFile.FieldType) :: wAll) ({ frames := 4, cells := 0, slots := 0, locals := 91 } : Room) (va_Pc [.ref (ad 3 l0 0), .int (iI l1)] (zPre D ca ad lnC K.2 L aS vS F B sz)) (Q_Parser_takeMarks K D ca ad L r F9 B9 (zA L sz)) 0 0 (zA L sz) := by
  refine zMet (Qc := Q_Parser_takeMarks K D ca ad L r F9 B9) (lv := [(0, .ref (ad 3 l0 0)), (1, .int (iI l1))]) (by decide) (Nat.le_of_ble_eq_true rfl) rfl (fun A p e s m below meth c ls X hZ hS hl => ?_)
  obtain ⟨hx, hb, hr, hml, hown, hts, hlk, hK, hA, hL, hX⟩ := id X
  replace hf : (f_Parser_takeMarks_2 K K.1 0 l0 l1 F B) = some (r, F9, B9) := hf
  refine lv_iconst (v := iI 0) hx hb d_5_27_0 rfl ?_
  refine lv_istore_n (lv' := [(2, .int (iI 0)), (0, .ref (ad 3 l0 0)), (1, .int (iI l1))]) hx hb d_5_27_1 rfl hl (by decide) rfl (fun ls hl => ?_)
  exact b_Parser_takeMarks_2 X hf hZ hS (lv_sub hl [0, 1, 2] rfl)

noncomputable abbrev Q_Part_cut (K : zK) (D : va_G) (ca : Nat → ClassId) (ad : Nat → Int → Nat → Nat) (L : List Nat) (r : Int) (F : zF) (B : zB) (A : Nat → Prop) : Array Value → State → Outcome → State → Prop := va_Qv (S := Unit) (fun _ => True) (fun _ => zPo D ca ad lnC K.2 L F B A) A
noncomputable def f_Part_cut_175 (K : zK)  (F : zF) (B : zB) : zO := some (0, F, B)
set_option maxHeartbeats 4000000 in
set_option maxRecDepth 100000 in
theorem b_Part_cut_175 {D : va_G} {ca : Nat → ClassId} {ad : Nat → Int → Nat → Nat} {L : List Nat} {aS vS : Nat → Nat} {A : Nat → Prop} {p : Program} {l : Launch} {e : Env} {s : State} {m : MethodId} {args : Array Value} {below : List Frame} {meth : Method} {c : Code} {K : zK} {r : Int} {F9 : zF} {B9 : zB} (X : zX D ca L aS vS A p s m args meth c prog_6_method_10_code 18 (Option.none : Option Jvm.ClassFile.FieldType) "StaveHouse$Part")  {F : zF} {B : zB} {H : Heap} {locs : List Loc} {ls : Array Slot} (hf : f_Part_cut_175 K  F B = some (r, F9, B9)) (hZ : zH D ca ad lnC K.2 L F B A H) (hS : va_S A s.heap H locs) (hl : lv_has ls 18 []) : W p l e ({ frames := 4, cells := 0, slots := 0, locals := 106 } : Room) s m args below meth c H locs 0 0 (MQ below (Q_Part_cut K D ca ad L r F9 B9 A) args s 0 0 A) (F0 m 175 ls []) := by
  obtain ⟨hx, hb, hr, hml, hown, hts, hlk, hK, hA, hL, hX⟩ := id X
  replace hf : (some (0, F, B)) = some (r, F9, B9) := hf
  cases hf
  exact W.vret hx hb hr (fun t ht hW => ⟨⟨(), rfl, trivial, by rw [ht]; exact hZ, va_K.moved hW.alike hK⟩, hS.F ht⟩) hS.2.2 d_6_10_175 hlk

noncomputable def f_Part_cut_165 (rec18 : Int → Int → Int → Int → Int → Int → Int → zF → zB → zO) (K : zK) (l15 : Int) (l13 : Int) (l11 : Int) (l7 : Int) (l0 : Int) (l1 : Int) (l2 : Int) (F : zF) (B : zB) : zO := rec18 (l13 + 1) l11 l15 l7 l0 l1 l2 F B
set_option maxHeartbeats 4000000 in
set_option maxRecDepth 100000 in
theorem b_Part_cut_165 {D : va_G} {ca : Nat → ClassId} {ad : Nat → Int → Nat → Nat} {L : List Nat} {aS vS : Nat → Nat} {A : Nat → Prop} {p : Program} {l : Launch} {e : Env} {s : State} {m : MethodId} {args : Array Value} {below : List Frame} {meth : Method} {c : Code} {K : zK} {r : Int} {F9 : zF} {B9 : zB} (X : zX D ca L aS vS A p s m args meth c prog_6_method_10_code 18 (Option.none : Option Jvm.ClassFile.FieldType) "StaveHouse$Part") {rec18 : Int → Int → Int → Int → Int → Int → Int → zF → zB → zO} (hrec18 : ∀ {l13 : Int} {l11 : Int} {l9 : Int} {l7 : Int} {l0 : Int} {l1 : Int} {l2 : Int} {F : zF} {B : zB} {H : Heap} {locs : List Loc} {ls : Array Slot}, rec18 l13 l11 l9 l7 l0 l1 l2 F B = some (r, F9, B9) → zH D ca ad lnC K.2 L F B A H → va_S A s.heap H locs → lv_has ls 18 [(13, .int (iI l13)), (11, .long (lI l11)), (9, .long (lI l9)), (7, .long (lI l7)), (0, .ref (ad 4 l0 0)), (1, .ref (ad 6 l1 0)), (2, .int (iI l2))] → W p l e ({ frames := 4, cells := 0, slots := 0, locals := 106 } : Room) s m args below meth c H locs 0 0 (MQ below (Q_Part_cut K D ca ad L r F9 B9 A) args s 0 0 A) (F0 m 18 ls [])) {l15 : Int} {l13 : Int} {l11 : Int} {l7 : Int} {l0 : Int} {l1 : Int} {l2 : Int} {F : zF} {B : zB} {H : Heap} {locs : List Loc} {ls : Array Slot} (hf : f_Part_cut_165 rec18 K l15 l13 l11 l7 l0 l1 l2 F B = some (r, F9, B9)) (hZ : zH D ca ad lnC K.2 L F B A H) (hS : va_S A s.heap H locs) (hl : lv_has ls 18 [(15, .long (lI l15)), (13, .int (iI l13)), (11, .long (lI l11)), (7, .long (lI l7)), (0, .ref (ad 4 l0 0)), (1, .ref (ad 6 l1 0)), (2, .int (iI l2))]) : W p l e ({ frames := 4, cells := 0, slots := 0, locals := 106 } : Room) s m args below meth c H locs 0 0 (MQ below (Q_Part_cut K D ca ad L r F9 B9 A) args s 0 0 A) (F0 m 165 ls []) := by
  obtain ⟨hx, hb, hr, hml, hown, hts, hlk, hK, hA, hL, hX⟩ := id X
  replace hf : (rec18 (l13 + 1) l11 l15 l7 l0 l1 l2 F B) = some (r, F9, B9) := hf
  refine lv_lload hx hb d_6_10_165 (lv_at hl 0 rfl) ?_
  refine lv_lstore (lv' := [(9, .long (lI l15)), (15, .long (lI l15)), (13, .int (iI l13)), (11, .long (lI l11)), (7, .long (lI l7)), (0, .ref (ad 4 l0 0)), (1, .ref (ad 6 l1 0)), (2, .int (iI l2))]) hx hb d_6_10_167 hl (by decide) rfl (fun ls hl => ?_)
  refine lv_iinc (v := iI (l13 + 1)) (lv' := [(13, .int (iI (l13 + 1))), (9, .long (lI l15)), (15, .long (lI l15)), (11, .long (lI l11)), (7, .long (lI l7)), (0, .ref (ad 4 l0 0)), (1, .ref (ad 6 l1 0)), (2, .int (iI l2))]) hx hb d_6_10_169 hl (k := 2) rfl (iI_add _ 1) (by decide) rfl (fun ls hl => ?_)
  refine lv_goto (tgt := 18) hx hb d_6_10_172 (by decide) ?_
  exact hrec18 hf hZ hS (lv_sub hl [0, 3, 1, 4, 5, 6, 7] rfl)

noncomputable def f_Part_cut_152 (rec18 : Int → Int → Int → Int → Int → Int → Int → zF → zB → zO) (K : zK) (l15 : Int) (l13 : Int) (l11 : Int) (l9 : Int) (l7 : Int) (l0 : Int) (l1 : Int) (l2 : Int) (F : zF) (B : zB) : zO := if 0 ≤ l0 ∧ l0 < K.2 4 then zbind (f_Part_writeCut K l0 l1 l2 l9 (l15 - l9) F B) (fun r40 F40 B40 => f_Part_cut_165 rec18 K l15 l13 l11 l7 l0 l1 l2 F40 B40) else none
set_option maxHeartbeats 4000000 in
set_option maxRecDepth 100000 in
theorem b_Part_cut_152 {D : va_G} {ca : Nat → ClassId} {ad : Nat → Int → Nat → Nat} {L : List Nat} {aS vS : Nat → Nat} {A : Nat → Prop} {p : Program} {l : Launch} {e : Env} {s : State} {m : MethodId} {args : Array Value} {below : List Frame} {meth : Method} {c : Code} {K : zK} {r : Int} {F9 : zF} {B9 : zB} (X : zX D ca L aS vS A p s m args meth c prog_6_method_10_code 18 (Option.none : Option Jvm.ClassFile.FieldType) "StaveHouse$Part") {rec18 : Int → Int → Int → Int → Int → Int → Int → zF → zB → zO} (hrec18 : ∀ {l13 : Int} {l11 : Int} {l9 : Int} {l7 : Int} {l0 : Int} {l1 : Int} {l2 : Int} {F : zF} {B : zB} {H : Heap} {locs : List Loc} {ls : Array Slot}, rec18 l13 l11 l9 l7 l0 l1 l2 F B = some (r, F9, B9) → zH D ca ad lnC K.2 L F B A H → va_S A s.heap H locs → lv_has ls 18 [(13, .int (iI l13)), (11, .long (lI l11)), (9, .long (lI l9)), (7, .long (lI l7)), (0, .ref (ad 4 l0 0)), (1, .ref (ad 6 l1 0)), (2, .int (iI l2))] → W p l e ({ frames := 4, cells := 0, slots := 0, locals := 106 } : Room) s m args below meth c H locs 0 0 (MQ below (Q_Part_cut K D ca ad L r F9 B9 A) args s 0 0 A) (F0 m 18 ls [])) {l15 : Int} {l13 : Int} {l11 : Int} {l9 : Int} {l7 : Int} {l0 : Int} {l1 : Int} {l2 : Int} {F : zF} {B : zB} {H : Heap} {locs : List Loc} {ls : Array Slot} (hf : f_Part_cut_152 rec18 K l15 l13 l11 l9 l7 l0 l1 l2 F B = some (r, F9, B9)) (hZ : zH D ca ad lnC K.2 L F B A H) (hS : va_S A s.heap H locs) (hl : lv_has ls 18 [(15, .long (lI l15)), (13, .int (iI l13)), (11, .long (lI l11)), (9, .long (lI l9)), (7, .long (lI l7)), (0, .ref (ad 4 l0 0)), (1, .ref (ad 6 l1 0)), (2, .int (iI l2))]) : W p l e ({ frames := 4, cells := 0, slots := 0, locals := 106 } : Room) s m args below meth c H locs 0 0 (MQ below (Q_Part_cut K D ca ad L r F9 B9 A) args s 0 0 A) (F0 m 152 ls []) := by
  obtain ⟨hx, hb, hr, hml, hown, hts, hlk, hK, hA, hL, hX⟩ := id X
  replace hf : (if 0 ≤ l0 ∧ l0 < K.2 4 then zbind (f_Part_writeCut K l0 l1 l2 l9 (l15 - l9) F B) (fun r40 F40 B40 => f_Part_cut_165 rec18 K l15 l13 l11 l7 l0 l1 l2 F40 B40) else none) = some (r, F9, B9) := hf
  refine lv_aload_n hx hb d_6_10_152 rfl (lv_at hl 5 rfl) ?_
  refine lv_aload_n hx hb d_6_10_153 rfl (lv_at hl 6 rfl) ?_
  refine lv_iload_n hx hb d_6_10_154 rfl (lv_at hl 7 rfl) ?_
  refine lv_lload hx hb d_6_10_155 (lv_at hl 3 rfl) ?_
  refine lv_lload hx hb d_6_10_157 (lv_at hl 0 rfl) ?_
  refine lv_lload hx hb d_6_10_159 (lv_at hl 3 rfl) ?_
  refine zlsub hx hb d_6_10_161 ?_
  obtain ⟨g39, hf⟩ := gif hf
  obtain ⟨r40, F40, B40, hc40, hf⟩ := gbind hf
  refine va_callv (va_runV (As := [.ref (ad 6 l1 0), .int (iI l2), .long (lI l9), .long (lI (l15 - l9))]) (rest := []) ⟨hx, hb, hml, hown, hts⟩ (c_Part_writeCut (l := l) hc40) (cwV 4 hts (gdV k_5_82 k_5_84 ks_52 k_1_18 k_5_85) rfl rfl rfl (by decide +kernel) ⟨Nat.le_of_ble_eq_true rfl, Nat.le_of_ble_eq_true rfl⟩) (zPV X hZ hS (ci := 4) g39.1 g39.2 (r := (RX4, TX4, 13)) rfl [.ref (ad 6 l1 0), .int (iI l2), .long (lI l9), .long (lI (l15 - l9))]) rfl rfl hl.1 rfl (lv_room (Nat.le_of_ble_eq_true rfl)) d_6_10_162 ⟨Nat.le_of_ble_eq_true rfl, Nat.le_of_ble_eq_true rfl⟩) hS (fun q _ h => zAin X hS q h) (zAin X hS) (fun u40 t40 H40 locs40 ht40 hv40 hw40 hB40 hz40 hk40 hS40 => ?_)
  have hZ40 := zBack X ht40 hB40
  exact b_Part_cut_165 X hrec18 hf hZ40 hS40 (lv_sub hl [0, 1, 2, 4, 5, 6, 7] rfl)

noncomputable def f_Part_cut_128 (rec18 : Int → Int → Int → Int → Int → Int → Int → zF → zB → zO) (K : zK) (l15 : Int) (l14 : Int) (l13 : Int) (l11 : Int) (l9 : Int) (l7 : Int) (l0 : Int) (l1 : Int) (l2 : Int) (F : zF) (B : zB) : zO := if r64 (l15 - l9) then if r64 l7 then (if (zcmp (l15 - l9) l7) = 0 then if 0 ≤ l0 ∧ l0 < K.2 4 then zbind (f_Part_addNote K l0 l2 l14 0 29 F B) (fun r38 F38 B38 => f_Part_cut_165 rec18 K l15 l13 l11 l7 l0 l1 l2 F38 B38) else none else f_Part_cut_152 rec18 K l15 l13 l11 l9 l7 l0 l1 l2 F B) else none else none
set_option maxHeartbeats 4000000 in
set_option maxRecDepth 100000 in
theorem b_Part_cut_128 {D : va_G} {ca : Nat → ClassId} {ad : Nat → Int → Nat → Nat} {L : List Nat} {aS vS : Nat → Nat} {A : Nat → Prop} {p : Program} {l : Launch} {e : Env} {s : State} {m : MethodId} {args : Array Value} {below : List Frame} {meth : Method} {c : Code} {K : zK} {r : Int} {F9 : zF} {B9 : zB} (X : zX D ca L aS vS A p s m args meth c prog_6_method_10_code 18 (Option.none : Option Jvm.ClassFile.FieldType) "StaveHouse$Part") {rec18 : Int → Int → Int → Int → Int → Int → Int → zF → zB → zO} (hrec18 : ∀ {l13 : Int} {l11 : Int} {l9 : Int} {l7 : Int} {l0 : Int} {l1 : Int} {l2 : Int} {F : zF} {B : zB} {H : Heap} {locs : List Loc} {ls : Array Slot}, rec18 l13 l11 l9 l7 l0 l1 l2 F B = some (r, F9, B9) → zH D ca ad lnC K.2 L F B A H → va_S A s.heap H locs → lv_has ls 18 [(13, .int (iI l13)), (11, .long (lI l11)), (9, .long (lI l9)), (7, .long (lI l7)), (0, .ref (ad 4 l0 0)), (1, .ref (ad 6 l1 0)), (2, .int (iI l2))] → W p l e ({ frames := 4, cells := 0, slots := 0, locals := 106 } : Room) s m args below meth c H locs 0 0 (MQ below (Q_Part_cut K D ca ad L r F9 B9 A) args s 0 0 A) (F0 m 18 ls [])) {l15 : Int} {l14 : Int} {l13 : Int} {l11 : Int} {l9 : Int} {l7 : Int} {l0 : Int} {l1 : Int} {l2 : Int} {F : zF} {B : zB} {H : Heap} {locs : List Loc} {ls : Array Slot} (hf : f_Part_cut_128 rec18 K l15 l14 l13 l11 l9 l7 l0 l1 l2 F B = some (r, F9, B9)) (hZ : zH D ca ad lnC K.2 L F B A H) (hS : va_S A s.heap H locs) (hl : lv_has ls 18 [(15, .long (lI l15)), (14, .int (iI l14)), (13, .int (iI l13)), (11, .long (lI l11)), (9, .long (lI l9)), (7, .long (lI l7)), (0, .ref (ad 4 l0 0)), (1, .ref (ad 6 l1 0)), (2, .int (iI l2))]) : W p l e ({ frames := 4, cells := 0, slots := 0, locals := 106 } : Room) s m args below meth c H locs 0 0 (MQ below (Q_Part_cut K D ca ad L r F9 B9 A) args s 0 0 A) (F0 m 128 ls []) := by
  obtain ⟨hx, hb, hr, hml, hown, hts, hlk, hK, hA, hL, hX⟩ := id X
  replace hf : (if r64 (l15 - l9) then if r64 l7 then (if (zcmp (l15 - l9) l7) = 0 then if 0 ≤ l0 ∧ l0 < K.2 4 then zbind (f_Part_addNote K l0 l2 l14 0 29 F B) (fun r38 F38 B38 => f_Part_cut_165 rec18 K l15 l13 l11 l7 l0 l1 l2 F38 B38) else none else f_Part_cut_152 rec18 K l15 l13 l11 l9 l7 l0 l1 l2 F B) else none else none) = some (r, F9, B9) := hf
  refine lv_lload hx hb d_6_10_128 (lv_at hl 0 rfl) ?_
  refine lv_lload hx hb d_6_10_130 (lv_at hl 4 rfl) ?_
  refine zlsub hx hb d_6_10_132 ?_
  refine lv_lload hx hb d_6_10_133 (lv_at hl 5 rfl) ?_
  obtain ⟨g34, hf⟩ := gif hf
  obtain ⟨g35, hf⟩ := gif hf
  refine zcmp_r hx hb g34 g35 d_6_10_135 ?_
  refine z0ne (tgt := 152) hx hb zcmp_32 d_6_10_136 (by decide) (fun h36 => ?_) (fun h36 => ?_)
  · replace hf := gneg hf h36
    exact b_Part_cut_152 X hrec18 hf hZ hS (lv_sub hl [0, 2, 3, 4, 5, 6, 7, 8] rfl)
  · replace hf := gpos hf h36
    refine lv_aload_n hx hb d_6_10_139 rfl (lv_at hl 6 rfl) ?_
    refine lv_iload_n hx hb d_6_10_140 rfl (lv_at hl 8 rfl) ?_
    refine lv_iload hx hb d_6_10_141 (lv_at hl 1 rfl) ?_
    refine lv_lconst (v := lI 0) hx hb d_6_10_143 (by decide) ?_
    refine lv_bipush (v := iI 29) hx hb d_6_10_144 (by decide) ?_
    obtain ⟨g37, hf⟩ := gif hf
    obtain ⟨r38, F38, B38, hc38, hf⟩ := gbind hf
    refine va_callv (va_runV (As := [.int (iI l2), .int (iI l14), .long (lI 0), .int (iI 29)]) (rest := []) ⟨hx, hb, hml, hown, hts⟩ (c_Part_addNote (l := l) hc38) (cwV 4 hts (gdV k_5_71 k_5_73 ks_51 k_1_18 k_5_74) rfl rfl rfl (by decide +kernel) ⟨Nat.le_of_ble_eq_true rfl, Nat.le_of_ble_eq_true rfl⟩) (zPV X hZ hS (ci := 4) g37.1 g37.2 (r := (RX4, TX4, 13)) rfl [.int (iI l2), .int (iI l14), .long (lI 0), .int (iI 29)]) rfl rfl hl.1 rfl (lv_room (Nat.le_of_ble_eq_true rfl)) d_6_10_146 ⟨Nat.le_of_ble_eq_true rfl, Nat.le_of_ble_eq_true rfl⟩) hS (fun q _ h => zAin X hS q h) (zAin X hS) (fun u38 t38 H38 locs38 ht38 hv38 hw38 hB38 hz38 hk38 hS38 => ?_)
    have hZ38 := zBack X ht38 hB38
    refine lv_goto (tgt := 165) hx hb d_6_10_149 (by decide) ?_
    exact b_Part_cut_165 X hrec18 hf hZ38 hS38 (lv_sub hl [0, 2, 3, 5, 6, 7, 8] rfl)

