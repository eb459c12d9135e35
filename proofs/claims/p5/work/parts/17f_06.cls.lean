set_option maxHeartbeats 4000000 in
set_option maxRecDepth 100000 in
theorem b_Study_findMoments_68 {D : va_G} {ca : Nat → ClassId} {ad : Nat → Int → Nat → Nat} {L : List Nat} {aS vS : Nat → Nat} {A : Nat → Prop} {p : Program} {l : Launch} {e : Env} {s : State} {m : MethodId} {args : Array Value} {below : List Frame} {meth : Method} {c : Code} {K : zK} {r : Int} {F9 : zF} {B9 : zB} (X : zX D ca L aS vS A p s m args meth c prog_11_method_3_code 9 (Option.none : Option Jvm.ClassFile.FieldType) "StaveHouse$Study") {rec29 : Int → Int → Int → zF → zB → zO} (hrec29 : ∀ {l2 : Int} {l0 : Int} {l1 : Int} {F : zF} {B : zB} {H : Heap} {locs : List Loc} {ls : Array Slot}, rec29 l2 l0 l1 F B = some (r, F9, B9) → zH D ca ad lnC K.2 L F B A H → va_S A s.heap H locs → lv_has ls 9 [(2, .int (iI l2)), (0, .ref (ad 9 l0 0)), (1, .ref (ad 6 l1 0))] → W p l e ({ frames := 1, cells := 0, slots := 0, locals := 27 } : Room) s m args below meth c H locs 0 0 (MQ below (Q_Study_findMoments K D ca ad L r F9 B9 A) args s 0 0 A) (F0 m 29 ls [])) : ∀ {n : Nat} {l5 : Int} {l3 : Int} {l2 : Int} {l0 : Int} {l1 : Int} {F : zF} {B : zB} {H : Heap} {locs : List Loc} {ls : Array Slot}, f_Study_findMoments_68 rec29 K n l5 l3 l2 l0 l1 F B = some (r, F9, B9) → zH D ca ad lnC K.2 L F B A H → va_S A s.heap H locs → lv_has ls 9 [(5, .int (iI l5)), (3, .long (lI l3)), (2, .int (iI l2)), (0, .ref (ad 9 l0 0)), (1, .ref (ad 6 l1 0))] → W p l e ({ frames := 1, cells := 0, slots := 0, locals := 27 } : Room) s m args below meth c H locs 0 0 (MQ below (Q_Study_findMoments K D ca ad L r F9 B9 A) args s 0 0 A) (F0 m 68 ls []) := by
  obtain ⟨hx, hb, hr, hml, hown, hts, hlk, hK, hA, hL, hX⟩ := id X
  intro n
  induction n with
  | zero =>
    intros
    rename_i hf _ _ _
    cases hf
  | succ n ih =>
    intro l5 l3 l2 l0 l1 F B H locs ls hf hZ hS hl
    replace hf : (if 0 ≤ l1 ∧ l1 < K.2 6 then if r32 l5 then if r32 (F 6 l1 1) then (if (F 6 l1 1) ≤ l5 then if 0 ≤ l0 ∧ l0 < K.2 9 then rec29 (l2 + 1) l0 l1 (zup3 F 9 l0 0 (l2 + 1)) B else none else if 0 ≤ l5 ∧ l5 < 4 then if 0 ≤ l0 ∧ l0 < K.2 9 then if r32 (l2 - 1) then if 0 ≤ (zmax (l2 - 1) 0) ∧ (zmax (l2 - 1) 0) < 800 then if 0 ≤ (B 6 l1 0 l5) ∧ (B 6 l1 0 l5) < K.2 4 then if r32 ((B 9 l0 (280 + l5.toNat) (zmax (l2 - 1) 0)) + 1) then if r32 (F 4 (B 6 l1 0 l5) 6) then (if (F 4 (B 6 l1 0 l5) 6) ≤ ((B 9 l0 (280 + l5.toNat) (zmax (l2 - 1) 0)) + 1) then f_Study_findMoments_135 rec29 (f_Study_findMoments_68 rec29 K n) K ((B 9 l0 (280 + l5.toNat) (zmax (l2 - 1) 0)) + 1) l5 l3 l2 l0 l1 F B else if 0 ≤ ((B 9 l0 (280 + l5.toNat) (zmax (l2 - 1) 0)) + 1) ∧ ((B 9 l0 (280 + l5.toNat) (zmax (l2 - 1) 0)) + 1) < 200 then if 0 ≤ (B 4 (B 6 l1 0 l5) 5 ((B 9 l0 (280 + l5.toNat) (zmax (l2 - 1) 0)) + 1)) ∧ (B 4 (B 6 l1 0 l5) 5 ((B 9 l0 (280 + l5.toNat) (zmax (l2 - 1) 0)) + 1)) < K.2 1 then if r64 (F 1 (B 4 (B 6 l1 0 l5) 5 ((B 9 l0 (280 + l5.toNat) (zmax (l2 - 1) 0)) + 1)) 0) then if r64 l3 then (if (zcmp (F 1 (B 4 (B 6 l1 0 l5) 5 ((B 9 l0 (280 + l5.toNat) (zmax (l2 - 1) 0)) + 1)) 0) l3) = 0 then f_Study_findMoments_136 rec29 (f_Study_findMoments_68 rec29 K n) K ((B 9 l0 (280 + l5.toNat) (zmax (l2 - 1) 0)) + 1) l5 l3 l2 l0 l1 1 F B else f_Study_findMoments_135 rec29 (f_Study_findMoments_68 rec29 K n) K ((B 9 l0 (280 + l5.toNat) (zmax (l2 - 1) 0)) + 1) l5 l3 l2 l0 l1 F B) else none else none else none else none) else none else none else none else none else none else none else none) else none else none else none) = some (r, F9, B9) := hf
    refine lv_iload hx hb d_11_3_68 (lv_at hl 0 rfl) ?_
    refine lv_aload_n hx hb d_11_3_70 rfl (lv_at hl 4 rfl) ?_
    obtain ⟨g17, hf⟩ := gif hf
    refine zget (ci := 6) (C := RX6) (T := TX6) (v := .int (iI (F 6 l1 1))) (k := 1) hx hb hts inW_6 hown hK hZ g17.1 g17.2 rfl (by decide) k_2_192 rfl d_11_3_71 ?_
    obtain ⟨g18, hf⟩ := gif hf
    obtain ⟨g19, hf⟩ := gif hf
    refine zge (tgt := 167) hx hb g18 g19 d_11_3_74 (by decide) (fun h20 => ?_) (fun h20 => ?_)
    · replace hf := gpos hf h20
      refine lv_aload_n hx hb d_11_3_167 rfl (lv_at hl 3 rfl) ?_
      refine lv_iload_n hx hb d_11_3_168 rfl (lv_at hl 2 rfl) ?_
      refine lv_iconst (v := iI 1) hx hb d_11_3_169 rfl ?_
      refine zadd hx hb d_11_3_170 ?_
      obtain ⟨g21, hf⟩ := gif hf
      refine zput (ci := 9) (C := RX9) (T := TX9) (k := 0) (v := (l2 + 1)) (w := .int (iI (l2 + 1))) hx hb hts inW_9 tyX9 tyX9_ok nmX9 hown hK hZ hS g21.1 g21.2 rfl (by decide) k_5_197 rfl (fun G h => congrArg (fun q => Value.int (iI q)) h) rfl rfl (zno (by decide)) d_11_3_171 (fun H22 locs22 hZ22 hS22 => ?_)
      refine lv_iinc (v := iI (l2 + 1)) (lv' := [(2, .int (iI (l2 + 1))), (5, .int (iI l5)), (3, .long (lI l3)), (0, .ref (ad 9 l0 0)), (1, .ref (ad 6 l1 0))]) hx hb d_11_3_174 hl (k := 2) rfl (iI_add _ 1) (by decide) rfl (fun ls hl => ?_)
      refine lv_goto (tgt := 29) hx hb d_11_3_177 (by decide) ?_
      exact hrec29 hf hZ22 hS22 (lv_sub hl [0, 3, 4] rfl)
    · replace hf := gneg hf h20
      refine lv_aload_n hx hb d_11_3_77 rfl (lv_at hl 4 rfl) ?_
      refine zget (ci := 6) (C := RX6) (T := TX6) (v := .ref (ad 6 l1 (0 + 1))) (k := 0) hx hb hts inW_6 hown hK hZ g17.1 g17.2 rfl (by decide) k_2_187 rfl d_11_3_78 ?_
      refine lv_iload hx hb d_11_3_81 (lv_at hl 0 rfl) ?_
      obtain ⟨g23, hf⟩ := gif hf
      refine zaldR (t := 4) (x := 6) (ci := 6) (k := 0) hx hb hK rfl rfl hZ g17.1 g17.2 rfl (Nat.le_of_ble_eq_true rfl) g23.1 g23.2 d_11_3_83 ?_
      refine zastore (lv' := [(5, .int (iI l5)), (3, .long (lI l3)), (2, .int (iI l2)), (0, .ref (ad 9 l0 0)), (1, .ref (ad 6 l1 0))]) hx hb d_11_3_84 hl (by decide) (fun _ _ => rfl) (fun ls hl => ?_)
      refine lv_aload_n hx hb d_11_3_86 rfl (lv_at hl 4 rfl) ?_
      obtain ⟨g24, hf⟩ := gif hf
      refine zget (ci := 9) (C := RX9) (T := TX9) (v := .ref (ad 9 l0 (4 + 1))) (k := 4) hx hb hts inW_9 hown hK hZ g24.1 g24.2 rfl (by decide) k_5_205 rfl d_11_3_87 ?_
      refine lv_iload hx hb d_11_3_90 (lv_at hl 1 rfl) ?_
      refine zaldQ (t := 0) (ci := 9) (k := 4) hx hb hK rfl hZ g24.1 g24.2 rfl (Nat.le_of_ble_eq_true rfl) g23.1 g23.2 d_11_3_92 ?_
      refine W.eq (g2 := F0 m 93 ls [.ref (ad 9 l0 (280 + l5.toNat + 1))]) rfl ?_
      refine lv_iload_n hx hb d_11_3_93 rfl (lv_at hl 3 rfl) ?_
      refine lv_iconst (v := iI 1) hx hb d_11_3_94 rfl ?_
      refine zsub hx hb d_11_3_95 ?_
      refine lv_iconst (v := iI 0) hx hb d_11_3_96 rfl ?_
      obtain ⟨g25, hf⟩ := gif hf
      refine va_mmax hx hb (by rw [hml]; exact hl.1.symm) hown (hts _ k_6_3) (hts _ k_1_39) (hts _ k_1_3) (hts _ k_1_40) (Nat.le_of_ble_eq_true rfl) (Nat.le_of_ble_eq_true rfl) (Nat.le_of_ble_eq_true rfl) (Nat.le_of_ble_eq_true rfl) d_11_3_97 ?_
      rw [zmax_e g25 (by decide)]
      obtain ⟨g26, hf⟩ := gif hf
      refine zald (ci := 9) (k := (280 + l5.toNat)) hx hb hK rfl hZ g24.1 g24.2 (zkq (c := 9) (b := 280) (n := 4) (t := 0) (by decide) g23.1 g23.2) (lnq_le (c := 9) (b := 280) (n := 4) (m := 800) (by decide) (by decide) (by decide) g23.1 g23.2) g26.1 (lnq_lt (c := 9) (b := 280) (n := 4) (m := 800) (by decide) (by decide) g23.1 g23.2 g26.2) d_11_3_100 ?_
      refine lv_iconst (v := iI 1) hx hb d_11_3_101 rfl ?_
      refine zadd hx hb d_11_3_102 ?_
      refine lv_istore (lv' := [(7, .int (iI ((B 9 l0 (280 + l5.toNat) (zmax (l2 - 1) 0)) + 1))), (6, va_rf (zrf ad 4 (B 6 l1 0 l5))), (5, .int (iI l5)), (3, .long (lI l3)), (2, .int (iI l2)), (0, .ref (ad 9 l0 0)), (1, .ref (ad 6 l1 0))]) hx hb d_11_3_103 hl (by decide) (by cases zrf ad 4 (B 6 l1 0 l5) <;> rfl) (fun ls hl => ?_)
      refine lv_iload hx hb d_11_3_105 (lv_at hl 0 rfl) ?_
      refine zaload hx hb d_11_3_107 (lv_at hl 1 rfl) ?_
      obtain ⟨g27, hf⟩ := gif hf
      refine zunrf g27.1 ?_
      refine zget (ci := 4) (C := RX4) (T := TX4) (v := .int (iI (F 4 (B 6 l1 0 l5) 6))) (k := 6) hx hb hts inW_4 hown hK hZ g27.1 g27.2 rfl (by decide) k_4_137 rfl d_11_3_109 ?_
      obtain ⟨g28, hf⟩ := gif hf
      obtain ⟨g29, hf⟩ := gif hf
      refine zge (tgt := 135) hx hb g28 g29 d_11_3_112 (by decide) (fun h30 => ?_) (fun h30 => ?_)
      · replace hf := gpos hf h30
        exact b_Study_findMoments_135 X hrec29 ih hf hZ hS (lv_sub hl [0, 2, 3, 4, 5, 6] rfl)
      · replace hf := gneg hf h30
        refine zaload hx hb d_11_3_115 (lv_at hl 1 rfl) ?_
        refine zunrf g27.1 ?_
        refine zget (ci := 4) (C := RX4) (T := TX4) (v := .ref (ad 4 (B 6 l1 0 l5) (5 + 1))) (k := 5) hx hb hts inW_4 hown hK hZ g27.1 g27.2 rfl (by decide) k_4_132 rfl d_11_3_117 ?_
        refine lv_iload hx hb d_11_3_120 (lv_at hl 0 rfl) ?_
        obtain ⟨g31, hf⟩ := gif hf
        refine zaldR (t := 1) (x := 7) (ci := 4) (k := 5) hx hb hK rfl rfl hZ g27.1 g27.2 rfl (Nat.le_of_ble_eq_true rfl) g31.1 g31.2 d_11_3_122 ?_
        obtain ⟨g33, hf⟩ := gif hf
        refine zunrf g33.1 ?_
        refine zget (ci := 1) (C := RX1) (T := TX1) (v := .long (lI (F 1 (B 4 (B 6 l1 0 l5) 5 ((B 9 l0 (280 + l5.toNat) (zmax (l2 - 1) 0)) + 1)) 0))) (k := 0) hx hb hts inW_1 hown hK hZ g33.1 g33.2 rfl (by decide) k_2_20 rfl d_11_3_123 ?_
        refine lv_lload_n hx hb d_11_3_126 rfl (lv_at hl 3 rfl) ?_
        obtain ⟨g34, hf⟩ := gif hf
        obtain ⟨g35, hf⟩ := gif hf
        refine zcmp_r hx hb g34 g35 d_11_3_127 ?_
        refine z0ne (tgt := 135) hx hb zcmp_32 d_11_3_128 (by decide) (fun h36 => ?_) (fun h36 => ?_)
        · replace hf := gneg hf h36
          exact b_Study_findMoments_135 X hrec29 ih hf hZ hS (lv_sub hl [0, 2, 3, 4, 5, 6] rfl)
        · replace hf := gpos hf h36
          refine lv_iconst (v := iI 1) hx hb d_11_3_131 rfl ?_
          refine lv_goto (tgt := 136) hx hb d_11_3_132 (by decide) ?_
          exact b_Study_findMoments_136 X hrec29 ih hf hZ hS (lv_sub hl [0, 2, 3, 4, 5, 6] rfl)

noncomputable def f_Study_findMoments_29 (K : zK) : Nat → Int → Int → Int → zF → zB → zO
  | 0, _, _, _, _, _ => none
  | n + 1, l2, l0, l1, F, B => if 0 ≤ l0 ∧ l0 < K.2 9 then if r32 l2 then (if 800 ≤ l2 then some (0, F, B) else if r32 (l2 - 1) then zbind (f_Study_nextPlace K l0 l1 (zmax (l2 - 1) 0) F B) (fun r12 F12 B12 => if r64 r12 then (if 0 ≤ (zcmp r12 0) then if 0 ≤ l2 ∧ l2 < 800 then f_Study_findMoments_68 (f_Study_findMoments_29 K n) K K.1 0 r12 l2 l0 l1 F12 (zup4 B12 9 l0 1 l2 r12) else none else some (0, F12, B12)) else none) else none) else none else none
set_option maxHeartbeats 4000000 in
set_option maxRecDepth 100000 in
theorem b_Study_findMoments_29 {D : va_G} {ca : Nat → ClassId} {ad : Nat → Int → Nat → Nat} {L : List Nat} {aS vS : Nat → Nat} {A : Nat → Prop} {p : Program} {l : Launch} {e : Env} {s : State} {m : MethodId} {args : Array Value} {below : List Frame} {meth : Method} {c : Code} {K : zK} {r : Int} {F9 : zF} {B9 : zB} (X : zX D ca L aS vS A p s m args meth c prog_11_method_3_code 9 (Option.none : Option Jvm.ClassFile.FieldType) "StaveHouse$Study") : ∀ {n : Nat} {l2 : Int} {l0 : Int} {l1 : Int} {F : zF} {B : zB} {H : Heap} {locs : List Loc} {ls : Array Slot}, f_Study_findMoments_29 K n l2 l0 l1 F B = some (r, F9, B9) → zH D ca ad lnC K.2 L F B A H → va_S A s.heap H locs → lv_has ls 9 [(2, .int (iI l2)), (0, .ref (ad 9 l0 0)), (1, .ref (ad 6 l1 0))] → W p l e ({ frames := 1, cells := 0, slots := 0, locals := 27 } : Room) s m args below meth c H locs 0 0 (MQ below (Q_Study_findMoments K D ca ad L r F9 B9 A) args s 0 0 A) (F0 m 29 ls []) := by
  obtain ⟨hx, hb, hr, hml, hown, hts, hlk, hK, hA, hL, hX⟩ := id X
  intro n
  induction n with
  | zero =>
    intros
    rename_i hf _ _ _
    cases hf
  | succ n ih =>
    intro l2 l0 l1 F B H locs ls hf hZ hS hl
    replace hf : (if 0 ≤ l0 ∧ l0 < K.2 9 then if r32 l2 then (if 800 ≤ l2 then some (0, F, B) else if r32 (l2 - 1) then zbind (f_Study_nextPlace K l0 l1 (zmax (l2 - 1) 0) F B) (fun r12 F12 B12 => if r64 r12 then (if 0 ≤ (zcmp r12 0) then if 0 ≤ l2 ∧ l2 < 800 then f_Study_findMoments_68 (f_Study_findMoments_29 K n) K K.1 0 r12 l2 l0 l1 F12 (zup4 B12 9 l0 1 l2 r12) else none else some (0, F12, B12)) else none) else none) else none else none) = some (r, F9, B9) := hf
    refine lv_iload_n hx hb d_11_3_29 rfl (lv_at hl 0 rfl) ?_
    refine lv_aload_n hx hb d_11_3_30 rfl (lv_at hl 1 rfl) ?_
    obtain ⟨g8, hf⟩ := gif hf
    refine zget (ci := 9) (C := RX9) (T := TX9) (v := .ref (ad 9 l0 (1 + 1))) (k := 1) hx hb hts inW_9 hown hK hZ g8.1 g8.2 rfl (by decide) k_5_199 rfl d_11_3_31 ?_
    refine zlen (t := 1) (x := 1) (ci := 9) (k := 1) hx hb hK rfl (fun _ _ => ⟨_, rfl⟩) hZ g8.1 g8.2 rfl d_11_3_34 ?_
    refine W.eq (g2 := F0 m 35 ls [.int (iI 800), .int (iI l2)]) rfl ?_
    obtain ⟨g9, hf⟩ := gif hf
    refine zge (tgt := 180) hx hb g9 (by decide) d_11_3_35 (by decide) (fun h10 => ?_) (fun h10 => ?_)
    · replace hf := gpos hf h10
      cases hf
      exact W.vret hx hb hr (fun t ht hW => ⟨⟨(), rfl, trivial, by rw [ht]; exact hZ, va_K.moved hW.alike hK⟩, hS.F ht⟩) hS.2.2 d_11_3_180 hlk
    · replace hf := gneg hf h10
      refine lv_aload_n hx hb d_11_3_38 rfl (lv_at hl 1 rfl) ?_
      refine lv_aload_n hx hb d_11_3_39 rfl (lv_at hl 2 rfl) ?_
      refine lv_iload_n hx hb d_11_3_40 rfl (lv_at hl 0 rfl) ?_
      refine lv_iconst (v := iI 1) hx hb d_11_3_41 rfl ?_
      refine zsub hx hb d_11_3_42 ?_
      refine lv_iconst (v := iI 0) hx hb d_11_3_43 rfl ?_
      obtain ⟨g11, hf⟩ := gif hf
      refine va_mmax hx hb (by rw [hml]; exact hl.1.symm) hown (hts _ k_6_3) (hts _ k_1_39) (hts _ k_1_3) (hts _ k_1_40) (Nat.le_of_ble_eq_true rfl) (Nat.le_of_ble_eq_true rfl) (Nat.le_of_ble_eq_true rfl) (Nat.le_of_ble_eq_true rfl) d_11_3_44 ?_
      rw [zmax_e g11 (by decide)]
      obtain ⟨r12, F12, B12, hc12, hf⟩ := gbind hf
      refine va_calll (va_runV (As := [.ref (ad 6 l1 0), .int (iI (zmax (l2 - 1) 0))]) (rest := []) ⟨hx, hb, hml, hown, hts⟩ (c_Study_nextPlace (l := l) hc12) (cwV 2 hts (gdV k_6_4 k_6_6 ks_67 k_1_19 k_6_7) rfl rfl rfl (by decide +kernel) ⟨Nat.le_of_ble_eq_true rfl, Nat.le_of_ble_eq_true rfl⟩) (zPV X hZ hS (ci := 9) g8.1 g8.2 (r := (RX9, TX9, 11)) rfl [.ref (ad 6 l1 0), .int (iI (zmax (l2 - 1) 0))]) rfl rfl hl.1 rfl (lv_room (Nat.le_of_ble_eq_true rfl)) d_11_3_47 ⟨Nat.le_of_ble_eq_true rfl, Nat.le_of_ble_eq_true rfl⟩) hS (fun q _ h => zAin X hS q h) (zAin X hS) (fun p12 u12 t12 H12 locs12 ht12 hv12 hw12 hB12 hz12 hk12 hS12 => ?_)
      have hZ12 := zBack X ht12 hB12
      subst hw12
      refine lv_lstore_n (lv' := [(3, .long (lI r12)), (2, .int (iI l2)), (0, .ref (ad 9 l0 0)), (1, .ref (ad 6 l1 0))]) hx hb d_11_3_50 rfl hl (by decide) rfl (fun ls hl => ?_)
      refine lv_lload_n hx hb d_11_3_51 rfl (lv_at hl 0 rfl) ?_
      refine lv_lconst (v := lI 0) hx hb d_11_3_52 (by decide) ?_
      obtain ⟨g13, hf⟩ := gif hf
      refine zcmp_r hx hb g13 (by decide) d_11_3_53 ?_
      refine z0ge (tgt := 58) hx hb zcmp_32 d_11_3_54 (by decide) (fun h14 => ?_) (fun h14 => ?_)
      · replace hf := gpos hf h14
        refine lv_aload_n hx hb d_11_3_58 rfl (lv_at hl 2 rfl) ?_
        refine zget (ci := 9) (C := RX9) (T := TX9) (v := .ref (ad 9 l0 (1 + 1))) (k := 1) hx hb hts inW_9 hown hK hZ12 g8.1 g8.2 rfl (by decide) k_5_199 rfl d_11_3_59 ?_
        refine lv_iload_n hx hb d_11_3_62 rfl (lv_at hl 1 rfl) ?_
        refine lv_lload_n hx hb d_11_3_63 rfl (lv_at hl 0 rfl) ?_
        obtain ⟨g15, hf⟩ := gif hf
        refine zlast (ci := 9) (k := 1) hx hb hK rfl hZ12 hS12 g8.1 g8.2 rfl (Nat.le_of_ble_eq_true rfl) g15.1 g15.2 d_11_3_64 (fun H16 locs16 hZ16 hS16 => ?_)
        refine lv_iconst (v := iI 0) hx hb d_11_3_65 rfl ?_
        refine lv_istore (lv' := [(5, .int (iI 0)), (3, .long (lI r12)), (2, .int (iI l2)), (0, .ref (ad 9 l0 0)), (1, .ref (ad 6 l1 0))]) hx hb d_11_3_66 hl (by decide) rfl (fun ls hl => ?_)
        exact b_Study_findMoments_68 X ih hf hZ16 hS16 (lv_sub hl [0, 1, 2, 3, 4] rfl)
      · replace hf := gneg hf h14
        cases hf
        exact W.vret hx hb hr (fun t ht hW => ⟨⟨(), rfl, trivial, by rw [ht]; exact hZ12, va_K.moved hW.alike hK⟩, hS12.F ht⟩) hS12.2.2 d_11_3_57 hlk

noncomputable def f_Study_findMoments_7 (K : zK) : Nat → Int → Int → Int → zF → zB → zO
  | 0, _, _, _, _, _ => none
  | n + 1, l2, l0, l1, F, B => if r32 l2 then (if 4 ≤ l2 then f_Study_findMoments_29 K K.1 0 l0 l1 F B else if 0 ≤ l0 ∧ l0 < K.2 9 then if 0 ≤ l2 ∧ l2 < 4 then f_Study_findMoments_7 K n (l2 + 1) l0 l1 F (zup4 B 9 l0 (280 + l2.toNat) 0 (-1)) else none else none) else none
set_option maxHeartbeats 4000000 in
set_option maxRecDepth 100000 in
theorem b_Study_findMoments_7 {D : va_G} {ca : Nat → ClassId} {ad : Nat → Int → Nat → Nat} {L : List Nat} {aS vS : Nat → Nat} {A : Nat → Prop} {p : Program} {l : Launch} {e : Env} {s : State} {m : MethodId} {args : Array Value} {below : List Frame} {meth : Method} {c : Code} {K : zK} {r : Int} {F9 : zF} {B9 : zB} (X : zX D ca L aS vS A p s m args meth c prog_11_method_3_code 9 (Option.none : Option Jvm.ClassFile.FieldType) "StaveHouse$Study") : ∀ {n : Nat} {l2 : Int} {l0 : Int} {l1 : Int} {F : zF} {B : zB} {H : Heap} {locs : List Loc} {ls : Array Slot}, f_Study_findMoments_7 K n l2 l0 l1 F B = some (r, F9, B9) → zH D ca ad lnC K.2 L F B A H → va_S A s.heap H locs → lv_has ls 9 [(2, .int (iI l2)), (0, .ref (ad 9 l0 0)), (1, .ref (ad 6 l1 0))] → W p l e ({ frames := 1, cells := 0, slots := 0, locals := 27 } : Room) s m args below meth c H locs 0 0 (MQ below (Q_Study_findMoments K D ca ad L r F9 B9 A) args s 0 0 A) (F0 m 7 ls []) := by
  obtain ⟨hx, hb, hr, hml, hown, hts, hlk, hK, hA, hL, hX⟩ := id X
  intro n
  induction n with
  | zero =>
    intros
    rename_i hf _ _ _
    cases hf
  | succ n ih =>
    intro l2 l0 l1 F B H locs ls hf hZ hS hl
    replace hf : (if r32 l2 then (if 4 ≤ l2 then f_Study_findMoments_29 K K.1 0 l0 l1 F B else if 0 ≤ l0 ∧ l0 < K.2 9 then if 0 ≤ l2 ∧ l2 < 4 then f_Study_findMoments_7 K n (l2 + 1) l0 l1 F (zup4 B 9 l0 (280 + l2.toNat) 0 (-1)) else none else none) else none) = some (r, F9, B9) := hf
    refine lv_iload_n hx hb d_11_3_7 rfl (lv_at hl 0 rfl) ?_
    refine lv_iconst (v := iI 4) hx hb d_11_3_8 rfl ?_
    obtain ⟨g3, hf⟩ := gif hf
    refine zge (tgt := 27) hx hb g3 (by decide) d_11_3_9 (by decide) (fun h4 => ?_) (fun h4 => ?_)
    · replace hf := gpos hf h4
      refine lv_iconst (v := iI 0) hx hb d_11_3_27 rfl ?_
      refine lv_istore_n (lv' := [(2, .int (iI 0)), (0, .ref (ad 9 l0 0)), (1, .ref (ad 6 l1 0))]) hx hb d_11_3_28 rfl hl (by decide) rfl (fun ls hl => ?_)
      exact b_Study_findMoments_29 X hf hZ hS (lv_sub hl [0, 1, 2] rfl)
    · replace hf := gneg hf h4
      refine lv_aload_n hx hb d_11_3_12 rfl (lv_at hl 1 rfl) ?_
      obtain ⟨g5, hf⟩ := gif hf
      refine zget (ci := 9) (C := RX9) (T := TX9) (v := .ref (ad 9 l0 (4 + 1))) (k := 4) hx hb hts inW_9 hown hK hZ g5.1 g5.2 rfl (by decide) k_5_205 rfl d_11_3_13 ?_
      refine lv_iload_n hx hb d_11_3_16 rfl (lv_at hl 0 rfl) ?_
      obtain ⟨g6, hf⟩ := gif hf
      refine zaldQ (t := 0) (ci := 9) (k := 4) hx hb hK rfl hZ g5.1 g5.2 rfl (Nat.le_of_ble_eq_true rfl) g6.1 g6.2 d_11_3_17 ?_
      refine W.eq (g2 := F0 m 18 ls [.ref (ad 9 l0 (280 + l2.toNat + 1))]) rfl ?_
      refine lv_iconst (v := iI 0) hx hb d_11_3_18 rfl ?_
      refine lv_iconst (v := iI (-1)) hx hb d_11_3_19 rfl ?_
      refine zast (ci := 9) (k := (280 + l2.toNat)) hx hb hK rfl hZ hS g5.1 g5.2 (zkq (c := 9) (b := 280) (n := 4) (t := 0) (by decide) g6.1 g6.2) (lnq_le (c := 9) (b := 280) (n := 4) (m := 800) (by decide) (by decide) (by decide) g6.1 g6.2) (by decide) (lnq_lt (c := 9) (b := 280) (n := 4) (m := 800) (by decide) (by decide) g6.1 g6.2 (show (0 : Int) < 800 by decide)) d_11_3_20 (fun H7 locs7 hZ7 hS7 => ?_)
      refine lv_iinc (v := iI (l2 + 1)) (lv' := [(2, .int (iI (l2 + 1))), (0, .ref (ad 9 l0 0)), (1, .ref (ad 6 l1 0))]) hx hb d_11_3_21 hl (k := 0) rfl (iI_add _ 1) (by decide) rfl (fun ls hl => ?_)
      refine lv_goto (tgt := 7) hx hb d_11_3_24 (by decide) ?_
      exact ih hf hZ7 hS7 (lv_sub hl [0, 1, 2] rfl)

noncomputable def f_Study_findMoments (K : zK) (l0 : Int) (l1 : Int) (F : zF) (B : zB) : zO := if 0 ≤ l0 ∧ l0 < K.2 9 then f_Study_findMoments_7 K K.1 0 l0 l1 (zup3 F 9 l0 0 0) B else none
set_option maxHeartbeats 4000000 in
set_option maxRecDepth 100000 in
theorem c_Study_findMoments {l : Launch} {D : va_G} {ca : Nat → ClassId} {ad : Nat → Int → Nat → Nat} {L : List Nat} {aS vS : Nat → Nat} {sz : Nat} {K : zK}  {l0 : Int} {l1 : Int} {F F9 : zF} {B B9 : zB} {r : Int} (hf : f_Study_findMoments K l0 l1 F B = some (r, F9, B9)) : Met l ({ cls := "StaveHouse$Study", name := "findMoments", desc := "(LStaveHouse$Piece;)V" } : Jvm.MethodName) (Cond.code ({ cls := "StaveHouse$Study", name := "findMoments", desc := "(LStaveHouse$Piece;)V" } : Jvm.MethodName) prog_11_method_3_code 9 (Option.none : Option Jvm.ClassFile.FieldType) :: wAll) ({ frames := 1, cells := 0, slots := 0, locals := 27 } : Room) (va_Pc [.ref (ad 9 l0 0), .ref (ad 6 l1 0)] (zPre D ca ad lnC K.2 L aS vS F B sz)) (Q_Study_findMoments K D ca ad L r F9 B9 (zA L sz)) 0 0 (zA L sz) := by
  refine zMet (Qc := Q_Study_findMoments K D ca ad L r F9 B9) (lv := [(0, .ref (ad 9 l0 0)), (1, .ref (ad 6 l1 0))]) (by decide) (Nat.le_of_ble_eq_true rfl) rfl (fun A p e s m below meth c ls X hZ hS hl => ?_)
  obtain ⟨hx, hb, hr, hml, hown, hts, hlk, hK, hA, hL, hX⟩ := id X
  replace hf : (if 0 ≤ l0 ∧ l0 < K.2 9 then f_Study_findMoments_7 K K.1 0 l0 l1 (zup3 F 9 l0 0 0) B else none) = some (r, F9, B9) := hf
  refine lv_aload_n hx hb d_11_3_0 rfl (lv_at hl 0 rfl) ?_
  refine lv_iconst (v := iI 0) hx hb d_11_3_1 rfl ?_
  obtain ⟨g1, hf⟩ := gif hf
  refine zput (ci := 9) (C := RX9) (T := TX9) (k := 0) (v := 0) (w := .int (iI 0)) hx hb hts inW_9 tyX9 tyX9_ok nmX9 hown hK hZ hS g1.1 g1.2 rfl (by decide) k_5_197 rfl (fun G h => congrArg (fun q => Value.int (iI q)) h) rfl rfl (zno (by decide)) d_11_3_2 (fun H2 locs2 hZ2 hS2 => ?_)
  refine lv_iconst (v := iI 0) hx hb d_11_3_5 rfl ?_
  refine lv_istore_n (lv' := [(2, .int (iI 0)), (0, .ref (ad 9 l0 0)), (1, .ref (ad 6 l1 0))]) hx hb d_11_3_6 rfl hl (by decide) rfl (fun ls hl => ?_)
  exact b_Study_findMoments_7 X hf hZ2 hS2 (lv_sub hl [0, 1, 2] rfl)


