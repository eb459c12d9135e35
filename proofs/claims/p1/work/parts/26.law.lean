theorem k_1_24 : (Jvm.Cond.classLink "StaveHouseLaw" (7 : Nat) "StaveHouse") ∈ wAll := wA_1 (j := 24) rfl rfl
theorem k_1_28 : (Jvm.Cond.code ({ cls := "StaveHouse", name := "<init>", desc := "()V" } : Jvm.MethodName) prog_1_method_1_code (1 : Nat) (Option.none : Option Jvm.ClassFile.FieldType)) ∈ wAll := wA_1 (j := 28) rfl rfl
theorem k_1_26 : (Jvm.Cond.methodLink "StaveHouseLaw" (9 : Nat) ({ cls := "StaveHouse", name := "<init>", desc := "()V" } : Jvm.MethodName)) ∈ wAll := wA_1 (j := 26) rfl rfl
theorem k_1_27 : (Jvm.Cond.instanceMethod ({ cls := "StaveHouse", name := "<init>", desc := "()V" } : Jvm.MethodName)) ∈ wAll := wA_1 (j := 27) rfl rfl
theorem k_9_112 : (Jvm.Cond.classLink "StaveHouseLaw" (10 : Nat) "StaveHouseModel") ∈ wAll := wA_9 (j := 112) rfl rfl
theorem k_9_116 : (Jvm.Cond.code ({ cls := "StaveHouseModel", name := "<init>", desc := "()V" } : Jvm.MethodName) prog_15_method_11_code (1 : Nat) (Option.none : Option Jvm.ClassFile.FieldType)) ∈ wAll := wA_9 (j := 116) rfl rfl
theorem k_9_114 : (Jvm.Cond.methodLink "StaveHouseLaw" (12 : Nat) ({ cls := "StaveHouseModel", name := "<init>", desc := "()V" } : Jvm.MethodName)) ∈ wAll := wA_9 (j := 114) rfl rfl
theorem k_9_115 : (Jvm.Cond.instanceMethod ({ cls := "StaveHouseModel", name := "<init>", desc := "()V" } : Jvm.MethodName)) ∈ wAll := wA_9 (j := 115) rfl rfl
theorem d_code_27 : decode code 27 = .ok (.aload_n 0, 1) := by decide +kernel
theorem d_code_28 : decode code 28 = .ok (.iload_n 3, 1) := by decide +kernel
theorem d_code_29 : decode code 29 = .ok (.iaload, 1) := by decide +kernel
theorem d_code_30 : decode code 30 = .ok (.bipush 31, 2) := by decide +kernel
theorem d_code_32 : decode code 32 = .ok (.iand, 1) := by decide +kernel
theorem d_code_33 : decode code 33 = .ok (.tableswitch 1165 0 26 #[123, 184, 207, 230, 263, 306, 340, 394, 457, 511, 544, 588, 631, 654, 697, 720, 743, 756, 769, 792, 826, 849, 882, 925, 969, 1012, 1066], 123) := by decide +kernel
theorem d_code_0 : decode code 0 = .ok (.new 7, 3) := by decide +kernel
theorem d_code_3 : decode code 3 = .ok (.dup, 1) := by decide +kernel
theorem d_code_4 : decode code 4 = .ok (.invokespecial 9, 3) := by decide +kernel
theorem d_code_7 : decode code 7 = .ok (.astore_n 1, 1) := by decide +kernel
theorem d_code_8 : decode code 8 = .ok (.new 10, 3) := by decide +kernel
theorem d_code_11 : decode code 11 = .ok (.dup, 1) := by decide +kernel
theorem d_code_12 : decode code 12 = .ok (.invokespecial 12, 3) := by decide +kernel
theorem d_code_15 : decode code 15 = .ok (.astore_n 2, 1) := by decide +kernel
theorem d_code_16 : decode code 16 = .ok (.iconst 0, 1) := by decide +kernel
theorem d_code_17 : decode code 17 = .ok (.istore_n 3, 1) := by decide +kernel
set_option maxHeartbeats 8000000 in
set_option maxRecDepth 100000 in
theorem law_18 {p : Program} {l : Launch} {e : Env} {s : State} {m : MethodId} {below : List Frame} {meth : Method} {c : Code} {b : Nat} {xs : Nat → Int32} {L : Nat} (hL : L ≤ 9) (C0 : lw_At p s m meth c b L xs) {D : va_G} {ca : Nat → ClassId} {ad av : Nat → Nat} {A : Nat → Prop} (hA : ∀ q, s.heap.size ≤ q → A q) (hA2 : ∀ q, A q → s.heap.size ≤ q) {xx : Nat} {cx1 : Nat} {cx3 : Nat} {cx5 : Nat} {cx7 : Nat} {cx9 : Nat} {cx11 : Nat} {cx13 : Nat} {cx15 : Nat} {cx17 : Nat} {cx19 : Nat} {cx21 : Nat} {mm : Nat} {cm1 : Nat} {cm3 : Nat} {cm5 : Nat} {cm7 : Nat} {cm9 : Nat} {cm11 : Nat} {cm13 : Nat} {cm15 : Nat} {cm17 : Nat} {cx0 : Nat → Value} {cx2 : Nat → Value} {cx4 : Nat → Option Nat} {cx6 : Nat → Value} {cx8 : Nat → Int32} {cx10 : Nat → Value} {cx12 : Nat → Value} {cx14 : Nat → Int32} {cx16 : Nat → Int32} {cx18 : Nat → Int64} {cx20 : Nat → Int32} {cx22 : Nat → Int32} {cm0 : Nat → Value} {cm2 : Nat → Int32} {cm4 : Nat → Int32} {cm6 : Nat → Int32} {cm8 : Nat → Value} {cm10 : Nat → Option Nat} {cm12 : Nat → Int32} {cm14 : Nat → Int32} {cm16 : Nat → Value} {cm18 : Nat → Value} (hcx0 : gF cx0 [(4, .ref cx1), (3, .ref cx3), (2, .ref cx5), (1, .ref cx7), (0, .ref cx9), (7, .null), (8, .null), (9, .null)]) (hcx1 : gF cx2 [(11, .ref cx11), (16, .int 0), (21, .int 0)]) (hcx2 : gF cx4 [(0, none), (1, none)]) (hcx3 : gF cx6 [(0, .ref cx13), (1, .int 0), (2, .int 0)]) (hcx4 : gF cx8 []) (hcx5 : gF cx10 [(0, .ref cx15), (1, .int 0), (2, .int 0)]) (hcx6 : gF cx12 [(7, .ref cx17), (6, .ref cx19), (5, .ref cx21), (0, .int 0), (1, .int 0), (2, .long 0), (8, .int 0)]) (hcx7 : gF cx14 []) (hcx8 : gF cx16 []) (hcx9 : gF cx18 []) (hcx10 : gF cx20 []) (hcx11 : gF cx22 []) (hcm0 : gF cm0 [(74, .ref cm1), (8, .ref cm3), (7, .ref cm5), (6, .ref cm7), (5, .ref cm9), (4, .ref cm11), (2, .ref cm13), (3, .int 0), (12, .int 0), (16, .int 0), (17, .int 0), (18, .int 0), (71, .int 0), (72, .int 0), (89, .int 0), (90, .long 0), (94, .int 0)]) (hcm1 : gF cm2 []) (hcm2 : gF cm4 []) (hcm3 : gF cm6 []) (hcm4 : gF cm8 [(0, .int 0), (1, .int 0)]) (hcm5 : gF cm10 [(1, some cm15), (0, some cm17)]) (hcm6 : gF cm12 []) (hcm7 : gF cm14 []) (hcm8 : gF cm16 [(0, .int 0), (1, .int 0)]) (hcm9 : gF cm18 [(0, .int 0), (1, .int 0)]) (hK : va_K D cls (tyL ca) s) (hX : gX ad av A s s.heap) {H : Heap} {locs : List Loc} (hP : va_P D cls [(xx, .inr (12, rg 10 cx0)), (cx1, .inr (3, rg 22 cx2)), (cx3, .inl (ca 4, 2, .inr (.inr (.inr (.inr cx4))))), (cx5, .inr (0, rg 3 cx6)), (cx7, .inl (ca 0, 20, .inl cx8)), (cx9, .inr (0, rg 3 cx10)), (cx11, .inr (10, rg 9 cx12)), (cx13, .inl (ca 0, 20480, .inl cx14)), (cx15, .inl (ca 0, 3000, .inl cx16)), (cx17, .inl (ca 1, 3001, .inr (.inl cx18))), (cx19, .inl (ca 0, 3001, .inl cx20)), (cx21, .inl (ca 0, 3001, .inl cx22)), (mm, .inr (14, rg 107 cm0)), (cm1, .inl (ca 0, 8, .inl cm2)), (cm3, .inl (ca 0, 3001, .inl cm4)), (cm5, .inl (ca 0, 3001, .inl cm6)), (cm7, .inr (13, rg 81 cm8)), (cm9, .inl (ca 5, 2, .inr (.inr (.inr (.inr cm10))))), (cm11, .inl (ca 2, 20, .inl cm12)), (cm13, .inl (ca 2, 3000, .inl cm14)), (cm15, .inr (13, rg 81 cm16)), (cm17, .inr (13, rg 81 cm18))] H) (hD : va_D A [(xx, .inr (12, rg 10 cx0)), (cx1, .inr (3, rg 22 cx2)), (cx3, .inl (ca 4, 2, .inr (.inr (.inr (.inr cx4))))), (cx5, .inr (0, rg 3 cx6)), (cx7, .inl (ca 0, 20, .inl cx8)), (cx9, .inr (0, rg 3 cx10)), (cx11, .inr (10, rg 9 cx12)), (cx13, .inl (ca 0, 20480, .inl cx14)), (cx15, .inl (ca 0, 3000, .inl cx16)), (cx17, .inl (ca 1, 3001, .inr (.inl cx18))), (cx19, .inl (ca 0, 3001, .inl cx20)), (cx21, .inl (ca 0, 3001, .inl cx22)), (mm, .inr (14, rg 107 cm0)), (cm1, .inl (ca 0, 8, .inl cm2)), (cm3, .inl (ca 0, 3001, .inl cm4)), (cm5, .inl (ca 0, 3001, .inl cm6)), (cm7, .inr (13, rg 81 cm8)), (cm9, .inl (ca 5, 2, .inr (.inr (.inr (.inr cm10))))), (cm11, .inl (ca 2, 20, .inl cm12)), (cm13, .inl (ca 2, 3000, .inl cm14)), (cm15, .inr (13, rg 81 cm16)), (cm17, .inr (13, rg 81 cm18))]) (hS : va_S A s.heap H locs) {ls : Array Slot} (hl : lv_has ls 4 [(3, .int 0), (2, .ref mm), (1, .ref xx), (0, .ref b)]) : W p l e room_1 s m #[Value.ref b] below meth c H locs 282 716534 (lw_Z below #[Value.ref b] s) (F0 m 18 ls []) := by
  obtain ⟨hx, hb, hr, hml, hown, hts0, hXs, hbl, hlocks, hgv⟩ := id C0
  have hts := wA_hts hts0
  have hbA : ¬ A b := fun z => Nat.not_le.mpr hbl (hA2 b z)
  refine lv_iload_n hx hb d_code_18 rfl (lv_at hl 0 rfl) ?_
  refine lv_aload_n hx hb d_code_19 rfl (lv_at hl 3 rfl) ?_
  refine va_slen hx hb hXs hbl hbA hS d_code_20 ?_
  refine lv_bipush (v := 9) hx hb d_code_21 (by decide) ?_
  refine lv_isub hx hb d_code_23 ?_
  refine lv_topi (fun y2 ey2 => ?_)
  by_cases h9 : L = 9
  · subst h9
    obtain rfl : y2 = 0 := ey2.trans (by decide)
    refine lv_icmp_gt (tgt := 1204) hx hb d_code_24 (by decide) (fun c => absurd c (by decide)) (fun _ => ?_)
    refine lv_aload_n hx hb d_code_27 rfl (lv_at hl 3 rfl) ?_
    refine lv_iload_n hx hb d_code_28 rfl (lv_at hl 0 rfl) ?_
    refine va_sld hx hb hXs hbl hbA hS (vinC (by decide)) d_code_29 ?_
    refine W.eq (g2 := F0 m 30 ls [.int (xs 0)]) rfl ?_
    refine lv_bipush (v := 31) hx hb d_code_30 (by decide) ?_
    refine lv_iand hx hb d_code_32 ?_
    refine lv_topi (fun y3 ey3 => ?_)
    by_cases ho : y3.toInt < 0 ∨ 26 < y3.toInt
    · refine lv_tableOut (tgt := 1198) hx hb d_code_33 ho (by decide) ?_
      exact law_tail C0 hA2 hS (Nat.le_of_ble_eq_true rfl) (Nat.le_of_ble_eq_true rfl) hl
    · rcases (by omega : y3.toInt = 0 ∨ y3.toInt = 1 ∨ y3.toInt = 2 ∨ y3.toInt = 3 ∨ y3.toInt = 4 ∨ y3.toInt = 5 ∨ y3.toInt = 6 ∨ y3.toInt = 7 ∨ y3.toInt = 8 ∨ y3.toInt = 9 ∨ y3.toInt = 10 ∨ y3.toInt = 11 ∨ y3.toInt = 12 ∨ y3.toInt = 13 ∨ y3.toInt = 14 ∨ y3.toInt = 15 ∨ y3.toInt = 16 ∨ y3.toInt = 17 ∨ y3.toInt = 18 ∨ y3.toInt = 19 ∨ y3.toInt = 20 ∨ y3.toInt = 21 ∨ y3.toInt = 22 ∨ y3.toInt = 23 ∨ y3.toInt = 24 ∨ y3.toInt = 25 ∨ y3.toInt = 26) with h | h | h | h | h | h | h | h | h | h | h | h | h | h | h | h | h | h | h | h | h | h | h | h | h | h | h
      · refine lv_tableIn (off := 123) (tgt := 156) hx hb d_code_33 (by rw [h]; decide) (by rw [h]; decide) (by rw [h]; rfl) (by decide) ?_
        exact law_case_0 C0 hA hA2 hcx0 hcx1 hcx2 hcx3 hcx4 hcx5 hcx6 hcx7 hcx8 hcx9 hcx10 hcx11 hcm0 hcm1 hcm2 hcm3 hcm4 hcm5 hcm6 hcm7 hcm8 hcm9 hK hX hP hD hS hl
      · refine lv_tableIn (off := 184) (tgt := 217) hx hb d_code_33 (by rw [h]; decide) (by rw [h]; decide) (by rw [h]; rfl) (by decide) ?_
        exact law_case_1 C0 hA hA2 hcx0 hcx1 hcx2 hcx3 hcx4 hcx5 hcx6 hcx7 hcx8 hcx9 hcx10 hcx11 hcm0 hcm1 hcm2 hcm3 hcm4 hcm5 hcm6 hcm7 hcm8 hcm9 hK hX hP hD hS hl
      · refine lv_tableIn (off := 207) (tgt := 240) hx hb d_code_33 (by rw [h]; decide) (by rw [h]; decide) (by rw [h]; rfl) (by decide) ?_
        exact law_case_2 C0 hA hA2 hcx0 hcx1 hcx2 hcx3 hcx4 hcx5 hcx6 hcx7 hcx8 hcx9 hcx10 hcx11 hcm0 hcm1 hcm2 hcm3 hcm4 hcm5 hcm6 hcm7 hcm8 hcm9 hK hX hP hD hS hl
      · refine lv_tableIn (off := 230) (tgt := 263) hx hb d_code_33 (by rw [h]; decide) (by rw [h]; decide) (by rw [h]; rfl) (by decide) ?_
        exact law_case_3 C0 hA hA2 hcx0 hcx1 hcx2 hcx3 hcx4 hcx5 hcx6 hcx7 hcx8 hcx9 hcx10 hcx11 hcm0 hcm1 hcm2 hcm3 hcm4 hcm5 hcm6 hcm7 hcm8 hcm9 hK hX hP hD hS hl
      · refine lv_tableIn (off := 263) (tgt := 296) hx hb d_code_33 (by rw [h]; decide) (by rw [h]; decide) (by rw [h]; rfl) (by decide) ?_
        exact law_case_4 C0 hA hA2 hcx0 hcx1 hcx2 hcx3 hcx4 hcx5 hcx6 hcx7 hcx8 hcx9 hcx10 hcx11 hcm0 hcm1 hcm2 hcm3 hcm4 hcm5 hcm6 hcm7 hcm8 hcm9 hK hX hP hD hS hl
      · refine lv_tableIn (off := 306) (tgt := 339) hx hb d_code_33 (by rw [h]; decide) (by rw [h]; decide) (by rw [h]; rfl) (by decide) ?_
        exact law_case_5 C0 hA hA2 hcx0 hcx1 hcx2 hcx3 hcx4 hcx5 hcx6 hcx7 hcx8 hcx9 hcx10 hcx11 hcm0 hcm1 hcm2 hcm3 hcm4 hcm5 hcm6 hcm7 hcm8 hcm9 hK hX hP hD hS hl
      · refine lv_tableIn (off := 340) (tgt := 373) hx hb d_code_33 (by rw [h]; decide) (by rw [h]; decide) (by rw [h]; rfl) (by decide) ?_
        exact law_case_6 C0 hA hA2 hcx0 hcx1 hcx2 hcx3 hcx4 hcx5 hcx6 hcx7 hcx8 hcx9 hcx10 hcx11 hcm0 hcm1 hcm2 hcm3 hcm4 hcm5 hcm6 hcm7 hcm8 hcm9 hK hX hP hD hS hl
      · refine lv_tableIn (off := 394) (tgt := 427) hx hb d_code_33 (by rw [h]; decide) (by rw [h]; decide) (by rw [h]; rfl) (by decide) ?_
        exact law_case_7 C0 hA hA2 hcx0 hcx1 hcx2 hcx3 hcx4 hcx5 hcx6 hcx7 hcx8 hcx9 hcx10 hcx11 hcm0 hcm1 hcm2 hcm3 hcm4 hcm5 hcm6 hcm7 hcm8 hcm9 hK hX hP hD hS hl
      · refine lv_tableIn (off := 457) (tgt := 490) hx hb d_code_33 (by rw [h]; decide) (by rw [h]; decide) (by rw [h]; rfl) (by decide) ?_
        exact law_case_8 C0 hA hA2 hcx0 hcx1 hcx2 hcx3 hcx4 hcx5 hcx6 hcx7 hcx8 hcx9 hcx10 hcx11 hcm0 hcm1 hcm2 hcm3 hcm4 hcm5 hcm6 hcm7 hcm8 hcm9 hK hX hP hD hS hl
      · refine lv_tableIn (off := 511) (tgt := 544) hx hb d_code_33 (by rw [h]; decide) (by rw [h]; decide) (by rw [h]; rfl) (by decide) ?_
        exact law_case_9 C0 hA hA2 hcx0 hcx1 hcx2 hcx3 hcx4 hcx5 hcx6 hcx7 hcx8 hcx9 hcx10 hcx11 hcm0 hcm1 hcm2 hcm3 hcm4 hcm5 hcm6 hcm7 hcm8 hcm9 hK hX hP hD hS hl
      · refine lv_tableIn (off := 544) (tgt := 577) hx hb d_code_33 (by rw [h]; decide) (by rw [h]; decide) (by rw [h]; rfl) (by decide) ?_
        exact law_case_10 C0 hA hA2 hcx0 hcx1 hcx2 hcx3 hcx4 hcx5 hcx6 hcx7 hcx8 hcx9 hcx10 hcx11 hcm0 hcm1 hcm2 hcm3 hcm4 hcm5 hcm6 hcm7 hcm8 hcm9 hK hX hP hD hS hl
      · refine lv_tableIn (off := 588) (tgt := 621) hx hb d_code_33 (by rw [h]; decide) (by rw [h]; decide) (by rw [h]; rfl) (by decide) ?_
        exact law_case_11 C0 hA hA2 hcx0 hcx1 hcx2 hcx3 hcx4 hcx5 hcx6 hcx7 hcx8 hcx9 hcx10 hcx11 hcm0 hcm1 hcm2 hcm3 hcm4 hcm5 hcm6 hcm7 hcm8 hcm9 hK hX hP hD hS hl
      · refine lv_tableIn (off := 631) (tgt := 664) hx hb d_code_33 (by rw [h]; decide) (by rw [h]; decide) (by rw [h]; rfl) (by decide) ?_
        exact law_case_12 C0 hA hA2 hcx0 hcx1 hcx2 hcx3 hcx4 hcx5 hcx6 hcx7 hcx8 hcx9 hcx10 hcx11 hcm0 hcm1 hcm2 hcm3 hcm4 hcm5 hcm6 hcm7 hcm8 hcm9 hK hX hP hD hS hl
      · refine lv_tableIn (off := 654) (tgt := 687) hx hb d_code_33 (by rw [h]; decide) (by rw [h]; decide) (by rw [h]; rfl) (by decide) ?_
        exact law_case_13 C0 hA hA2 hcx0 hcx1 hcx2 hcx3 hcx4 hcx5 hcx6 hcx7 hcx8 hcx9 hcx10 hcx11 hcm0 hcm1 hcm2 hcm3 hcm4 hcm5 hcm6 hcm7 hcm8 hcm9 hK hX hP hD hS hl
      · refine lv_tableIn (off := 697) (tgt := 730) hx hb d_code_33 (by rw [h]; decide) (by rw [h]; decide) (by rw [h]; rfl) (by decide) ?_
        exact law_case_14 C0 hA hA2 hcx0 hcx1 hcx2 hcx3 hcx4 hcx5 hcx6 hcx7 hcx8 hcx9 hcx10 hcx11 hcm0 hcm1 hcm2 hcm3 hcm4 hcm5 hcm6 hcm7 hcm8 hcm9 hK hX hP hD hS hl
      · refine lv_tableIn (off := 720) (tgt := 753) hx hb d_code_33 (by rw [h]; decide) (by rw [h]; decide) (by rw [h]; rfl) (by decide) ?_
        exact law_case_15 C0 hA hA2 hcx0 hcx1 hcx2 hcx3 hcx4 hcx5 hcx6 hcx7 hcx8 hcx9 hcx10 hcx11 hcm0 hcm1 hcm2 hcm3 hcm4 hcm5 hcm6 hcm7 hcm8 hcm9 hK hX hP hD hS hl
      · refine lv_tableIn (off := 743) (tgt := 776) hx hb d_code_33 (by rw [h]; decide) (by rw [h]; decide) (by rw [h]; rfl) (by decide) ?_
        exact law_case_16 C0 hA hA2 hcx0 hcx1 hcx2 hcx3 hcx4 hcx5 hcx6 hcx7 hcx8 hcx9 hcx10 hcx11 hcm0 hcm1 hcm2 hcm3 hcm4 hcm5 hcm6 hcm7 hcm8 hcm9 hK hX hP hD hS hl
      · refine lv_tableIn (off := 756) (tgt := 789) hx hb d_code_33 (by rw [h]; decide) (by rw [h]; decide) (by rw [h]; rfl) (by decide) ?_
        exact law_case_17 C0 hA hA2 hcx0 hcx1 hcx2 hcx3 hcx4 hcx5 hcx6 hcx7 hcx8 hcx9 hcx10 hcx11 hcm0 hcm1 hcm2 hcm3 hcm4 hcm5 hcm6 hcm7 hcm8 hcm9 hK hX hP hD hS hl
      · refine lv_tableIn (off := 769) (tgt := 802) hx hb d_code_33 (by rw [h]; decide) (by rw [h]; decide) (by rw [h]; rfl) (by decide) ?_
        exact law_case_18 C0 hA hA2 hcx0 hcx1 hcx2 hcx3 hcx4 hcx5 hcx6 hcx7 hcx8 hcx9 hcx10 hcx11 hcm0 hcm1 hcm2 hcm3 hcm4 hcm5 hcm6 hcm7 hcm8 hcm9 hK hX hP hD hS hl
      · refine lv_tableIn (off := 792) (tgt := 825) hx hb d_code_33 (by rw [h]; decide) (by rw [h]; decide) (by rw [h]; rfl) (by decide) ?_
        exact law_case_19 C0 hA hA2 hcx0 hcx1 hcx2 hcx3 hcx4 hcx5 hcx6 hcx7 hcx8 hcx9 hcx10 hcx11 hcm0 hcm1 hcm2 hcm3 hcm4 hcm5 hcm6 hcm7 hcm8 hcm9 hK hX hP hD hS hl
      · refine lv_tableIn (off := 826) (tgt := 859) hx hb d_code_33 (by rw [h]; decide) (by rw [h]; decide) (by rw [h]; rfl) (by decide) ?_
        exact law_case_20 C0 hA hA2 hcx0 hcx1 hcx2 hcx3 hcx4 hcx5 hcx6 hcx7 hcx8 hcx9 hcx10 hcx11 hcm0 hcm1 hcm2 hcm3 hcm4 hcm5 hcm6 hcm7 hcm8 hcm9 hK hX hP hD hS hl
      · refine lv_tableIn (off := 849) (tgt := 882) hx hb d_code_33 (by rw [h]; decide) (by rw [h]; decide) (by rw [h]; rfl) (by decide) ?_
        exact law_case_21 C0 hA hA2 hcx0 hcx1 hcx2 hcx3 hcx4 hcx5 hcx6 hcx7 hcx8 hcx9 hcx10 hcx11 hcm0 hcm1 hcm2 hcm3 hcm4 hcm5 hcm6 hcm7 hcm8 hcm9 hK hX hP hD hS hl
      · refine lv_tableIn (off := 882) (tgt := 915) hx hb d_code_33 (by rw [h]; decide) (by rw [h]; decide) (by rw [h]; rfl) (by decide) ?_
        exact law_case_22 C0 hA hA2 hcx0 hcx1 hcx2 hcx3 hcx4 hcx5 hcx6 hcx7 hcx8 hcx9 hcx10 hcx11 hcm0 hcm1 hcm2 hcm3 hcm4 hcm5 hcm6 hcm7 hcm8 hcm9 hK hX hP hD hS hl
      · refine lv_tableIn (off := 925) (tgt := 958) hx hb d_code_33 (by rw [h]; decide) (by rw [h]; decide) (by rw [h]; rfl) (by decide) ?_
        exact law_case_23 C0 hA hA2 hcx0 hcx1 hcx2 hcx3 hcx4 hcx5 hcx6 hcx7 hcx8 hcx9 hcx10 hcx11 hcm0 hcm1 hcm2 hcm3 hcm4 hcm5 hcm6 hcm7 hcm8 hcm9 hK hX hP hD hS hl
      · refine lv_tableIn (off := 969) (tgt := 1002) hx hb d_code_33 (by rw [h]; decide) (by rw [h]; decide) (by rw [h]; rfl) (by decide) ?_
        exact law_case_24 C0 hA hA2 hcx0 hcx1 hcx2 hcx3 hcx4 hcx5 hcx6 hcx7 hcx8 hcx9 hcx10 hcx11 hcm0 hcm1 hcm2 hcm3 hcm4 hcm5 hcm6 hcm7 hcm8 hcm9 hK hX hP hD hS hl
      · refine lv_tableIn (off := 1012) (tgt := 1045) hx hb d_code_33 (by rw [h]; decide) (by rw [h]; decide) (by rw [h]; rfl) (by decide) ?_
        exact law_case_25 C0 hA hA2 hcx0 hcx1 hcx2 hcx3 hcx4 hcx5 hcx6 hcx7 hcx8 hcx9 hcx10 hcx11 hcm0 hcm1 hcm2 hcm3 hcm4 hcm5 hcm6 hcm7 hcm8 hcm9 hK hX hP hD hS hl
      · refine lv_tableIn (off := 1066) (tgt := 1099) hx hb d_code_33 (by rw [h]; decide) (by rw [h]; decide) (by rw [h]; rfl) (by decide) ?_
        exact law_case_26 C0 hA hA2 hcx0 hcx1 hcx2 hcx3 hcx4 hcx5 hcx6 hcx7 hcx8 hcx9 hcx10 hcx11 hcm0 hcm1 hcm2 hcm3 hcm4 hcm5 hcm6 hcm7 hcm8 hcm9 hK hX hP hD hS hl
  · have hlt : y2 < 0 := by
      rw [ey2]
      have : L < 9 := by omega
      match L, this with
      | 0, _ => decide
      | 1, _ => decide
      | 2, _ => decide
      | 3, _ => decide
      | 4, _ => decide
      | 5, _ => decide
      | 6, _ => decide
      | 7, _ => decide
      | 8, _ => decide
      | k + 9, h => exact absurd h (by omega)
    refine lv_icmp_gt (tgt := 1204) hx hb d_code_24 (by decide) (fun _ => ?_) (fun c => absurd hlt c)
    refine lv_iconst (v := 1) hx hb d_code_1204 (by decide) ?_
    refine va_forget (fun q hq => hA2 _ (hS.2.2 q hq)) ?_
    refine W.widen (k := 600000) (n := 7302249) (Nat.le_of_ble_eq_true rfl) (Nat.le_of_ble_eq_true rfl) ?_
    exact lw_ret hx hb hr hlocks d_code_1205
set_option maxHeartbeats 8000000 in
set_option maxRecDepth 100000 in
theorem whole_start {p : Program} {e : Env} {s : State} {m : MethodId} {below : List Frame} {meth : Method} {c : Code} (l : Launch) {b L : Nat} {xs : Nat → Int32} (hL : L ≤ 9) (C0 : lw_At p s m meth c b L xs) : W p l e room_1 s m #[Value.ref b] below meth c s.heap [] 0 0 (lw_Z below #[Value.ref b] s) (entryFrame m ([Value.ref b] : List Value).toArray 4) := by
  obtain ⟨hx, hb, hr, hml, hown, hts0, hXs, hbl, hlocks, hgv⟩ := id C0
  have hts := wA_hts hts0
  obtain ⟨A, eA⟩ : ∃ A : Nat → Prop, A = fun q => s.heap.size ≤ q := ⟨_, rfl⟩
  have hA : ∀ q, s.heap.size ≤ q → A q := fun q h => by rw [eA]; exact h
  have hA2 : ∀ q, A q → s.heap.size ≤ q := fun q h => by rw [eA] at h; exact h
  have hown : s.vm.findClass "StaveHouseLaw" = some m.cls := hown
  obtain ⟨D, ca, hK⟩ := st_K hts0
  obtain ⟨ad, av, hX⟩ := st_X (A := A) hts0 hgv (fun a h z => absurd (hA2 a z) (Nat.not_le.mpr h))
  have hS : va_S A s.heap s.heap [] := va_S.rf
  have hP : va_P D cls [] s.heap := fun k q h => by simp at h
  have hD : va_D A [] := ⟨fun i j p q h => by simp at h, fun k q h => by simp at h⟩
  have hl := lv_entry ([.ref b]) (n := 4) (Nat.le_of_ble_eq_true rfl)
  rw [lg_entry_eq]
  generalize (lg_sl ([.ref b]) ++ List.replicate (4 - (lg_sl ([.ref b])).length) Slot.unset).toArray = ls at hl ⊢
  have hl : lv_has ls 4 [(0, .ref b)] := hl
  refine gnew (L := [(0, .null), (1, .null), (2, .null), (3, .null), (4, .null), (7, .null), (8, .null), (9, .null)]) (C := RX12) (T := TX12) (N := 10) (ci := 12) hx hb hts inW_12 tyX12 tyX12_ok hown k_1_24 k_1_25 k_1_1 hK hP hD hS hA rfl (Nat.le_of_ble_eq_true rfl) (Nat.le_of_ble_eq_true rfl) d_code_0 (gF_cons rfl (gF_cons rfl (gF_cons rfl (gF_cons rfl (gF_cons rfl (gF_cons rfl (gF_cons rfl (gF_cons rfl (gF_nil))))))))) (fun f1 q1 H1 hF1 hP1 hD1 hS1 => ?_)
  have hP1 : va_P D cls [(q1, .inr (12, rg 10 f1))] H1 := hP1
  have hD1 : va_D A [(q1, .inr (12, rg 10 f1))] := hD1
  refine W.widen (k := 1) (n := 10) (Nat.le_of_ble_eq_true rfl) (Nat.le_of_ble_eq_true rfl) ?_
  refine lv_dup hx hb d_code_3 rfl ?_
  have hFc2 := va_free (wc := [(q1, .inr (12, rg 10 f1))]) hD1 hS1 hA [0] rfl
  refine va_callv (va_runI (As := []) (rest := [.ref q1]) ⟨hx, hb, hml, hown, hts⟩ (c_S_init_0 l D ca ad av H1.size q1 f1 (hF1.sub [] rfl)) (cwI 0 hts (gdC k_1_28) rfl rfl rfl (hts _ k_1_1) (hts _ k_1_26) (hts _ k_1_27) rfl (by decide +kernel) ⟨Nat.le_of_ble_eq_true rfl, Nat.le_of_ble_eq_true rfl⟩) (gPS hP1 hD1 hK hS1 hA hX [0] (by decide) rfl [.ref q1]) rfl rfl hl.1 rfl (lv_room (Nat.le_of_ble_eq_true rfl)) d_code_4 ⟨Nat.le_of_ble_eq_true rfl, Nat.le_of_ble_eq_true rfl⟩) hS1 (fun q _ h => hFc2 q h) hFc2 (fun u2 t2 H2 locs2 ht2 hvm2 hw2 hB2 hz2 hk2 hS2 => ?_)
  obtain ⟨x2_0, x2_1, x2_2, x2_3, x2_4, x2_5, x2_6, x2_7, x2_8, x2_9, x2_10, x2_11, x2_12, x2_13, x2_14, x2_15, x2_16, x2_17, x2_18, x2_19, x2_20, x2_21, x2_22⟩ := u2
  try dsimp only at hw2 hB2
  obtain ⟨hw2_0, hw2_1, hw2_2, hw2_3, hw2_4, hw2_5, hw2_6, hw2_7, hw2_8, hw2_9, hw2_10, hw2_11, hw2_12⟩ := hw2
  obtain ⟨hP2, hD2⟩ := gJoin (wr := []) (w1 := [(q1, .inr (12, rg 10 x2_0)), (x2_1, .inr (3, rg 22 x2_2)), (x2_3, .inl (ca 4, 2, .inr (.inr (.inr (.inr x2_4))))), (x2_5, .inr (0, rg 3 x2_6)), (x2_7, .inl (ca 0, 20, .inl x2_8)), (x2_9, .inr (0, rg 3 x2_10)), (x2_11, .inr (10, rg 9 x2_12)), (x2_13, .inl (ca 0, 20480, .inl x2_14)), (x2_15, .inl (ca 0, 3000, .inl x2_16)), (x2_17, .inl (ca 1, 3001, .inr (.inl x2_18))), (x2_19, .inl (ca 0, 3001, .inl x2_20)), (x2_21, .inl (ca 0, 3001, .inl x2_22))]) hP1 hD1 [0] [] rfl rfl (by decide) (by decide) hk2 hFc2 ht2 hB2
  have hF2_0 : gF x2_0 [(4, .ref x2_1), (3, .ref x2_3), (2, .ref x2_5), (1, .ref x2_7), (0, .ref x2_9), (7, .null), (8, .null), (9, .null)] := gF.upd hF1 hw2_0 hw2_1 rfl
  have hP2 : va_P D cls [(q1, .inr (12, rg 10 x2_0)), (x2_1, .inr (3, rg 22 x2_2)), (x2_3, .inl (ca 4, 2, .inr (.inr (.inr (.inr x2_4))))), (x2_5, .inr (0, rg 3 x2_6)), (x2_7, .inl (ca 0, 20, .inl x2_8)), (x2_9, .inr (0, rg 3 x2_10)), (x2_11, .inr (10, rg 9 x2_12)), (x2_13, .inl (ca 0, 20480, .inl x2_14)), (x2_15, .inl (ca 0, 3000, .inl x2_16)), (x2_17, .inl (ca 1, 3001, .inr (.inl x2_18))), (x2_19, .inl (ca 0, 3001, .inl x2_20)), (x2_21, .inl (ca 0, 3001, .inl x2_22))] H2 := hP2
  have hD2 : va_D A [(q1, .inr (12, rg 10 x2_0)), (x2_1, .inr (3, rg 22 x2_2)), (x2_3, .inl (ca 4, 2, .inr (.inr (.inr (.inr x2_4))))), (x2_5, .inr (0, rg 3 x2_6)), (x2_7, .inl (ca 0, 20, .inl x2_8)), (x2_9, .inr (0, rg 3 x2_10)), (x2_11, .inr (10, rg 9 x2_12)), (x2_13, .inl (ca 0, 20480, .inl x2_14)), (x2_15, .inl (ca 0, 3000, .inl x2_16)), (x2_17, .inl (ca 1, 3001, .inr (.inl x2_18))), (x2_19, .inl (ca 0, 3001, .inl x2_20)), (x2_21, .inl (ca 0, 3001, .inl x2_22))] := hD2
  refine W.widen (k := 35) (n := 61442) (Nat.le_of_ble_eq_true rfl) (Nat.le_of_ble_eq_true rfl) ?_
  refine lv_astore_n (lv' := [(1, .ref q1), (0, .ref b)]) hx hb d_code_7 rfl hl (by decide) rfl (fun ls hl => ?_)
  refine gnew (L := [(2, .null), (3, .int 0), (4, .null), (5, .null), (6, .null), (7, .null), (8, .null), (12, .int 0), (16, .int 0), (17, .int 0), (18, .int 0), (71, .int 0), (72, .int 0), (74, .null), (89, .int 0), (90, .long 0), (94, .int 0)]) (C := RX14) (T := TX14) (N := 107) (ci := 14) hx hb hts inW_14 tyX14 tyX14_ok hown k_9_112 k_9_113 k_1_9 hK hP2 hD2 hS2 hA rfl (Nat.le_of_ble_eq_true rfl) (Nat.le_of_ble_eq_true rfl) d_code_8 (gF_cons rfl (gF_cons rfl (gF_cons rfl (gF_cons rfl (gF_cons rfl (gF_cons rfl (gF_cons rfl (gF_cons rfl (gF_cons rfl (gF_cons rfl (gF_cons rfl (gF_cons rfl (gF_cons rfl (gF_cons rfl (gF_cons rfl (gF_cons rfl (gF_cons rfl (gF_nil)))))))))))))))))) (fun f3 q3 H3 hF3 hP3 hD3 hS3 => ?_)
  have hP3 : va_P D cls [(q1, .inr (12, rg 10 x2_0)), (x2_1, .inr (3, rg 22 x2_2)), (x2_3, .inl (ca 4, 2, .inr (.inr (.inr (.inr x2_4))))), (x2_5, .inr (0, rg 3 x2_6)), (x2_7, .inl (ca 0, 20, .inl x2_8)), (x2_9, .inr (0, rg 3 x2_10)), (x2_11, .inr (10, rg 9 x2_12)), (x2_13, .inl (ca 0, 20480, .inl x2_14)), (x2_15, .inl (ca 0, 3000, .inl x2_16)), (x2_17, .inl (ca 1, 3001, .inr (.inl x2_18))), (x2_19, .inl (ca 0, 3001, .inl x2_20)), (x2_21, .inl (ca 0, 3001, .inl x2_22)), (q3, .inr (14, rg 107 f3))] H3 := hP3
  have hD3 : va_D A [(q1, .inr (12, rg 10 x2_0)), (x2_1, .inr (3, rg 22 x2_2)), (x2_3, .inl (ca 4, 2, .inr (.inr (.inr (.inr x2_4))))), (x2_5, .inr (0, rg 3 x2_6)), (x2_7, .inl (ca 0, 20, .inl x2_8)), (x2_9, .inr (0, rg 3 x2_10)), (x2_11, .inr (10, rg 9 x2_12)), (x2_13, .inl (ca 0, 20480, .inl x2_14)), (x2_15, .inl (ca 0, 3000, .inl x2_16)), (x2_17, .inl (ca 1, 3001, .inr (.inl x2_18))), (x2_19, .inl (ca 0, 3001, .inl x2_20)), (x2_21, .inl (ca 0, 3001, .inl x2_22)), (q3, .inr (14, rg 107 f3))] := hD3
  refine W.widen (k := 36) (n := 61549) (Nat.le_of_ble_eq_true rfl) (Nat.le_of_ble_eq_true rfl) ?_
  refine lv_dup hx hb d_code_11 rfl ?_
  have hFc4 := va_free (wc := [(q3, .inr (14, rg 107 f3))]) hD3 hS3 hA [12] rfl
  refine va_callv (va_runI (As := []) (rest := [.ref q3]) ⟨hx, hb, hml, hown, hts⟩ (c_M_init_0 l D ca ad av H3.size q3 f3 (hF3.sub [] rfl)) (cwI 0 hts (gdC k_9_116) rfl rfl rfl (hts _ k_1_9) (hts _ k_9_114) (hts _ k_9_115) rfl (by decide +kernel) ⟨Nat.le_of_ble_eq_true rfl, Nat.le_of_ble_eq_true rfl⟩) (gPS hP3 hD3 hK hS3 hA hX [12] (by decide) rfl [.ref q3]) rfl rfl hl.1 rfl (lv_room (Nat.le_of_ble_eq_true rfl)) d_code_12 ⟨Nat.le_of_ble_eq_true rfl, Nat.le_of_ble_eq_true rfl⟩) hS3 (fun q _ h => hFc4 q h) hFc4 (fun u4 t4 H4 locs4 ht4 hvm4 hw4 hB4 hz4 hk4 hS4 => ?_)
  obtain ⟨x4_0, x4_1, x4_2, x4_3, x4_4, x4_5, x4_6, x4_7, x4_8, x4_9, x4_10, x4_11, x4_12, x4_13, x4_14, x4_15, x4_16, x4_17, x4_18⟩ := u4
  try dsimp only at hw4 hB4
  obtain ⟨hw4_0, hw4_1, hw4_2, hw4_3, hw4_4, hw4_5, hw4_6, hw4_7, hw4_8, hw4_9, hw4_10⟩ := hw4
  obtain ⟨hP4, hD4⟩ := gJoin (wr := [(q1, .inr (12, rg 10 x2_0)), (x2_1, .inr (3, rg 22 x2_2)), (x2_3, .inl (ca 4, 2, .inr (.inr (.inr (.inr x2_4))))), (x2_5, .inr (0, rg 3 x2_6)), (x2_7, .inl (ca 0, 20, .inl x2_8)), (x2_9, .inr (0, rg 3 x2_10)), (x2_11, .inr (10, rg 9 x2_12)), (x2_13, .inl (ca 0, 20480, .inl x2_14)), (x2_15, .inl (ca 0, 3000, .inl x2_16)), (x2_17, .inl (ca 1, 3001, .inr (.inl x2_18))), (x2_19, .inl (ca 0, 3001, .inl x2_20)), (x2_21, .inl (ca 0, 3001, .inl x2_22))]) (w1 := [(q3, .inr (14, rg 107 x4_0)), (x4_1, .inl (ca 0, 8, .inl x4_2)), (x4_3, .inl (ca 0, 3001, .inl x4_4)), (x4_5, .inl (ca 0, 3001, .inl x4_6)), (x4_7, .inr (13, rg 81 x4_8)), (x4_9, .inl (ca 5, 2, .inr (.inr (.inr (.inr x4_10))))), (x4_11, .inl (ca 2, 20, .inl x4_12)), (x4_13, .inl (ca 2, 3000, .inl x4_14)), (x4_15, .inr (13, rg 81 x4_16)), (x4_17, .inr (13, rg 81 x4_18))]) hP3 hD3 [12] [0, 1, 2, 3, 4, 5, 6, 7, 8, 9, 10, 11] rfl rfl (by decide) (by decide) hk4 hFc4 ht4 hB4
  have hF4_0 : gF x4_0 [(74, .ref x4_1), (8, .ref x4_3), (7, .ref x4_5), (6, .ref x4_7), (5, .ref x4_9), (4, .ref x4_11), (2, .ref x4_13), (3, .int 0), (12, .int 0), (16, .int 0), (17, .int 0), (18, .int 0), (71, .int 0), (72, .int 0), (89, .int 0), (90, .long 0), (94, .int 0)] := gF.upd hF3 hw4_0 hw4_1 rfl
  have hP4 : va_P D cls [(q1, .inr (12, rg 10 x2_0)), (x2_1, .inr (3, rg 22 x2_2)), (x2_3, .inl (ca 4, 2, .inr (.inr (.inr (.inr x2_4))))), (x2_5, .inr (0, rg 3 x2_6)), (x2_7, .inl (ca 0, 20, .inl x2_8)), (x2_9, .inr (0, rg 3 x2_10)), (x2_11, .inr (10, rg 9 x2_12)), (x2_13, .inl (ca 0, 20480, .inl x2_14)), (x2_15, .inl (ca 0, 3000, .inl x2_16)), (x2_17, .inl (ca 1, 3001, .inr (.inl x2_18))), (x2_19, .inl (ca 0, 3001, .inl x2_20)), (x2_21, .inl (ca 0, 3001, .inl x2_22)), (q3, .inr (14, rg 107 x4_0)), (x4_1, .inl (ca 0, 8, .inl x4_2)), (x4_3, .inl (ca 0, 3001, .inl x4_4)), (x4_5, .inl (ca 0, 3001, .inl x4_6)), (x4_7, .inr (13, rg 81 x4_8)), (x4_9, .inl (ca 5, 2, .inr (.inr (.inr (.inr x4_10))))), (x4_11, .inl (ca 2, 20, .inl x4_12)), (x4_13, .inl (ca 2, 3000, .inl x4_14)), (x4_15, .inr (13, rg 81 x4_16)), (x4_17, .inr (13, rg 81 x4_18))] H4 := hP4
  have hD4 : va_D A [(q1, .inr (12, rg 10 x2_0)), (x2_1, .inr (3, rg 22 x2_2)), (x2_3, .inl (ca 4, 2, .inr (.inr (.inr (.inr x2_4))))), (x2_5, .inr (0, rg 3 x2_6)), (x2_7, .inl (ca 0, 20, .inl x2_8)), (x2_9, .inr (0, rg 3 x2_10)), (x2_11, .inr (10, rg 9 x2_12)), (x2_13, .inl (ca 0, 20480, .inl x2_14)), (x2_15, .inl (ca 0, 3000, .inl x2_16)), (x2_17, .inl (ca 1, 3001, .inr (.inl x2_18))), (x2_19, .inl (ca 0, 3001, .inl x2_20)), (x2_21, .inl (ca 0, 3001, .inl x2_22)), (q3, .inr (14, rg 107 x4_0)), (x4_1, .inl (ca 0, 8, .inl x4_2)), (x4_3, .inl (ca 0, 3001, .inl x4_4)), (x4_5, .inl (ca 0, 3001, .inl x4_6)), (x4_7, .inr (13, rg 81 x4_8)), (x4_9, .inl (ca 5, 2, .inr (.inr (.inr (.inr x4_10))))), (x4_11, .inl (ca 2, 20, .inl x4_12)), (x4_13, .inl (ca 2, 3000, .inl x4_14)), (x4_15, .inr (13, rg 81 x4_16)), (x4_17, .inr (13, rg 81 x4_18))] := hD4
  refine W.widen (k := 282) (n := 716534) (Nat.le_of_ble_eq_true rfl) (Nat.le_of_ble_eq_true rfl) ?_
  refine lv_astore_n (lv' := [(2, .ref q3), (1, .ref q1), (0, .ref b)]) hx hb d_code_15 rfl hl (by decide) rfl (fun ls hl => ?_)
  refine lv_iconst (v := 0) hx hb d_code_16 (by decide) ?_
  refine lv_istore_n (lv' := [(3, .int 0), (2, .ref q3), (1, .ref q1), (0, .ref b)]) hx hb d_code_17 rfl hl (by decide) rfl (fun ls hl => ?_)
  exact law_18 hL C0 hA hA2 (hF2_0.sub [0, 1, 2, 3, 4, 5, 6, 7] rfl) (hw2_2.sub [0, 1, 2] rfl) (hw2_3.sub [0, 1] rfl) (hw2_4.sub [0, 1, 2] rfl) (hw2_5.sub [] rfl) (hw2_6.sub [0, 1, 2] rfl) (hw2_7.sub [0, 1, 2, 3, 4, 5, 6] rfl) (hw2_8.sub [] rfl) (hw2_9.sub [] rfl) (hw2_10.sub [] rfl) (hw2_11.sub [] rfl) (hw2_12.sub [] rfl) (hF4_0.sub [0, 1, 2, 3, 4, 5, 6, 7, 8, 9, 10, 11, 12, 13, 14, 15, 16] rfl) (hw4_2.sub [] rfl) (hw4_3.sub [] rfl) (hw4_4.sub [] rfl) (hw4_5.sub [0, 1] rfl) (hw4_6.sub [0, 1] rfl) (hw4_7.sub [] rfl) (hw4_8.sub [] rfl) (hw4_9.sub [0, 1] rfl) (hw4_10.sub [0, 1] rfl) hK hX hP4 hD4 hS4 hl
