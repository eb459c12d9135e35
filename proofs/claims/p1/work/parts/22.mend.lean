
theorem d_15_13_0 : decode prog_15_method_13_code 0 = .ok (.iload_n 1, 1) := by decide +kernel
theorem d_15_13_1 : decode prog_15_method_13_code 1 = .ok (.ifCond .lt 21, 3) := by decide +kernel
theorem d_15_13_22 : decode prog_15_method_13_code 22 = .ok (.iconst (-1), 1) := by decide +kernel
theorem d_15_13_23 : decode prog_15_method_13_code 23 = .ok (.ireturn, 1) := by decide +kernel
theorem d_15_13_4 : decode prog_15_method_13_code 4 = .ok (.iload_n 1, 1) := by decide +kernel
theorem d_15_13_5 : decode prog_15_method_13_code 5 = .ok (.bipush 20, 2) := by decide +kernel
theorem d_15_13_7 : decode prog_15_method_13_code 7 = .ok (.if_icmp .gt 15, 3) := by decide +kernel
theorem d_15_13_10 : decode prog_15_method_13_code 10 = .ok (.aload_n 0, 1) := by decide +kernel
theorem d_15_13_11 : decode prog_15_method_13_code 11 = .ok (.getfield 296, 3) := by decide +kernel
theorem d_15_13_14 : decode prog_15_method_13_code 14 = .ok (.iload_n 1, 1) := by decide +kernel
theorem d_15_13_15 : decode prog_15_method_13_code 15 = .ok (.iadd, 1) := by decide +kernel
theorem d_15_13_16 : decode prog_15_method_13_code 16 = .ok (.sipush 3000, 3) := by decide +kernel
theorem d_15_13_19 : decode prog_15_method_13_code 19 = .ok (.if_icmp .le 5, 3) := by decide +kernel
theorem d_15_13_24 : decode prog_15_method_13_code 24 = .ok (.iconst 0, 1) := by decide +kernel
theorem d_15_13_25 : decode prog_15_method_13_code 25 = .ok (.istore_n 2, 1) := by decide +kernel
theorem d_15_13_26 : decode prog_15_method_13_code 26 = .ok (.iload_n 2, 1) := by decide +kernel
theorem d_15_13_27 : decode prog_15_method_13_code 27 = .ok (.iload_n 1, 1) := by decide +kernel
theorem d_15_13_28 : decode prog_15_method_13_code 28 = .ok (.if_icmp .ge 26, 3) := by decide +kernel
theorem d_15_13_54 : decode prog_15_method_13_code 54 = .ok (.aload_n 0, 1) := by decide +kernel
theorem d_15_13_55 : decode prog_15_method_13_code 55 = .ok (.dup, 1) := by decide +kernel
theorem d_15_13_56 : decode prog_15_method_13_code 56 = .ok (.getfield 296, 3) := by decide +kernel
theorem d_15_13_59 : decode prog_15_method_13_code 59 = .ok (.iload_n 1, 1) := by decide +kernel
theorem d_15_13_60 : decode prog_15_method_13_code 60 = .ok (.iadd, 1) := by decide +kernel
theorem d_15_13_61 : decode prog_15_method_13_code 61 = .ok (.putfield 296, 3) := by decide +kernel
theorem d_15_13_64 : decode prog_15_method_13_code 64 = .ok (.aload_n 0, 1) := by decide +kernel
theorem d_15_13_65 : decode prog_15_method_13_code 65 = .ok (.getfield 296, 3) := by decide +kernel
theorem d_15_13_68 : decode prog_15_method_13_code 68 = .ok (.ireturn, 1) := by decide +kernel
theorem d_15_13_31 : decode prog_15_method_13_code 31 = .ok (.aload_n 0, 1) := by decide +kernel
theorem d_15_13_32 : decode prog_15_method_13_code 32 = .ok (.getfield 30, 3) := by decide +kernel
theorem d_15_13_35 : decode prog_15_method_13_code 35 = .ok (.aload_n 0, 1) := by decide +kernel
theorem d_15_13_36 : decode prog_15_method_13_code 36 = .ok (.getfield 296, 3) := by decide +kernel
theorem d_15_13_39 : decode prog_15_method_13_code 39 = .ok (.iload_n 2, 1) := by decide +kernel
theorem d_15_13_40 : decode prog_15_method_13_code 40 = .ok (.iadd, 1) := by decide +kernel
theorem d_15_13_41 : decode prog_15_method_13_code 41 = .ok (.aload_n 0, 1) := by decide +kernel
theorem d_15_13_42 : decode prog_15_method_13_code 42 = .ok (.getfield 34, 3) := by decide +kernel
theorem d_15_13_45 : decode prog_15_method_13_code 45 = .ok (.iload_n 2, 1) := by decide +kernel
theorem d_15_13_46 : decode prog_15_method_13_code 46 = .ok (.baload, 1) := by decide +kernel
theorem d_15_13_47 : decode prog_15_method_13_code 47 = .ok (.bastore, 1) := by decide +kernel
theorem d_15_13_48 : decode prog_15_method_13_code 48 = .ok (.iinc 2 1, 3) := by decide +kernel
theorem d_15_13_51 : decode prog_15_method_13_code 51 = .ok (.goto (-25), 3) := by decide +kernel
abbrev Q_M_end_0 (D : va_G) (ca : Nat → ClassId) (a0 : Nat) (a6 : Nat) (a7 : Nat) (g0 : Nat → Value) (g6 : Nat → Int32) (g7 : Nat → Int32) (v0 : Int32) (A : Nat → Prop) : Array Value → State → Outcome → State → Prop := va_Qi (S := (Nat → Value) × (Nat → Int32)) (fun (r : Int32) (u : (Nat → Value) × (Nat → Int32)) => ((v0 < 0 → r = -1) ∧ (¬ v0 < 0 → 20 < v0 → r = -1) ∧ (¬ v0 < 0 → ¬ 20 < v0 → r = v0)) ∧ gM g0 u.1 [3] ∧ gF u.1 [] ∧ gF u.2 []) (fun u => gB D ca A [(a0, .inr (14, rg 107 u.1)), (a6, .inl (ca 2, 20, .inl g6)), (a7, .inl (ca 2, 3000, .inl u.2))]) A
set_option maxHeartbeats 8000000 in
set_option maxRecDepth 100000 in
theorem c_M_end_0 (l : Launch) (D : va_G) (ca : Nat → ClassId) (ad av : Nat → Nat) (sz : Nat) (a0 : Nat) (a6 : Nat) (a7 : Nat) (g0 : Nat → Value) (g6 : Nat → Int32) (g7 : Nat → Int32) (v0 : Int32) (hp0 : gF g0 [(4, .ref a6), (2, .ref a7), (3, .int 0)]) (hp6 : gF g6 []) (hp7 : gF g7 []) : Met l ({ cls := "StaveHouseModel", name := "end", desc := "(I)I" } : Jvm.MethodName) (Cond.code ({ cls := "StaveHouseModel", name := "end", desc := "(I)I" } : Jvm.MethodName) prog_15_method_13_code 3 (Option.some Jvm.ClassFile.FieldType.int) :: wAll) ({ frames := 0, cells := 0, slots := 0, locals := 0 } : Room) (va_Pc [.ref a0, .int v0] (gPre D ca ad av [(a0, .inr (14, rg 107 g0)), (a6, .inl (ca 2, 20, .inl g6)), (a7, .inl (ca 2, 3000, .inl g7))] sz)) (Q_M_end_0 D ca a0 a6 a7 g0 g6 g7 v0 (va_A [(a0, .inr (14, rg 107 g0)), (a6, .inl (ca 2, 20, .inl g6)), (a7, .inl (ca 2, 3000, .inl g7))] sz)) 0 0 (va_A [(a0, .inr (14, rg 107 g0)), (a6, .inl (ca 2, 20, .inl g6)), (a7, .inl (ca 2, 3000, .inl g7))] sz) := by
  refine gMet (Qc := Q_M_end_0 D ca a0 a6 a7 g0 g6 g7 v0) (lv := [(0, .ref a0), (1, .int v0)]) (by decide) (Nat.le_of_ble_eq_true rfl) rfl (fun A p e s m below meth c ls hx hb hr hml hown hts hlk hnm hl hP hK hD hS hA hX => ?_)
  have hown : s.vm.findClass "StaveHouseModel" = some m.cls := hown
  have hnm : meth.name = "end" := hnm
  refine lv_iload_n hx hb d_15_13_0 rfl (lv_at hl 1 rfl) ?_
  refine lv_if_lt (tgt := 22) hx hb d_15_13_1 (by decide) (fun c1 => ?_) (fun c1 => ?_)
  · refine lv_iconst (v := (-1)) hx hb d_15_13_22 (by decide) ?_
    have hP9 := hP.sub (ws' := [(a0, .inr (14, rg 107 g0)), (a6, .inl (ca 2, 20, .inl g6)), (a7, .inl (ca 2, 3000, .inl g7))]) [0, 1, 2] rfl
    have hD9 := hD.sub (ws' := [(a0, .inr (14, rg 107 g0)), (a6, .inl (ca 2, 20, .inl g6)), (a7, .inl (ca 2, 3000, .inl g7))]) [0, 1, 2] (by decide) rfl
    refine W.widen (k := 0) (n := 0) (Nat.le_of_ble_eq_true rfl) (Nat.le_of_ble_eq_true rfl) ?_
    exact W.iret (v := (-1)) hx hb hr (fun t ht hW => ⟨⟨(-1), (g0, g7), rfl, ⟨⟨fun _ => rfl, fun z => absurd c1 z, fun z => absurd c1 z⟩, (gM.rf.mono (by decide)), hp0.sub [] rfl, hp7.sub [] rfl⟩, by rw [ht]; exact hP9, va_K.moved hW.alike hK, hD9⟩, hS.F ht⟩) hS.2.2 d_15_13_23
  · refine lv_iload_n hx hb d_15_13_4 rfl (lv_at hl 1 rfl) ?_
    refine lv_bipush (v := 20) hx hb d_15_13_5 (by decide) ?_
    refine lv_icmp_gt (tgt := 22) hx hb d_15_13_7 (by decide) (fun c2 => ?_) (fun c2 => ?_)
    · refine lv_iconst (v := (-1)) hx hb d_15_13_22 (by decide) ?_
      have hP9 := hP.sub (ws' := [(a0, .inr (14, rg 107 g0)), (a6, .inl (ca 2, 20, .inl g6)), (a7, .inl (ca 2, 3000, .inl g7))]) [0, 1, 2] rfl
      have hD9 := hD.sub (ws' := [(a0, .inr (14, rg 107 g0)), (a6, .inl (ca 2, 20, .inl g6)), (a7, .inl (ca 2, 3000, .inl g7))]) [0, 1, 2] (by decide) rfl
      refine W.widen (k := 0) (n := 0) (Nat.le_of_ble_eq_true rfl) (Nat.le_of_ble_eq_true rfl) ?_
      exact W.iret (v := (-1)) hx hb hr (fun t ht hW => ⟨⟨(-1), (g0, g7), rfl, ⟨⟨fun z => absurd z c1, fun _ _ => rfl, fun _ z => absurd c2 z⟩, (gM.rf.mono (by decide)), hp0.sub [] rfl, hp7.sub [] rfl⟩, by rw [ht]; exact hP9, va_K.moved hW.alike hK, hD9⟩, hS.F ht⟩) hS.2.2 d_15_13_23
    · refine lv_aload_n hx hb d_15_13_10 rfl (lv_at hl 0 rfl) ?_
      refine gget hx hb hts inW_14 hown hK hP 0 rfl rfl hp0 2 rfl (by decide) k_11_1 d_15_13_11 ?_
      refine lv_iload_n hx hb d_15_13_14 rfl (lv_at hl 1 rfl) ?_
      refine lv_iadd hx hb d_15_13_15 ?_
      refine lv_topi (fun y3 ey3 => ?_)
      refine lv_sipush (v := 3000) hx hb d_15_13_16 (by decide) ?_
      refine lv_icmp_le (tgt := 24) hx hb d_15_13_19 (by decide) (fun _ => ?_) (fun c => absurd (e3000 ey3 c1 c2) c)
      refine lv_iconst (v := 0) hx hb d_15_13_24 (by decide) ?_
      refine lv_istore_n (lv' := [(2, .int 0), (0, .ref a0), (1, .int v0)]) hx hb d_15_13_25 rfl hl (by decide) rfl (fun ls hl => ?_)
      refine lv_iload_n hx hb d_15_13_26 rfl (lv_at hl 0 rfl) ?_
      refine lv_iload_n hx hb d_15_13_27 rfl (lv_at hl 2 rfl) ?_
      refine lv_icmp_ge (tgt := 54) hx hb d_15_13_28 (by decide) (fun c4 => ?_) (fun c4 => ?_)
      · refine lv_aload_n hx hb d_15_13_54 rfl (lv_at hl 1 rfl) ?_
        refine lv_dup hx hb d_15_13_55 rfl ?_
        refine gget hx hb hts inW_14 hown hK hP 0 rfl rfl hp0 2 rfl (by decide) k_11_1 d_15_13_56 ?_
        refine lv_iload_n hx hb d_15_13_59 rfl (lv_at hl 2 rfl) ?_
        refine lv_iadd hx hb d_15_13_60 ?_
        refine lv_topi (fun y5 ey5 => ?_)
        refine gput hx hb hts inW_14 tyX14 tyX14_ok nmX14 hown hK hP hD hS 0 rfl rfl hp0 3 (by decide) k_11_1 rfl rfl rfl d_15_13_61 (L' := [(3, .int y5), (4, .ref a6), (2, .ref a7)]) rfl (fun f6 H6 locs6 hF6 hm6 hP6 hD6 hS6 => ?_)
        have hM6 := gM.tr (gM.rf (f := g0)) hm6
        have hP6 : va_P D cls [(a0, .inr (14, rg 107 f6)), (a6, .inl (ca 2, 20, .inl g6)), (a7, .inl (ca 2, 3000, .inl g7))] H6 := hP6
        have hD6 : va_D A [(a0, .inr (14, rg 107 f6)), (a6, .inl (ca 2, 20, .inl g6)), (a7, .inl (ca 2, 3000, .inl g7))] := hD6
        clear hm6
        refine lv_aload_n hx hb d_15_13_64 rfl (lv_at hl 1 rfl) ?_
        refine gget hx hb hts inW_14 hown hK hP6 0 rfl rfl hF6 0 rfl (by decide) k_11_1 d_15_13_65 ?_
        have hP9 := hP6.sub (ws' := [(a0, .inr (14, rg 107 f6)), (a6, .inl (ca 2, 20, .inl g6)), (a7, .inl (ca 2, 3000, .inl g7))]) [0, 1, 2] rfl
        have hD9 := hD6.sub (ws' := [(a0, .inr (14, rg 107 f6)), (a6, .inl (ca 2, 20, .inl g6)), (a7, .inl (ca 2, 3000, .inl g7))]) [0, 1, 2] (by decide) rfl
        refine W.widen (k := 0) (n := 0) (Nat.le_of_ble_eq_true rfl) (Nat.le_of_ble_eq_true rfl) ?_
        exact W.iret (v := y5) hx hb hr (fun t ht hW => ⟨⟨y5, (f6, g7), rfl, ⟨⟨fun z => absurd z c1, fun _ z => absurd z c2, fun _ _ => ey5.trans (Int32.zero_add _)⟩, hM6.mono (by decide), hF6.sub [] rfl, hp7.sub [] rfl⟩, by rw [ht]; exact hP9, va_K.moved hW.alike hK, hD9⟩, hS6.F ht⟩) hS6.2.2 d_15_13_68
      · refine lv_aload_n hx hb d_15_13_31 rfl (lv_at hl 1 rfl) ?_
        refine gget hx hb hts inW_14 hown hK hP 0 rfl rfl hp0 1 rfl (by decide) k_11_0 d_15_13_32 ?_
        refine lv_aload_n hx hb d_15_13_35 rfl (lv_at hl 1 rfl) ?_
        refine gget hx hb hts inW_14 hown hK hP 0 rfl rfl hp0 2 rfl (by decide) k_11_1 d_15_13_36 ?_
        refine lv_iload_n hx hb d_15_13_39 rfl (lv_at hl 0 rfl) ?_
        refine lv_iadd hx hb d_15_13_40 ?_
        refine lv_topi (fun y7 ey7 => ?_)
        obtain rfl : y7 = 0 := ey7.trans (by decide)
        refine lv_aload_n hx hb d_15_13_41 rfl (lv_at hl 1 rfl) ?_
        refine gget hx hb hts inW_14 hown hK hP 0 rfl rfl hp0 0 rfl (by decide) k_11_2 d_15_13_42 ?_
        refine lv_iload_n hx hb d_15_13_45 rfl (lv_at hl 0 rfl) ?_
        refine gbaldX hx hb hK hP 1 2 rfl rfl (vinC (by decide)) d_15_13_46 (fun y8 => ?_)
        refine gbastX hx hb hK hP hD hS 2 2 rfl rfl (vinC (by decide)) d_15_13_47 (fun f9 H9 locs9 hP9 hD9 hS9 => ?_)
        have hF9 : gF f9 [] := gF_nil
        have hP9 : va_P D cls [(a0, .inr (14, rg 107 g0)), (a6, .inl (ca 2, 20, .inl g6)), (a7, .inl (ca 2, 3000, .inl f9))] H9 := hP9
        have hD9 : va_D A [(a0, .inr (14, rg 107 g0)), (a6, .inl (ca 2, 20, .inl g6)), (a7, .inl (ca 2, 3000, .inl f9))] := hD9
        refine lv_iinc (v := 1) (lv' := [(2, .int 1), (0, .ref a0), (1, .int v0)]) hx hb d_15_13_48 hl (k := 0) rfl (by decide) (by decide) rfl (fun ls hl => ?_)
        refine lv_goto (tgt := 26) hx hb d_15_13_51 (by decide) ?_
        refine lv_iload_n hx hb d_15_13_26 rfl (lv_at hl 0 rfl) ?_
        refine lv_iload_n hx hb d_15_13_27 rfl (lv_at hl 2 rfl) ?_
        refine lv_icmp_ge (tgt := 54) hx hb d_15_13_28 (by decide) (fun c10 => ?_) (fun c10 => ?_)
        · refine lv_aload_n hx hb d_15_13_54 rfl (lv_at hl 1 rfl) ?_
          refine lv_dup hx hb d_15_13_55 rfl ?_
          refine gget hx hb hts inW_14 hown hK hP9 0 rfl rfl hp0 2 rfl (by decide) k_11_1 d_15_13_56 ?_
          refine lv_iload_n hx hb d_15_13_59 rfl (lv_at hl 2 rfl) ?_
          refine lv_iadd hx hb d_15_13_60 ?_
          refine lv_topi (fun y11 ey11 => ?_)
          refine gput hx hb hts inW_14 tyX14 tyX14_ok nmX14 hown hK hP9 hD9 hS9 0 rfl rfl hp0 3 (by decide) k_11_1 rfl rfl rfl d_15_13_61 (L' := [(3, .int y11), (4, .ref a6), (2, .ref a7)]) rfl (fun f12 H12 locs12 hF12 hm12 hP12 hD12 hS12 => ?_)
          have hM12 := gM.tr (gM.rf (f := g0)) hm12
          have hP12 : va_P D cls [(a0, .inr (14, rg 107 f12)), (a6, .inl (ca 2, 20, .inl g6)), (a7, .inl (ca 2, 3000, .inl f9))] H12 := hP12
          have hD12 : va_D A [(a0, .inr (14, rg 107 f12)), (a6, .inl (ca 2, 20, .inl g6)), (a7, .inl (ca 2, 3000, .inl f9))] := hD12
          clear hP9 hD9 hS9 hm12
          refine lv_aload_n hx hb d_15_13_64 rfl (lv_at hl 1 rfl) ?_
          refine gget hx hb hts inW_14 hown hK hP12 0 rfl rfl hF12 0 rfl (by decide) k_11_1 d_15_13_65 ?_
          have hP9 := hP12.sub (ws' := [(a0, .inr (14, rg 107 f12)), (a6, .inl (ca 2, 20, .inl g6)), (a7, .inl (ca 2, 3000, .inl f9))]) [0, 1, 2] rfl
          have hD9 := hD12.sub (ws' := [(a0, .inr (14, rg 107 f12)), (a6, .inl (ca 2, 20, .inl g6)), (a7, .inl (ca 2, 3000, .inl f9))]) [0, 1, 2] (by decide) rfl
          refine W.widen (k := 0) (n := 0) (Nat.le_of_ble_eq_true rfl) (Nat.le_of_ble_eq_true rfl) ?_
          exact W.iret (v := y11) hx hb hr (fun t ht hW => ⟨⟨y11, (f12, f9), rfl, ⟨⟨fun z => absurd z c1, fun _ z => absurd z c2, fun _ _ => ey11.trans (Int32.zero_add _)⟩, hM12.mono (by decide), hF12.sub [] rfl, hF9.sub [] rfl⟩, by rw [ht]; exact hP9, va_K.moved hW.alike hK, hD9⟩, hS12.F ht⟩) hS12.2.2 d_15_13_68
        · refine lv_aload_n hx hb d_15_13_31 rfl (lv_at hl 1 rfl) ?_
          refine gget hx hb hts inW_14 hown hK hP9 0 rfl rfl hp0 1 rfl (by decide) k_11_0 d_15_13_32 ?_
          refine lv_aload_n hx hb d_15_13_35 rfl (lv_at hl 1 rfl) ?_
          refine gget hx hb hts inW_14 hown hK hP9 0 rfl rfl hp0 2 rfl (by decide) k_11_1 d_15_13_36 ?_
          refine lv_iload_n hx hb d_15_13_39 rfl (lv_at hl 0 rfl) ?_
          refine lv_iadd hx hb d_15_13_40 ?_
          refine lv_topi (fun y13 ey13 => ?_)
          obtain rfl : y13 = 1 := ey13.trans (by decide)
          refine lv_aload_n hx hb d_15_13_41 rfl (lv_at hl 1 rfl) ?_
          refine gget hx hb hts inW_14 hown hK hP9 0 rfl rfl hp0 0 rfl (by decide) k_11_2 d_15_13_42 ?_
          refine lv_iload_n hx hb d_15_13_45 rfl (lv_at hl 0 rfl) ?_
          refine gbaldX hx hb hK hP9 1 2 rfl rfl (vinC (by decide)) d_15_13_46 (fun y14 => ?_)
          refine gbastX hx hb hK hP9 hD9 hS9 2 2 rfl rfl (vinC (by decide)) d_15_13_47 (fun f15 H15 locs15 hP15 hD15 hS15 => ?_)
          have hF15 : gF f15 [] := gF_nil
          have hP15 : va_P D cls [(a0, .inr (14, rg 107 g0)), (a6, .inl (ca 2, 20, .inl g6)), (a7, .inl (ca 2, 3000, .inl f15))] H15 := hP15
          have hD15 : va_D A [(a0, .inr (14, rg 107 g0)), (a6, .inl (ca 2, 20, .inl g6)), (a7, .inl (ca 2, 3000, .inl f15))] := hD15
          clear hP9 hD9 hS9 hF9
          refine lv_iinc (v := 2) (lv' := [(2, .int 2), (0, .ref a0), (1, .int v0)]) hx hb d_15_13_48 hl (k := 0) rfl (by decide) (by decide) rfl (fun ls hl => ?_)
          refine lv_goto (tgt := 26) hx hb d_15_13_51 (by decide) ?_
          refine lv_iload_n hx hb d_15_13_26 rfl (lv_at hl 0 rfl) ?_
          refine lv_iload_n hx hb d_15_13_27 rfl (lv_at hl 2 rfl) ?_
          refine lv_icmp_ge (tgt := 54) hx hb d_15_13_28 (by decide) (fun c16 => ?_) (fun c16 => ?_)
          · refine lv_aload_n hx hb d_15_13_54 rfl (lv_at hl 1 rfl) ?_
            refine lv_dup hx hb d_15_13_55 rfl ?_
            refine gget hx hb hts inW_14 hown hK hP15 0 rfl rfl hp0 2 rfl (by decide) k_11_1 d_15_13_56 ?_
            refine lv_iload_n hx hb d_15_13_59 rfl (lv_at hl 2 rfl) ?_
            refine lv_iadd hx hb d_15_13_60 ?_
            refine lv_topi (fun y17 ey17 => ?_)
            refine gput hx hb hts inW_14 tyX14 tyX14_ok nmX14 hown hK hP15 hD15 hS15 0 rfl rfl hp0 3 (by decide) k_11_1 rfl rfl rfl d_15_13_61 (L' := [(3, .int y17), (4, .ref a6), (2, .ref a7)]) rfl (fun f18 H18 locs18 hF18 hm18 hP18 hD18 hS18 => ?_)
            have hM18 := gM.tr (gM.rf (f := g0)) hm18
            have hP18 : va_P D cls [(a0, .inr (14, rg 107 f18)), (a6, .inl (ca 2, 20, .inl g6)), (a7, .inl (ca 2, 3000, .inl f15))] H18 := hP18
            have hD18 : va_D A [(a0, .inr (14, rg 107 f18)), (a6, .inl (ca 2, 20, .inl g6)), (a7, .inl (ca 2, 3000, .inl f15))] := hD18
            clear hP15 hD15 hS15 hm18
            refine lv_aload_n hx hb d_15_13_64 rfl (lv_at hl 1 rfl) ?_
            refine gget hx hb hts inW_14 hown hK hP18 0 rfl rfl hF18 0 rfl (by decide) k_11_1 d_15_13_65 ?_
            have hP9 := hP18.sub (ws' := [(a0, .inr (14, rg 107 f18)), (a6, .inl (ca 2, 20, .inl g6)), (a7, .inl (ca 2, 3000, .inl f15))]) [0, 1, 2] rfl
            have hD9 := hD18.sub (ws' := [(a0, .inr (14, rg 107 f18)), (a6, .inl (ca 2, 20, .inl g6)), (a7, .inl (ca 2, 3000, .inl f15))]) [0, 1, 2] (by decide) rfl
            refine W.widen (k := 0) (n := 0) (Nat.le_of_ble_eq_true rfl) (Nat.le_of_ble_eq_true rfl) ?_
            exact W.iret (v := y17) hx hb hr (fun t ht hW => ⟨⟨y17, (f18, f15), rfl, ⟨⟨fun z => absurd z c1, fun _ z => absurd z c2, fun _ _ => ey17.trans (Int32.zero_add _)⟩, hM18.mono (by decide), hF18.sub [] rfl, hF15.sub [] rfl⟩, by rw [ht]; exact hP9, va_K.moved hW.alike hK, hD9⟩, hS18.F ht⟩) hS18.2.2 d_15_13_68
          · refine lv_aload_n hx hb d_15_13_31 rfl (lv_at hl 1 rfl) ?_
            refine gget hx hb hts inW_14 hown hK hP15 0 rfl rfl hp0 1 rfl (by decide) k_11_0 d_15_13_32 ?_
            refine lv_aload_n hx hb d_15_13_35 rfl (lv_at hl 1 rfl) ?_
            refine gget hx hb hts inW_14 hown hK hP15 0 rfl rfl hp0 2 rfl (by decide) k_11_1 d_15_13_36 ?_
            refine lv_iload_n hx hb d_15_13_39 rfl (lv_at hl 0 rfl) ?_
            refine lv_iadd hx hb d_15_13_40 ?_
            refine lv_topi (fun y19 ey19 => ?_)
            obtain rfl : y19 = 2 := ey19.trans (by decide)
            refine lv_aload_n hx hb d_15_13_41 rfl (lv_at hl 1 rfl) ?_
            refine gget hx hb hts inW_14 hown hK hP15 0 rfl rfl hp0 0 rfl (by decide) k_11_2 d_15_13_42 ?_
            refine lv_iload_n hx hb d_15_13_45 rfl (lv_at hl 0 rfl) ?_
            refine gbaldX hx hb hK hP15 1 2 rfl rfl (vinC (by decide)) d_15_13_46 (fun y20 => ?_)
            refine gbastX hx hb hK hP15 hD15 hS15 2 2 rfl rfl (vinC (by decide)) d_15_13_47 (fun f21 H21 locs21 hP21 hD21 hS21 => ?_)
            have hF21 : gF f21 [] := gF_nil
            have hP21 : va_P D cls [(a0, .inr (14, rg 107 g0)), (a6, .inl (ca 2, 20, .inl g6)), (a7, .inl (ca 2, 3000, .inl f21))] H21 := hP21
            have hD21 : va_D A [(a0, .inr (14, rg 107 g0)), (a6, .inl (ca 2, 20, .inl g6)), (a7, .inl (ca 2, 3000, .inl f21))] := hD21
            clear hP15 hD15 hS15 hF15
            refine lv_iinc (v := 3) (lv' := [(2, .int 3), (0, .ref a0), (1, .int v0)]) hx hb d_15_13_48 hl (k := 0) rfl (by decide) (by decide) rfl (fun ls hl => ?_)
            refine lv_goto (tgt := 26) hx hb d_15_13_51 (by decide) ?_
            refine lv_iload_n hx hb d_15_13_26 rfl (lv_at hl 0 rfl) ?_
            refine lv_iload_n hx hb d_15_13_27 rfl (lv_at hl 2 rfl) ?_
            refine lv_icmp_ge (tgt := 54) hx hb d_15_13_28 (by decide) (fun c22 => ?_) (fun c22 => ?_)
            · refine lv_aload_n hx hb d_15_13_54 rfl (lv_at hl 1 rfl) ?_
              refine lv_dup hx hb d_15_13_55 rfl ?_
              refine gget hx hb hts inW_14 hown hK hP21 0 rfl rfl hp0 2 rfl (by decide) k_11_1 d_15_13_56 ?_
              refine lv_iload_n hx hb d_15_13_59 rfl (lv_at hl 2 rfl) ?_
              refine lv_iadd hx hb d_15_13_60 ?_
              refine lv_topi (fun y23 ey23 => ?_)
              refine gput hx hb hts inW_14 tyX14 tyX14_ok nmX14 hown hK hP21 hD21 hS21 0 rfl rfl hp0 3 (by decide) k_11_1 rfl rfl rfl d_15_13_61 (L' := [(3, .int y23), (4, .ref a6), (2, .ref a7)]) rfl (fun f24 H24 locs24 hF24 hm24 hP24 hD24 hS24 => ?_)
              have hM24 := gM.tr (gM.rf (f := g0)) hm24
              have hP24 : va_P D cls [(a0, .inr (14, rg 107 f24)), (a6, .inl (ca 2, 20, .inl g6)), (a7, .inl (ca 2, 3000, .inl f21))] H24 := hP24
              have hD24 : va_D A [(a0, .inr (14, rg 107 f24)), (a6, .inl (ca 2, 20, .inl g6)), (a7, .inl (ca 2, 3000, .inl f21))] := hD24
              clear hP21 hD21 hS21 hm24
              refine lv_aload_n hx hb d_15_13_64 rfl (lv_at hl 1 rfl) ?_
              refine gget hx hb hts inW_14 hown hK hP24 0 rfl rfl hF24 0 rfl (by decide) k_11_1 d_15_13_65 ?_
              have hP9 := hP24.sub (ws' := [(a0, .inr (14, rg 107 f24)), (a6, .inl (ca 2, 20, .inl g6)), (a7, .inl (ca 2, 3000, .inl f21))]) [0, 1, 2] rfl
              have hD9 := hD24.sub (ws' := [(a0, .inr (14, rg 107 f24)), (a6, .inl (ca 2, 20, .inl g6)), (a7, .inl (ca 2, 3000, .inl f21))]) [0, 1, 2] (by decide) rfl
              refine W.widen (k := 0) (n := 0) (Nat.le_of_ble_eq_true rfl) (Nat.le_of_ble_eq_true rfl) ?_
              exact W.iret (v := y23) hx hb hr (fun t ht hW => ⟨⟨y23, (f24, f21), rfl, ⟨⟨fun z => absurd z c1, fun _ z => absurd z c2, fun _ _ => ey23.trans (Int32.zero_add _)⟩, hM24.mono (by decide), hF24.sub [] rfl, hF21.sub [] rfl⟩, by rw [ht]; exact hP9, va_K.moved hW.alike hK, hD9⟩, hS24.F ht⟩) hS24.2.2 d_15_13_68
            · refine lv_aload_n hx hb d_15_13_31 rfl (lv_at hl 1 rfl) ?_
              refine gget hx hb hts inW_14 hown hK hP21 0 rfl rfl hp0 1 rfl (by decide) k_11_0 d_15_13_32 ?_
              refine lv_aload_n hx hb d_15_13_35 rfl (lv_at hl 1 rfl) ?_
              refine gget hx hb hts inW_14 hown hK hP21 0 rfl rfl hp0 2 rfl (by decide) k_11_1 d_15_13_36 ?_
              refine lv_iload_n hx hb d_15_13_39 rfl (lv_at hl 0 rfl) ?_
              refine lv_iadd hx hb d_15_13_40 ?_
              refine lv_topi (fun y25 ey25 => ?_)
              obtain rfl : y25 = 3 := ey25.trans (by decide)
              refine lv_aload_n hx hb d_15_13_41 rfl (lv_at hl 1 rfl) ?_
              refine gget hx hb hts inW_14 hown hK hP21 0 rfl rfl hp0 0 rfl (by decide) k_11_2 d_15_13_42 ?_
              refine lv_iload_n hx hb d_15_13_45 rfl (lv_at hl 0 rfl) ?_
              refine gbaldX hx hb hK hP21 1 2 rfl rfl (vinC (by decide)) d_15_13_46 (fun y26 => ?_)
              refine gbastX hx hb hK hP21 hD21 hS21 2 2 rfl rfl (vinC (by decide)) d_15_13_47 (fun f27 H27 locs27 hP27 hD27 hS27 => ?_)
              have hF27 : gF f27 [] := gF_nil
              have hP27 : va_P D cls [(a0, .inr (14, rg 107 g0)), (a6, .inl (ca 2, 20, .inl g6)), (a7, .inl (ca 2, 3000, .inl f27))] H27 := hP27
              have hD27 : va_D A [(a0, .inr (14, rg 107 g0)), (a6, .inl (ca 2, 20, .inl g6)), (a7, .inl (ca 2, 3000, .inl f27))] := hD27
              clear hP21 hD21 hS21 hF21
              refine lv_iinc (v := 4) (lv' := [(2, .int 4), (0, .ref a0), (1, .int v0)]) hx hb d_15_13_48 hl (k := 0) rfl (by decide) (by decide) rfl (fun ls hl => ?_)
              refine lv_goto (tgt := 26) hx hb d_15_13_51 (by decide) ?_
              refine lv_iload_n hx hb d_15_13_26 rfl (lv_at hl 0 rfl) ?_
              refine lv_iload_n hx hb d_15_13_27 rfl (lv_at hl 2 rfl) ?_
              refine lv_icmp_ge (tgt := 54) hx hb d_15_13_28 (by decide) (fun c28 => ?_) (fun c28 => ?_)
              · refine lv_aload_n hx hb d_15_13_54 rfl (lv_at hl 1 rfl) ?_
                refine lv_dup hx hb d_15_13_55 rfl ?_
                refine gget hx hb hts inW_14 hown hK hP27 0 rfl rfl hp0 2 rfl (by decide) k_11_1 d_15_13_56 ?_
                refine lv_iload_n hx hb d_15_13_59 rfl (lv_at hl 2 rfl) ?_
                refine lv_iadd hx hb d_15_13_60 ?_
                refine lv_topi (fun y29 ey29 => ?_)
                refine gput hx hb hts inW_14 tyX14 tyX14_ok nmX14 hown hK hP27 hD27 hS27 0 rfl rfl hp0 3 (by decide) k_11_1 rfl rfl rfl d_15_13_61 (L' := [(3, .int y29), (4, .ref a6), (2, .ref a7)]) rfl (fun f30 H30 locs30 hF30 hm30 hP30 hD30 hS30 => ?_)
                have hM30 := gM.tr (gM.rf (f := g0)) hm30
                have hP30 : va_P D cls [(a0, .inr (14, rg 107 f30)), (a6, .inl (ca 2, 20, .inl g6)), (a7, .inl (ca 2, 3000, .inl f27))] H30 := hP30
                have hD30 : va_D A [(a0, .inr (14, rg 107 f30)), (a6, .inl (ca 2, 20, .inl g6)), (a7, .inl (ca 2, 3000, .inl f27))] := hD30
                clear hP27 hD27 hS27 hm30
                refine lv_aload_n hx hb d_15_13_64 rfl (lv_at hl 1 rfl) ?_
                refine gget hx hb hts inW_14 hown hK hP30 0 rfl rfl hF30 0 rfl (by decide) k_11_1 d_15_13_65 ?_
                have hP9 := hP30.sub (ws' := [(a0, .inr (14, rg 107 f30)), (a6, .inl (ca 2, 20, .inl g6)), (a7, .inl (ca 2, 3000, .inl f27))]) [0, 1, 2] rfl
                have hD9 := hD30.sub (ws' := [(a0, .inr (14, rg 107 f30)), (a6, .inl (ca 2, 20, .inl g6)), (a7, .inl (ca 2, 3000, .inl f27))]) [0, 1, 2] (by decide) rfl
                refine W.widen (k := 0) (n := 0) (Nat.le_of_ble_eq_true rfl) (Nat.le_of_ble_eq_true rfl) ?_
                exact W.iret (v := y29) hx hb hr (fun t ht hW => ⟨⟨y29, (f30, f27), rfl, ⟨⟨fun z => absurd z c1, fun _ z => absurd z c2, fun _ _ => ey29.trans (Int32.zero_add _)⟩, hM30.mono (by decide), hF30.sub [] rfl, hF27.sub [] rfl⟩, by rw [ht]; exact hP9, va_K.moved hW.alike hK, hD9⟩, hS30.F ht⟩) hS30.2.2 d_15_13_68
              · refine lv_aload_n hx hb d_15_13_31 rfl (lv_at hl 1 rfl) ?_
                refine gget hx hb hts inW_14 hown hK hP27 0 rfl rfl hp0 1 rfl (by decide) k_11_0 d_15_13_32 ?_
                refine lv_aload_n hx hb d_15_13_35 rfl (lv_at hl 1 rfl) ?_
                refine gget hx hb hts inW_14 hown hK hP27 0 rfl rfl hp0 2 rfl (by decide) k_11_1 d_15_13_36 ?_
                refine lv_iload_n hx hb d_15_13_39 rfl (lv_at hl 0 rfl) ?_
                refine lv_iadd hx hb d_15_13_40 ?_
                refine lv_topi (fun y31 ey31 => ?_)
                obtain rfl : y31 = 4 := ey31.trans (by decide)
                refine lv_aload_n hx hb d_15_13_41 rfl (lv_at hl 1 rfl) ?_
                refine gget hx hb hts inW_14 hown hK hP27 0 rfl rfl hp0 0 rfl (by decide) k_11_2 d_15_13_42 ?_
                refine lv_iload_n hx hb d_15_13_45 rfl (lv_at hl 0 rfl) ?_
                refine gbaldX hx hb hK hP27 1 2 rfl rfl (vinC (by decide)) d_15_13_46 (fun y32 => ?_)
                refine gbastX hx hb hK hP27 hD27 hS27 2 2 rfl rfl (vinC (by decide)) d_15_13_47 (fun f33 H33 locs33 hP33 hD33 hS33 => ?_)
                have hF33 : gF f33 [] := gF_nil
                have hP33 : va_P D cls [(a0, .inr (14, rg 107 g0)), (a6, .inl (ca 2, 20, .inl g6)), (a7, .inl (ca 2, 3000, .inl f33))] H33 := hP33
                have hD33 : va_D A [(a0, .inr (14, rg 107 g0)), (a6, .inl (ca 2, 20, .inl g6)), (a7, .inl (ca 2, 3000, .inl f33))] := hD33
                clear hP27 hD27 hS27 hF27
                refine lv_iinc (v := 5) (lv' := [(2, .int 5), (0, .ref a0), (1, .int v0)]) hx hb d_15_13_48 hl (k := 0) rfl (by decide) (by decide) rfl (fun ls hl => ?_)
                refine lv_goto (tgt := 26) hx hb d_15_13_51 (by decide) ?_
                refine lv_iload_n hx hb d_15_13_26 rfl (lv_at hl 0 rfl) ?_
                refine lv_iload_n hx hb d_15_13_27 rfl (lv_at hl 2 rfl) ?_
                refine lv_icmp_ge (tgt := 54) hx hb d_15_13_28 (by decide) (fun c34 => ?_) (fun c34 => ?_)
                · refine lv_aload_n hx hb d_15_13_54 rfl (lv_at hl 1 rfl) ?_
                  refine lv_dup hx hb d_15_13_55 rfl ?_
                  refine gget hx hb hts inW_14 hown hK hP33 0 rfl rfl hp0 2 rfl (by decide) k_11_1 d_15_13_56 ?_
                  refine lv_iload_n hx hb d_15_13_59 rfl (lv_at hl 2 rfl) ?_
                  refine lv_iadd hx hb d_15_13_60 ?_
                  refine lv_topi (fun y35 ey35 => ?_)
                  refine gput hx hb hts inW_14 tyX14 tyX14_ok nmX14 hown hK hP33 hD33 hS33 0 rfl rfl hp0 3 (by decide) k_11_1 rfl rfl rfl d_15_13_61 (L' := [(3, .int y35), (4, .ref a6), (2, .ref a7)]) rfl (fun f36 H36 locs36 hF36 hm36 hP36 hD36 hS36 => ?_)
                  have hM36 := gM.tr (gM.rf (f := g0)) hm36
                  have hP36 : va_P D cls [(a0, .inr (14, rg 107 f36)), (a6, .inl (ca 2, 20, .inl g6)), (a7, .inl (ca 2, 3000, .inl f33))] H36 := hP36
                  have hD36 : va_D A [(a0, .inr (14, rg 107 f36)), (a6, .inl (ca 2, 20, .inl g6)), (a7, .inl (ca 2, 3000, .inl f33))] := hD36
                  clear hP33 hD33 hS33 hm36
                  refine lv_aload_n hx hb d_15_13_64 rfl (lv_at hl 1 rfl) ?_
                  refine gget hx hb hts inW_14 hown hK hP36 0 rfl rfl hF36 0 rfl (by decide) k_11_1 d_15_13_65 ?_
                  have hP9 := hP36.sub (ws' := [(a0, .inr (14, rg 107 f36)), (a6, .inl (ca 2, 20, .inl g6)), (a7, .inl (ca 2, 3000, .inl f33))]) [0, 1, 2] rfl
                  have hD9 := hD36.sub (ws' := [(a0, .inr (14, rg 107 f36)), (a6, .inl (ca 2, 20, .inl g6)), (a7, .inl (ca 2, 3000, .inl f33))]) [0, 1, 2] (by decide) rfl
                  refine W.widen (k := 0) (n := 0) (Nat.le_of_ble_eq_true rfl) (Nat.le_of_ble_eq_true rfl) ?_
                  exact W.iret (v := y35) hx hb hr (fun t ht hW => ⟨⟨y35, (f36, f33), rfl, ⟨⟨fun z => absurd z c1, fun _ z => absurd z c2, fun _ _ => ey35.trans (Int32.zero_add _)⟩, hM36.mono (by decide), hF36.sub [] rfl, hF33.sub [] rfl⟩, by rw [ht]; exact hP9, va_K.moved hW.alike hK, hD9⟩, hS36.F ht⟩) hS36.2.2 d_15_13_68
                · refine lv_aload_n hx hb d_15_13_31 rfl (lv_at hl 1 rfl) ?_
                  refine gget hx hb hts inW_14 hown hK hP33 0 rfl rfl hp0 1 rfl (by decide) k_11_0 d_15_13_32 ?_
                  refine lv_aload_n hx hb d_15_13_35 rfl (lv_at hl 1 rfl) ?_
                  refine gget hx hb hts inW_14 hown hK hP33 0 rfl rfl hp0 2 rfl (by decide) k_11_1 d_15_13_36 ?_
                  refine lv_iload_n hx hb d_15_13_39 rfl (lv_at hl 0 rfl) ?_
                  refine lv_iadd hx hb d_15_13_40 ?_
                  refine lv_topi (fun y37 ey37 => ?_)
                  obtain rfl : y37 = 5 := ey37.trans (by decide)
                  refine lv_aload_n hx hb d_15_13_41 rfl (lv_at hl 1 rfl) ?_
                  refine gget hx hb hts inW_14 hown hK hP33 0 rfl rfl hp0 0 rfl (by decide) k_11_2 d_15_13_42 ?_
                  refine lv_iload_n hx hb d_15_13_45 rfl (lv_at hl 0 rfl) ?_
                  refine gbaldX hx hb hK hP33 1 2 rfl rfl (vinC (by decide)) d_15_13_46 (fun y38 => ?_)
                  refine gbastX hx hb hK hP33 hD33 hS33 2 2 rfl rfl (vinC (by decide)) d_15_13_47 (fun f39 H39 locs39 hP39 hD39 hS39 => ?_)
                  have hF39 : gF f39 [] := gF_nil
                  have hP39 : va_P D cls [(a0, .inr (14, rg 107 g0)), (a6, .inl (ca 2, 20, .inl g6)), (a7, .inl (ca 2, 3000, .inl f39))] H39 := hP39
                  have hD39 : va_D A [(a0, .inr (14, rg 107 g0)), (a6, .inl (ca 2, 20, .inl g6)), (a7, .inl (ca 2, 3000, .inl f39))] := hD39
                  clear hP33 hD33 hS33 hF33
                  refine lv_iinc (v := 6) (lv' := [(2, .int 6), (0, .ref a0), (1, .int v0)]) hx hb d_15_13_48 hl (k := 0) rfl (by decide) (by decide) rfl (fun ls hl => ?_)
                  refine lv_goto (tgt := 26) hx hb d_15_13_51 (by decide) ?_
                  refine lv_iload_n hx hb d_15_13_26 rfl (lv_at hl 0 rfl) ?_
                  refine lv_iload_n hx hb d_15_13_27 rfl (lv_at hl 2 rfl) ?_
                  refine lv_icmp_ge (tgt := 54) hx hb d_15_13_28 (by decide) (fun c40 => ?_) (fun c40 => ?_)
                  · refine lv_aload_n hx hb d_15_13_54 rfl (lv_at hl 1 rfl) ?_
                    refine lv_dup hx hb d_15_13_55 rfl ?_
                    refine gget hx hb hts inW_14 hown hK hP39 0 rfl rfl hp0 2 rfl (by decide) k_11_1 d_15_13_56 ?_
                    refine lv_iload_n hx hb d_15_13_59 rfl (lv_at hl 2 rfl) ?_
                    refine lv_iadd hx hb d_15_13_60 ?_
                    refine lv_topi (fun y41 ey41 => ?_)
                    refine gput hx hb hts inW_14 tyX14 tyX14_ok nmX14 hown hK hP39 hD39 hS39 0 rfl rfl hp0 3 (by decide) k_11_1 rfl rfl rfl d_15_13_61 (L' := [(3, .int y41), (4, .ref a6), (2, .ref a7)]) rfl (fun f42 H42 locs42 hF42 hm42 hP42 hD42 hS42 => ?_)
                    have hM42 := gM.tr (gM.rf (f := g0)) hm42
                    have hP42 : va_P D cls [(a0, .inr (14, rg 107 f42)), (a6, .inl (ca 2, 20, .inl g6)), (a7, .inl (ca 2, 3000, .inl f39))] H42 := hP42
                    have hD42 : va_D A [(a0, .inr (14, rg 107 f42)), (a6, .inl (ca 2, 20, .inl g6)), (a7, .inl (ca 2, 3000, .inl f39))] := hD42
                    clear hP39 hD39 hS39 hm42
                    refine lv_aload_n hx hb d_15_13_64 rfl (lv_at hl 1 rfl) ?_
                    refine gget hx hb hts inW_14 hown hK hP42 0 rfl rfl hF42 0 rfl (by decide) k_11_1 d_15_13_65 ?_
                    have hP9 := hP42.sub (ws' := [(a0, .inr (14, rg 107 f42)), (a6, .inl (ca 2, 20, .inl g6)), (a7, .inl (ca 2, 3000, .inl f39))]) [0, 1, 2] rfl
                    have hD9 := hD42.sub (ws' := [(a0, .inr (14, rg 107 f42)), (a6, .inl (ca 2, 20, .inl g6)), (a7, .inl (ca 2, 3000, .inl f39))]) [0, 1, 2] (by decide) rfl
                    refine W.widen (k := 0) (n := 0) (Nat.le_of_ble_eq_true rfl) (Nat.le_of_ble_eq_true rfl) ?_
                    exact W.iret (v := y41) hx hb hr (fun t ht hW => ⟨⟨y41, (f42, f39), rfl, ⟨⟨fun z => absurd z c1, fun _ z => absurd z c2, fun _ _ => ey41.trans (Int32.zero_add _)⟩, hM42.mono (by decide), hF42.sub [] rfl, hF39.sub [] rfl⟩, by rw [ht]; exact hP9, va_K.moved hW.alike hK, hD9⟩, hS42.F ht⟩) hS42.2.2 d_15_13_68
                  · refine lv_aload_n hx hb d_15_13_31 rfl (lv_at hl 1 rfl) ?_
                    refine gget hx hb hts inW_14 hown hK hP39 0 rfl rfl hp0 1 rfl (by decide) k_11_0 d_15_13_32 ?_
                    refine lv_aload_n hx hb d_15_13_35 rfl (lv_at hl 1 rfl) ?_
                    refine gget hx hb hts inW_14 hown hK hP39 0 rfl rfl hp0 2 rfl (by decide) k_11_1 d_15_13_36 ?_
                    refine lv_iload_n hx hb d_15_13_39 rfl (lv_at hl 0 rfl) ?_
                    refine lv_iadd hx hb d_15_13_40 ?_
                    refine lv_topi (fun y43 ey43 => ?_)
                    obtain rfl : y43 = 6 := ey43.trans (by decide)
                    refine lv_aload_n hx hb d_15_13_41 rfl (lv_at hl 1 rfl) ?_
                    refine gget hx hb hts inW_14 hown hK hP39 0 rfl rfl hp0 0 rfl (by decide) k_11_2 d_15_13_42 ?_
                    refine lv_iload_n hx hb d_15_13_45 rfl (lv_at hl 0 rfl) ?_
                    refine gbaldX hx hb hK hP39 1 2 rfl rfl (vinC (by decide)) d_15_13_46 (fun y44 => ?_)
                    refine gbastX hx hb hK hP39 hD39 hS39 2 2 rfl rfl (vinC (by decide)) d_15_13_47 (fun f45 H45 locs45 hP45 hD45 hS45 => ?_)
                    have hF45 : gF f45 [] := gF_nil
                    have hP45 : va_P D cls [(a0, .inr (14, rg 107 g0)), (a6, .inl (ca 2, 20, .inl g6)), (a7, .inl (ca 2, 3000, .inl f45))] H45 := hP45
                    have hD45 : va_D A [(a0, .inr (14, rg 107 g0)), (a6, .inl (ca 2, 20, .inl g6)), (a7, .inl (ca 2, 3000, .inl f45))] := hD45
                    clear hP39 hD39 hS39 hF39
                    refine lv_iinc (v := 7) (lv' := [(2, .int 7), (0, .ref a0), (1, .int v0)]) hx hb d_15_13_48 hl (k := 0) rfl (by decide) (by decide) rfl (fun ls hl => ?_)
                    refine lv_goto (tgt := 26) hx hb d_15_13_51 (by decide) ?_
                    refine lv_iload_n hx hb d_15_13_26 rfl (lv_at hl 0 rfl) ?_
                    refine lv_iload_n hx hb d_15_13_27 rfl (lv_at hl 2 rfl) ?_
                    refine lv_icmp_ge (tgt := 54) hx hb d_15_13_28 (by decide) (fun c46 => ?_) (fun c46 => ?_)
                    · refine lv_aload_n hx hb d_15_13_54 rfl (lv_at hl 1 rfl) ?_
                      refine lv_dup hx hb d_15_13_55 rfl ?_
                      refine gget hx hb hts inW_14 hown hK hP45 0 rfl rfl hp0 2 rfl (by decide) k_11_1 d_15_13_56 ?_
                      refine lv_iload_n hx hb d_15_13_59 rfl (lv_at hl 2 rfl) ?_
                      refine lv_iadd hx hb d_15_13_60 ?_
                      refine lv_topi (fun y47 ey47 => ?_)
                      refine gput hx hb hts inW_14 tyX14 tyX14_ok nmX14 hown hK hP45 hD45 hS45 0 rfl rfl hp0 3 (by decide) k_11_1 rfl rfl rfl d_15_13_61 (L' := [(3, .int y47), (4, .ref a6), (2, .ref a7)]) rfl (fun f48 H48 locs48 hF48 hm48 hP48 hD48 hS48 => ?_)
                      have hM48 := gM.tr (gM.rf (f := g0)) hm48
                      have hP48 : va_P D cls [(a0, .inr (14, rg 107 f48)), (a6, .inl (ca 2, 20, .inl g6)), (a7, .inl (ca 2, 3000, .inl f45))] H48 := hP48
                      have hD48 : va_D A [(a0, .inr (14, rg 107 f48)), (a6, .inl (ca 2, 20, .inl g6)), (a7, .inl (ca 2, 3000, .inl f45))] := hD48
                      clear hP45 hD45 hS45 hm48
                      refine lv_aload_n hx hb d_15_13_64 rfl (lv_at hl 1 rfl) ?_
                      refine gget hx hb hts inW_14 hown hK hP48 0 rfl rfl hF48 0 rfl (by decide) k_11_1 d_15_13_65 ?_
                      have hP9 := hP48.sub (ws' := [(a0, .inr (14, rg 107 f48)), (a6, .inl (ca 2, 20, .inl g6)), (a7, .inl (ca 2, 3000, .inl f45))]) [0, 1, 2] rfl
                      have hD9 := hD48.sub (ws' := [(a0, .inr (14, rg 107 f48)), (a6, .inl (ca 2, 20, .inl g6)), (a7, .inl (ca 2, 3000, .inl f45))]) [0, 1, 2] (by decide) rfl
                      refine W.widen (k := 0) (n := 0) (Nat.le_of_ble_eq_true rfl) (Nat.le_of_ble_eq_true rfl) ?_
                      exact W.iret (v := y47) hx hb hr (fun t ht hW => ⟨⟨y47, (f48, f45), rfl, ⟨⟨fun z => absurd z c1, fun _ z => absurd z c2, fun _ _ => ey47.trans (Int32.zero_add _)⟩, hM48.mono (by decide), hF48.sub [] rfl, hF45.sub [] rfl⟩, by rw [ht]; exact hP9, va_K.moved hW.alike hK, hD9⟩, hS48.F ht⟩) hS48.2.2 d_15_13_68
                    · refine lv_aload_n hx hb d_15_13_31 rfl (lv_at hl 1 rfl) ?_
                      refine gget hx hb hts inW_14 hown hK hP45 0 rfl rfl hp0 1 rfl (by decide) k_11_0 d_15_13_32 ?_
                      refine lv_aload_n hx hb d_15_13_35 rfl (lv_at hl 1 rfl) ?_
                      refine gget hx hb hts inW_14 hown hK hP45 0 rfl rfl hp0 2 rfl (by decide) k_11_1 d_15_13_36 ?_
                      refine lv_iload_n hx hb d_15_13_39 rfl (lv_at hl 0 rfl) ?_
                      refine lv_iadd hx hb d_15_13_40 ?_
                      refine lv_topi (fun y49 ey49 => ?_)
                      obtain rfl : y49 = 7 := ey49.trans (by decide)
                      refine lv_aload_n hx hb d_15_13_41 rfl (lv_at hl 1 rfl) ?_
                      refine gget hx hb hts inW_14 hown hK hP45 0 rfl rfl hp0 0 rfl (by decide) k_11_2 d_15_13_42 ?_
                      refine lv_iload_n hx hb d_15_13_45 rfl (lv_at hl 0 rfl) ?_
                      refine gbaldX hx hb hK hP45 1 2 rfl rfl (vinC (by decide)) d_15_13_46 (fun y50 => ?_)
                      refine gbastX hx hb hK hP45 hD45 hS45 2 2 rfl rfl (vinC (by decide)) d_15_13_47 (fun f51 H51 locs51 hP51 hD51 hS51 => ?_)
                      have hF51 : gF f51 [] := gF_nil
                      have hP51 : va_P D cls [(a0, .inr (14, rg 107 g0)), (a6, .inl (ca 2, 20, .inl g6)), (a7, .inl (ca 2, 3000, .inl f51))] H51 := hP51
                      have hD51 : va_D A [(a0, .inr (14, rg 107 g0)), (a6, .inl (ca 2, 20, .inl g6)), (a7, .inl (ca 2, 3000, .inl f51))] := hD51
                      clear hP45 hD45 hS45 hF45
                      refine lv_iinc (v := 8) (lv' := [(2, .int 8), (0, .ref a0), (1, .int v0)]) hx hb d_15_13_48 hl (k := 0) rfl (by decide) (by decide) rfl (fun ls hl => ?_)
                      refine lv_goto (tgt := 26) hx hb d_15_13_51 (by decide) ?_
                      refine lv_iload_n hx hb d_15_13_26 rfl (lv_at hl 0 rfl) ?_
                      refine lv_iload_n hx hb d_15_13_27 rfl (lv_at hl 2 rfl) ?_
                      refine lv_icmp_ge (tgt := 54) hx hb d_15_13_28 (by decide) (fun c52 => ?_) (fun c52 => ?_)
                      · refine lv_aload_n hx hb d_15_13_54 rfl (lv_at hl 1 rfl) ?_
                        refine lv_dup hx hb d_15_13_55 rfl ?_
                        refine gget hx hb hts inW_14 hown hK hP51 0 rfl rfl hp0 2 rfl (by decide) k_11_1 d_15_13_56 ?_
                        refine lv_iload_n hx hb d_15_13_59 rfl (lv_at hl 2 rfl) ?_
                        refine lv_iadd hx hb d_15_13_60 ?_
                        refine lv_topi (fun y53 ey53 => ?_)
                        refine gput hx hb hts inW_14 tyX14 tyX14_ok nmX14 hown hK hP51 hD51 hS51 0 rfl rfl hp0 3 (by decide) k_11_1 rfl rfl rfl d_15_13_61 (L' := [(3, .int y53), (4, .ref a6), (2, .ref a7)]) rfl (fun f54 H54 locs54 hF54 hm54 hP54 hD54 hS54 => ?_)
                        have hM54 := gM.tr (gM.rf (f := g0)) hm54
                        have hP54 : va_P D cls [(a0, .inr (14, rg 107 f54)), (a6, .inl (ca 2, 20, .inl g6)), (a7, .inl (ca 2, 3000, .inl f51))] H54 := hP54
                        have hD54 : va_D A [(a0, .inr (14, rg 107 f54)), (a6, .inl (ca 2, 20, .inl g6)), (a7, .inl (ca 2, 3000, .inl f51))] := hD54
                        clear hP51 hD51 hS51 hm54
                        refine lv_aload_n hx hb d_15_13_64 rfl (lv_at hl 1 rfl) ?_
                        refine gget hx hb hts inW_14 hown hK hP54 0 rfl rfl hF54 0 rfl (by decide) k_11_1 d_15_13_65 ?_
                        have hP9 := hP54.sub (ws' := [(a0, .inr (14, rg 107 f54)), (a6, .inl (ca 2, 20, .inl g6)), (a7, .inl (ca 2, 3000, .inl f51))]) [0, 1, 2] rfl
                        have hD9 := hD54.sub (ws' := [(a0, .inr (14, rg 107 f54)), (a6, .inl (ca 2, 20, .inl g6)), (a7, .inl (ca 2, 3000, .inl f51))]) [0, 1, 2] (by decide) rfl
                        refine W.widen (k := 0) (n := 0) (Nat.le_of_ble_eq_true rfl) (Nat.le_of_ble_eq_true rfl) ?_
                        exact W.iret (v := y53) hx hb hr (fun t ht hW => ⟨⟨y53, (f54, f51), rfl, ⟨⟨fun z => absurd z c1, fun _ z => absurd z c2, fun _ _ => ey53.trans (Int32.zero_add _)⟩, hM54.mono (by decide), hF54.sub [] rfl, hF51.sub [] rfl⟩, by rw [ht]; exact hP9, va_K.moved hW.alike hK, hD9⟩, hS54.F ht⟩) hS54.2.2 d_15_13_68
                      · refine lv_aload_n hx hb d_15_13_31 rfl (lv_at hl 1 rfl) ?_
                        refine gget hx hb hts inW_14 hown hK hP51 0 rfl rfl hp0 1 rfl (by decide) k_11_0 d_15_13_32 ?_
                        refine lv_aload_n hx hb d_15_13_35 rfl (lv_at hl 1 rfl) ?_
                        refine gget hx hb hts inW_14 hown hK hP51 0 rfl rfl hp0 2 rfl (by decide) k_11_1 d_15_13_36 ?_
                        refine lv_iload_n hx hb d_15_13_39 rfl (lv_at hl 0 rfl) ?_
                        refine lv_iadd hx hb d_15_13_40 ?_
                        refine lv_topi (fun y55 ey55 => ?_)
                        obtain rfl : y55 = 8 := ey55.trans (by decide)
                        refine lv_aload_n hx hb d_15_13_41 rfl (lv_at hl 1 rfl) ?_
                        refine gget hx hb hts inW_14 hown hK hP51 0 rfl rfl hp0 0 rfl (by decide) k_11_2 d_15_13_42 ?_
                        refine lv_iload_n hx hb d_15_13_45 rfl (lv_at hl 0 rfl) ?_
                        refine gbaldX hx hb hK hP51 1 2 rfl rfl (vinC (by decide)) d_15_13_46 (fun y56 => ?_)
                        refine gbastX hx hb hK hP51 hD51 hS51 2 2 rfl rfl (vinC (by decide)) d_15_13_47 (fun f57 H57 locs57 hP57 hD57 hS57 => ?_)
                        have hF57 : gF f57 [] := gF_nil
                        have hP57 : va_P D cls [(a0, .inr (14, rg 107 g0)), (a6, .inl (ca 2, 20, .inl g6)), (a7, .inl (ca 2, 3000, .inl f57))] H57 := hP57
                        have hD57 : va_D A [(a0, .inr (14, rg 107 g0)), (a6, .inl (ca 2, 20, .inl g6)), (a7, .inl (ca 2, 3000, .inl f57))] := hD57
                        clear hP51 hD51 hS51 hF51
                        refine lv_iinc (v := 9) (lv' := [(2, .int 9), (0, .ref a0), (1, .int v0)]) hx hb d_15_13_48 hl (k := 0) rfl (by decide) (by decide) rfl (fun ls hl => ?_)
                        refine lv_goto (tgt := 26) hx hb d_15_13_51 (by decide) ?_
                        refine lv_iload_n hx hb d_15_13_26 rfl (lv_at hl 0 rfl) ?_
                        refine lv_iload_n hx hb d_15_13_27 rfl (lv_at hl 2 rfl) ?_
                        refine lv_icmp_ge (tgt := 54) hx hb d_15_13_28 (by decide) (fun c58 => ?_) (fun c58 => ?_)
                        · refine lv_aload_n hx hb d_15_13_54 rfl (lv_at hl 1 rfl) ?_
                          refine lv_dup hx hb d_15_13_55 rfl ?_
                          refine gget hx hb hts inW_14 hown hK hP57 0 rfl rfl hp0 2 rfl (by decide) k_11_1 d_15_13_56 ?_
                          refine lv_iload_n hx hb d_15_13_59 rfl (lv_at hl 2 rfl) ?_
                          refine lv_iadd hx hb d_15_13_60 ?_
                          refine lv_topi (fun y59 ey59 => ?_)
                          refine gput hx hb hts inW_14 tyX14 tyX14_ok nmX14 hown hK hP57 hD57 hS57 0 rfl rfl hp0 3 (by decide) k_11_1 rfl rfl rfl d_15_13_61 (L' := [(3, .int y59), (4, .ref a6), (2, .ref a7)]) rfl (fun f60 H60 locs60 hF60 hm60 hP60 hD60 hS60 => ?_)
                          have hM60 := gM.tr (gM.rf (f := g0)) hm60
                          have hP60 : va_P D cls [(a0, .inr (14, rg 107 f60)), (a6, .inl (ca 2, 20, .inl g6)), (a7, .inl (ca 2, 3000, .inl f57))] H60 := hP60
                          have hD60 : va_D A [(a0, .inr (14, rg 107 f60)), (a6, .inl (ca 2, 20, .inl g6)), (a7, .inl (ca 2, 3000, .inl f57))] := hD60
                          clear hP57 hD57 hS57 hm60
                          refine lv_aload_n hx hb d_15_13_64 rfl (lv_at hl 1 rfl) ?_
                          refine gget hx hb hts inW_14 hown hK hP60 0 rfl rfl hF60 0 rfl (by decide) k_11_1 d_15_13_65 ?_
                          have hP9 := hP60.sub (ws' := [(a0, .inr (14, rg 107 f60)), (a6, .inl (ca 2, 20, .inl g6)), (a7, .inl (ca 2, 3000, .inl f57))]) [0, 1, 2] rfl
                          have hD9 := hD60.sub (ws' := [(a0, .inr (14, rg 107 f60)), (a6, .inl (ca 2, 20, .inl g6)), (a7, .inl (ca 2, 3000, .inl f57))]) [0, 1, 2] (by decide) rfl
                          refine W.widen (k := 0) (n := 0) (Nat.le_of_ble_eq_true rfl) (Nat.le_of_ble_eq_true rfl) ?_
                          exact W.iret (v := y59) hx hb hr (fun t ht hW => ⟨⟨y59, (f60, f57), rfl, ⟨⟨fun z => absurd z c1, fun _ z => absurd z c2, fun _ _ => ey59.trans (Int32.zero_add _)⟩, hM60.mono (by decide), hF60.sub [] rfl, hF57.sub [] rfl⟩, by rw [ht]; exact hP9, va_K.moved hW.alike hK, hD9⟩, hS60.F ht⟩) hS60.2.2 d_15_13_68
                        · refine lv_aload_n hx hb d_15_13_31 rfl (lv_at hl 1 rfl) ?_
                          refine gget hx hb hts inW_14 hown hK hP57 0 rfl rfl hp0 1 rfl (by decide) k_11_0 d_15_13_32 ?_
                          refine lv_aload_n hx hb d_15_13_35 rfl (lv_at hl 1 rfl) ?_
                          refine gget hx hb hts inW_14 hown hK hP57 0 rfl rfl hp0 2 rfl (by decide) k_11_1 d_15_13_36 ?_
                          refine lv_iload_n hx hb d_15_13_39 rfl (lv_at hl 0 rfl) ?_
                          refine lv_iadd hx hb d_15_13_40 ?_
                          refine lv_topi (fun y61 ey61 => ?_)
                          obtain rfl : y61 = 9 := ey61.trans (by decide)
                          refine lv_aload_n hx hb d_15_13_41 rfl (lv_at hl 1 rfl) ?_
                          refine gget hx hb hts inW_14 hown hK hP57 0 rfl rfl hp0 0 rfl (by decide) k_11_2 d_15_13_42 ?_
                          refine lv_iload_n hx hb d_15_13_45 rfl (lv_at hl 0 rfl) ?_
                          refine gbaldX hx hb hK hP57 1 2 rfl rfl (vinC (by decide)) d_15_13_46 (fun y62 => ?_)
                          refine gbastX hx hb hK hP57 hD57 hS57 2 2 rfl rfl (vinC (by decide)) d_15_13_47 (fun f63 H63 locs63 hP63 hD63 hS63 => ?_)
                          have hF63 : gF f63 [] := gF_nil
                          have hP63 : va_P D cls [(a0, .inr (14, rg 107 g0)), (a6, .inl (ca 2, 20, .inl g6)), (a7, .inl (ca 2, 3000, .inl f63))] H63 := hP63
                          have hD63 : va_D A [(a0, .inr (14, rg 107 g0)), (a6, .inl (ca 2, 20, .inl g6)), (a7, .inl (ca 2, 3000, .inl f63))] := hD63
                          clear hP57 hD57 hS57 hF57
                          refine lv_iinc (v := 10) (lv' := [(2, .int 10), (0, .ref a0), (1, .int v0)]) hx hb d_15_13_48 hl (k := 0) rfl (by decide) (by decide) rfl (fun ls hl => ?_)
                          refine lv_goto (tgt := 26) hx hb d_15_13_51 (by decide) ?_
                          refine lv_iload_n hx hb d_15_13_26 rfl (lv_at hl 0 rfl) ?_
                          refine lv_iload_n hx hb d_15_13_27 rfl (lv_at hl 2 rfl) ?_
                          refine lv_icmp_ge (tgt := 54) hx hb d_15_13_28 (by decide) (fun c64 => ?_) (fun c64 => ?_)
                          · refine lv_aload_n hx hb d_15_13_54 rfl (lv_at hl 1 rfl) ?_
                            refine lv_dup hx hb d_15_13_55 rfl ?_
                            refine gget hx hb hts inW_14 hown hK hP63 0 rfl rfl hp0 2 rfl (by decide) k_11_1 d_15_13_56 ?_
                            refine lv_iload_n hx hb d_15_13_59 rfl (lv_at hl 2 rfl) ?_
                            refine lv_iadd hx hb d_15_13_60 ?_
                            refine lv_topi (fun y65 ey65 => ?_)
                            refine gput hx hb hts inW_14 tyX14 tyX14_ok nmX14 hown hK hP63 hD63 hS63 0 rfl rfl hp0 3 (by decide) k_11_1 rfl rfl rfl d_15_13_61 (L' := [(3, .int y65), (4, .ref a6), (2, .ref a7)]) rfl (fun f66 H66 locs66 hF66 hm66 hP66 hD66 hS66 => ?_)
                            have hM66 := gM.tr (gM.rf (f := g0)) hm66
                            have hP66 : va_P D cls [(a0, .inr (14, rg 107 f66)), (a6, .inl (ca 2, 20, .inl g6)), (a7, .inl (ca 2, 3000, .inl f63))] H66 := hP66
                            have hD66 : va_D A [(a0, .inr (14, rg 107 f66)), (a6, .inl (ca 2, 20, .inl g6)), (a7, .inl (ca 2, 3000, .inl f63))] := hD66
                            clear hP63 hD63 hS63 hm66
                            refine lv_aload_n hx hb d_15_13_64 rfl (lv_at hl 1 rfl) ?_
                            refine gget hx hb hts inW_14 hown hK hP66 0 rfl rfl hF66 0 rfl (by decide) k_11_1 d_15_13_65 ?_
                            have hP9 := hP66.sub (ws' := [(a0, .inr (14, rg 107 f66)), (a6, .inl (ca 2, 20, .inl g6)), (a7, .inl (ca 2, 3000, .inl f63))]) [0, 1, 2] rfl
                            have hD9 := hD66.sub (ws' := [(a0, .inr (14, rg 107 f66)), (a6, .inl (ca 2, 20, .inl g6)), (a7, .inl (ca 2, 3000, .inl f63))]) [0, 1, 2] (by decide) rfl
                            refine W.widen (k := 0) (n := 0) (Nat.le_of_ble_eq_true rfl) (Nat.le_of_ble_eq_true rfl) ?_
                            exact W.iret (v := y65) hx hb hr (fun t ht hW => ⟨⟨y65, (f66, f63), rfl, ⟨⟨fun z => absurd z c1, fun _ z => absurd z c2, fun _ _ => ey65.trans (Int32.zero_add _)⟩, hM66.mono (by decide), hF66.sub [] rfl, hF63.sub [] rfl⟩, by rw [ht]; exact hP9, va_K.moved hW.alike hK, hD9⟩, hS66.F ht⟩) hS66.2.2 d_15_13_68
                          · refine lv_aload_n hx hb d_15_13_31 rfl (lv_at hl 1 rfl) ?_
                            refine gget hx hb hts inW_14 hown hK hP63 0 rfl rfl hp0 1 rfl (by decide) k_11_0 d_15_13_32 ?_
                            refine lv_aload_n hx hb d_15_13_35 rfl (lv_at hl 1 rfl) ?_
                            refine gget hx hb hts inW_14 hown hK hP63 0 rfl rfl hp0 2 rfl (by decide) k_11_1 d_15_13_36 ?_
                            refine lv_iload_n hx hb d_15_13_39 rfl (lv_at hl 0 rfl) ?_
                            refine lv_iadd hx hb d_15_13_40 ?_
                            refine lv_topi (fun y67 ey67 => ?_)
                            obtain rfl : y67 = 10 := ey67.trans (by decide)
                            refine lv_aload_n hx hb d_15_13_41 rfl (lv_at hl 1 rfl) ?_
                            refine gget hx hb hts inW_14 hown hK hP63 0 rfl rfl hp0 0 rfl (by decide) k_11_2 d_15_13_42 ?_
                            refine lv_iload_n hx hb d_15_13_45 rfl (lv_at hl 0 rfl) ?_
                            refine gbaldX hx hb hK hP63 1 2 rfl rfl (vinC (by decide)) d_15_13_46 (fun y68 => ?_)
                            refine gbastX hx hb hK hP63 hD63 hS63 2 2 rfl rfl (vinC (by decide)) d_15_13_47 (fun f69 H69 locs69 hP69 hD69 hS69 => ?_)
                            have hF69 : gF f69 [] := gF_nil
                            have hP69 : va_P D cls [(a0, .inr (14, rg 107 g0)), (a6, .inl (ca 2, 20, .inl g6)), (a7, .inl (ca 2, 3000, .inl f69))] H69 := hP69
                            have hD69 : va_D A [(a0, .inr (14, rg 107 g0)), (a6, .inl (ca 2, 20, .inl g6)), (a7, .inl (ca 2, 3000, .inl f69))] := hD69
                            clear hP63 hD63 hS63 hF63
                            refine lv_iinc (v := 11) (lv' := [(2, .int 11), (0, .ref a0), (1, .int v0)]) hx hb d_15_13_48 hl (k := 0) rfl (by decide) (by decide) rfl (fun ls hl => ?_)
                            refine lv_goto (tgt := 26) hx hb d_15_13_51 (by decide) ?_
                            refine lv_iload_n hx hb d_15_13_26 rfl (lv_at hl 0 rfl) ?_
                            refine lv_iload_n hx hb d_15_13_27 rfl (lv_at hl 2 rfl) ?_
                            refine lv_icmp_ge (tgt := 54) hx hb d_15_13_28 (by decide) (fun c70 => ?_) (fun c70 => ?_)
                            · refine lv_aload_n hx hb d_15_13_54 rfl (lv_at hl 1 rfl) ?_
                              refine lv_dup hx hb d_15_13_55 rfl ?_
                              refine gget hx hb hts inW_14 hown hK hP69 0 rfl rfl hp0 2 rfl (by decide) k_11_1 d_15_13_56 ?_
                              refine lv_iload_n hx hb d_15_13_59 rfl (lv_at hl 2 rfl) ?_
                              refine lv_iadd hx hb d_15_13_60 ?_
                              refine lv_topi (fun y71 ey71 => ?_)
                              refine gput hx hb hts inW_14 tyX14 tyX14_ok nmX14 hown hK hP69 hD69 hS69 0 rfl rfl hp0 3 (by decide) k_11_1 rfl rfl rfl d_15_13_61 (L' := [(3, .int y71), (4, .ref a6), (2, .ref a7)]) rfl (fun f72 H72 locs72 hF72 hm72 hP72 hD72 hS72 => ?_)
                              have hM72 := gM.tr (gM.rf (f := g0)) hm72
                              have hP72 : va_P D cls [(a0, .inr (14, rg 107 f72)), (a6, .inl (ca 2, 20, .inl g6)), (a7, .inl (ca 2, 3000, .inl f69))] H72 := hP72
                              have hD72 : va_D A [(a0, .inr (14, rg 107 f72)), (a6, .inl (ca 2, 20, .inl g6)), (a7, .inl (ca 2, 3000, .inl f69))] := hD72
                              clear hP69 hD69 hS69 hm72
                              refine lv_aload_n hx hb d_15_13_64 rfl (lv_at hl 1 rfl) ?_
                              refine gget hx hb hts inW_14 hown hK hP72 0 rfl rfl hF72 0 rfl (by decide) k_11_1 d_15_13_65 ?_
                              have hP9 := hP72.sub (ws' := [(a0, .inr (14, rg 107 f72)), (a6, .inl (ca 2, 20, .inl g6)), (a7, .inl (ca 2, 3000, .inl f69))]) [0, 1, 2] rfl
                              have hD9 := hD72.sub (ws' := [(a0, .inr (14, rg 107 f72)), (a6, .inl (ca 2, 20, .inl g6)), (a7, .inl (ca 2, 3000, .inl f69))]) [0, 1, 2] (by decide) rfl
                              refine W.widen (k := 0) (n := 0) (Nat.le_of_ble_eq_true rfl) (Nat.le_of_ble_eq_true rfl) ?_
                              exact W.iret (v := y71) hx hb hr (fun t ht hW => ⟨⟨y71, (f72, f69), rfl, ⟨⟨fun z => absurd z c1, fun _ z => absurd z c2, fun _ _ => ey71.trans (Int32.zero_add _)⟩, hM72.mono (by decide), hF72.sub [] rfl, hF69.sub [] rfl⟩, by rw [ht]; exact hP9, va_K.moved hW.alike hK, hD9⟩, hS72.F ht⟩) hS72.2.2 d_15_13_68
                            · refine lv_aload_n hx hb d_15_13_31 rfl (lv_at hl 1 rfl) ?_
                              refine gget hx hb hts inW_14 hown hK hP69 0 rfl rfl hp0 1 rfl (by decide) k_11_0 d_15_13_32 ?_
                              refine lv_aload_n hx hb d_15_13_35 rfl (lv_at hl 1 rfl) ?_
                              refine gget hx hb hts inW_14 hown hK hP69 0 rfl rfl hp0 2 rfl (by decide) k_11_1 d_15_13_36 ?_
                              refine lv_iload_n hx hb d_15_13_39 rfl (lv_at hl 0 rfl) ?_
                              refine lv_iadd hx hb d_15_13_40 ?_
                              refine lv_topi (fun y73 ey73 => ?_)
                              obtain rfl : y73 = 11 := ey73.trans (by decide)
                              refine lv_aload_n hx hb d_15_13_41 rfl (lv_at hl 1 rfl) ?_
                              refine gget hx hb hts inW_14 hown hK hP69 0 rfl rfl hp0 0 rfl (by decide) k_11_2 d_15_13_42 ?_
                              refine lv_iload_n hx hb d_15_13_45 rfl (lv_at hl 0 rfl) ?_
                              refine gbaldX hx hb hK hP69 1 2 rfl rfl (vinC (by decide)) d_15_13_46 (fun y74 => ?_)
                              refine gbastX hx hb hK hP69 hD69 hS69 2 2 rfl rfl (vinC (by decide)) d_15_13_47 (fun f75 H75 locs75 hP75 hD75 hS75 => ?_)
                              have hF75 : gF f75 [] := gF_nil
                              have hP75 : va_P D cls [(a0, .inr (14, rg 107 g0)), (a6, .inl (ca 2, 20, .inl g6)), (a7, .inl (ca 2, 3000, .inl f75))] H75 := hP75
                              have hD75 : va_D A [(a0, .inr (14, rg 107 g0)), (a6, .inl (ca 2, 20, .inl g6)), (a7, .inl (ca 2, 3000, .inl f75))] := hD75
                              clear hP69 hD69 hS69 hF69
                              refine lv_iinc (v := 12) (lv' := [(2, .int 12), (0, .ref a0), (1, .int v0)]) hx hb d_15_13_48 hl (k := 0) rfl (by decide) (by decide) rfl (fun ls hl => ?_)
                              refine lv_goto (tgt := 26) hx hb d_15_13_51 (by decide) ?_
                              refine lv_iload_n hx hb d_15_13_26 rfl (lv_at hl 0 rfl) ?_
                              refine lv_iload_n hx hb d_15_13_27 rfl (lv_at hl 2 rfl) ?_
                              refine lv_icmp_ge (tgt := 54) hx hb d_15_13_28 (by decide) (fun c76 => ?_) (fun c76 => ?_)
                              · refine lv_aload_n hx hb d_15_13_54 rfl (lv_at hl 1 rfl) ?_
                                refine lv_dup hx hb d_15_13_55 rfl ?_
                                refine gget hx hb hts inW_14 hown hK hP75 0 rfl rfl hp0 2 rfl (by decide) k_11_1 d_15_13_56 ?_
                                refine lv_iload_n hx hb d_15_13_59 rfl (lv_at hl 2 rfl) ?_
                                refine lv_iadd hx hb d_15_13_60 ?_
                                refine lv_topi (fun y77 ey77 => ?_)
                                refine gput hx hb hts inW_14 tyX14 tyX14_ok nmX14 hown hK hP75 hD75 hS75 0 rfl rfl hp0 3 (by decide) k_11_1 rfl rfl rfl d_15_13_61 (L' := [(3, .int y77), (4, .ref a6), (2, .ref a7)]) rfl (fun f78 H78 locs78 hF78 hm78 hP78 hD78 hS78 => ?_)
                                have hM78 := gM.tr (gM.rf (f := g0)) hm78
                                have hP78 : va_P D cls [(a0, .inr (14, rg 107 f78)), (a6, .inl (ca 2, 20, .inl g6)), (a7, .inl (ca 2, 3000, .inl f75))] H78 := hP78
                                have hD78 : va_D A [(a0, .inr (14, rg 107 f78)), (a6, .inl (ca 2, 20, .inl g6)), (a7, .inl (ca 2, 3000, .inl f75))] := hD78
                                clear hP75 hD75 hS75 hm78
                                refine lv_aload_n hx hb d_15_13_64 rfl (lv_at hl 1 rfl) ?_
                                refine gget hx hb hts inW_14 hown hK hP78 0 rfl rfl hF78 0 rfl (by decide) k_11_1 d_15_13_65 ?_
                                have hP9 := hP78.sub (ws' := [(a0, .inr (14, rg 107 f78)), (a6, .inl (ca 2, 20, .inl g6)), (a7, .inl (ca 2, 3000, .inl f75))]) [0, 1, 2] rfl
                                have hD9 := hD78.sub (ws' := [(a0, .inr (14, rg 107 f78)), (a6, .inl (ca 2, 20, .inl g6)), (a7, .inl (ca 2, 3000, .inl f75))]) [0, 1, 2] (by decide) rfl
                                refine W.widen (k := 0) (n := 0) (Nat.le_of_ble_eq_true rfl) (Nat.le_of_ble_eq_true rfl) ?_
                                exact W.iret (v := y77) hx hb hr (fun t ht hW => ⟨⟨y77, (f78, f75), rfl, ⟨⟨fun z => absurd z c1, fun _ z => absurd z c2, fun _ _ => ey77.trans (Int32.zero_add _)⟩, hM78.mono (by decide), hF78.sub [] rfl, hF75.sub [] rfl⟩, by rw [ht]; exact hP9, va_K.moved hW.alike hK, hD9⟩, hS78.F ht⟩) hS78.2.2 d_15_13_68
                              · refine lv_aload_n hx hb d_15_13_31 rfl (lv_at hl 1 rfl) ?_
                                refine gget hx hb hts inW_14 hown hK hP75 0 rfl rfl hp0 1 rfl (by decide) k_11_0 d_15_13_32 ?_
                                refine lv_aload_n hx hb d_15_13_35 rfl (lv_at hl 1 rfl) ?_
                                refine gget hx hb hts inW_14 hown hK hP75 0 rfl rfl hp0 2 rfl (by decide) k_11_1 d_15_13_36 ?_
                                refine lv_iload_n hx hb d_15_13_39 rfl (lv_at hl 0 rfl) ?_
                                refine lv_iadd hx hb d_15_13_40 ?_
                                refine lv_topi (fun y79 ey79 => ?_)
                                obtain rfl : y79 = 12 := ey79.trans (by decide)
                                refine lv_aload_n hx hb d_15_13_41 rfl (lv_at hl 1 rfl) ?_
                                refine gget hx hb hts inW_14 hown hK hP75 0 rfl rfl hp0 0 rfl (by decide) k_11_2 d_15_13_42 ?_
                                refine lv_iload_n hx hb d_15_13_45 rfl (lv_at hl 0 rfl) ?_
                                refine gbaldX hx hb hK hP75 1 2 rfl rfl (vinC (by decide)) d_15_13_46 (fun y80 => ?_)
                                refine gbastX hx hb hK hP75 hD75 hS75 2 2 rfl rfl (vinC (by decide)) d_15_13_47 (fun f81 H81 locs81 hP81 hD81 hS81 => ?_)
                                have hF81 : gF f81 [] := gF_nil
                                have hP81 : va_P D cls [(a0, .inr (14, rg 107 g0)), (a6, .inl (ca 2, 20, .inl g6)), (a7, .inl (ca 2, 3000, .inl f81))] H81 := hP81
                                have hD81 : va_D A [(a0, .inr (14, rg 107 g0)), (a6, .inl (ca 2, 20, .inl g6)), (a7, .inl (ca 2, 3000, .inl f81))] := hD81
                                clear hP75 hD75 hS75 hF75
                                refine lv_iinc (v := 13) (lv' := [(2, .int 13), (0, .ref a0), (1, .int v0)]) hx hb d_15_13_48 hl (k := 0) rfl (by decide) (by decide) rfl (fun ls hl => ?_)
                                refine lv_goto (tgt := 26) hx hb d_15_13_51 (by decide) ?_
                                refine lv_iload_n hx hb d_15_13_26 rfl (lv_at hl 0 rfl) ?_
                                refine lv_iload_n hx hb d_15_13_27 rfl (lv_at hl 2 rfl) ?_
                                refine lv_icmp_ge (tgt := 54) hx hb d_15_13_28 (by decide) (fun c82 => ?_) (fun c82 => ?_)
                                · refine lv_aload_n hx hb d_15_13_54 rfl (lv_at hl 1 rfl) ?_
                                  refine lv_dup hx hb d_15_13_55 rfl ?_
                                  refine gget hx hb hts inW_14 hown hK hP81 0 rfl rfl hp0 2 rfl (by decide) k_11_1 d_15_13_56 ?_
                                  refine lv_iload_n hx hb d_15_13_59 rfl (lv_at hl 2 rfl) ?_
                                  refine lv_iadd hx hb d_15_13_60 ?_
                                  refine lv_topi (fun y83 ey83 => ?_)
                                  refine gput hx hb hts inW_14 tyX14 tyX14_ok nmX14 hown hK hP81 hD81 hS81 0 rfl rfl hp0 3 (by decide) k_11_1 rfl rfl rfl d_15_13_61 (L' := [(3, .int y83), (4, .ref a6), (2, .ref a7)]) rfl (fun f84 H84 locs84 hF84 hm84 hP84 hD84 hS84 => ?_)
                                  have hM84 := gM.tr (gM.rf (f := g0)) hm84
                                  have hP84 : va_P D cls [(a0, .inr (14, rg 107 f84)), (a6, .inl (ca 2, 20, .inl g6)), (a7, .inl (ca 2, 3000, .inl f81))] H84 := hP84
                                  have hD84 : va_D A [(a0, .inr (14, rg 107 f84)), (a6, .inl (ca 2, 20, .inl g6)), (a7, .inl (ca 2, 3000, .inl f81))] := hD84
                                  clear hP81 hD81 hS81 hm84
                                  refine lv_aload_n hx hb d_15_13_64 rfl (lv_at hl 1 rfl) ?_
                                  refine gget hx hb hts inW_14 hown hK hP84 0 rfl rfl hF84 0 rfl (by decide) k_11_1 d_15_13_65 ?_
                                  have hP9 := hP84.sub (ws' := [(a0, .inr (14, rg 107 f84)), (a6, .inl (ca 2, 20, .inl g6)), (a7, .inl (ca 2, 3000, .inl f81))]) [0, 1, 2] rfl
                                  have hD9 := hD84.sub (ws' := [(a0, .inr (14, rg 107 f84)), (a6, .inl (ca 2, 20, .inl g6)), (a7, .inl (ca 2, 3000, .inl f81))]) [0, 1, 2] (by decide) rfl
                                  refine W.widen (k := 0) (n := 0) (Nat.le_of_ble_eq_true rfl) (Nat.le_of_ble_eq_true rfl) ?_
                                  exact W.iret (v := y83) hx hb hr (fun t ht hW => ⟨⟨y83, (f84, f81), rfl, ⟨⟨fun z => absurd z c1, fun _ z => absurd z c2, fun _ _ => ey83.trans (Int32.zero_add _)⟩, hM84.mono (by decide), hF84.sub [] rfl, hF81.sub [] rfl⟩, by rw [ht]; exact hP9, va_K.moved hW.alike hK, hD9⟩, hS84.F ht⟩) hS84.2.2 d_15_13_68
                                · refine lv_aload_n hx hb d_15_13_31 rfl (lv_at hl 1 rfl) ?_
                                  refine gget hx hb hts inW_14 hown hK hP81 0 rfl rfl hp0 1 rfl (by decide) k_11_0 d_15_13_32 ?_
                                  refine lv_aload_n hx hb d_15_13_35 rfl (lv_at hl 1 rfl) ?_
                                  refine gget hx hb hts inW_14 hown hK hP81 0 rfl rfl hp0 2 rfl (by decide) k_11_1 d_15_13_36 ?_
                                  refine lv_iload_n hx hb d_15_13_39 rfl (lv_at hl 0 rfl) ?_
                                  refine lv_iadd hx hb d_15_13_40 ?_
                                  refine lv_topi (fun y85 ey85 => ?_)
                                  obtain rfl : y85 = 13 := ey85.trans (by decide)
                                  refine lv_aload_n hx hb d_15_13_41 rfl (lv_at hl 1 rfl) ?_
                                  refine gget hx hb hts inW_14 hown hK hP81 0 rfl rfl hp0 0 rfl (by decide) k_11_2 d_15_13_42 ?_
                                  refine lv_iload_n hx hb d_15_13_45 rfl (lv_at hl 0 rfl) ?_
                                  refine gbaldX hx hb hK hP81 1 2 rfl rfl (vinC (by decide)) d_15_13_46 (fun y86 => ?_)
                                  refine gbastX hx hb hK hP81 hD81 hS81 2 2 rfl rfl (vinC (by decide)) d_15_13_47 (fun f87 H87 locs87 hP87 hD87 hS87 => ?_)
                                  have hF87 : gF f87 [] := gF_nil
                                  have hP87 : va_P D cls [(a0, .inr (14, rg 107 g0)), (a6, .inl (ca 2, 20, .inl g6)), (a7, .inl (ca 2, 3000, .inl f87))] H87 := hP87
                                  have hD87 : va_D A [(a0, .inr (14, rg 107 g0)), (a6, .inl (ca 2, 20, .inl g6)), (a7, .inl (ca 2, 3000, .inl f87))] := hD87
                                  clear hP81 hD81 hS81 hF81
                                  refine lv_iinc (v := 14) (lv' := [(2, .int 14), (0, .ref a0), (1, .int v0)]) hx hb d_15_13_48 hl (k := 0) rfl (by decide) (by decide) rfl (fun ls hl => ?_)
                                  refine lv_goto (tgt := 26) hx hb d_15_13_51 (by decide) ?_
                                  refine lv_iload_n hx hb d_15_13_26 rfl (lv_at hl 0 rfl) ?_
                                  refine lv_iload_n hx hb d_15_13_27 rfl (lv_at hl 2 rfl) ?_
                                  refine lv_icmp_ge (tgt := 54) hx hb d_15_13_28 (by decide) (fun c88 => ?_) (fun c88 => ?_)
                                  · refine lv_aload_n hx hb d_15_13_54 rfl (lv_at hl 1 rfl) ?_
                                    refine lv_dup hx hb d_15_13_55 rfl ?_
                                    refine gget hx hb hts inW_14 hown hK hP87 0 rfl rfl hp0 2 rfl (by decide) k_11_1 d_15_13_56 ?_
                                    refine lv_iload_n hx hb d_15_13_59 rfl (lv_at hl 2 rfl) ?_
                                    refine lv_iadd hx hb d_15_13_60 ?_
                                    refine lv_topi (fun y89 ey89 => ?_)
                                    refine gput hx hb hts inW_14 tyX14 tyX14_ok nmX14 hown hK hP87 hD87 hS87 0 rfl rfl hp0 3 (by decide) k_11_1 rfl rfl rfl d_15_13_61 (L' := [(3, .int y89), (4, .ref a6), (2, .ref a7)]) rfl (fun f90 H90 locs90 hF90 hm90 hP90 hD90 hS90 => ?_)
                                    have hM90 := gM.tr (gM.rf (f := g0)) hm90
                                    have hP90 : va_P D cls [(a0, .inr (14, rg 107 f90)), (a6, .inl (ca 2, 20, .inl g6)), (a7, .inl (ca 2, 3000, .inl f87))] H90 := hP90
                                    have hD90 : va_D A [(a0, .inr (14, rg 107 f90)), (a6, .inl (ca 2, 20, .inl g6)), (a7, .inl (ca 2, 3000, .inl f87))] := hD90
                                    clear hP87 hD87 hS87 hm90
                                    refine lv_aload_n hx hb d_15_13_64 rfl (lv_at hl 1 rfl) ?_
                                    refine gget hx hb hts inW_14 hown hK hP90 0 rfl rfl hF90 0 rfl (by decide) k_11_1 d_15_13_65 ?_
                                    have hP9 := hP90.sub (ws' := [(a0, .inr (14, rg 107 f90)), (a6, .inl (ca 2, 20, .inl g6)), (a7, .inl (ca 2, 3000, .inl f87))]) [0, 1, 2] rfl
                                    have hD9 := hD90.sub (ws' := [(a0, .inr (14, rg 107 f90)), (a6, .inl (ca 2, 20, .inl g6)), (a7, .inl (ca 2, 3000, .inl f87))]) [0, 1, 2] (by decide) rfl
                                    refine W.widen (k := 0) (n := 0) (Nat.le_of_ble_eq_true rfl) (Nat.le_of_ble_eq_true rfl) ?_
                                    exact W.iret (v := y89) hx hb hr (fun t ht hW => ⟨⟨y89, (f90, f87), rfl, ⟨⟨fun z => absurd z c1, fun _ z => absurd z c2, fun _ _ => ey89.trans (Int32.zero_add _)⟩, hM90.mono (by decide), hF90.sub [] rfl, hF87.sub [] rfl⟩, by rw [ht]; exact hP9, va_K.moved hW.alike hK, hD9⟩, hS90.F ht⟩) hS90.2.2 d_15_13_68
                                  · refine lv_aload_n hx hb d_15_13_31 rfl (lv_at hl 1 rfl) ?_
                                    refine gget hx hb hts inW_14 hown hK hP87 0 rfl rfl hp0 1 rfl (by decide) k_11_0 d_15_13_32 ?_
                                    refine lv_aload_n hx hb d_15_13_35 rfl (lv_at hl 1 rfl) ?_
                                    refine gget hx hb hts inW_14 hown hK hP87 0 rfl rfl hp0 2 rfl (by decide) k_11_1 d_15_13_36 ?_
                                    refine lv_iload_n hx hb d_15_13_39 rfl (lv_at hl 0 rfl) ?_
                                    refine lv_iadd hx hb d_15_13_40 ?_
                                    refine lv_topi (fun y91 ey91 => ?_)
                                    obtain rfl : y91 = 14 := ey91.trans (by decide)
                                    refine lv_aload_n hx hb d_15_13_41 rfl (lv_at hl 1 rfl) ?_
                                    refine gget hx hb hts inW_14 hown hK hP87 0 rfl rfl hp0 0 rfl (by decide) k_11_2 d_15_13_42 ?_
                                    refine lv_iload_n hx hb d_15_13_45 rfl (lv_at hl 0 rfl) ?_
                                    refine gbaldX hx hb hK hP87 1 2 rfl rfl (vinC (by decide)) d_15_13_46 (fun y92 => ?_)
                                    refine gbastX hx hb hK hP87 hD87 hS87 2 2 rfl rfl (vinC (by decide)) d_15_13_47 (fun f93 H93 locs93 hP93 hD93 hS93 => ?_)
                                    have hF93 : gF f93 [] := gF_nil
                                    have hP93 : va_P D cls [(a0, .inr (14, rg 107 g0)), (a6, .inl (ca 2, 20, .inl g6)), (a7, .inl (ca 2, 3000, .inl f93))] H93 := hP93
                                    have hD93 : va_D A [(a0, .inr (14, rg 107 g0)), (a6, .inl (ca 2, 20, .inl g6)), (a7, .inl (ca 2, 3000, .inl f93))] := hD93
                                    clear hP87 hD87 hS87 hF87
                                    refine lv_iinc (v := 15) (lv' := [(2, .int 15), (0, .ref a0), (1, .int v0)]) hx hb d_15_13_48 hl (k := 0) rfl (by decide) (by decide) rfl (fun ls hl => ?_)
                                    refine lv_goto (tgt := 26) hx hb d_15_13_51 (by decide) ?_
                                    refine lv_iload_n hx hb d_15_13_26 rfl (lv_at hl 0 rfl) ?_
                                    refine lv_iload_n hx hb d_15_13_27 rfl (lv_at hl 2 rfl) ?_
                                    refine lv_icmp_ge (tgt := 54) hx hb d_15_13_28 (by decide) (fun c94 => ?_) (fun c94 => ?_)
                                    · refine lv_aload_n hx hb d_15_13_54 rfl (lv_at hl 1 rfl) ?_
                                      refine lv_dup hx hb d_15_13_55 rfl ?_
                                      refine gget hx hb hts inW_14 hown hK hP93 0 rfl rfl hp0 2 rfl (by decide) k_11_1 d_15_13_56 ?_
                                      refine lv_iload_n hx hb d_15_13_59 rfl (lv_at hl 2 rfl) ?_
                                      refine lv_iadd hx hb d_15_13_60 ?_
                                      refine lv_topi (fun y95 ey95 => ?_)
                                      refine gput hx hb hts inW_14 tyX14 tyX14_ok nmX14 hown hK hP93 hD93 hS93 0 rfl rfl hp0 3 (by decide) k_11_1 rfl rfl rfl d_15_13_61 (L' := [(3, .int y95), (4, .ref a6), (2, .ref a7)]) rfl (fun f96 H96 locs96 hF96 hm96 hP96 hD96 hS96 => ?_)
                                      have hM96 := gM.tr (gM.rf (f := g0)) hm96
                                      have hP96 : va_P D cls [(a0, .inr (14, rg 107 f96)), (a6, .inl (ca 2, 20, .inl g6)), (a7, .inl (ca 2, 3000, .inl f93))] H96 := hP96
                                      have hD96 : va_D A [(a0, .inr (14, rg 107 f96)), (a6, .inl (ca 2, 20, .inl g6)), (a7, .inl (ca 2, 3000, .inl f93))] := hD96
                                      clear hP93 hD93 hS93 hm96
                                      refine lv_aload_n hx hb d_15_13_64 rfl (lv_at hl 1 rfl) ?_
                                      refine gget hx hb hts inW_14 hown hK hP96 0 rfl rfl hF96 0 rfl (by decide) k_11_1 d_15_13_65 ?_
                                      have hP9 := hP96.sub (ws' := [(a0, .inr (14, rg 107 f96)), (a6, .inl (ca 2, 20, .inl g6)), (a7, .inl (ca 2, 3000, .inl f93))]) [0, 1, 2] rfl
                                      have hD9 := hD96.sub (ws' := [(a0, .inr (14, rg 107 f96)), (a6, .inl (ca 2, 20, .inl g6)), (a7, .inl (ca 2, 3000, .inl f93))]) [0, 1, 2] (by decide) rfl
                                      refine W.widen (k := 0) (n := 0) (Nat.le_of_ble_eq_true rfl) (Nat.le_of_ble_eq_true rfl) ?_
                                      exact W.iret (v := y95) hx hb hr (fun t ht hW => ⟨⟨y95, (f96, f93), rfl, ⟨⟨fun z => absurd z c1, fun _ z => absurd z c2, fun _ _ => ey95.trans (Int32.zero_add _)⟩, hM96.mono (by decide), hF96.sub [] rfl, hF93.sub [] rfl⟩, by rw [ht]; exact hP9, va_K.moved hW.alike hK, hD9⟩, hS96.F ht⟩) hS96.2.2 d_15_13_68
                                    · refine lv_aload_n hx hb d_15_13_31 rfl (lv_at hl 1 rfl) ?_
                                      refine gget hx hb hts inW_14 hown hK hP93 0 rfl rfl hp0 1 rfl (by decide) k_11_0 d_15_13_32 ?_
                                      refine lv_aload_n hx hb d_15_13_35 rfl (lv_at hl 1 rfl) ?_
                                      refine gget hx hb hts inW_14 hown hK hP93 0 rfl rfl hp0 2 rfl (by decide) k_11_1 d_15_13_36 ?_
                                      refine lv_iload_n hx hb d_15_13_39 rfl (lv_at hl 0 rfl) ?_
                                      refine lv_iadd hx hb d_15_13_40 ?_
                                      refine lv_topi (fun y97 ey97 => ?_)
                                      obtain rfl : y97 = 15 := ey97.trans (by decide)
                                      refine lv_aload_n hx hb d_15_13_41 rfl (lv_at hl 1 rfl) ?_
                                      refine gget hx hb hts inW_14 hown hK hP93 0 rfl rfl hp0 0 rfl (by decide) k_11_2 d_15_13_42 ?_
                                      refine lv_iload_n hx hb d_15_13_45 rfl (lv_at hl 0 rfl) ?_
                                      refine gbaldX hx hb hK hP93 1 2 rfl rfl (vinC (by decide)) d_15_13_46 (fun y98 => ?_)
                                      refine gbastX hx hb hK hP93 hD93 hS93 2 2 rfl rfl (vinC (by decide)) d_15_13_47 (fun f99 H99 locs99 hP99 hD99 hS99 => ?_)
                                      have hF99 : gF f99 [] := gF_nil
                                      have hP99 : va_P D cls [(a0, .inr (14, rg 107 g0)), (a6, .inl (ca 2, 20, .inl g6)), (a7, .inl (ca 2, 3000, .inl f99))] H99 := hP99
                                      have hD99 : va_D A [(a0, .inr (14, rg 107 g0)), (a6, .inl (ca 2, 20, .inl g6)), (a7, .inl (ca 2, 3000, .inl f99))] := hD99
                                      clear hP93 hD93 hS93 hF93
                                      refine lv_iinc (v := 16) (lv' := [(2, .int 16), (0, .ref a0), (1, .int v0)]) hx hb d_15_13_48 hl (k := 0) rfl (by decide) (by decide) rfl (fun ls hl => ?_)
                                      refine lv_goto (tgt := 26) hx hb d_15_13_51 (by decide) ?_
                                      refine lv_iload_n hx hb d_15_13_26 rfl (lv_at hl 0 rfl) ?_
                                      refine lv_iload_n hx hb d_15_13_27 rfl (lv_at hl 2 rfl) ?_
                                      refine lv_icmp_ge (tgt := 54) hx hb d_15_13_28 (by decide) (fun c100 => ?_) (fun c100 => ?_)
                                      · refine lv_aload_n hx hb d_15_13_54 rfl (lv_at hl 1 rfl) ?_
                                        refine lv_dup hx hb d_15_13_55 rfl ?_
                                        refine gget hx hb hts inW_14 hown hK hP99 0 rfl rfl hp0 2 rfl (by decide) k_11_1 d_15_13_56 ?_
                                        refine lv_iload_n hx hb d_15_13_59 rfl (lv_at hl 2 rfl) ?_
                                        refine lv_iadd hx hb d_15_13_60 ?_
                                        refine lv_topi (fun y101 ey101 => ?_)
                                        refine gput hx hb hts inW_14 tyX14 tyX14_ok nmX14 hown hK hP99 hD99 hS99 0 rfl rfl hp0 3 (by decide) k_11_1 rfl rfl rfl d_15_13_61 (L' := [(3, .int y101), (4, .ref a6), (2, .ref a7)]) rfl (fun f102 H102 locs102 hF102 hm102 hP102 hD102 hS102 => ?_)
                                        have hM102 := gM.tr (gM.rf (f := g0)) hm102
                                        have hP102 : va_P D cls [(a0, .inr (14, rg 107 f102)), (a6, .inl (ca 2, 20, .inl g6)), (a7, .inl (ca 2, 3000, .inl f99))] H102 := hP102
                                        have hD102 : va_D A [(a0, .inr (14, rg 107 f102)), (a6, .inl (ca 2, 20, .inl g6)), (a7, .inl (ca 2, 3000, .inl f99))] := hD102
                                        clear hP99 hD99 hS99 hm102
                                        refine lv_aload_n hx hb d_15_13_64 rfl (lv_at hl 1 rfl) ?_
                                        refine gget hx hb hts inW_14 hown hK hP102 0 rfl rfl hF102 0 rfl (by decide) k_11_1 d_15_13_65 ?_
                                        have hP9 := hP102.sub (ws' := [(a0, .inr (14, rg 107 f102)), (a6, .inl (ca 2, 20, .inl g6)), (a7, .inl (ca 2, 3000, .inl f99))]) [0, 1, 2] rfl
                                        have hD9 := hD102.sub (ws' := [(a0, .inr (14, rg 107 f102)), (a6, .inl (ca 2, 20, .inl g6)), (a7, .inl (ca 2, 3000, .inl f99))]) [0, 1, 2] (by decide) rfl
                                        refine W.widen (k := 0) (n := 0) (Nat.le_of_ble_eq_true rfl) (Nat.le_of_ble_eq_true rfl) ?_
                                        exact W.iret (v := y101) hx hb hr (fun t ht hW => ⟨⟨y101, (f102, f99), rfl, ⟨⟨fun z => absurd z c1, fun _ z => absurd z c2, fun _ _ => ey101.trans (Int32.zero_add _)⟩, hM102.mono (by decide), hF102.sub [] rfl, hF99.sub [] rfl⟩, by rw [ht]; exact hP9, va_K.moved hW.alike hK, hD9⟩, hS102.F ht⟩) hS102.2.2 d_15_13_68
                                      · refine lv_aload_n hx hb d_15_13_31 rfl (lv_at hl 1 rfl) ?_
                                        refine gget hx hb hts inW_14 hown hK hP99 0 rfl rfl hp0 1 rfl (by decide) k_11_0 d_15_13_32 ?_
                                        refine lv_aload_n hx hb d_15_13_35 rfl (lv_at hl 1 rfl) ?_
                                        refine gget hx hb hts inW_14 hown hK hP99 0 rfl rfl hp0 2 rfl (by decide) k_11_1 d_15_13_36 ?_
                                        refine lv_iload_n hx hb d_15_13_39 rfl (lv_at hl 0 rfl) ?_
                                        refine lv_iadd hx hb d_15_13_40 ?_
                                        refine lv_topi (fun y103 ey103 => ?_)
                                        obtain rfl : y103 = 16 := ey103.trans (by decide)
                                        refine lv_aload_n hx hb d_15_13_41 rfl (lv_at hl 1 rfl) ?_
                                        refine gget hx hb hts inW_14 hown hK hP99 0 rfl rfl hp0 0 rfl (by decide) k_11_2 d_15_13_42 ?_
                                        refine lv_iload_n hx hb d_15_13_45 rfl (lv_at hl 0 rfl) ?_
                                        refine gbaldX hx hb hK hP99 1 2 rfl rfl (vinC (by decide)) d_15_13_46 (fun y104 => ?_)
                                        refine gbastX hx hb hK hP99 hD99 hS99 2 2 rfl rfl (vinC (by decide)) d_15_13_47 (fun f105 H105 locs105 hP105 hD105 hS105 => ?_)
                                        have hF105 : gF f105 [] := gF_nil
                                        have hP105 : va_P D cls [(a0, .inr (14, rg 107 g0)), (a6, .inl (ca 2, 20, .inl g6)), (a7, .inl (ca 2, 3000, .inl f105))] H105 := hP105
                                        have hD105 : va_D A [(a0, .inr (14, rg 107 g0)), (a6, .inl (ca 2, 20, .inl g6)), (a7, .inl (ca 2, 3000, .inl f105))] := hD105
                                        clear hP99 hD99 hS99 hF99
                                        refine lv_iinc (v := 17) (lv' := [(2, .int 17), (0, .ref a0), (1, .int v0)]) hx hb d_15_13_48 hl (k := 0) rfl (by decide) (by decide) rfl (fun ls hl => ?_)
                                        refine lv_goto (tgt := 26) hx hb d_15_13_51 (by decide) ?_
                                        refine lv_iload_n hx hb d_15_13_26 rfl (lv_at hl 0 rfl) ?_
                                        refine lv_iload_n hx hb d_15_13_27 rfl (lv_at hl 2 rfl) ?_
                                        refine lv_icmp_ge (tgt := 54) hx hb d_15_13_28 (by decide) (fun c106 => ?_) (fun c106 => ?_)
                                        · refine lv_aload_n hx hb d_15_13_54 rfl (lv_at hl 1 rfl) ?_
                                          refine lv_dup hx hb d_15_13_55 rfl ?_
                                          refine gget hx hb hts inW_14 hown hK hP105 0 rfl rfl hp0 2 rfl (by decide) k_11_1 d_15_13_56 ?_
                                          refine lv_iload_n hx hb d_15_13_59 rfl (lv_at hl 2 rfl) ?_
                                          refine lv_iadd hx hb d_15_13_60 ?_
                                          refine lv_topi (fun y107 ey107 => ?_)
                                          refine gput hx hb hts inW_14 tyX14 tyX14_ok nmX14 hown hK hP105 hD105 hS105 0 rfl rfl hp0 3 (by decide) k_11_1 rfl rfl rfl d_15_13_61 (L' := [(3, .int y107), (4, .ref a6), (2, .ref a7)]) rfl (fun f108 H108 locs108 hF108 hm108 hP108 hD108 hS108 => ?_)
                                          have hM108 := gM.tr (gM.rf (f := g0)) hm108
                                          have hP108 : va_P D cls [(a0, .inr (14, rg 107 f108)), (a6, .inl (ca 2, 20, .inl g6)), (a7, .inl (ca 2, 3000, .inl f105))] H108 := hP108
                                          have hD108 : va_D A [(a0, .inr (14, rg 107 f108)), (a6, .inl (ca 2, 20, .inl g6)), (a7, .inl (ca 2, 3000, .inl f105))] := hD108
                                          clear hP105 hD105 hS105 hm108
                                          refine lv_aload_n hx hb d_15_13_64 rfl (lv_at hl 1 rfl) ?_
                                          refine gget hx hb hts inW_14 hown hK hP108 0 rfl rfl hF108 0 rfl (by decide) k_11_1 d_15_13_65 ?_
                                          have hP9 := hP108.sub (ws' := [(a0, .inr (14, rg 107 f108)), (a6, .inl (ca 2, 20, .inl g6)), (a7, .inl (ca 2, 3000, .inl f105))]) [0, 1, 2] rfl
                                          have hD9 := hD108.sub (ws' := [(a0, .inr (14, rg 107 f108)), (a6, .inl (ca 2, 20, .inl g6)), (a7, .inl (ca 2, 3000, .inl f105))]) [0, 1, 2] (by decide) rfl
                                          refine W.widen (k := 0) (n := 0) (Nat.le_of_ble_eq_true rfl) (Nat.le_of_ble_eq_true rfl) ?_
                                          exact W.iret (v := y107) hx hb hr (fun t ht hW => ⟨⟨y107, (f108, f105), rfl, ⟨⟨fun z => absurd z c1, fun _ z => absurd z c2, fun _ _ => ey107.trans (Int32.zero_add _)⟩, hM108.mono (by decide), hF108.sub [] rfl, hF105.sub [] rfl⟩, by rw [ht]; exact hP9, va_K.moved hW.alike hK, hD9⟩, hS108.F ht⟩) hS108.2.2 d_15_13_68
                                        · refine lv_aload_n hx hb d_15_13_31 rfl (lv_at hl 1 rfl) ?_
                                          refine gget hx hb hts inW_14 hown hK hP105 0 rfl rfl hp0 1 rfl (by decide) k_11_0 d_15_13_32 ?_
                                          refine lv_aload_n hx hb d_15_13_35 rfl (lv_at hl 1 rfl) ?_
                                          refine gget hx hb hts inW_14 hown hK hP105 0 rfl rfl hp0 2 rfl (by decide) k_11_1 d_15_13_36 ?_
                                          refine lv_iload_n hx hb d_15_13_39 rfl (lv_at hl 0 rfl) ?_
                                          refine lv_iadd hx hb d_15_13_40 ?_
                                          refine lv_topi (fun y109 ey109 => ?_)
                                          obtain rfl : y109 = 17 := ey109.trans (by decide)
                                          refine lv_aload_n hx hb d_15_13_41 rfl (lv_at hl 1 rfl) ?_
                                          refine gget hx hb hts inW_14 hown hK hP105 0 rfl rfl hp0 0 rfl (by decide) k_11_2 d_15_13_42 ?_
                                          refine lv_iload_n hx hb d_15_13_45 rfl (lv_at hl 0 rfl) ?_
                                          refine gbaldX hx hb hK hP105 1 2 rfl rfl (vinC (by decide)) d_15_13_46 (fun y110 => ?_)
                                          refine gbastX hx hb hK hP105 hD105 hS105 2 2 rfl rfl (vinC (by decide)) d_15_13_47 (fun f111 H111 locs111 hP111 hD111 hS111 => ?_)
                                          have hF111 : gF f111 [] := gF_nil
                                          have hP111 : va_P D cls [(a0, .inr (14, rg 107 g0)), (a6, .inl (ca 2, 20, .inl g6)), (a7, .inl (ca 2, 3000, .inl f111))] H111 := hP111
                                          have hD111 : va_D A [(a0, .inr (14, rg 107 g0)), (a6, .inl (ca 2, 20, .inl g6)), (a7, .inl (ca 2, 3000, .inl f111))] := hD111
                                          clear hP105 hD105 hS105 hF105
                                          refine lv_iinc (v := 18) (lv' := [(2, .int 18), (0, .ref a0), (1, .int v0)]) hx hb d_15_13_48 hl (k := 0) rfl (by decide) (by decide) rfl (fun ls hl => ?_)
                                          refine lv_goto (tgt := 26) hx hb d_15_13_51 (by decide) ?_
                                          refine lv_iload_n hx hb d_15_13_26 rfl (lv_at hl 0 rfl) ?_
                                          refine lv_iload_n hx hb d_15_13_27 rfl (lv_at hl 2 rfl) ?_
                                          refine lv_icmp_ge (tgt := 54) hx hb d_15_13_28 (by decide) (fun c112 => ?_) (fun c112 => ?_)
                                          · refine lv_aload_n hx hb d_15_13_54 rfl (lv_at hl 1 rfl) ?_
                                            refine lv_dup hx hb d_15_13_55 rfl ?_
                                            refine gget hx hb hts inW_14 hown hK hP111 0 rfl rfl hp0 2 rfl (by decide) k_11_1 d_15_13_56 ?_
                                            refine lv_iload_n hx hb d_15_13_59 rfl (lv_at hl 2 rfl) ?_
                                            refine lv_iadd hx hb d_15_13_60 ?_
                                            refine lv_topi (fun y113 ey113 => ?_)
                                            refine gput hx hb hts inW_14 tyX14 tyX14_ok nmX14 hown hK hP111 hD111 hS111 0 rfl rfl hp0 3 (by decide) k_11_1 rfl rfl rfl d_15_13_61 (L' := [(3, .int y113), (4, .ref a6), (2, .ref a7)]) rfl (fun f114 H114 locs114 hF114 hm114 hP114 hD114 hS114 => ?_)
                                            have hM114 := gM.tr (gM.rf (f := g0)) hm114
                                            have hP114 : va_P D cls [(a0, .inr (14, rg 107 f114)), (a6, .inl (ca 2, 20, .inl g6)), (a7, .inl (ca 2, 3000, .inl f111))] H114 := hP114
                                            have hD114 : va_D A [(a0, .inr (14, rg 107 f114)), (a6, .inl (ca 2, 20, .inl g6)), (a7, .inl (ca 2, 3000, .inl f111))] := hD114
                                            clear hP111 hD111 hS111 hm114
                                            refine lv_aload_n hx hb d_15_13_64 rfl (lv_at hl 1 rfl) ?_
                                            refine gget hx hb hts inW_14 hown hK hP114 0 rfl rfl hF114 0 rfl (by decide) k_11_1 d_15_13_65 ?_
                                            have hP9 := hP114.sub (ws' := [(a0, .inr (14, rg 107 f114)), (a6, .inl (ca 2, 20, .inl g6)), (a7, .inl (ca 2, 3000, .inl f111))]) [0, 1, 2] rfl
                                            have hD9 := hD114.sub (ws' := [(a0, .inr (14, rg 107 f114)), (a6, .inl (ca 2, 20, .inl g6)), (a7, .inl (ca 2, 3000, .inl f111))]) [0, 1, 2] (by decide) rfl
                                            refine W.widen (k := 0) (n := 0) (Nat.le_of_ble_eq_true rfl) (Nat.le_of_ble_eq_true rfl) ?_
                                            exact W.iret (v := y113) hx hb hr (fun t ht hW => ⟨⟨y113, (f114, f111), rfl, ⟨⟨fun z => absurd z c1, fun _ z => absurd z c2, fun _ _ => ey113.trans (Int32.zero_add _)⟩, hM114.mono (by decide), hF114.sub [] rfl, hF111.sub [] rfl⟩, by rw [ht]; exact hP9, va_K.moved hW.alike hK, hD9⟩, hS114.F ht⟩) hS114.2.2 d_15_13_68
                                          · refine lv_aload_n hx hb d_15_13_31 rfl (lv_at hl 1 rfl) ?_
                                            refine gget hx hb hts inW_14 hown hK hP111 0 rfl rfl hp0 1 rfl (by decide) k_11_0 d_15_13_32 ?_
                                            refine lv_aload_n hx hb d_15_13_35 rfl (lv_at hl 1 rfl) ?_
                                            refine gget hx hb hts inW_14 hown hK hP111 0 rfl rfl hp0 2 rfl (by decide) k_11_1 d_15_13_36 ?_
                                            refine lv_iload_n hx hb d_15_13_39 rfl (lv_at hl 0 rfl) ?_
                                            refine lv_iadd hx hb d_15_13_40 ?_
                                            refine lv_topi (fun y115 ey115 => ?_)
                                            obtain rfl : y115 = 18 := ey115.trans (by decide)
                                            refine lv_aload_n hx hb d_15_13_41 rfl (lv_at hl 1 rfl) ?_
                                            refine gget hx hb hts inW_14 hown hK hP111 0 rfl rfl hp0 0 rfl (by decide) k_11_2 d_15_13_42 ?_
                                            refine lv_iload_n hx hb d_15_13_45 rfl (lv_at hl 0 rfl) ?_
                                            refine gbaldX hx hb hK hP111 1 2 rfl rfl (vinC (by decide)) d_15_13_46 (fun y116 => ?_)
                                            refine gbastX hx hb hK hP111 hD111 hS111 2 2 rfl rfl (vinC (by decide)) d_15_13_47 (fun f117 H117 locs117 hP117 hD117 hS117 => ?_)
                                            have hF117 : gF f117 [] := gF_nil
                                            have hP117 : va_P D cls [(a0, .inr (14, rg 107 g0)), (a6, .inl (ca 2, 20, .inl g6)), (a7, .inl (ca 2, 3000, .inl f117))] H117 := hP117
                                            have hD117 : va_D A [(a0, .inr (14, rg 107 g0)), (a6, .inl (ca 2, 20, .inl g6)), (a7, .inl (ca 2, 3000, .inl f117))] := hD117
                                            clear hP111 hD111 hS111 hF111
                                            refine lv_iinc (v := 19) (lv' := [(2, .int 19), (0, .ref a0), (1, .int v0)]) hx hb d_15_13_48 hl (k := 0) rfl (by decide) (by decide) rfl (fun ls hl => ?_)
                                            refine lv_goto (tgt := 26) hx hb d_15_13_51 (by decide) ?_
                                            refine lv_iload_n hx hb d_15_13_26 rfl (lv_at hl 0 rfl) ?_
                                            refine lv_iload_n hx hb d_15_13_27 rfl (lv_at hl 2 rfl) ?_
                                            refine lv_icmp_ge (tgt := 54) hx hb d_15_13_28 (by decide) (fun c118 => ?_) (fun c118 => ?_)
                                            · refine lv_aload_n hx hb d_15_13_54 rfl (lv_at hl 1 rfl) ?_
                                              refine lv_dup hx hb d_15_13_55 rfl ?_
                                              refine gget hx hb hts inW_14 hown hK hP117 0 rfl rfl hp0 2 rfl (by decide) k_11_1 d_15_13_56 ?_
                                              refine lv_iload_n hx hb d_15_13_59 rfl (lv_at hl 2 rfl) ?_
                                              refine lv_iadd hx hb d_15_13_60 ?_
                                              refine lv_topi (fun y119 ey119 => ?_)
                                              refine gput hx hb hts inW_14 tyX14 tyX14_ok nmX14 hown hK hP117 hD117 hS117 0 rfl rfl hp0 3 (by decide) k_11_1 rfl rfl rfl d_15_13_61 (L' := [(3, .int y119), (4, .ref a6), (2, .ref a7)]) rfl (fun f120 H120 locs120 hF120 hm120 hP120 hD120 hS120 => ?_)
                                              have hM120 := gM.tr (gM.rf (f := g0)) hm120
                                              have hP120 : va_P D cls [(a0, .inr (14, rg 107 f120)), (a6, .inl (ca 2, 20, .inl g6)), (a7, .inl (ca 2, 3000, .inl f117))] H120 := hP120
                                              have hD120 : va_D A [(a0, .inr (14, rg 107 f120)), (a6, .inl (ca 2, 20, .inl g6)), (a7, .inl (ca 2, 3000, .inl f117))] := hD120
                                              clear hP117 hD117 hS117 hm120
                                              refine lv_aload_n hx hb d_15_13_64 rfl (lv_at hl 1 rfl) ?_
                                              refine gget hx hb hts inW_14 hown hK hP120 0 rfl rfl hF120 0 rfl (by decide) k_11_1 d_15_13_65 ?_
                                              have hP9 := hP120.sub (ws' := [(a0, .inr (14, rg 107 f120)), (a6, .inl (ca 2, 20, .inl g6)), (a7, .inl (ca 2, 3000, .inl f117))]) [0, 1, 2] rfl
                                              have hD9 := hD120.sub (ws' := [(a0, .inr (14, rg 107 f120)), (a6, .inl (ca 2, 20, .inl g6)), (a7, .inl (ca 2, 3000, .inl f117))]) [0, 1, 2] (by decide) rfl
                                              refine W.widen (k := 0) (n := 0) (Nat.le_of_ble_eq_true rfl) (Nat.le_of_ble_eq_true rfl) ?_
                                              exact W.iret (v := y119) hx hb hr (fun t ht hW => ⟨⟨y119, (f120, f117), rfl, ⟨⟨fun z => absurd z c1, fun _ z => absurd z c2, fun _ _ => ey119.trans (Int32.zero_add _)⟩, hM120.mono (by decide), hF120.sub [] rfl, hF117.sub [] rfl⟩, by rw [ht]; exact hP9, va_K.moved hW.alike hK, hD9⟩, hS120.F ht⟩) hS120.2.2 d_15_13_68
                                            · refine lv_aload_n hx hb d_15_13_31 rfl (lv_at hl 1 rfl) ?_
                                              refine gget hx hb hts inW_14 hown hK hP117 0 rfl rfl hp0 1 rfl (by decide) k_11_0 d_15_13_32 ?_
                                              refine lv_aload_n hx hb d_15_13_35 rfl (lv_at hl 1 rfl) ?_
                                              refine gget hx hb hts inW_14 hown hK hP117 0 rfl rfl hp0 2 rfl (by decide) k_11_1 d_15_13_36 ?_
                                              refine lv_iload_n hx hb d_15_13_39 rfl (lv_at hl 0 rfl) ?_
                                              refine lv_iadd hx hb d_15_13_40 ?_
                                              refine lv_topi (fun y121 ey121 => ?_)
                                              obtain rfl : y121 = 19 := ey121.trans (by decide)
                                              refine lv_aload_n hx hb d_15_13_41 rfl (lv_at hl 1 rfl) ?_
                                              refine gget hx hb hts inW_14 hown hK hP117 0 rfl rfl hp0 0 rfl (by decide) k_11_2 d_15_13_42 ?_
                                              refine lv_iload_n hx hb d_15_13_45 rfl (lv_at hl 0 rfl) ?_
                                              refine gbaldX hx hb hK hP117 1 2 rfl rfl (vinC (by decide)) d_15_13_46 (fun y122 => ?_)
                                              refine gbastX hx hb hK hP117 hD117 hS117 2 2 rfl rfl (vinC (by decide)) d_15_13_47 (fun f123 H123 locs123 hP123 hD123 hS123 => ?_)
                                              have hF123 : gF f123 [] := gF_nil
                                              have hP123 : va_P D cls [(a0, .inr (14, rg 107 g0)), (a6, .inl (ca 2, 20, .inl g6)), (a7, .inl (ca 2, 3000, .inl f123))] H123 := hP123
                                              have hD123 : va_D A [(a0, .inr (14, rg 107 g0)), (a6, .inl (ca 2, 20, .inl g6)), (a7, .inl (ca 2, 3000, .inl f123))] := hD123
                                              clear hP117 hD117 hS117 hF117
                                              refine lv_iinc (v := 20) (lv' := [(2, .int 20), (0, .ref a0), (1, .int v0)]) hx hb d_15_13_48 hl (k := 0) rfl (by decide) (by decide) rfl (fun ls hl => ?_)
                                              refine lv_goto (tgt := 26) hx hb d_15_13_51 (by decide) ?_
                                              refine lv_iload_n hx hb d_15_13_26 rfl (lv_at hl 0 rfl) ?_
                                              refine lv_iload_n hx hb d_15_13_27 rfl (lv_at hl 2 rfl) ?_
                                              refine lv_icmp_ge (tgt := 54) hx hb d_15_13_28 (by decide) (fun _ => ?_) (fun c => absurd (Int32.not_lt.mp c2) c)
                                              refine lv_aload_n hx hb d_15_13_54 rfl (lv_at hl 1 rfl) ?_
                                              refine lv_dup hx hb d_15_13_55 rfl ?_
                                              refine gget hx hb hts inW_14 hown hK hP123 0 rfl rfl hp0 2 rfl (by decide) k_11_1 d_15_13_56 ?_
                                              refine lv_iload_n hx hb d_15_13_59 rfl (lv_at hl 2 rfl) ?_
                                              refine lv_iadd hx hb d_15_13_60 ?_
                                              refine lv_topi (fun y124 ey124 => ?_)
                                              refine gput hx hb hts inW_14 tyX14 tyX14_ok nmX14 hown hK hP123 hD123 hS123 0 rfl rfl hp0 3 (by decide) k_11_1 rfl rfl rfl d_15_13_61 (L' := [(3, .int y124), (4, .ref a6), (2, .ref a7)]) rfl (fun f125 H125 locs125 hF125 hm125 hP125 hD125 hS125 => ?_)
                                              have hM125 := gM.tr (gM.rf (f := g0)) hm125
                                              have hP125 : va_P D cls [(a0, .inr (14, rg 107 f125)), (a6, .inl (ca 2, 20, .inl g6)), (a7, .inl (ca 2, 3000, .inl f123))] H125 := hP125
                                              have hD125 : va_D A [(a0, .inr (14, rg 107 f125)), (a6, .inl (ca 2, 20, .inl g6)), (a7, .inl (ca 2, 3000, .inl f123))] := hD125
                                              clear hP123 hD123 hS123 hm125
                                              refine lv_aload_n hx hb d_15_13_64 rfl (lv_at hl 1 rfl) ?_
                                              refine gget hx hb hts inW_14 hown hK hP125 0 rfl rfl hF125 0 rfl (by decide) k_11_1 d_15_13_65 ?_
                                              have hP9 := hP125.sub (ws' := [(a0, .inr (14, rg 107 f125)), (a6, .inl (ca 2, 20, .inl g6)), (a7, .inl (ca 2, 3000, .inl f123))]) [0, 1, 2] rfl
                                              have hD9 := hD125.sub (ws' := [(a0, .inr (14, rg 107 f125)), (a6, .inl (ca 2, 20, .inl g6)), (a7, .inl (ca 2, 3000, .inl f123))]) [0, 1, 2] (by decide) rfl
                                              refine W.widen (k := 0) (n := 0) (Nat.le_of_ble_eq_true rfl) (Nat.le_of_ble_eq_true rfl) ?_
                                              exact W.iret (v := y124) hx hb hr (fun t ht hW => ⟨⟨y124, (f125, f123), rfl, ⟨⟨fun z => absurd z c1, fun _ z => absurd z c2, fun _ _ => ey124.trans (Int32.zero_add _)⟩, hM125.mono (by decide), hF125.sub [] rfl, hF123.sub [] rfl⟩, by rw [ht]; exact hP9, va_K.moved hW.alike hK, hD9⟩, hS125.F ht⟩) hS125.2.2 d_15_13_68
