
theorem d_15_12_0 : decode prog_15_method_12_code 0 = .ok (.iconst 0, 1) := by decide +kernel
theorem d_15_12_1 : decode prog_15_method_12_code 1 = .ok (.istore 6, 2) := by decide +kernel
theorem d_15_12_3 : decode prog_15_method_12_code 3 = .ok (.iload 6, 2) := by decide +kernel
theorem d_15_12_5 : decode prog_15_method_12_code 5 = .ok (.bipush 20, 2) := by decide +kernel
theorem d_15_12_7 : decode prog_15_method_12_code 7 = .ok (.if_icmp .ge 78, 3) := by decide +kernel
theorem d_15_12_10 : decode prog_15_method_12_code 10 = .ok (.iload 6, 2) := by decide +kernel
theorem d_15_12_12 : decode prog_15_method_12_code 12 = .ok (.iconst 4, 1) := by decide +kernel
theorem d_15_12_13 : decode prog_15_method_12_code 13 = .ok (.if_icmp .ge 7, 3) := by decide +kernel
theorem d_15_12_16 : decode prog_15_method_12_code 16 = .ok (.iload_n 1, 1) := by decide +kernel
theorem d_15_12_17 : decode prog_15_method_12_code 17 = .ok (.goto 39, 3) := by decide +kernel
theorem d_15_12_56 : decode prog_15_method_12_code 56 = .ok (.istore 7, 2) := by decide +kernel
theorem d_15_12_58 : decode prog_15_method_12_code 58 = .ok (.aload_n 0, 1) := by decide +kernel
theorem d_15_12_59 : decode prog_15_method_12_code 59 = .ok (.getfield 34, 3) := by decide +kernel
theorem d_15_12_62 : decode prog_15_method_12_code 62 = .ok (.iload 6, 2) := by decide +kernel
theorem d_15_12_64 : decode prog_15_method_12_code 64 = .ok (.iload 7, 2) := by decide +kernel
theorem d_15_12_66 : decode prog_15_method_12_code 66 = .ok (.bipush 24, 2) := by decide +kernel
theorem d_15_12_68 : decode prog_15_method_12_code 68 = .ok (.bipush 8, 2) := by decide +kernel
theorem d_15_12_70 : decode prog_15_method_12_code 70 = .ok (.iload 6, 2) := by decide +kernel
theorem d_15_12_72 : decode prog_15_method_12_code 72 = .ok (.iconst 4, 1) := by decide +kernel
theorem d_15_12_73 : decode prog_15_method_12_code 73 = .ok (.irem, 1) := by decide +kernel
theorem d_15_12_74 : decode prog_15_method_12_code 74 = .ok (.imul, 1) := by decide +kernel
theorem d_15_12_75 : decode prog_15_method_12_code 75 = .ok (.isub, 1) := by decide +kernel
theorem d_15_12_76 : decode prog_15_method_12_code 76 = .ok (.ishr, 1) := by decide +kernel
theorem d_15_12_77 : decode prog_15_method_12_code 77 = .ok (.i2b, 1) := by decide +kernel
theorem d_15_12_78 : decode prog_15_method_12_code 78 = .ok (.bastore, 1) := by decide +kernel
theorem d_15_12_79 : decode prog_15_method_12_code 79 = .ok (.iinc 6 1, 3) := by decide +kernel
theorem d_15_12_82 : decode prog_15_method_12_code 82 = .ok (.goto (-79), 3) := by decide +kernel
theorem d_15_12_20 : decode prog_15_method_12_code 20 = .ok (.iload 6, 2) := by decide +kernel
theorem d_15_12_22 : decode prog_15_method_12_code 22 = .ok (.bipush 8, 2) := by decide +kernel
theorem d_15_12_24 : decode prog_15_method_12_code 24 = .ok (.if_icmp .ge 7, 3) := by decide +kernel
theorem d_15_12_27 : decode prog_15_method_12_code 27 = .ok (.iload_n 2, 1) := by decide +kernel
theorem d_15_12_28 : decode prog_15_method_12_code 28 = .ok (.goto 28, 3) := by decide +kernel
theorem d_15_12_31 : decode prog_15_method_12_code 31 = .ok (.iload 6, 2) := by decide +kernel
theorem d_15_12_33 : decode prog_15_method_12_code 33 = .ok (.bipush 12, 2) := by decide +kernel
theorem d_15_12_35 : decode prog_15_method_12_code 35 = .ok (.if_icmp .ge 7, 3) := by decide +kernel
theorem d_15_12_38 : decode prog_15_method_12_code 38 = .ok (.iload_n 3, 1) := by decide +kernel
theorem d_15_12_39 : decode prog_15_method_12_code 39 = .ok (.goto 17, 3) := by decide +kernel
theorem d_15_12_42 : decode prog_15_method_12_code 42 = .ok (.iload 6, 2) := by decide +kernel
theorem d_15_12_44 : decode prog_15_method_12_code 44 = .ok (.bipush 16, 2) := by decide +kernel
theorem d_15_12_46 : decode prog_15_method_12_code 46 = .ok (.if_icmp .ge 8, 3) := by decide +kernel
theorem d_15_12_49 : decode prog_15_method_12_code 49 = .ok (.iload 4, 2) := by decide +kernel
theorem d_15_12_51 : decode prog_15_method_12_code 51 = .ok (.goto 5, 3) := by decide +kernel
theorem d_15_12_54 : decode prog_15_method_12_code 54 = .ok (.iload 5, 2) := by decide +kernel
theorem d_15_12_85 : decode prog_15_method_12_code 85 = .ok (.return_, 1) := by decide +kernel
abbrev Q_M_feed_0 (D : va_G) (ca : Nat → ClassId) (a0 : Nat) (a6 : Nat) (g0 : Nat → Value) (g6 : Nat → Int32) (v0 : Int32) (v1 : Int32) (v2 : Int32) (v3 : Int32) (v4 : Int32) (A : Nat → Prop) : Array Value → State → Outcome → State → Prop := va_Qv (S := (Nat → Int32)) (fun (u : (Nat → Int32)) => gF u []) (fun u => gB D ca A [(a0, .inr (14, rg 107 g0)), (a6, .inl (ca 2, 20, .inl u))]) A
set_option maxHeartbeats 8000000 in
set_option maxRecDepth 100000 in
theorem c_M_feed_0 (l : Launch) (D : va_G) (ca : Nat → ClassId) (ad av : Nat → Nat) (sz : Nat) (a0 : Nat) (a6 : Nat) (g0 : Nat → Value) (g6 : Nat → Int32) (v0 : Int32) (v1 : Int32) (v2 : Int32) (v3 : Int32) (v4 : Int32) (hp0 : gF g0 [(4, .ref a6)]) (hp6 : gF g6 []) : Met l ({ cls := "StaveHouseModel", name := "feed", desc := "(IIIII)V" } : Jvm.MethodName) (Cond.code ({ cls := "StaveHouseModel", name := "feed", desc := "(IIIII)V" } : Jvm.MethodName) prog_15_method_12_code 8 (Option.none : Option Jvm.ClassFile.FieldType) :: wAll) ({ frames := 0, cells := 0, slots := 0, locals := 0 } : Room) (va_Pc [.ref a0, .int v0, .int v1, .int v2, .int v3, .int v4] (gPre D ca ad av [(a0, .inr (14, rg 107 g0)), (a6, .inl (ca 2, 20, .inl g6))] sz)) (Q_M_feed_0 D ca a0 a6 g0 g6 v0 v1 v2 v3 v4 (va_A [(a0, .inr (14, rg 107 g0)), (a6, .inl (ca 2, 20, .inl g6))] sz)) 0 0 (va_A [(a0, .inr (14, rg 107 g0)), (a6, .inl (ca 2, 20, .inl g6))] sz) := by
  refine gMet (Qc := Q_M_feed_0 D ca a0 a6 g0 g6 v0 v1 v2 v3 v4) (lv := [(0, .ref a0), (1, .int v0), (2, .int v1), (3, .int v2), (4, .int v3), (5, .int v4)]) (by decide) (Nat.le_of_ble_eq_true rfl) rfl (fun A p e s m below meth c ls hx hb hr hml hown hts hlk hnm hl hP hK hD hS hA hX => ?_)
  have hown : s.vm.findClass "StaveHouseModel" = some m.cls := hown
  have hnm : meth.name = "feed" := hnm
  refine lv_iconst (v := 0) hx hb d_15_12_0 (by decide) ?_
  refine lv_istore (lv' := [(6, .int 0), (0, .ref a0), (1, .int v0), (2, .int v1), (3, .int v2), (4, .int v3), (5, .int v4)]) hx hb d_15_12_1 hl (by decide) rfl (fun ls hl => ?_)
  refine lv_iload hx hb d_15_12_3 (lv_at hl 0 rfl) ?_
  refine lv_bipush (v := 20) hx hb d_15_12_5 (by decide) ?_
  refine lv_icmp_ge (tgt := 85) hx hb d_15_12_7 (by decide) (fun c => absurd c (by decide)) (fun _ => ?_)
  refine lv_iload hx hb d_15_12_10 (lv_at hl 0 rfl) ?_
  refine lv_iconst (v := 4) hx hb d_15_12_12 (by decide) ?_
  refine lv_icmp_ge (tgt := 20) hx hb d_15_12_13 (by decide) (fun c => absurd c (by decide)) (fun _ => ?_)
  refine lv_iload_n hx hb d_15_12_16 rfl (lv_at hl 2 rfl) ?_
  refine lv_goto (tgt := 56) hx hb d_15_12_17 (by decide) ?_
  refine lv_istore (lv' := [(7, .int v0), (6, .int 0), (0, .ref a0), (1, .int v0), (2, .int v1), (3, .int v2), (4, .int v3), (5, .int v4)]) hx hb d_15_12_56 hl (by decide) rfl (fun ls hl => ?_)
  refine lv_aload_n hx hb d_15_12_58 rfl (lv_at hl 2 rfl) ?_
  refine gget hx hb hts inW_14 hown hK hP 0 rfl rfl hp0 0 rfl (by decide) k_11_2 d_15_12_59 ?_
  refine lv_iload hx hb d_15_12_62 (lv_at hl 1 rfl) ?_
  refine lv_iload hx hb d_15_12_64 (lv_at hl 0 rfl) ?_
  refine lv_bipush (v := 24) hx hb d_15_12_66 (by decide) ?_
  refine lv_bipush (v := 8) hx hb d_15_12_68 (by decide) ?_
  refine lv_iload hx hb d_15_12_70 (lv_at hl 1 rfl) ?_
  refine lv_iconst (v := 4) hx hb d_15_12_72 (by decide) ?_
  refine lv_irem hx hb d_15_12_73 (by decide) ?_
  refine lv_topi (fun y1 ey1 => ?_)
  obtain rfl : y1 = 0 := ey1.trans (by decide)
  refine lv_imul hx hb d_15_12_74 ?_
  refine lv_topi (fun y2 ey2 => ?_)
  obtain rfl : y2 = 0 := ey2.trans (by decide)
  refine lv_isub hx hb d_15_12_75 ?_
  refine lv_topi (fun y3 ey3 => ?_)
  obtain rfl : y3 = 24 := ey3.trans (by decide)
  refine lv_ishr hx hb d_15_12_76 ?_
  refine lv_topi (fun y4 ey4 => ?_)
  refine lv_i2b hx hb d_15_12_77 rfl ?_
  refine lv_topi (fun y5 ey5 => ?_)
  refine gbastX hx hb hK hP hD hS 1 2 rfl rfl (vinC (by decide)) d_15_12_78 (fun f6 H6 locs6 hP6 hD6 hS6 => ?_)
  have hF6 : gF f6 [] := gF_nil
  have hP6 : va_P D cls [(a0, .inr (14, rg 107 g0)), (a6, .inl (ca 2, 20, .inl f6))] H6 := hP6
  have hD6 : va_D A [(a0, .inr (14, rg 107 g0)), (a6, .inl (ca 2, 20, .inl f6))] := hD6
  refine lv_iinc (v := 1) (lv' := [(6, .int 1), (7, .int v0), (0, .ref a0), (1, .int v0), (2, .int v1), (3, .int v2), (4, .int v3), (5, .int v4)]) hx hb d_15_12_79 hl (k := 1) rfl (by decide) (by decide) rfl (fun ls hl => ?_)
  refine lv_goto (tgt := 3) hx hb d_15_12_82 (by decide) ?_
  refine lv_iload hx hb d_15_12_3 (lv_at hl 0 rfl) ?_
  refine lv_bipush (v := 20) hx hb d_15_12_5 (by decide) ?_
  refine lv_icmp_ge (tgt := 85) hx hb d_15_12_7 (by decide) (fun c => absurd c (by decide)) (fun _ => ?_)
  refine lv_iload hx hb d_15_12_10 (lv_at hl 0 rfl) ?_
  refine lv_iconst (v := 4) hx hb d_15_12_12 (by decide) ?_
  refine lv_icmp_ge (tgt := 20) hx hb d_15_12_13 (by decide) (fun c => absurd c (by decide)) (fun _ => ?_)
  refine lv_iload_n hx hb d_15_12_16 rfl (lv_at hl 3 rfl) ?_
  refine lv_goto (tgt := 56) hx hb d_15_12_17 (by decide) ?_
  refine lv_istore (lv' := [(7, .int v0), (6, .int 1), (0, .ref a0), (1, .int v0), (2, .int v1), (3, .int v2), (4, .int v3), (5, .int v4)]) hx hb d_15_12_56 hl (by decide) rfl (fun ls hl => ?_)
  refine lv_aload_n hx hb d_15_12_58 rfl (lv_at hl 2 rfl) ?_
  refine gget hx hb hts inW_14 hown hK hP6 0 rfl rfl hp0 0 rfl (by decide) k_11_2 d_15_12_59 ?_
  refine lv_iload hx hb d_15_12_62 (lv_at hl 1 rfl) ?_
  refine lv_iload hx hb d_15_12_64 (lv_at hl 0 rfl) ?_
  refine lv_bipush (v := 24) hx hb d_15_12_66 (by decide) ?_
  refine lv_bipush (v := 8) hx hb d_15_12_68 (by decide) ?_
  refine lv_iload hx hb d_15_12_70 (lv_at hl 1 rfl) ?_
  refine lv_iconst (v := 4) hx hb d_15_12_72 (by decide) ?_
  refine lv_irem hx hb d_15_12_73 (by decide) ?_
  refine lv_topi (fun y7 ey7 => ?_)
  obtain rfl : y7 = 1 := ey7.trans (by decide)
  refine lv_imul hx hb d_15_12_74 ?_
  refine lv_topi (fun y8 ey8 => ?_)
  obtain rfl : y8 = 8 := ey8.trans (by decide)
  refine lv_isub hx hb d_15_12_75 ?_
  refine lv_topi (fun y9 ey9 => ?_)
  obtain rfl : y9 = 16 := ey9.trans (by decide)
  refine lv_ishr hx hb d_15_12_76 ?_
  refine lv_topi (fun y10 ey10 => ?_)
  refine lv_i2b hx hb d_15_12_77 rfl ?_
  refine lv_topi (fun y11 ey11 => ?_)
  refine gbastX hx hb hK hP6 hD6 hS6 1 2 rfl rfl (vinC (by decide)) d_15_12_78 (fun f12 H12 locs12 hP12 hD12 hS12 => ?_)
  have hF12 : gF f12 [] := gF_nil
  have hP12 : va_P D cls [(a0, .inr (14, rg 107 g0)), (a6, .inl (ca 2, 20, .inl f12))] H12 := hP12
  have hD12 : va_D A [(a0, .inr (14, rg 107 g0)), (a6, .inl (ca 2, 20, .inl f12))] := hD12
  clear hP6 hD6 hS6 hF6
  refine lv_iinc (v := 2) (lv' := [(6, .int 2), (7, .int v0), (0, .ref a0), (1, .int v0), (2, .int v1), (3, .int v2), (4, .int v3), (5, .int v4)]) hx hb d_15_12_79 hl (k := 1) rfl (by decide) (by decide) rfl (fun ls hl => ?_)
  refine lv_goto (tgt := 3) hx hb d_15_12_82 (by decide) ?_
  refine lv_iload hx hb d_15_12_3 (lv_at hl 0 rfl) ?_
  refine lv_bipush (v := 20) hx hb d_15_12_5 (by decide) ?_
  refine lv_icmp_ge (tgt := 85) hx hb d_15_12_7 (by decide) (fun c => absurd c (by decide)) (fun _ => ?_)
  refine lv_iload hx hb d_15_12_10 (lv_at hl 0 rfl) ?_
  refine lv_iconst (v := 4) hx hb d_15_12_12 (by decide) ?_
  refine lv_icmp_ge (tgt := 20) hx hb d_15_12_13 (by decide) (fun c => absurd c (by decide)) (fun _ => ?_)
  refine lv_iload_n hx hb d_15_12_16 rfl (lv_at hl 3 rfl) ?_
  refine lv_goto (tgt := 56) hx hb d_15_12_17 (by decide) ?_
  refine lv_istore (lv' := [(7, .int v0), (6, .int 2), (0, .ref a0), (1, .int v0), (2, .int v1), (3, .int v2), (4, .int v3), (5, .int v4)]) hx hb d_15_12_56 hl (by decide) rfl (fun ls hl => ?_)
  refine lv_aload_n hx hb d_15_12_58 rfl (lv_at hl 2 rfl) ?_
  refine gget hx hb hts inW_14 hown hK hP12 0 rfl rfl hp0 0 rfl (by decide) k_11_2 d_15_12_59 ?_
  refine lv_iload hx hb d_15_12_62 (lv_at hl 1 rfl) ?_
  refine lv_iload hx hb d_15_12_64 (lv_at hl 0 rfl) ?_
  refine lv_bipush (v := 24) hx hb d_15_12_66 (by decide) ?_
  refine lv_bipush (v := 8) hx hb d_15_12_68 (by decide) ?_
  refine lv_iload hx hb d_15_12_70 (lv_at hl 1 rfl) ?_
  refine lv_iconst (v := 4) hx hb d_15_12_72 (by decide) ?_
  refine lv_irem hx hb d_15_12_73 (by decide) ?_
  refine lv_topi (fun y13 ey13 => ?_)
  obtain rfl : y13 = 2 := ey13.trans (by decide)
  refine lv_imul hx hb d_15_12_74 ?_
  refine lv_topi (fun y14 ey14 => ?_)
  obtain rfl : y14 = 16 := ey14.trans (by decide)
  refine lv_isub hx hb d_15_12_75 ?_
  refine lv_topi (fun y15 ey15 => ?_)
  obtain rfl : y15 = 8 := ey15.trans (by decide)
  refine lv_ishr hx hb d_15_12_76 ?_
  refine lv_topi (fun y16 ey16 => ?_)
  refine lv_i2b hx hb d_15_12_77 rfl ?_
  refine lv_topi (fun y17 ey17 => ?_)
  refine gbastX hx hb hK hP12 hD12 hS12 1 2 rfl rfl (vinC (by decide)) d_15_12_78 (fun f18 H18 locs18 hP18 hD18 hS18 => ?_)
  have hF18 : gF f18 [] := gF_nil
  have hP18 : va_P D cls [(a0, .inr (14, rg 107 g0)), (a6, .inl (ca 2, 20, .inl f18))] H18 := hP18
  have hD18 : va_D A [(a0, .inr (14, rg 107 g0)), (a6, .inl (ca 2, 20, .inl f18))] := hD18
  clear hP12 hD12 hS12 hF12
  refine lv_iinc (v := 3) (lv' := [(6, .int 3), (7, .int v0), (0, .ref a0), (1, .int v0), (2, .int v1), (3, .int v2), (4, .int v3), (5, .int v4)]) hx hb d_15_12_79 hl (k := 1) rfl (by decide) (by decide) rfl (fun ls hl => ?_)
  refine lv_goto (tgt := 3) hx hb d_15_12_82 (by decide) ?_
  refine lv_iload hx hb d_15_12_3 (lv_at hl 0 rfl) ?_
  refine lv_bipush (v := 20) hx hb d_15_12_5 (by decide) ?_
  refine lv_icmp_ge (tgt := 85) hx hb d_15_12_7 (by decide) (fun c => absurd c (by decide)) (fun _ => ?_)
  refine lv_iload hx hb d_15_12_10 (lv_at hl 0 rfl) ?_
  refine lv_iconst (v := 4) hx hb d_15_12_12 (by decide) ?_
  refine lv_icmp_ge (tgt := 20) hx hb d_15_12_13 (by decide) (fun c => absurd c (by decide)) (fun _ => ?_)
  refine lv_iload_n hx hb d_15_12_16 rfl (lv_at hl 3 rfl) ?_
  refine lv_goto (tgt := 56) hx hb d_15_12_17 (by decide) ?_
  refine lv_istore (lv' := [(7, .int v0), (6, .int 3), (0, .ref a0), (1, .int v0), (2, .int v1), (3, .int v2), (4, .int v3), (5, .int v4)]) hx hb d_15_12_56 hl (by decide) rfl (fun ls hl => ?_)
  refine lv_aload_n hx hb d_15_12_58 rfl (lv_at hl 2 rfl) ?_
  refine gget hx hb hts inW_14 hown hK hP18 0 rfl rfl hp0 0 rfl (by decide) k_11_2 d_15_12_59 ?_
  refine lv_iload hx hb d_15_12_62 (lv_at hl 1 rfl) ?_
  refine lv_iload hx hb d_15_12_64 (lv_at hl 0 rfl) ?_
  refine lv_bipush (v := 24) hx hb d_15_12_66 (by decide) ?_
  refine lv_bipush (v := 8) hx hb d_15_12_68 (by decide) ?_
  refine lv_iload hx hb d_15_12_70 (lv_at hl 1 rfl) ?_
  refine lv_iconst (v := 4) hx hb d_15_12_72 (by decide) ?_
  refine lv_irem hx hb d_15_12_73 (by decide) ?_
  refine lv_topi (fun y19 ey19 => ?_)
  obtain rfl : y19 = 3 := ey19.trans (by decide)
  refine lv_imul hx hb d_15_12_74 ?_
  refine lv_topi (fun y20 ey20 => ?_)
  obtain rfl : y20 = 24 := ey20.trans (by decide)
  refine lv_isub hx hb d_15_12_75 ?_
  refine lv_topi (fun y21 ey21 => ?_)
  obtain rfl : y21 = 0 := ey21.trans (by decide)
  refine lv_ishr hx hb d_15_12_76 ?_
  refine lv_topi (fun y22 ey22 => ?_)
  refine lv_i2b hx hb d_15_12_77 rfl ?_
  refine lv_topi (fun y23 ey23 => ?_)
  refine gbastX hx hb hK hP18 hD18 hS18 1 2 rfl rfl (vinC (by decide)) d_15_12_78 (fun f24 H24 locs24 hP24 hD24 hS24 => ?_)
  have hF24 : gF f24 [] := gF_nil
  have hP24 : va_P D cls [(a0, .inr (14, rg 107 g0)), (a6, .inl (ca 2, 20, .inl f24))] H24 := hP24
  have hD24 : va_D A [(a0, .inr (14, rg 107 g0)), (a6, .inl (ca 2, 20, .inl f24))] := hD24
  clear hP18 hD18 hS18 hF18
  refine lv_iinc (v := 4) (lv' := [(6, .int 4), (7, .int v0), (0, .ref a0), (1, .int v0), (2, .int v1), (3, .int v2), (4, .int v3), (5, .int v4)]) hx hb d_15_12_79 hl (k := 1) rfl (by decide) (by decide) rfl (fun ls hl => ?_)
  refine lv_goto (tgt := 3) hx hb d_15_12_82 (by decide) ?_
  refine lv_iload hx hb d_15_12_3 (lv_at hl 0 rfl) ?_
  refine lv_bipush (v := 20) hx hb d_15_12_5 (by decide) ?_
  refine lv_icmp_ge (tgt := 85) hx hb d_15_12_7 (by decide) (fun c => absurd c (by decide)) (fun _ => ?_)
  refine lv_iload hx hb d_15_12_10 (lv_at hl 0 rfl) ?_
  refine lv_iconst (v := 4) hx hb d_15_12_12 (by decide) ?_
  refine lv_icmp_ge (tgt := 20) hx hb d_15_12_13 (by decide) (fun _ => ?_) (fun c => absurd (by decide) c)
  refine lv_iload hx hb d_15_12_20 (lv_at hl 0 rfl) ?_
  refine lv_bipush (v := 8) hx hb d_15_12_22 (by decide) ?_
  refine lv_icmp_ge (tgt := 31) hx hb d_15_12_24 (by decide) (fun c => absurd c (by decide)) (fun _ => ?_)
  refine lv_iload_n hx hb d_15_12_27 rfl (lv_at hl 4 rfl) ?_
  refine lv_goto (tgt := 56) hx hb d_15_12_28 (by decide) ?_
  refine lv_istore (lv' := [(7, .int v1), (6, .int 4), (0, .ref a0), (1, .int v0), (2, .int v1), (3, .int v2), (4, .int v3), (5, .int v4)]) hx hb d_15_12_56 hl (by decide) rfl (fun ls hl => ?_)
  refine lv_aload_n hx hb d_15_12_58 rfl (lv_at hl 2 rfl) ?_
  refine gget hx hb hts inW_14 hown hK hP24 0 rfl rfl hp0 0 rfl (by decide) k_11_2 d_15_12_59 ?_
  refine lv_iload hx hb d_15_12_62 (lv_at hl 1 rfl) ?_
  refine lv_iload hx hb d_15_12_64 (lv_at hl 0 rfl) ?_
  refine lv_bipush (v := 24) hx hb d_15_12_66 (by decide) ?_
  refine lv_bipush (v := 8) hx hb d_15_12_68 (by decide) ?_
  refine lv_iload hx hb d_15_12_70 (lv_at hl 1 rfl) ?_
  refine lv_iconst (v := 4) hx hb d_15_12_72 (by decide) ?_
  refine lv_irem hx hb d_15_12_73 (by decide) ?_
  refine lv_topi (fun y25 ey25 => ?_)
  obtain rfl : y25 = 0 := ey25.trans (by decide)
  refine lv_imul hx hb d_15_12_74 ?_
  refine lv_topi (fun y26 ey26 => ?_)
  obtain rfl : y26 = 0 := ey26.trans (by decide)
  refine lv_isub hx hb d_15_12_75 ?_
  refine lv_topi (fun y27 ey27 => ?_)
  obtain rfl : y27 = 24 := ey27.trans (by decide)
  refine lv_ishr hx hb d_15_12_76 ?_
  refine lv_topi (fun y28 ey28 => ?_)
  refine lv_i2b hx hb d_15_12_77 rfl ?_
  refine lv_topi (fun y29 ey29 => ?_)
  refine gbastX hx hb hK hP24 hD24 hS24 1 2 rfl rfl (vinC (by decide)) d_15_12_78 (fun f30 H30 locs30 hP30 hD30 hS30 => ?_)
  have hF30 : gF f30 [] := gF_nil
  have hP30 : va_P D cls [(a0, .inr (14, rg 107 g0)), (a6, .inl (ca 2, 20, .inl f30))] H30 := hP30
  have hD30 : va_D A [(a0, .inr (14, rg 107 g0)), (a6, .inl (ca 2, 20, .inl f30))] := hD30
  clear hP24 hD24 hS24 hF24
  refine lv_iinc (v := 5) (lv' := [(6, .int 5), (7, .int v1), (0, .ref a0), (1, .int v0), (2, .int v1), (3, .int v2), (4, .int v3), (5, .int v4)]) hx hb d_15_12_79 hl (k := 1) rfl (by decide) (by decide) rfl (fun ls hl => ?_)
  refine lv_goto (tgt := 3) hx hb d_15_12_82 (by decide) ?_
  refine lv_iload hx hb d_15_12_3 (lv_at hl 0 rfl) ?_
  refine lv_bipush (v := 20) hx hb d_15_12_5 (by decide) ?_
  refine lv_icmp_ge (tgt := 85) hx hb d_15_12_7 (by decide) (fun c => absurd c (by decide)) (fun _ => ?_)
  refine lv_iload hx hb d_15_12_10 (lv_at hl 0 rfl) ?_
  refine lv_iconst (v := 4) hx hb d_15_12_12 (by decide) ?_
  refine lv_icmp_ge (tgt := 20) hx hb d_15_12_13 (by decide) (fun _ => ?_) (fun c => absurd (by decide) c)
  refine lv_iload hx hb d_15_12_20 (lv_at hl 0 rfl) ?_
  refine lv_bipush (v := 8) hx hb d_15_12_22 (by decide) ?_
  refine lv_icmp_ge (tgt := 31) hx hb d_15_12_24 (by decide) (fun c => absurd c (by decide)) (fun _ => ?_)
  refine lv_iload_n hx hb d_15_12_27 rfl (lv_at hl 4 rfl) ?_
  refine lv_goto (tgt := 56) hx hb d_15_12_28 (by decide) ?_
  refine lv_istore (lv' := [(7, .int v1), (6, .int 5), (0, .ref a0), (1, .int v0), (2, .int v1), (3, .int v2), (4, .int v3), (5, .int v4)]) hx hb d_15_12_56 hl (by decide) rfl (fun ls hl => ?_)
  refine lv_aload_n hx hb d_15_12_58 rfl (lv_at hl 2 rfl) ?_
  refine gget hx hb hts inW_14 hown hK hP30 0 rfl rfl hp0 0 rfl (by decide) k_11_2 d_15_12_59 ?_
  refine lv_iload hx hb d_15_12_62 (lv_at hl 1 rfl) ?_
  refine lv_iload hx hb d_15_12_64 (lv_at hl 0 rfl) ?_
  refine lv_bipush (v := 24) hx hb d_15_12_66 (by decide) ?_
  refine lv_bipush (v := 8) hx hb d_15_12_68 (by decide) ?_
  refine lv_iload hx hb d_15_12_70 (lv_at hl 1 rfl) ?_
  refine lv_iconst (v := 4) hx hb d_15_12_72 (by decide) ?_
  refine lv_irem hx hb d_15_12_73 (by decide) ?_
  refine lv_topi (fun y31 ey31 => ?_)
  obtain rfl : y31 = 1 := ey31.trans (by decide)
  refine lv_imul hx hb d_15_12_74 ?_
  refine lv_topi (fun y32 ey32 => ?_)
  obtain rfl : y32 = 8 := ey32.trans (by decide)
  refine lv_isub hx hb d_15_12_75 ?_
  refine lv_topi (fun y33 ey33 => ?_)
  obtain rfl : y33 = 16 := ey33.trans (by decide)
  refine lv_ishr hx hb d_15_12_76 ?_
  refine lv_topi (fun y34 ey34 => ?_)
  refine lv_i2b hx hb d_15_12_77 rfl ?_
  refine lv_topi (fun y35 ey35 => ?_)
  refine gbastX hx hb hK hP30 hD30 hS30 1 2 rfl rfl (vinC (by decide)) d_15_12_78 (fun f36 H36 locs36 hP36 hD36 hS36 => ?_)
  have hF36 : gF f36 [] := gF_nil
  have hP36 : va_P D cls [(a0, .inr (14, rg 107 g0)), (a6, .inl (ca 2, 20, .inl f36))] H36 := hP36
  have hD36 : va_D A [(a0, .inr (14, rg 107 g0)), (a6, .inl (ca 2, 20, .inl f36))] := hD36
  clear hP30 hD30 hS30 hF30
  refine lv_iinc (v := 6) (lv' := [(6, .int 6), (7, .int v1), (0, .ref a0), (1, .int v0), (2, .int v1), (3, .int v2), (4, .int v3), (5, .int v4)]) hx hb d_15_12_79 hl (k := 1) rfl (by decide) (by decide) rfl (fun ls hl => ?_)
  refine lv_goto (tgt := 3) hx hb d_15_12_82 (by decide) ?_
  refine lv_iload hx hb d_15_12_3 (lv_at hl 0 rfl) ?_
  refine lv_bipush (v := 20) hx hb d_15_12_5 (by decide) ?_
  refine lv_icmp_ge (tgt := 85) hx hb d_15_12_7 (by decide) (fun c => absurd c (by decide)) (fun _ => ?_)
  refine lv_iload hx hb d_15_12_10 (lv_at hl 0 rfl) ?_
  refine lv_iconst (v := 4) hx hb d_15_12_12 (by decide) ?_
  refine lv_icmp_ge (tgt := 20) hx hb d_15_12_13 (by decide) (fun _ => ?_) (fun c => absurd (by decide) c)
  refine lv_iload hx hb d_15_12_20 (lv_at hl 0 rfl) ?_
  refine lv_bipush (v := 8) hx hb d_15_12_22 (by decide) ?_
  refine lv_icmp_ge (tgt := 31) hx hb d_15_12_24 (by decide) (fun c => absurd c (by decide)) (fun _ => ?_)
  refine lv_iload_n hx hb d_15_12_27 rfl (lv_at hl 4 rfl) ?_
  refine lv_goto (tgt := 56) hx hb d_15_12_28 (by decide) ?_
  refine lv_istore (lv' := [(7, .int v1), (6, .int 6), (0, .ref a0), (1, .int v0), (2, .int v1), (3, .int v2), (4, .int v3), (5, .int v4)]) hx hb d_15_12_56 hl (by decide) rfl (fun ls hl => ?_)
  refine lv_aload_n hx hb d_15_12_58 rfl (lv_at hl 2 rfl) ?_
  refine gget hx hb hts inW_14 hown hK hP36 0 rfl rfl hp0 0 rfl (by decide) k_11_2 d_15_12_59 ?_
  refine lv_iload hx hb d_15_12_62 (lv_at hl 1 rfl) ?_
  refine lv_iload hx hb d_15_12_64 (lv_at hl 0 rfl) ?_
  refine lv_bipush (v := 24) hx hb d_15_12_66 (by decide) ?_
  refine lv_bipush (v := 8) hx hb d_15_12_68 (by decide) ?_
  refine lv_iload hx hb d_15_12_70 (lv_at hl 1 rfl) ?_
  refine lv_iconst (v := 4) hx hb d_15_12_72 (by decide) ?_
  refine lv_irem hx hb d_15_12_73 (by decide) ?_
  refine lv_topi (fun y37 ey37 => ?_)
  obtain rfl : y37 = 2 := ey37.trans (by decide)
  refine lv_imul hx hb d_15_12_74 ?_
  refine lv_topi (fun y38 ey38 => ?_)
  obtain rfl : y38 = 16 := ey38.trans (by decide)
  refine lv_isub hx hb d_15_12_75 ?_
  refine lv_topi (fun y39 ey39 => ?_)
  obtain rfl : y39 = 8 := ey39.trans (by decide)
  refine lv_ishr hx hb d_15_12_76 ?_
  refine lv_topi (fun y40 ey40 => ?_)
  refine lv_i2b hx hb d_15_12_77 rfl ?_
  refine lv_topi (fun y41 ey41 => ?_)
  refine gbastX hx hb hK hP36 hD36 hS36 1 2 rfl rfl (vinC (by decide)) d_15_12_78 (fun f42 H42 locs42 hP42 hD42 hS42 => ?_)
  have hF42 : gF f42 [] := gF_nil
  have hP42 : va_P D cls [(a0, .inr (14, rg 107 g0)), (a6, .inl (ca 2, 20, .inl f42))] H42 := hP42
  have hD42 : va_D A [(a0, .inr (14, rg 107 g0)), (a6, .inl (ca 2, 20, .inl f42))] := hD42
  clear hP36 hD36 hS36 hF36
  refine lv_iinc (v := 7) (lv' := [(6, .int 7), (7, .int v1), (0, .ref a0), (1, .int v0), (2, .int v1), (3, .int v2), (4, .int v3), (5, .int v4)]) hx hb d_15_12_79 hl (k := 1) rfl (by decide) (by decide) rfl (fun ls hl => ?_)
  refine lv_goto (tgt := 3) hx hb d_15_12_82 (by decide) ?_
  refine lv_iload hx hb d_15_12_3 (lv_at hl 0 rfl) ?_
  refine lv_bipush (v := 20) hx hb d_15_12_5 (by decide) ?_
  refine lv_icmp_ge (tgt := 85) hx hb d_15_12_7 (by decide) (fun c => absurd c (by decide)) (fun _ => ?_)
  refine lv_iload hx hb d_15_12_10 (lv_at hl 0 rfl) ?_
  refine lv_iconst (v := 4) hx hb d_15_12_12 (by decide) ?_
  refine lv_icmp_ge (tgt := 20) hx hb d_15_12_13 (by decide) (fun _ => ?_) (fun c => absurd (by decide) c)
  refine lv_iload hx hb d_15_12_20 (lv_at hl 0 rfl) ?_
  refine lv_bipush (v := 8) hx hb d_15_12_22 (by decide) ?_
  refine lv_icmp_ge (tgt := 31) hx hb d_15_12_24 (by decide) (fun c => absurd c (by decide)) (fun _ => ?_)
  refine lv_iload_n hx hb d_15_12_27 rfl (lv_at hl 4 rfl) ?_
  refine lv_goto (tgt := 56) hx hb d_15_12_28 (by decide) ?_
  refine lv_istore (lv' := [(7, .int v1), (6, .int 7), (0, .ref a0), (1, .int v0), (2, .int v1), (3, .int v2), (4, .int v3), (5, .int v4)]) hx hb d_15_12_56 hl (by decide) rfl (fun ls hl => ?_)
  refine lv_aload_n hx hb d_15_12_58 rfl (lv_at hl 2 rfl) ?_
  refine gget hx hb hts inW_14 hown hK hP42 0 rfl rfl hp0 0 rfl (by decide) k_11_2 d_15_12_59 ?_
  refine lv_iload hx hb d_15_12_62 (lv_at hl 1 rfl) ?_
  refine lv_iload hx hb d_15_12_64 (lv_at hl 0 rfl) ?_
  refine lv_bipush (v := 24) hx hb d_15_12_66 (by decide) ?_
  refine lv_bipush (v := 8) hx hb d_15_12_68 (by decide) ?_
  refine lv_iload hx hb d_15_12_70 (lv_at hl 1 rfl) ?_
  refine lv_iconst (v := 4) hx hb d_15_12_72 (by decide) ?_
  refine lv_irem hx hb d_15_12_73 (by decide) ?_
  refine lv_topi (fun y43 ey43 => ?_)
  obtain rfl : y43 = 3 := ey43.trans (by decide)
  refine lv_imul hx hb d_15_12_74 ?_
  refine lv_topi (fun y44 ey44 => ?_)
  obtain rfl : y44 = 24 := ey44.trans (by decide)
  refine lv_isub hx hb d_15_12_75 ?_
  refine lv_topi (fun y45 ey45 => ?_)
  obtain rfl : y45 = 0 := ey45.trans (by decide)
  refine lv_ishr hx hb d_15_12_76 ?_
  refine lv_topi (fun y46 ey46 => ?_)
  refine lv_i2b hx hb d_15_12_77 rfl ?_
  refine lv_topi (fun y47 ey47 => ?_)
  refine gbastX hx hb hK hP42 hD42 hS42 1 2 rfl rfl (vinC (by decide)) d_15_12_78 (fun f48 H48 locs48 hP48 hD48 hS48 => ?_)
  have hF48 : gF f48 [] := gF_nil
  have hP48 : va_P D cls [(a0, .inr (14, rg 107 g0)), (a6, .inl (ca 2, 20, .inl f48))] H48 := hP48
  have hD48 : va_D A [(a0, .inr (14, rg 107 g0)), (a6, .inl (ca 2, 20, .inl f48))] := hD48
  clear hP42 hD42 hS42 hF42
  refine lv_iinc (v := 8) (lv' := [(6, .int 8), (7, .int v1), (0, .ref a0), (1, .int v0), (2, .int v1), (3, .int v2), (4, .int v3), (5, .int v4)]) hx hb d_15_12_79 hl (k := 1) rfl (by decide) (by decide) rfl (fun ls hl => ?_)
  refine lv_goto (tgt := 3) hx hb d_15_12_82 (by decide) ?_
  refine lv_iload hx hb d_15_12_3 (lv_at hl 0 rfl) ?_
  refine lv_bipush (v := 20) hx hb d_15_12_5 (by decide) ?_
  refine lv_icmp_ge (tgt := 85) hx hb d_15_12_7 (by decide) (fun c => absurd c (by decide)) (fun _ => ?_)
  refine lv_iload hx hb d_15_12_10 (lv_at hl 0 rfl) ?_
  refine lv_iconst (v := 4) hx hb d_15_12_12 (by decide) ?_
  refine lv_icmp_ge (tgt := 20) hx hb d_15_12_13 (by decide) (fun _ => ?_) (fun c => absurd (by decide) c)
  refine lv_iload hx hb d_15_12_20 (lv_at hl 0 rfl) ?_
  refine lv_bipush (v := 8) hx hb d_15_12_22 (by decide) ?_
  refine lv_icmp_ge (tgt := 31) hx hb d_15_12_24 (by decide) (fun _ => ?_) (fun c => absurd (by decide) c)
  refine lv_iload hx hb d_15_12_31 (lv_at hl 0 rfl) ?_
  refine lv_bipush (v := 12) hx hb d_15_12_33 (by decide) ?_
  refine lv_icmp_ge (tgt := 42) hx hb d_15_12_35 (by decide) (fun c => absurd c (by decide)) (fun _ => ?_)
  refine lv_iload_n hx hb d_15_12_38 rfl (lv_at hl 5 rfl) ?_
  refine lv_goto (tgt := 56) hx hb d_15_12_39 (by decide) ?_
  refine lv_istore (lv' := [(7, .int v2), (6, .int 8), (0, .ref a0), (1, .int v0), (2, .int v1), (3, .int v2), (4, .int v3), (5, .int v4)]) hx hb d_15_12_56 hl (by decide) rfl (fun ls hl => ?_)
  refine lv_aload_n hx hb d_15_12_58 rfl (lv_at hl 2 rfl) ?_
  refine gget hx hb hts inW_14 hown hK hP48 0 rfl rfl hp0 0 rfl (by decide) k_11_2 d_15_12_59 ?_
  refine lv_iload hx hb d_15_12_62 (lv_at hl 1 rfl) ?_
  refine lv_iload hx hb d_15_12_64 (lv_at hl 0 rfl) ?_
  refine lv_bipush (v := 24) hx hb d_15_12_66 (by decide) ?_
  refine lv_bipush (v := 8) hx hb d_15_12_68 (by decide) ?_
  refine lv_iload hx hb d_15_12_70 (lv_at hl 1 rfl) ?_
  refine lv_iconst (v := 4) hx hb d_15_12_72 (by decide) ?_
  refine lv_irem hx hb d_15_12_73 (by decide) ?_
  refine lv_topi (fun y49 ey49 => ?_)
  obtain rfl : y49 = 0 := ey49.trans (by decide)
  refine lv_imul hx hb d_15_12_74 ?_
  refine lv_topi (fun y50 ey50 => ?_)
  obtain rfl : y50 = 0 := ey50.trans (by decide)
  refine lv_isub hx hb d_15_12_75 ?_
  refine lv_topi (fun y51 ey51 => ?_)
  obtain rfl : y51 = 24 := ey51.trans (by decide)
  refine lv_ishr hx hb d_15_12_76 ?_
  refine lv_topi (fun y52 ey52 => ?_)
  refine lv_i2b hx hb d_15_12_77 rfl ?_
  refine lv_topi (fun y53 ey53 => ?_)
  refine gbastX hx hb hK hP48 hD48 hS48 1 2 rfl rfl (vinC (by decide)) d_15_12_78 (fun f54 H54 locs54 hP54 hD54 hS54 => ?_)
  have hF54 : gF f54 [] := gF_nil
  have hP54 : va_P D cls [(a0, .inr (14, rg 107 g0)), (a6, .inl (ca 2, 20, .inl f54))] H54 := hP54
  have hD54 : va_D A [(a0, .inr (14, rg 107 g0)), (a6, .inl (ca 2, 20, .inl f54))] := hD54
  clear hP48 hD48 hS48 hF48
  refine lv_iinc (v := 9) (lv' := [(6, .int 9), (7, .int v2), (0, .ref a0), (1, .int v0), (2, .int v1), (3, .int v2), (4, .int v3), (5, .int v4)]) hx hb d_15_12_79 hl (k := 1) rfl (by decide) (by decide) rfl (fun ls hl => ?_)
  refine lv_goto (tgt := 3) hx hb d_15_12_82 (by decide) ?_
  refine lv_iload hx hb d_15_12_3 (lv_at hl 0 rfl) ?_
  refine lv_bipush (v := 20) hx hb d_15_12_5 (by decide) ?_
  refine lv_icmp_ge (tgt := 85) hx hb d_15_12_7 (by decide) (fun c => absurd c (by decide)) (fun _ => ?_)
  refine lv_iload hx hb d_15_12_10 (lv_at hl 0 rfl) ?_
  refine lv_iconst (v := 4) hx hb d_15_12_12 (by decide) ?_
  refine lv_icmp_ge (tgt := 20) hx hb d_15_12_13 (by decide) (fun _ => ?_) (fun c => absurd (by decide) c)
  refine lv_iload hx hb d_15_12_20 (lv_at hl 0 rfl) ?_
  refine lv_bipush (v := 8) hx hb d_15_12_22 (by decide) ?_
  refine lv_icmp_ge (tgt := 31) hx hb d_15_12_24 (by decide) (fun _ => ?_) (fun c => absurd (by decide) c)
  refine lv_iload hx hb d_15_12_31 (lv_at hl 0 rfl) ?_
  refine lv_bipush (v := 12) hx hb d_15_12_33 (by decide) ?_
  refine lv_icmp_ge (tgt := 42) hx hb d_15_12_35 (by decide) (fun c => absurd c (by decide)) (fun _ => ?_)
  refine lv_iload_n hx hb d_15_12_38 rfl (lv_at hl 5 rfl) ?_
  refine lv_goto (tgt := 56) hx hb d_15_12_39 (by decide) ?_
  refine lv_istore (lv' := [(7, .int v2), (6, .int 9), (0, .ref a0), (1, .int v0), (2, .int v1), (3, .int v2), (4, .int v3), (5, .int v4)]) hx hb d_15_12_56 hl (by decide) rfl (fun ls hl => ?_)
  refine lv_aload_n hx hb d_15_12_58 rfl (lv_at hl 2 rfl) ?_
  refine gget hx hb hts inW_14 hown hK hP54 0 rfl rfl hp0 0 rfl (by decide) k_11_2 d_15_12_59 ?_
  refine lv_iload hx hb d_15_12_62 (lv_at hl 1 rfl) ?_
  refine lv_iload hx hb d_15_12_64 (lv_at hl 0 rfl) ?_
  refine lv_bipush (v := 24) hx hb d_15_12_66 (by decide) ?_
  refine lv_bipush (v := 8) hx hb d_15_12_68 (by decide) ?_
  refine lv_iload hx hb d_15_12_70 (lv_at hl 1 rfl) ?_
  refine lv_iconst (v := 4) hx hb d_15_12_72 (by decide) ?_
  refine lv_irem hx hb d_15_12_73 (by decide) ?_
  refine lv_topi (fun y55 ey55 => ?_)
  obtain rfl : y55 = 1 := ey55.trans (by decide)
  refine lv_imul hx hb d_15_12_74 ?_
  refine lv_topi (fun y56 ey56 => ?_)
  obtain rfl : y56 = 8 := ey56.trans (by decide)
  refine lv_isub hx hb d_15_12_75 ?_
  refine lv_topi (fun y57 ey57 => ?_)
  obtain rfl : y57 = 16 := ey57.trans (by decide)
  refine lv_ishr hx hb d_15_12_76 ?_
  refine lv_topi (fun y58 ey58 => ?_)
  refine lv_i2b hx hb d_15_12_77 rfl ?_
  refine lv_topi (fun y59 ey59 => ?_)
  refine gbastX hx hb hK hP54 hD54 hS54 1 2 rfl rfl (vinC (by decide)) d_15_12_78 (fun f60 H60 locs60 hP60 hD60 hS60 => ?_)
  have hF60 : gF f60 [] := gF_nil
  have hP60 : va_P D cls [(a0, .inr (14, rg 107 g0)), (a6, .inl (ca 2, 20, .inl f60))] H60 := hP60
  have hD60 : va_D A [(a0, .inr (14, rg 107 g0)), (a6, .inl (ca 2, 20, .inl f60))] := hD60
  clear hP54 hD54 hS54 hF54
  refine lv_iinc (v := 10) (lv' := [(6, .int 10), (7, .int v2), (0, .ref a0), (1, .int v0), (2, .int v1), (3, .int v2), (4, .int v3), (5, .int v4)]) hx hb d_15_12_79 hl (k := 1) rfl (by decide) (by decide) rfl (fun ls hl => ?_)
  refine lv_goto (tgt := 3) hx hb d_15_12_82 (by decide) ?_
  refine lv_iload hx hb d_15_12_3 (lv_at hl 0 rfl) ?_
  refine lv_bipush (v := 20) hx hb d_15_12_5 (by decide) ?_
  refine lv_icmp_ge (tgt := 85) hx hb d_15_12_7 (by decide) (fun c => absurd c (by decide)) (fun _ => ?_)
  refine lv_iload hx hb d_15_12_10 (lv_at hl 0 rfl) ?_
  refine lv_iconst (v := 4) hx hb d_15_12_12 (by decide) ?_
  refine lv_icmp_ge (tgt := 20) hx hb d_15_12_13 (by decide) (fun _ => ?_) (fun c => absurd (by decide) c)
  refine lv_iload hx hb d_15_12_20 (lv_at hl 0 rfl) ?_
  refine lv_bipush (v := 8) hx hb d_15_12_22 (by decide) ?_
  refine lv_icmp_ge (tgt := 31) hx hb d_15_12_24 (by decide) (fun _ => ?_) (fun c => absurd (by decide) c)
  refine lv_iload hx hb d_15_12_31 (lv_at hl 0 rfl) ?_
  refine lv_bipush (v := 12) hx hb d_15_12_33 (by decide) ?_
  refine lv_icmp_ge (tgt := 42) hx hb d_15_12_35 (by decide) (fun c => absurd c (by decide)) (fun _ => ?_)
  refine lv_iload_n hx hb d_15_12_38 rfl (lv_at hl 5 rfl) ?_
  refine lv_goto (tgt := 56) hx hb d_15_12_39 (by decide) ?_
  refine lv_istore (lv' := [(7, .int v2), (6, .int 10), (0, .ref a0), (1, .int v0), (2, .int v1), (3, .int v2), (4, .int v3), (5, .int v4)]) hx hb d_15_12_56 hl (by decide) rfl (fun ls hl => ?_)
  refine lv_aload_n hx hb d_15_12_58 rfl (lv_at hl 2 rfl) ?_
  refine gget hx hb hts inW_14 hown hK hP60 0 rfl rfl hp0 0 rfl (by decide) k_11_2 d_15_12_59 ?_
  refine lv_iload hx hb d_15_12_62 (lv_at hl 1 rfl) ?_
  refine lv_iload hx hb d_15_12_64 (lv_at hl 0 rfl) ?_
  refine lv_bipush (v := 24) hx hb d_15_12_66 (by decide) ?_
  refine lv_bipush (v := 8) hx hb d_15_12_68 (by decide) ?_
  refine lv_iload hx hb d_15_12_70 (lv_at hl 1 rfl) ?_
  refine lv_iconst (v := 4) hx hb d_15_12_72 (by decide) ?_
  refine lv_irem hx hb d_15_12_73 (by decide) ?_
  refine lv_topi (fun y61 ey61 => ?_)
  obtain rfl : y61 = 2 := ey61.trans (by decide)
  refine lv_imul hx hb d_15_12_74 ?_
  refine lv_topi (fun y62 ey62 => ?_)
  obtain rfl : y62 = 16 := ey62.trans (by decide)
  refine lv_isub hx hb d_15_12_75 ?_
  refine lv_topi (fun y63 ey63 => ?_)
  obtain rfl : y63 = 8 := ey63.trans (by decide)
  refine lv_ishr hx hb d_15_12_76 ?_
  refine lv_topi (fun y64 ey64 => ?_)
  refine lv_i2b hx hb d_15_12_77 rfl ?_
  refine lv_topi (fun y65 ey65 => ?_)
  refine gbastX hx hb hK hP60 hD60 hS60 1 2 rfl rfl (vinC (by decide)) d_15_12_78 (fun f66 H66 locs66 hP66 hD66 hS66 => ?_)
  have hF66 : gF f66 [] := gF_nil
  have hP66 : va_P D cls [(a0, .inr (14, rg 107 g0)), (a6, .inl (ca 2, 20, .inl f66))] H66 := hP66
  have hD66 : va_D A [(a0, .inr (14, rg 107 g0)), (a6, .inl (ca 2, 20, .inl f66))] := hD66
  clear hP60 hD60 hS60 hF60
  refine lv_iinc (v := 11) (lv' := [(6, .int 11), (7, .int v2), (0, .ref a0), (1, .int v0), (2, .int v1), (3, .int v2), (4, .int v3), (5, .int v4)]) hx hb d_15_12_79 hl (k := 1) rfl (by decide) (by decide) rfl (fun ls hl => ?_)
  refine lv_goto (tgt := 3) hx hb d_15_12_82 (by decide) ?_
  refine lv_iload hx hb d_15_12_3 (lv_at hl 0 rfl) ?_
  refine lv_bipush (v := 20) hx hb d_15_12_5 (by decide) ?_
  refine lv_icmp_ge (tgt := 85) hx hb d_15_12_7 (by decide) (fun c => absurd c (by decide)) (fun _ => ?_)
  refine lv_iload hx hb d_15_12_10 (lv_at hl 0 rfl) ?_
  refine lv_iconst (v := 4) hx hb d_15_12_12 (by decide) ?_
  refine lv_icmp_ge (tgt := 20) hx hb d_15_12_13 (by decide) (fun _ => ?_) (fun c => absurd (by decide) c)
  refine lv_iload hx hb d_15_12_20 (lv_at hl 0 rfl) ?_
  refine lv_bipush (v := 8) hx hb d_15_12_22 (by decide) ?_
  refine lv_icmp_ge (tgt := 31) hx hb d_15_12_24 (by decide) (fun _ => ?_) (fun c => absurd (by decide) c)
  refine lv_iload hx hb d_15_12_31 (lv_at hl 0 rfl) ?_
  refine lv_bipush (v := 12) hx hb d_15_12_33 (by decide) ?_
  refine lv_icmp_ge (tgt := 42) hx hb d_15_12_35 (by decide) (fun c => absurd c (by decide)) (fun _ => ?_)
  refine lv_iload_n hx hb d_15_12_38 rfl (lv_at hl 5 rfl) ?_
  refine lv_goto (tgt := 56) hx hb d_15_12_39 (by decide) ?_
  refine lv_istore (lv' := [(7, .int v2), (6, .int 11), (0, .ref a0), (1, .int v0), (2, .int v1), (3, .int v2), (4, .int v3), (5, .int v4)]) hx hb d_15_12_56 hl (by decide) rfl (fun ls hl => ?_)
  refine lv_aload_n hx hb d_15_12_58 rfl (lv_at hl 2 rfl) ?_
  refine gget hx hb hts inW_14 hown hK hP66 0 rfl rfl hp0 0 rfl (by decide) k_11_2 d_15_12_59 ?_
  refine lv_iload hx hb d_15_12_62 (lv_at hl 1 rfl) ?_
  refine lv_iload hx hb d_15_12_64 (lv_at hl 0 rfl) ?_
  refine lv_bipush (v := 24) hx hb d_15_12_66 (by decide) ?_
  refine lv_bipush (v := 8) hx hb d_15_12_68 (by decide) ?_
  refine lv_iload hx hb d_15_12_70 (lv_at hl 1 rfl) ?_
  refine lv_iconst (v := 4) hx hb d_15_12_72 (by decide) ?_
  refine lv_irem hx hb d_15_12_73 (by decide) ?_
  refine lv_topi (fun y67 ey67 => ?_)
  obtain rfl : y67 = 3 := ey67.trans (by decide)
  refine lv_imul hx hb d_15_12_74 ?_
  refine lv_topi (fun y68 ey68 => ?_)
  obtain rfl : y68 = 24 := ey68.trans (by decide)
  refine lv_isub hx hb d_15_12_75 ?_
  refine lv_topi (fun y69 ey69 => ?_)
  obtain rfl : y69 = 0 := ey69.trans (by decide)
  refine lv_ishr hx hb d_15_12_76 ?_
  refine lv_topi (fun y70 ey70 => ?_)
  refine lv_i2b hx hb d_15_12_77 rfl ?_
  refine lv_topi (fun y71 ey71 => ?_)
  refine gbastX hx hb hK hP66 hD66 hS66 1 2 rfl rfl (vinC (by decide)) d_15_12_78 (fun f72 H72 locs72 hP72 hD72 hS72 => ?_)
  have hF72 : gF f72 [] := gF_nil
  have hP72 : va_P D cls [(a0, .inr (14, rg 107 g0)), (a6, .inl (ca 2, 20, .inl f72))] H72 := hP72
  have hD72 : va_D A [(a0, .inr (14, rg 107 g0)), (a6, .inl (ca 2, 20, .inl f72))] := hD72
  clear hP66 hD66 hS66 hF66
  refine lv_iinc (v := 12) (lv' := [(6, .int 12), (7, .int v2), (0, .ref a0), (1, .int v0), (2, .int v1), (3, .int v2), (4, .int v3), (5, .int v4)]) hx hb d_15_12_79 hl (k := 1) rfl (by decide) (by decide) rfl (fun ls hl => ?_)
  refine lv_goto (tgt := 3) hx hb d_15_12_82 (by decide) ?_
  refine lv_iload hx hb d_15_12_3 (lv_at hl 0 rfl) ?_
  refine lv_bipush (v := 20) hx hb d_15_12_5 (by decide) ?_
  refine lv_icmp_ge (tgt := 85) hx hb d_15_12_7 (by decide) (fun c => absurd c (by decide)) (fun _ => ?_)
  refine lv_iload hx hb d_15_12_10 (lv_at hl 0 rfl) ?_
  refine lv_iconst (v := 4) hx hb d_15_12_12 (by decide) ?_
  refine lv_icmp_ge (tgt := 20) hx hb d_15_12_13 (by decide) (fun _ => ?_) (fun c => absurd (by decide) c)
  refine lv_iload hx hb d_15_12_20 (lv_at hl 0 rfl) ?_
  refine lv_bipush (v := 8) hx hb d_15_12_22 (by decide) ?_
  refine lv_icmp_ge (tgt := 31) hx hb d_15_12_24 (by decide) (fun _ => ?_) (fun c => absurd (by decide) c)
  refine lv_iload hx hb d_15_12_31 (lv_at hl 0 rfl) ?_
  refine lv_bipush (v := 12) hx hb d_15_12_33 (by decide) ?_
  refine lv_icmp_ge (tgt := 42) hx hb d_15_12_35 (by decide) (fun _ => ?_) (fun c => absurd (by decide) c)
  refine lv_iload hx hb d_15_12_42 (lv_at hl 0 rfl) ?_
  refine lv_bipush (v := 16) hx hb d_15_12_44 (by decide) ?_
  refine lv_icmp_ge (tgt := 54) hx hb d_15_12_46 (by decide) (fun c => absurd c (by decide)) (fun _ => ?_)
  refine lv_iload hx hb d_15_12_49 (lv_at hl 6 rfl) ?_
  refine lv_goto (tgt := 56) hx hb d_15_12_51 (by decide) ?_
  refine lv_istore (lv' := [(7, .int v3), (6, .int 12), (0, .ref a0), (1, .int v0), (2, .int v1), (3, .int v2), (4, .int v3), (5, .int v4)]) hx hb d_15_12_56 hl (by decide) rfl (fun ls hl => ?_)
  refine lv_aload_n hx hb d_15_12_58 rfl (lv_at hl 2 rfl) ?_
  refine gget hx hb hts inW_14 hown hK hP72 0 rfl rfl hp0 0 rfl (by decide) k_11_2 d_15_12_59 ?_
  refine lv_iload hx hb d_15_12_62 (lv_at hl 1 rfl) ?_
  refine lv_iload hx hb d_15_12_64 (lv_at hl 0 rfl) ?_
  refine lv_bipush (v := 24) hx hb d_15_12_66 (by decide) ?_
  refine lv_bipush (v := 8) hx hb d_15_12_68 (by decide) ?_
  refine lv_iload hx hb d_15_12_70 (lv_at hl 1 rfl) ?_
  refine lv_iconst (v := 4) hx hb d_15_12_72 (by decide) ?_
  refine lv_irem hx hb d_15_12_73 (by decide) ?_
  refine lv_topi (fun y73 ey73 => ?_)
  obtain rfl : y73 = 0 := ey73.trans (by decide)
  refine lv_imul hx hb d_15_12_74 ?_
  refine lv_topi (fun y74 ey74 => ?_)
  obtain rfl : y74 = 0 := ey74.trans (by decide)
  refine lv_isub hx hb d_15_12_75 ?_
  refine lv_topi (fun y75 ey75 => ?_)
  obtain rfl : y75 = 24 := ey75.trans (by decide)
  refine lv_ishr hx hb d_15_12_76 ?_
  refine lv_topi (fun y76 ey76 => ?_)
  refine lv_i2b hx hb d_15_12_77 rfl ?_
  refine lv_topi (fun y77 ey77 => ?_)
  refine gbastX hx hb hK hP72 hD72 hS72 1 2 rfl rfl (vinC (by decide)) d_15_12_78 (fun f78 H78 locs78 hP78 hD78 hS78 => ?_)
  have hF78 : gF f78 [] := gF_nil
  have hP78 : va_P D cls [(a0, .inr (14, rg 107 g0)), (a6, .inl (ca 2, 20, .inl f78))] H78 := hP78
  have hD78 : va_D A [(a0, .inr (14, rg 107 g0)), (a6, .inl (ca 2, 20, .inl f78))] := hD78
  clear hP72 hD72 hS72 hF72
  refine lv_iinc (v := 13) (lv' := [(6, .int 13), (7, .int v3), (0, .ref a0), (1, .int v0), (2, .int v1), (3, .int v2), (4, .int v3), (5, .int v4)]) hx hb d_15_12_79 hl (k := 1) rfl (by decide) (by decide) rfl (fun ls hl => ?_)
  refine lv_goto (tgt := 3) hx hb d_15_12_82 (by decide) ?_
  refine lv_iload hx hb d_15_12_3 (lv_at hl 0 rfl) ?_
  refine lv_bipush (v := 20) hx hb d_15_12_5 (by decide) ?_
  refine lv_icmp_ge (tgt := 85) hx hb d_15_12_7 (by decide) (fun c => absurd c (by decide)) (fun _ => ?_)
  refine lv_iload hx hb d_15_12_10 (lv_at hl 0 rfl) ?_
  refine lv_iconst (v := 4) hx hb d_15_12_12 (by decide) ?_
  refine lv_icmp_ge (tgt := 20) hx hb d_15_12_13 (by decide) (fun _ => ?_) (fun c => absurd (by decide) c)
  refine lv_iload hx hb d_15_12_20 (lv_at hl 0 rfl) ?_
  refine lv_bipush (v := 8) hx hb d_15_12_22 (by decide) ?_
  refine lv_icmp_ge (tgt := 31) hx hb d_15_12_24 (by decide) (fun _ => ?_) (fun c => absurd (by decide) c)
  refine lv_iload hx hb d_15_12_31 (lv_at hl 0 rfl) ?_
  refine lv_bipush (v := 12) hx hb d_15_12_33 (by decide) ?_
  refine lv_icmp_ge (tgt := 42) hx hb d_15_12_35 (by decide) (fun _ => ?_) (fun c => absurd (by decide) c)
  refine lv_iload hx hb d_15_12_42 (lv_at hl 0 rfl) ?_
  refine lv_bipush (v := 16) hx hb d_15_12_44 (by decide) ?_
  refine lv_icmp_ge (tgt := 54) hx hb d_15_12_46 (by decide) (fun c => absurd c (by decide)) (fun _ => ?_)
  refine lv_iload hx hb d_15_12_49 (lv_at hl 6 rfl) ?_
  refine lv_goto (tgt := 56) hx hb d_15_12_51 (by decide) ?_
  refine lv_istore (lv' := [(7, .int v3), (6, .int 13), (0, .ref a0), (1, .int v0), (2, .int v1), (3, .int v2), (4, .int v3), (5, .int v4)]) hx hb d_15_12_56 hl (by decide) rfl (fun ls hl => ?_)
  refine lv_aload_n hx hb d_15_12_58 rfl (lv_at hl 2 rfl) ?_
  refine gget hx hb hts inW_14 hown hK hP78 0 rfl rfl hp0 0 rfl (by decide) k_11_2 d_15_12_59 ?_
  refine lv_iload hx hb d_15_12_62 (lv_at hl 1 rfl) ?_
  refine lv_iload hx hb d_15_12_64 (lv_at hl 0 rfl) ?_
  refine lv_bipush (v := 24) hx hb d_15_12_66 (by decide) ?_
  refine lv_bipush (v := 8) hx hb d_15_12_68 (by decide) ?_
  refine lv_iload hx hb d_15_12_70 (lv_at hl 1 rfl) ?_
  refine lv_iconst (v := 4) hx hb d_15_12_72 (by decide) ?_
  refine lv_irem hx hb d_15_12_73 (by decide) ?_
  refine lv_topi (fun y79 ey79 => ?_)
  obtain rfl : y79 = 1 := ey79.trans (by decide)
  refine lv_imul hx hb d_15_12_74 ?_
  refine lv_topi (fun y80 ey80 => ?_)
  obtain rfl : y80 = 8 := ey80.trans (by decide)
  refine lv_isub hx hb d_15_12_75 ?_
  refine lv_topi (fun y81 ey81 => ?_)
  obtain rfl : y81 = 16 := ey81.trans (by decide)
  refine lv_ishr hx hb d_15_12_76 ?_
  refine lv_topi (fun y82 ey82 => ?_)
  refine lv_i2b hx hb d_15_12_77 rfl ?_
  refine lv_topi (fun y83 ey83 => ?_)
  refine gbastX hx hb hK hP78 hD78 hS78 1 2 rfl rfl (vinC (by decide)) d_15_12_78 (fun f84 H84 locs84 hP84 hD84 hS84 => ?_)
  have hF84 : gF f84 [] := gF_nil
  have hP84 : va_P D cls [(a0, .inr (14, rg 107 g0)), (a6, .inl (ca 2, 20, .inl f84))] H84 := hP84
  have hD84 : va_D A [(a0, .inr (14, rg 107 g0)), (a6, .inl (ca 2, 20, .inl f84))] := hD84
  clear hP78 hD78 hS78 hF78
  refine lv_iinc (v := 14) (lv' := [(6, .int 14), (7, .int v3), (0, .ref a0), (1, .int v0), (2, .int v1), (3, .int v2), (4, .int v3), (5, .int v4)]) hx hb d_15_12_79 hl (k := 1) rfl (by decide) (by decide) rfl (fun ls hl => ?_)
  refine lv_goto (tgt := 3) hx hb d_15_12_82 (by decide) ?_
  refine lv_iload hx hb d_15_12_3 (lv_at hl 0 rfl) ?_
  refine lv_bipush (v := 20) hx hb d_15_12_5 (by decide) ?_
  refine lv_icmp_ge (tgt := 85) hx hb d_15_12_7 (by decide) (fun c => absurd c (by decide)) (fun _ => ?_)
  refine lv_iload hx hb d_15_12_10 (lv_at hl 0 rfl) ?_
  refine lv_iconst (v := 4) hx hb d_15_12_12 (by decide) ?_
  refine lv_icmp_ge (tgt := 20) hx hb d_15_12_13 (by decide) (fun _ => ?_) (fun c => absurd (by decide) c)
  refine lv_iload hx hb d_15_12_20 (lv_at hl 0 rfl) ?_
  refine lv_bipush (v := 8) hx hb d_15_12_22 (by decide) ?_
  refine lv_icmp_ge (tgt := 31) hx hb d_15_12_24 (by decide) (fun _ => ?_) (fun c => absurd (by decide) c)
  refine lv_iload hx hb d_15_12_31 (lv_at hl 0 rfl) ?_
  refine lv_bipush (v := 12) hx hb d_15_12_33 (by decide) ?_
  refine lv_icmp_ge (tgt := 42) hx hb d_15_12_35 (by decide) (fun _ => ?_) (fun c => absurd (by decide) c)
  refine lv_iload hx hb d_15_12_42 (lv_at hl 0 rfl) ?_
  refine lv_bipush (v := 16) hx hb d_15_12_44 (by decide) ?_
  refine lv_icmp_ge (tgt := 54) hx hb d_15_12_46 (by decide) (fun c => absurd c (by decide)) (fun _ => ?_)
  refine lv_iload hx hb d_15_12_49 (lv_at hl 6 rfl) ?_
  refine lv_goto (tgt := 56) hx hb d_15_12_51 (by decide) ?_
  refine lv_istore (lv' := [(7, .int v3), (6, .int 14), (0, .ref a0), (1, .int v0), (2, .int v1), (3, .int v2), (4, .int v3), (5, .int v4)]) hx hb d_15_12_56 hl (by decide) rfl (fun ls hl => ?_)
  refine lv_aload_n hx hb d_15_12_58 rfl (lv_at hl 2 rfl) ?_
  refine gget hx hb hts inW_14 hown hK hP84 0 rfl rfl hp0 0 rfl (by decide) k_11_2 d_15_12_59 ?_
  refine lv_iload hx hb d_15_12_62 (lv_at hl 1 rfl) ?_
  refine lv_iload hx hb d_15_12_64 (lv_at hl 0 rfl) ?_
  refine lv_bipush (v := 24) hx hb d_15_12_66 (by decide) ?_
  refine lv_bipush (v := 8) hx hb d_15_12_68 (by decide) ?_
  refine lv_iload hx hb d_15_12_70 (lv_at hl 1 rfl) ?_
  refine lv_iconst (v := 4) hx hb d_15_12_72 (by decide) ?_
  refine lv_irem hx hb d_15_12_73 (by decide) ?_
  refine lv_topi (fun y85 ey85 => ?_)
  obtain rfl : y85 = 2 := ey85.trans (by decide)
  refine lv_imul hx hb d_15_12_74 ?_
  refine lv_topi (fun y86 ey86 => ?_)
  obtain rfl : y86 = 16 := ey86.trans (by decide)
  refine lv_isub hx hb d_15_12_75 ?_
  refine lv_topi (fun y87 ey87 => ?_)
  obtain rfl : y87 = 8 := ey87.trans (by decide)
  refine lv_ishr hx hb d_15_12_76 ?_
  refine lv_topi (fun y88 ey88 => ?_)
  refine lv_i2b hx hb d_15_12_77 rfl ?_
  refine lv_topi (fun y89 ey89 => ?_)
  refine gbastX hx hb hK hP84 hD84 hS84 1 2 rfl rfl (vinC (by decide)) d_15_12_78 (fun f90 H90 locs90 hP90 hD90 hS90 => ?_)
  have hF90 : gF f90 [] := gF_nil
  have hP90 : va_P D cls [(a0, .inr (14, rg 107 g0)), (a6, .inl (ca 2, 20, .inl f90))] H90 := hP90
  have hD90 : va_D A [(a0, .inr (14, rg 107 g0)), (a6, .inl (ca 2, 20, .inl f90))] := hD90
  clear hP84 hD84 hS84 hF84
  refine lv_iinc (v := 15) (lv' := [(6, .int 15), (7, .int v3), (0, .ref a0), (1, .int v0), (2, .int v1), (3, .int v2), (4, .int v3), (5, .int v4)]) hx hb d_15_12_79 hl (k := 1) rfl (by decide) (by decide) rfl (fun ls hl => ?_)
  refine lv_goto (tgt := 3) hx hb d_15_12_82 (by decide) ?_
  refine lv_iload hx hb d_15_12_3 (lv_at hl 0 rfl) ?_
  refine lv_bipush (v := 20) hx hb d_15_12_5 (by decide) ?_
  refine lv_icmp_ge (tgt := 85) hx hb d_15_12_7 (by decide) (fun c => absurd c (by decide)) (fun _ => ?_)
  refine lv_iload hx hb d_15_12_10 (lv_at hl 0 rfl) ?_
  refine lv_iconst (v := 4) hx hb d_15_12_12 (by decide) ?_
  refine lv_icmp_ge (tgt := 20) hx hb d_15_12_13 (by decide) (fun _ => ?_) (fun c => absurd (by decide) c)
  refine lv_iload hx hb d_15_12_20 (lv_at hl 0 rfl) ?_
  refine lv_bipush (v := 8) hx hb d_15_12_22 (by decide) ?_
  refine lv_icmp_ge (tgt := 31) hx hb d_15_12_24 (by decide) (fun _ => ?_) (fun c => absurd (by decide) c)
  refine lv_iload hx hb d_15_12_31 (lv_at hl 0 rfl) ?_
  refine lv_bipush (v := 12) hx hb d_15_12_33 (by decide) ?_
  refine lv_icmp_ge (tgt := 42) hx hb d_15_12_35 (by decide) (fun _ => ?_) (fun c => absurd (by decide) c)
  refine lv_iload hx hb d_15_12_42 (lv_at hl 0 rfl) ?_
  refine lv_bipush (v := 16) hx hb d_15_12_44 (by decide) ?_
  refine lv_icmp_ge (tgt := 54) hx hb d_15_12_46 (by decide) (fun c => absurd c (by decide)) (fun _ => ?_)
  refine lv_iload hx hb d_15_12_49 (lv_at hl 6 rfl) ?_
  refine lv_goto (tgt := 56) hx hb d_15_12_51 (by decide) ?_
  refine lv_istore (lv' := [(7, .int v3), (6, .int 15), (0, .ref a0), (1, .int v0), (2, .int v1), (3, .int v2), (4, .int v3), (5, .int v4)]) hx hb d_15_12_56 hl (by decide) rfl (fun ls hl => ?_)
  refine lv_aload_n hx hb d_15_12_58 rfl (lv_at hl 2 rfl) ?_
  refine gget hx hb hts inW_14 hown hK hP90 0 rfl rfl hp0 0 rfl (by decide) k_11_2 d_15_12_59 ?_
  refine lv_iload hx hb d_15_12_62 (lv_at hl 1 rfl) ?_
  refine lv_iload hx hb d_15_12_64 (lv_at hl 0 rfl) ?_
  refine lv_bipush (v := 24) hx hb d_15_12_66 (by decide) ?_
  refine lv_bipush (v := 8) hx hb d_15_12_68 (by decide) ?_
  refine lv_iload hx hb d_15_12_70 (lv_at hl 1 rfl) ?_
  refine lv_iconst (v := 4) hx hb d_15_12_72 (by decide) ?_
  refine lv_irem hx hb d_15_12_73 (by decide) ?_
  refine lv_topi (fun y91 ey91 => ?_)
  obtain rfl : y91 = 3 := ey91.trans (by decide)
  refine lv_imul hx hb d_15_12_74 ?_
  refine lv_topi (fun y92 ey92 => ?_)
  obtain rfl : y92 = 24 := ey92.trans (by decide)
  refine lv_isub hx hb d_15_12_75 ?_
  refine lv_topi (fun y93 ey93 => ?_)
  obtain rfl : y93 = 0 := ey93.trans (by decide)
  refine lv_ishr hx hb d_15_12_76 ?_
  refine lv_topi (fun y94 ey94 => ?_)
  refine lv_i2b hx hb d_15_12_77 rfl ?_
  refine lv_topi (fun y95 ey95 => ?_)
  refine gbastX hx hb hK hP90 hD90 hS90 1 2 rfl rfl (vinC (by decide)) d_15_12_78 (fun f96 H96 locs96 hP96 hD96 hS96 => ?_)
  have hF96 : gF f96 [] := gF_nil
  have hP96 : va_P D cls [(a0, .inr (14, rg 107 g0)), (a6, .inl (ca 2, 20, .inl f96))] H96 := hP96
  have hD96 : va_D A [(a0, .inr (14, rg 107 g0)), (a6, .inl (ca 2, 20, .inl f96))] := hD96
  clear hP90 hD90 hS90 hF90
  refine lv_iinc (v := 16) (lv' := [(6, .int 16), (7, .int v3), (0, .ref a0), (1, .int v0), (2, .int v1), (3, .int v2), (4, .int v3), (5, .int v4)]) hx hb d_15_12_79 hl (k := 1) rfl (by decide) (by decide) rfl (fun ls hl => ?_)
  refine lv_goto (tgt := 3) hx hb d_15_12_82 (by decide) ?_
  refine lv_iload hx hb d_15_12_3 (lv_at hl 0 rfl) ?_
  refine lv_bipush (v := 20) hx hb d_15_12_5 (by decide) ?_
  refine lv_icmp_ge (tgt := 85) hx hb d_15_12_7 (by decide) (fun c => absurd c (by decide)) (fun _ => ?_)
  refine lv_iload hx hb d_15_12_10 (lv_at hl 0 rfl) ?_
  refine lv_iconst (v := 4) hx hb d_15_12_12 (by decide) ?_
  refine lv_icmp_ge (tgt := 20) hx hb d_15_12_13 (by decide) (fun _ => ?_) (fun c => absurd (by decide) c)
  refine lv_iload hx hb d_15_12_20 (lv_at hl 0 rfl) ?_
  refine lv_bipush (v := 8) hx hb d_15_12_22 (by decide) ?_
  refine lv_icmp_ge (tgt := 31) hx hb d_15_12_24 (by decide) (fun _ => ?_) (fun c => absurd (by decide) c)
  refine lv_iload hx hb d_15_12_31 (lv_at hl 0 rfl) ?_
  refine lv_bipush (v := 12) hx hb d_15_12_33 (by decide) ?_
  refine lv_icmp_ge (tgt := 42) hx hb d_15_12_35 (by decide) (fun _ => ?_) (fun c => absurd (by decide) c)
  refine lv_iload hx hb d_15_12_42 (lv_at hl 0 rfl) ?_
  refine lv_bipush (v := 16) hx hb d_15_12_44 (by decide) ?_
  refine lv_icmp_ge (tgt := 54) hx hb d_15_12_46 (by decide) (fun _ => ?_) (fun c => absurd (by decide) c)
  refine lv_iload hx hb d_15_12_54 (lv_at hl 7 rfl) ?_
  refine lv_istore (lv' := [(7, .int v4), (6, .int 16), (0, .ref a0), (1, .int v0), (2, .int v1), (3, .int v2), (4, .int v3), (5, .int v4)]) hx hb d_15_12_56 hl (by decide) rfl (fun ls hl => ?_)
  refine lv_aload_n hx hb d_15_12_58 rfl (lv_at hl 2 rfl) ?_
  refine gget hx hb hts inW_14 hown hK hP96 0 rfl rfl hp0 0 rfl (by decide) k_11_2 d_15_12_59 ?_
  refine lv_iload hx hb d_15_12_62 (lv_at hl 1 rfl) ?_
  refine lv_iload hx hb d_15_12_64 (lv_at hl 0 rfl) ?_
  refine lv_bipush (v := 24) hx hb d_15_12_66 (by decide) ?_
  refine lv_bipush (v := 8) hx hb d_15_12_68 (by decide) ?_
  refine lv_iload hx hb d_15_12_70 (lv_at hl 1 rfl) ?_
  refine lv_iconst (v := 4) hx hb d_15_12_72 (by decide) ?_
  refine lv_irem hx hb d_15_12_73 (by decide) ?_
  refine lv_topi (fun y97 ey97 => ?_)
  obtain rfl : y97 = 0 := ey97.trans (by decide)
  refine lv_imul hx hb d_15_12_74 ?_
  refine lv_topi (fun y98 ey98 => ?_)
  obtain rfl : y98 = 0 := ey98.trans (by decide)
  refine lv_isub hx hb d_15_12_75 ?_
  refine lv_topi (fun y99 ey99 => ?_)
  obtain rfl : y99 = 24 := ey99.trans (by decide)
  refine lv_ishr hx hb d_15_12_76 ?_
  refine lv_topi (fun y100 ey100 => ?_)
  refine lv_i2b hx hb d_15_12_77 rfl ?_
  refine lv_topi (fun y101 ey101 => ?_)
  refine gbastX hx hb hK hP96 hD96 hS96 1 2 rfl rfl (vinC (by decide)) d_15_12_78 (fun f102 H102 locs102 hP102 hD102 hS102 => ?_)
  have hF102 : gF f102 [] := gF_nil
  have hP102 : va_P D cls [(a0, .inr (14, rg 107 g0)), (a6, .inl (ca 2, 20, .inl f102))] H102 := hP102
  have hD102 : va_D A [(a0, .inr (14, rg 107 g0)), (a6, .inl (ca 2, 20, .inl f102))] := hD102
  clear hP96 hD96 hS96 hF96
  refine lv_iinc (v := 17) (lv' := [(6, .int 17), (7, .int v4), (0, .ref a0), (1, .int v0), (2, .int v1), (3, .int v2), (4, .int v3), (5, .int v4)]) hx hb d_15_12_79 hl (k := 1) rfl (by decide) (by decide) rfl (fun ls hl => ?_)
  refine lv_goto (tgt := 3) hx hb d_15_12_82 (by decide) ?_
  refine lv_iload hx hb d_15_12_3 (lv_at hl 0 rfl) ?_
  refine lv_bipush (v := 20) hx hb d_15_12_5 (by decide) ?_
  refine lv_icmp_ge (tgt := 85) hx hb d_15_12_7 (by decide) (fun c => absurd c (by decide)) (fun _ => ?_)
  refine lv_iload hx hb d_15_12_10 (lv_at hl 0 rfl) ?_
  refine lv_iconst (v := 4) hx hb d_15_12_12 (by decide) ?_
  refine lv_icmp_ge (tgt := 20) hx hb d_15_12_13 (by decide) (fun _ => ?_) (fun c => absurd (by decide) c)
  refine lv_iload hx hb d_15_12_20 (lv_at hl 0 rfl) ?_
  refine lv_bipush (v := 8) hx hb d_15_12_22 (by decide) ?_
  refine lv_icmp_ge (tgt := 31) hx hb d_15_12_24 (by decide) (fun _ => ?_) (fun c => absurd (by decide) c)
  refine lv_iload hx hb d_15_12_31 (lv_at hl 0 rfl) ?_
  refine lv_bipush (v := 12) hx hb d_15_12_33 (by decide) ?_
  refine lv_icmp_ge (tgt := 42) hx hb d_15_12_35 (by decide) (fun _ => ?_) (fun c => absurd (by decide) c)
  refine lv_iload hx hb d_15_12_42 (lv_at hl 0 rfl) ?_
  refine lv_bipush (v := 16) hx hb d_15_12_44 (by decide) ?_
  refine lv_icmp_ge (tgt := 54) hx hb d_15_12_46 (by decide) (fun _ => ?_) (fun c => absurd (by decide) c)
  refine lv_iload hx hb d_15_12_54 (lv_at hl 7 rfl) ?_
  refine lv_istore (lv' := [(7, .int v4), (6, .int 17), (0, .ref a0), (1, .int v0), (2, .int v1), (3, .int v2), (4, .int v3), (5, .int v4)]) hx hb d_15_12_56 hl (by decide) rfl (fun ls hl => ?_)
  refine lv_aload_n hx hb d_15_12_58 rfl (lv_at hl 2 rfl) ?_
  refine gget hx hb hts inW_14 hown hK hP102 0 rfl rfl hp0 0 rfl (by decide) k_11_2 d_15_12_59 ?_
  refine lv_iload hx hb d_15_12_62 (lv_at hl 1 rfl) ?_
  refine lv_iload hx hb d_15_12_64 (lv_at hl 0 rfl) ?_
  refine lv_bipush (v := 24) hx hb d_15_12_66 (by decide) ?_
  refine lv_bipush (v := 8) hx hb d_15_12_68 (by decide) ?_
  refine lv_iload hx hb d_15_12_70 (lv_at hl 1 rfl) ?_
  refine lv_iconst (v := 4) hx hb d_15_12_72 (by decide) ?_
  refine lv_irem hx hb d_15_12_73 (by decide) ?_
  refine lv_topi (fun y103 ey103 => ?_)
  obtain rfl : y103 = 1 := ey103.trans (by decide)
  refine lv_imul hx hb d_15_12_74 ?_
  refine lv_topi (fun y104 ey104 => ?_)
  obtain rfl : y104 = 8 := ey104.trans (by decide)
  refine lv_isub hx hb d_15_12_75 ?_
  refine lv_topi (fun y105 ey105 => ?_)
  obtain rfl : y105 = 16 := ey105.trans (by decide)
  refine lv_ishr hx hb d_15_12_76 ?_
  refine lv_topi (fun y106 ey106 => ?_)
  refine lv_i2b hx hb d_15_12_77 rfl ?_
  refine lv_topi (fun y107 ey107 => ?_)
  refine gbastX hx hb hK hP102 hD102 hS102 1 2 rfl rfl (vinC (by decide)) d_15_12_78 (fun f108 H108 locs108 hP108 hD108 hS108 => ?_)
  have hF108 : gF f108 [] := gF_nil
  have hP108 : va_P D cls [(a0, .inr (14, rg 107 g0)), (a6, .inl (ca 2, 20, .inl f108))] H108 := hP108
  have hD108 : va_D A [(a0, .inr (14, rg 107 g0)), (a6, .inl (ca 2, 20, .inl f108))] := hD108
  clear hP102 hD102 hS102 hF102
  refine lv_iinc (v := 18) (lv' := [(6, .int 18), (7, .int v4), (0, .ref a0), (1, .int v0), (2, .int v1), (3, .int v2), (4, .int v3), (5, .int v4)]) hx hb d_15_12_79 hl (k := 1) rfl (by decide) (by decide) rfl (fun ls hl => ?_)
  refine lv_goto (tgt := 3) hx hb d_15_12_82 (by decide) ?_
  refine lv_iload hx hb d_15_12_3 (lv_at hl 0 rfl) ?_
  refine lv_bipush (v := 20) hx hb d_15_12_5 (by decide) ?_
  refine lv_icmp_ge (tgt := 85) hx hb d_15_12_7 (by decide) (fun c => absurd c (by decide)) (fun _ => ?_)
  refine lv_iload hx hb d_15_12_10 (lv_at hl 0 rfl) ?_
  refine lv_iconst (v := 4) hx hb d_15_12_12 (by decide) ?_
  refine lv_icmp_ge (tgt := 20) hx hb d_15_12_13 (by decide) (fun _ => ?_) (fun c => absurd (by decide) c)
  refine lv_iload hx hb d_15_12_20 (lv_at hl 0 rfl) ?_
  refine lv_bipush (v := 8) hx hb d_15_12_22 (by decide) ?_
  refine lv_icmp_ge (tgt := 31) hx hb d_15_12_24 (by decide) (fun _ => ?_) (fun c => absurd (by decide) c)
  refine lv_iload hx hb d_15_12_31 (lv_at hl 0 rfl) ?_
  refine lv_bipush (v := 12) hx hb d_15_12_33 (by decide) ?_
  refine lv_icmp_ge (tgt := 42) hx hb d_15_12_35 (by decide) (fun _ => ?_) (fun c => absurd (by decide) c)
  refine lv_iload hx hb d_15_12_42 (lv_at hl 0 rfl) ?_
  refine lv_bipush (v := 16) hx hb d_15_12_44 (by decide) ?_
  refine lv_icmp_ge (tgt := 54) hx hb d_15_12_46 (by decide) (fun _ => ?_) (fun c => absurd (by decide) c)
  refine lv_iload hx hb d_15_12_54 (lv_at hl 7 rfl) ?_
  refine lv_istore (lv' := [(7, .int v4), (6, .int 18), (0, .ref a0), (1, .int v0), (2, .int v1), (3, .int v2), (4, .int v3), (5, .int v4)]) hx hb d_15_12_56 hl (by decide) rfl (fun ls hl => ?_)
  refine lv_aload_n hx hb d_15_12_58 rfl (lv_at hl 2 rfl) ?_
  refine gget hx hb hts inW_14 hown hK hP108 0 rfl rfl hp0 0 rfl (by decide) k_11_2 d_15_12_59 ?_
  refine lv_iload hx hb d_15_12_62 (lv_at hl 1 rfl) ?_
  refine lv_iload hx hb d_15_12_64 (lv_at hl 0 rfl) ?_
  refine lv_bipush (v := 24) hx hb d_15_12_66 (by decide) ?_
  refine lv_bipush (v := 8) hx hb d_15_12_68 (by decide) ?_
  refine lv_iload hx hb d_15_12_70 (lv_at hl 1 rfl) ?_
  refine lv_iconst (v := 4) hx hb d_15_12_72 (by decide) ?_
  refine lv_irem hx hb d_15_12_73 (by decide) ?_
  refine lv_topi (fun y109 ey109 => ?_)
  obtain rfl : y109 = 2 := ey109.trans (by decide)
  refine lv_imul hx hb d_15_12_74 ?_
  refine lv_topi (fun y110 ey110 => ?_)
  obtain rfl : y110 = 16 := ey110.trans (by decide)
  refine lv_isub hx hb d_15_12_75 ?_
  refine lv_topi (fun y111 ey111 => ?_)
  obtain rfl : y111 = 8 := ey111.trans (by decide)
  refine lv_ishr hx hb d_15_12_76 ?_
  refine lv_topi (fun y112 ey112 => ?_)
  refine lv_i2b hx hb d_15_12_77 rfl ?_
  refine lv_topi (fun y113 ey113 => ?_)
  refine gbastX hx hb hK hP108 hD108 hS108 1 2 rfl rfl (vinC (by decide)) d_15_12_78 (fun f114 H114 locs114 hP114 hD114 hS114 => ?_)
  have hF114 : gF f114 [] := gF_nil
  have hP114 : va_P D cls [(a0, .inr (14, rg 107 g0)), (a6, .inl (ca 2, 20, .inl f114))] H114 := hP114
  have hD114 : va_D A [(a0, .inr (14, rg 107 g0)), (a6, .inl (ca 2, 20, .inl f114))] := hD114
  clear hP108 hD108 hS108 hF108
  refine lv_iinc (v := 19) (lv' := [(6, .int 19), (7, .int v4), (0, .ref a0), (1, .int v0), (2, .int v1), (3, .int v2), (4, .int v3), (5, .int v4)]) hx hb d_15_12_79 hl (k := 1) rfl (by decide) (by decide) rfl (fun ls hl => ?_)
  refine lv_goto (tgt := 3) hx hb d_15_12_82 (by decide) ?_
  refine lv_iload hx hb d_15_12_3 (lv_at hl 0 rfl) ?_
  refine lv_bipush (v := 20) hx hb d_15_12_5 (by decide) ?_
  refine lv_icmp_ge (tgt := 85) hx hb d_15_12_7 (by decide) (fun c => absurd c (by decide)) (fun _ => ?_)
  refine lv_iload hx hb d_15_12_10 (lv_at hl 0 rfl) ?_
  refine lv_iconst (v := 4) hx hb d_15_12_12 (by decide) ?_
  refine lv_icmp_ge (tgt := 20) hx hb d_15_12_13 (by decide) (fun _ => ?_) (fun c => absurd (by decide) c)
  refine lv_iload hx hb d_15_12_20 (lv_at hl 0 rfl) ?_
  refine lv_bipush (v := 8) hx hb d_15_12_22 (by decide) ?_
  refine lv_icmp_ge (tgt := 31) hx hb d_15_12_24 (by decide) (fun _ => ?_) (fun c => absurd (by decide) c)
  refine lv_iload hx hb d_15_12_31 (lv_at hl 0 rfl) ?_
  refine lv_bipush (v := 12) hx hb d_15_12_33 (by decide) ?_
  refine lv_icmp_ge (tgt := 42) hx hb d_15_12_35 (by decide) (fun _ => ?_) (fun c => absurd (by decide) c)
  refine lv_iload hx hb d_15_12_42 (lv_at hl 0 rfl) ?_
  refine lv_bipush (v := 16) hx hb d_15_12_44 (by decide) ?_
  refine lv_icmp_ge (tgt := 54) hx hb d_15_12_46 (by decide) (fun _ => ?_) (fun c => absurd (by decide) c)
  refine lv_iload hx hb d_15_12_54 (lv_at hl 7 rfl) ?_
  refine lv_istore (lv' := [(7, .int v4), (6, .int 19), (0, .ref a0), (1, .int v0), (2, .int v1), (3, .int v2), (4, .int v3), (5, .int v4)]) hx hb d_15_12_56 hl (by decide) rfl (fun ls hl => ?_)
  refine lv_aload_n hx hb d_15_12_58 rfl (lv_at hl 2 rfl) ?_
  refine gget hx hb hts inW_14 hown hK hP114 0 rfl rfl hp0 0 rfl (by decide) k_11_2 d_15_12_59 ?_
  refine lv_iload hx hb d_15_12_62 (lv_at hl 1 rfl) ?_
  refine lv_iload hx hb d_15_12_64 (lv_at hl 0 rfl) ?_
  refine lv_bipush (v := 24) hx hb d_15_12_66 (by decide) ?_
  refine lv_bipush (v := 8) hx hb d_15_12_68 (by decide) ?_
  refine lv_iload hx hb d_15_12_70 (lv_at hl 1 rfl) ?_
  refine lv_iconst (v := 4) hx hb d_15_12_72 (by decide) ?_
  refine lv_irem hx hb d_15_12_73 (by decide) ?_
  refine lv_topi (fun y115 ey115 => ?_)
  obtain rfl : y115 = 3 := ey115.trans (by decide)
  refine lv_imul hx hb d_15_12_74 ?_
  refine lv_topi (fun y116 ey116 => ?_)
  obtain rfl : y116 = 24 := ey116.trans (by decide)
  refine lv_isub hx hb d_15_12_75 ?_
  refine lv_topi (fun y117 ey117 => ?_)
  obtain rfl : y117 = 0 := ey117.trans (by decide)
  refine lv_ishr hx hb d_15_12_76 ?_
  refine lv_topi (fun y118 ey118 => ?_)
  refine lv_i2b hx hb d_15_12_77 rfl ?_
  refine lv_topi (fun y119 ey119 => ?_)
  refine gbastX hx hb hK hP114 hD114 hS114 1 2 rfl rfl (vinC (by decide)) d_15_12_78 (fun f120 H120 locs120 hP120 hD120 hS120 => ?_)
  have hF120 : gF f120 [] := gF_nil
  have hP120 : va_P D cls [(a0, .inr (14, rg 107 g0)), (a6, .inl (ca 2, 20, .inl f120))] H120 := hP120
  have hD120 : va_D A [(a0, .inr (14, rg 107 g0)), (a6, .inl (ca 2, 20, .inl f120))] := hD120
  clear hP114 hD114 hS114 hF114
  refine lv_iinc (v := 20) (lv' := [(6, .int 20), (7, .int v4), (0, .ref a0), (1, .int v0), (2, .int v1), (3, .int v2), (4, .int v3), (5, .int v4)]) hx hb d_15_12_79 hl (k := 1) rfl (by decide) (by decide) rfl (fun ls hl => ?_)
  refine lv_goto (tgt := 3) hx hb d_15_12_82 (by decide) ?_
  refine lv_iload hx hb d_15_12_3 (lv_at hl 0 rfl) ?_
  refine lv_bipush (v := 20) hx hb d_15_12_5 (by decide) ?_
  refine lv_icmp_ge (tgt := 85) hx hb d_15_12_7 (by decide) (fun _ => ?_) (fun c => absurd (by decide) c)
  have hP9 := hP120.sub (ws' := [(a0, .inr (14, rg 107 g0)), (a6, .inl (ca 2, 20, .inl f120))]) [0, 1] rfl
  have hD9 := hD120.sub (ws' := [(a0, .inr (14, rg 107 g0)), (a6, .inl (ca 2, 20, .inl f120))]) [0, 1] (by decide) rfl
  refine W.widen (k := 0) (n := 0) (Nat.le_of_ble_eq_true rfl) (Nat.le_of_ble_eq_true rfl) ?_
  exact W.vret hx hb hr (fun t ht hW => ⟨⟨(f120), rfl, hF120.sub [] rfl, by rw [ht]; exact hP9, va_K.moved hW.alike hK, hD9⟩, hS120.F ht⟩) hS120.2.2 d_15_12_85
