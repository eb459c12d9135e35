theorem k_2_165 : (Jvm.Cond.code ({ cls := "StaveHouse", name := "waitWord", desc := "(II)V" } : Jvm.MethodName) prog_1_method_3_code (4 : Nat) (Option.none : Option Jvm.ClassFile.FieldType)) ∈ wAll := wA_2 (j := 165) rfl rfl
theorem k_2_162 : (Jvm.Cond.methodLink "StaveHouse" (52 : Nat) ({ cls := "StaveHouse", name := "waitWord", desc := "(II)V" } : Jvm.MethodName)) ∈ wAll := wA_2 (j := 162) rfl rfl
theorem k_2_164 : (Jvm.Cond.instanceMethod ({ cls := "StaveHouse", name := "waitWord", desc := "(II)V" } : Jvm.MethodName)) ∈ wAll := wA_2 (j := 164) rfl rfl
theorem ks_0 : (Jvm.Cond.selects "StaveHouse" ({ cls := "StaveHouse", name := "waitWord", desc := "(II)V" } : Jvm.MethodName) ({ cls := "StaveHouse", name := "waitWord", desc := "(II)V" } : Jvm.MethodName)) ∈ wAll := wA_s (j := 0) rfl rfl
theorem k_2_173 : (Jvm.Cond.code ({ cls := "StaveHouse$ByteRow", name := "put", desc := "(I)V" } : Jvm.MethodName) prog_2_method_4_code (2 : Nat) (Option.none : Option Jvm.ClassFile.FieldType)) ∈ wAll := wA_2 (j := 173) rfl rfl
theorem k_2_170 : (Jvm.Cond.methodLink "StaveHouse" (60 : Nat) ({ cls := "StaveHouse$ByteRow", name := "put", desc := "(I)V" } : Jvm.MethodName)) ∈ wAll := wA_2 (j := 170) rfl rfl
theorem k_2_171 : (Jvm.Cond.instanceMethod ({ cls := "StaveHouse$ByteRow", name := "put", desc := "(I)V" } : Jvm.MethodName)) ∈ wAll := wA_2 (j := 171) rfl rfl
theorem k_2_172 : (Jvm.Cond.selects "StaveHouse$ByteRow" ({ cls := "StaveHouse$ByteRow", name := "put", desc := "(I)V" } : Jvm.MethodName) ({ cls := "StaveHouse$ByteRow", name := "put", desc := "(I)V" } : Jvm.MethodName)) ∈ wAll := wA_2 (j := 172) rfl rfl
theorem d_1_2_0 : decode prog_1_method_2_code 0 = .ok (.aload_n 0, 1) := by decide +kernel
theorem d_1_2_1 : decode prog_1_method_2_code 1 = .ok (.iconst 0, 1) := by decide +kernel
theorem d_1_2_2 : decode prog_1_method_2_code 2 = .ok (.iload_n 1, 1) := by decide +kernel
theorem d_1_2_3 : decode prog_1_method_2_code 3 = .ok (.invokevirtual 52, 3) := by decide +kernel
theorem d_1_3_0 : decode prog_1_method_3_code 0 = .ok (.iconst 0, 1) := by decide +kernel
theorem d_1_3_1 : decode prog_1_method_3_code 1 = .ok (.istore_n 3, 1) := by decide +kernel
theorem d_1_3_2 : decode prog_1_method_3_code 2 = .ok (.iload_n 3, 1) := by decide +kernel
theorem d_1_3_3 : decode prog_1_method_3_code 3 = .ok (.iconst 4, 1) := by decide +kernel
theorem d_1_3_4 : decode prog_1_method_3_code 4 = .ok (.if_icmp .ge 38, 3) := by decide +kernel
theorem d_1_3_7 : decode prog_1_method_3_code 7 = .ok (.iload_n 1, 1) := by decide +kernel
theorem d_1_3_8 : decode prog_1_method_3_code 8 = .ok (.iload_n 3, 1) := by decide +kernel
theorem d_1_3_9 : decode prog_1_method_3_code 9 = .ok (.iadd, 1) := by decide +kernel
theorem d_1_3_10 : decode prog_1_method_3_code 10 = .ok (.bipush 20, 2) := by decide +kernel
theorem d_1_3_12 : decode prog_1_method_3_code 12 = .ok (.if_icmp .ge 30, 3) := by decide +kernel
theorem d_1_3_15 : decode prog_1_method_3_code 15 = .ok (.aload_n 0, 1) := by decide +kernel
theorem d_1_3_16 : decode prog_1_method_3_code 16 = .ok (.getfield 18, 3) := by decide +kernel
theorem d_1_3_19 : decode prog_1_method_3_code 19 = .ok (.iload_n 1, 1) := by decide +kernel
theorem d_1_3_20 : decode prog_1_method_3_code 20 = .ok (.iload_n 3, 1) := by decide +kernel
theorem d_1_3_21 : decode prog_1_method_3_code 21 = .ok (.iadd, 1) := by decide +kernel
theorem d_1_3_22 : decode prog_1_method_3_code 22 = .ok (.iload_n 2, 1) := by decide +kernel
theorem d_1_3_23 : decode prog_1_method_3_code 23 = .ok (.bipush 24, 2) := by decide +kernel
theorem d_1_3_25 : decode prog_1_method_3_code 25 = .ok (.bipush 8, 2) := by decide +kernel
theorem d_1_3_27 : decode prog_1_method_3_code 27 = .ok (.iload_n 3, 1) := by decide +kernel
theorem d_1_3_28 : decode prog_1_method_3_code 28 = .ok (.imul, 1) := by decide +kernel
theorem d_1_3_29 : decode prog_1_method_3_code 29 = .ok (.isub, 1) := by decide +kernel
theorem d_1_3_30 : decode prog_1_method_3_code 30 = .ok (.iushr, 1) := by decide +kernel
theorem d_1_3_31 : decode prog_1_method_3_code 31 = .ok (.sipush 255, 3) := by decide +kernel
theorem d_1_3_34 : decode prog_1_method_3_code 34 = .ok (.iand, 1) := by decide +kernel
theorem d_1_3_35 : decode prog_1_method_3_code 35 = .ok (.iastore, 1) := by decide +kernel
theorem d_1_3_36 : decode prog_1_method_3_code 36 = .ok (.iinc 3 1, 3) := by decide +kernel
theorem d_1_3_39 : decode prog_1_method_3_code 39 = .ok (.goto (-37), 3) := by decide +kernel
theorem d_1_3_42 : decode prog_1_method_3_code 42 = .ok (.return_, 1) := by decide +kernel
theorem d_1_2_6 : decode prog_1_method_2_code 6 = .ok (.aload_n 0, 1) := by decide +kernel
theorem d_1_2_7 : decode prog_1_method_2_code 7 = .ok (.iconst 4, 1) := by decide +kernel
theorem d_1_2_8 : decode prog_1_method_2_code 8 = .ok (.iload_n 2, 1) := by decide +kernel
theorem d_1_2_9 : decode prog_1_method_2_code 9 = .ok (.invokevirtual 52, 3) := by decide +kernel
theorem d_1_2_12 : decode prog_1_method_2_code 12 = .ok (.aload_n 0, 1) := by decide +kernel
theorem d_1_2_13 : decode prog_1_method_2_code 13 = .ok (.bipush 8, 2) := by decide +kernel
theorem d_1_2_15 : decode prog_1_method_2_code 15 = .ok (.iload_n 3, 1) := by decide +kernel
theorem d_1_2_16 : decode prog_1_method_2_code 16 = .ok (.invokevirtual 52, 3) := by decide +kernel
theorem d_1_2_19 : decode prog_1_method_2_code 19 = .ok (.aload_n 0, 1) := by decide +kernel
theorem d_1_2_20 : decode prog_1_method_2_code 20 = .ok (.bipush 12, 2) := by decide +kernel
theorem d_1_2_22 : decode prog_1_method_2_code 22 = .ok (.iload 4, 2) := by decide +kernel
theorem d_1_2_24 : decode prog_1_method_2_code 24 = .ok (.invokevirtual 52, 3) := by decide +kernel
theorem d_1_2_27 : decode prog_1_method_2_code 27 = .ok (.aload_n 0, 1) := by decide +kernel
theorem d_1_2_28 : decode prog_1_method_2_code 28 = .ok (.bipush 16, 2) := by decide +kernel
theorem d_1_2_30 : decode prog_1_method_2_code 30 = .ok (.iload 5, 2) := by decide +kernel
theorem d_1_2_32 : decode prog_1_method_2_code 32 = .ok (.invokevirtual 52, 3) := by decide +kernel
theorem d_1_2_35 : decode prog_1_method_2_code 35 = .ok (.return_, 1) := by decide +kernel
theorem d_1_4_0 : decode prog_1_method_4_code 0 = .ok (.iload_n 1, 1) := by decide +kernel
theorem d_1_4_1 : decode prog_1_method_4_code 1 = .ok (.ifCond .lt 24, 3) := by decide +kernel
theorem d_1_4_25 : decode prog_1_method_4_code 25 = .ok (.iconst (-1), 1) := by decide +kernel
theorem d_1_4_26 : decode prog_1_method_4_code 26 = .ok (.ireturn, 1) := by decide +kernel
theorem d_1_4_4 : decode prog_1_method_4_code 4 = .ok (.iload_n 1, 1) := by decide +kernel
theorem d_1_4_5 : decode prog_1_method_4_code 5 = .ok (.bipush 20, 2) := by decide +kernel
theorem d_1_4_7 : decode prog_1_method_4_code 7 = .ok (.if_icmp .gt 18, 3) := by decide +kernel
theorem d_1_4_10 : decode prog_1_method_4_code 10 = .ok (.aload_n 0, 1) := by decide +kernel
theorem d_1_4_11 : decode prog_1_method_4_code 11 = .ok (.getfield 14, 3) := by decide +kernel
theorem d_1_4_14 : decode prog_1_method_4_code 14 = .ok (.getfield 56, 3) := by decide +kernel
theorem d_1_4_17 : decode prog_1_method_4_code 17 = .ok (.iload_n 1, 1) := by decide +kernel
theorem d_1_4_18 : decode prog_1_method_4_code 18 = .ok (.iadd, 1) := by decide +kernel
theorem d_1_4_19 : decode prog_1_method_4_code 19 = .ok (.sipush 3000, 3) := by decide +kernel
theorem d_1_4_22 : decode prog_1_method_4_code 22 = .ok (.if_icmp .le 5, 3) := by decide +kernel
theorem d_1_4_27 : decode prog_1_method_4_code 27 = .ok (.iconst 0, 1) := by decide +kernel
theorem d_1_4_28 : decode prog_1_method_4_code 28 = .ok (.istore_n 2, 1) := by decide +kernel
theorem d_1_4_29 : decode prog_1_method_4_code 29 = .ok (.iload_n 2, 1) := by decide +kernel
theorem d_1_4_30 : decode prog_1_method_4_code 30 = .ok (.iload_n 1, 1) := by decide +kernel
theorem d_1_4_31 : decode prog_1_method_4_code 31 = .ok (.if_icmp .ge 22, 3) := by decide +kernel
theorem d_1_4_53 : decode prog_1_method_4_code 53 = .ok (.aload_n 0, 1) := by decide +kernel
theorem d_1_4_54 : decode prog_1_method_4_code 54 = .ok (.getfield 14, 3) := by decide +kernel
theorem d_1_4_57 : decode prog_1_method_4_code 57 = .ok (.getfield 56, 3) := by decide +kernel
theorem d_1_4_60 : decode prog_1_method_4_code 60 = .ok (.ireturn, 1) := by decide +kernel
theorem d_1_4_34 : decode prog_1_method_4_code 34 = .ok (.aload_n 0, 1) := by decide +kernel
theorem d_1_4_35 : decode prog_1_method_4_code 35 = .ok (.getfield 14, 3) := by decide +kernel
theorem d_1_4_38 : decode prog_1_method_4_code 38 = .ok (.aload_n 0, 1) := by decide +kernel
theorem d_1_4_39 : decode prog_1_method_4_code 39 = .ok (.getfield 18, 3) := by decide +kernel
theorem d_1_4_42 : decode prog_1_method_4_code 42 = .ok (.iload_n 2, 1) := by decide +kernel
theorem d_1_4_43 : decode prog_1_method_4_code 43 = .ok (.iaload, 1) := by decide +kernel
theorem d_1_4_44 : decode prog_1_method_4_code 44 = .ok (.invokevirtual 60, 3) := by decide +kernel
theorem d_2_4_0 : decode prog_2_method_4_code 0 = .ok (.aload_n 0, 1) := by decide +kernel
theorem d_2_4_1 : decode prog_2_method_4_code 1 = .ok (.getfield 21, 3) := by decide +kernel
theorem d_2_4_4 : decode prog_2_method_4_code 4 = .ok (.aload_n 0, 1) := by decide +kernel
theorem d_2_4_5 : decode prog_2_method_4_code 5 = .ok (.getfield 15, 3) := by decide +kernel
theorem d_2_4_8 : decode prog_2_method_4_code 8 = .ok (.arraylength, 1) := by decide +kernel
theorem d_2_4_9 : decode prog_2_method_4_code 9 = .ok (.if_icmp .lt 9, 3) := by decide +kernel
theorem d_2_4_18 : decode prog_2_method_4_code 18 = .ok (.aload_n 0, 1) := by decide +kernel
theorem d_2_4_19 : decode prog_2_method_4_code 19 = .ok (.getfield 15, 3) := by decide +kernel
theorem d_2_4_22 : decode prog_2_method_4_code 22 = .ok (.aload_n 0, 1) := by decide +kernel
theorem d_2_4_23 : decode prog_2_method_4_code 23 = .ok (.getfield 21, 3) := by decide +kernel
theorem d_2_4_26 : decode prog_2_method_4_code 26 = .ok (.iload_n 1, 1) := by decide +kernel
theorem d_2_4_27 : decode prog_2_method_4_code 27 = .ok (.sipush 255, 3) := by decide +kernel
theorem d_2_4_30 : decode prog_2_method_4_code 30 = .ok (.iand, 1) := by decide +kernel
theorem d_2_4_31 : decode prog_2_method_4_code 31 = .ok (.iastore, 1) := by decide +kernel
theorem d_2_4_32 : decode prog_2_method_4_code 32 = .ok (.aload_n 0, 1) := by decide +kernel
theorem d_2_4_33 : decode prog_2_method_4_code 33 = .ok (.dup, 1) := by decide +kernel
theorem d_2_4_34 : decode prog_2_method_4_code 34 = .ok (.getfield 21, 3) := by decide +kernel
theorem d_2_4_37 : decode prog_2_method_4_code 37 = .ok (.iconst 1, 1) := by decide +kernel
theorem d_2_4_38 : decode prog_2_method_4_code 38 = .ok (.iadd, 1) := by decide +kernel
theorem d_2_4_39 : decode prog_2_method_4_code 39 = .ok (.putfield 21, 3) := by decide +kernel
theorem d_2_4_42 : decode prog_2_method_4_code 42 = .ok (.return_, 1) := by decide +kernel
theorem d_1_4_47 : decode prog_1_method_4_code 47 = .ok (.iinc 2 1, 3) := by decide +kernel
theorem d_1_4_50 : decode prog_1_method_4_code 50 = .ok (.goto (-21), 3) := by decide +kernel
abbrev Q_S_waitWord_0 (D : va_G) (ca : Nat → ClassId) (a0 : Nat) (a4 : Nat) (g0 : Nat → Value) (g4 : Nat → Int32) (v0 : Int32) (A : Nat → Prop) : Array Value → State → Outcome → State → Prop := va_Qv (S := (Nat → Int32)) (fun (u : (Nat → Int32)) => gF u []) (fun u => gB D ca A [(a0, .inr (12, rg 10 g0)), (a4, .inl (ca 0, 20, .inl u))]) A
set_option maxHeartbeats 8000000 in
set_option maxRecDepth 100000 in
theorem c_S_waitWord_0 (l : Launch) (D : va_G) (ca : Nat → ClassId) (ad av : Nat → Nat) (sz : Nat) (a0 : Nat) (a4 : Nat) (g0 : Nat → Value) (g4 : Nat → Int32) (v0 : Int32) (hp0 : gF g0 [(1, .ref a4)]) (hp4 : gF g4 []) : Met l ({ cls := "StaveHouse", name := "waitWord", desc := "(II)V" } : Jvm.MethodName) (Cond.code ({ cls := "StaveHouse", name := "waitWord", desc := "(II)V" } : Jvm.MethodName) prog_1_method_3_code 4 (Option.none : Option Jvm.ClassFile.FieldType) :: wAll) ({ frames := 0, cells := 0, slots := 0, locals := 0 } : Room) (va_Pc [.ref a0, .int 0, .int v0] (gPre D ca ad av [(a0, .inr (12, rg 10 g0)), (a4, .inl (ca 0, 20, .inl g4))] sz)) (Q_S_waitWord_0 D ca a0 a4 g0 g4 v0 (va_A [(a0, .inr (12, rg 10 g0)), (a4, .inl (ca 0, 20, .inl g4))] sz)) 0 0 (va_A [(a0, .inr (12, rg 10 g0)), (a4, .inl (ca 0, 20, .inl g4))] sz) := by
  refine gMet (Qc := Q_S_waitWord_0 D ca a0 a4 g0 g4 v0) (lv := [(0, .ref a0), (1, .int 0), (2, .int v0)]) (by decide) (Nat.le_of_ble_eq_true rfl) rfl (fun A p e s m below meth c ls hx hb hr hml hown hts hlk hnm hl hP hK hD hS hA hX => ?_)
  have hown : s.vm.findClass "StaveHouse" = some m.cls := hown
  have hnm : meth.name = "waitWord" := hnm
  refine lv_iconst (v := 0) hx hb d_1_3_0 (by decide) ?_
  refine lv_istore_n (lv' := [(3, .int 0), (0, .ref a0), (1, .int 0), (2, .int v0)]) hx hb d_1_3_1 rfl hl (by decide) rfl (fun ls hl => ?_)
  refine lv_iload_n hx hb d_1_3_2 rfl (lv_at hl 0 rfl) ?_
  refine lv_iconst (v := 4) hx hb d_1_3_3 (by decide) ?_
  refine lv_icmp_ge (tgt := 42) hx hb d_1_3_4 (by decide) (fun c => absurd c (by decide)) (fun _ => ?_)
  refine lv_iload_n hx hb d_1_3_7 rfl (lv_at hl 2 rfl) ?_
  refine lv_iload_n hx hb d_1_3_8 rfl (lv_at hl 0 rfl) ?_
  refine lv_iadd hx hb d_1_3_9 ?_
  refine lv_topi (fun y1 ey1 => ?_)
  obtain rfl : y1 = 0 := ey1.trans (by decide)
  refine lv_bipush (v := 20) hx hb d_1_3_10 (by decide) ?_
  refine lv_icmp_ge (tgt := 42) hx hb d_1_3_12 (by decide) (fun c => absurd c (by decide)) (fun _ => ?_)
  refine lv_aload_n hx hb d_1_3_15 rfl (lv_at hl 1 rfl) ?_
  refine gget hx hb hts inW_12 hown hK hP 0 rfl rfl hp0 0 rfl (by decide) k_2_128 d_1_3_16 ?_
  refine lv_iload_n hx hb d_1_3_19 rfl (lv_at hl 2 rfl) ?_
  refine lv_iload_n hx hb d_1_3_20 rfl (lv_at hl 0 rfl) ?_
  refine lv_iadd hx hb d_1_3_21 ?_
  refine lv_topi (fun y2 ey2 => ?_)
  obtain rfl : y2 = 0 := ey2.trans (by decide)
  refine lv_iload_n hx hb d_1_3_22 rfl (lv_at hl 3 rfl) ?_
  refine lv_bipush (v := 24) hx hb d_1_3_23 (by decide) ?_
  refine lv_bipush (v := 8) hx hb d_1_3_25 (by decide) ?_
  refine lv_iload_n hx hb d_1_3_27 rfl (lv_at hl 0 rfl) ?_
  refine lv_imul hx hb d_1_3_28 ?_
  refine lv_topi (fun y3 ey3 => ?_)
  obtain rfl : y3 = 0 := ey3.trans (by decide)
  refine lv_isub hx hb d_1_3_29 ?_
  refine lv_topi (fun y4 ey4 => ?_)
  obtain rfl : y4 = 24 := ey4.trans (by decide)
  refine lv_iushr hx hb d_1_3_30 rfl ?_
  refine lv_topi (fun y5 ey5 => ?_)
  refine lv_sipush (v := 255) hx hb d_1_3_31 (by decide) ?_
  refine lv_iand hx hb d_1_3_34 ?_
  refine lv_topi (fun y6 ey6 => ?_)
  refine gastX hx hb hK hP hD hS 1 0 rfl rfl (vinC (by decide)) d_1_3_35 (fun f7 H7 locs7 hP7 hD7 hS7 => ?_)
  have hF7 : gF f7 [] := gF_nil
  have hP7 : va_P D cls [(a0, .inr (12, rg 10 g0)), (a4, .inl (ca 0, 20, .inl f7))] H7 := hP7
  have hD7 : va_D A [(a0, .inr (12, rg 10 g0)), (a4, .inl (ca 0, 20, .inl f7))] := hD7
  refine lv_iinc (v := 1) (lv' := [(3, .int 1), (0, .ref a0), (1, .int 0), (2, .int v0)]) hx hb d_1_3_36 hl (k := 0) rfl (by decide) (by decide) rfl (fun ls hl => ?_)
  refine lv_goto (tgt := 2) hx hb d_1_3_39 (by decide) ?_
  refine lv_iload_n hx hb d_1_3_2 rfl (lv_at hl 0 rfl) ?_
  refine lv_iconst (v := 4) hx hb d_1_3_3 (by decide) ?_
  refine lv_icmp_ge (tgt := 42) hx hb d_1_3_4 (by decide) (fun c => absurd c (by decide)) (fun _ => ?_)
  refine lv_iload_n hx hb d_1_3_7 rfl (lv_at hl 2 rfl) ?_
  refine lv_iload_n hx hb d_1_3_8 rfl (lv_at hl 0 rfl) ?_
  refine lv_iadd hx hb d_1_3_9 ?_
  refine lv_topi (fun y8 ey8 => ?_)
  obtain rfl : y8 = 1 := ey8.trans (by decide)
  refine lv_bipush (v := 20) hx hb d_1_3_10 (by decide) ?_
  refine lv_icmp_ge (tgt := 42) hx hb d_1_3_12 (by decide) (fun c => absurd c (by decide)) (fun _ => ?_)
  refine lv_aload_n hx hb d_1_3_15 rfl (lv_at hl 1 rfl) ?_
  refine gget hx hb hts inW_12 hown hK hP7 0 rfl rfl hp0 0 rfl (by decide) k_2_128 d_1_3_16 ?_
  refine lv_iload_n hx hb d_1_3_19 rfl (lv_at hl 2 rfl) ?_
  refine lv_iload_n hx hb d_1_3_20 rfl (lv_at hl 0 rfl) ?_
  refine lv_iadd hx hb d_1_3_21 ?_
  refine lv_topi (fun y9 ey9 => ?_)
  obtain rfl : y9 = 1 := ey9.trans (by decide)
  refine lv_iload_n hx hb d_1_3_22 rfl (lv_at hl 3 rfl) ?_
  refine lv_bipush (v := 24) hx hb d_1_3_23 (by decide) ?_
  refine lv_bipush (v := 8) hx hb d_1_3_25 (by decide) ?_
  refine lv_iload_n hx hb d_1_3_27 rfl (lv_at hl 0 rfl) ?_
  refine lv_imul hx hb d_1_3_28 ?_
  refine lv_topi (fun y10 ey10 => ?_)
  obtain rfl : y10 = 8 := ey10.trans (by decide)
  refine lv_isub hx hb d_1_3_29 ?_
  refine lv_topi (fun y11 ey11 => ?_)
  obtain rfl : y11 = 16 := ey11.trans (by decide)
  refine lv_iushr hx hb d_1_3_30 rfl ?_
  refine lv_topi (fun y12 ey12 => ?_)
  refine lv_sipush (v := 255) hx hb d_1_3_31 (by decide) ?_
  refine lv_iand hx hb d_1_3_34 ?_
  refine lv_topi (fun y13 ey13 => ?_)
  refine gastX hx hb hK hP7 hD7 hS7 1 0 rfl rfl (vinC (by decide)) d_1_3_35 (fun f14 H14 locs14 hP14 hD14 hS14 => ?_)
  have hF14 : gF f14 [] := gF_nil
  have hP14 : va_P D cls [(a0, .inr (12, rg 10 g0)), (a4, .inl (ca 0, 20, .inl f14))] H14 := hP14
  have hD14 : va_D A [(a0, .inr (12, rg 10 g0)), (a4, .inl (ca 0, 20, .inl f14))] := hD14
  clear hP7 hD7 hS7 hF7
  refine lv_iinc (v := 2) (lv' := [(3, .int 2), (0, .ref a0), (1, .int 0), (2, .int v0)]) hx hb d_1_3_36 hl (k := 0) rfl (by decide) (by decide) rfl (fun ls hl => ?_)
  refine lv_goto (tgt := 2) hx hb d_1_3_39 (by decide) ?_
  refine lv_iload_n hx hb d_1_3_2 rfl (lv_at hl 0 rfl) ?_
  refine lv_iconst (v := 4) hx hb d_1_3_3 (by decide) ?_
  refine lv_icmp_ge (tgt := 42) hx hb d_1_3_4 (by decide) (fun c => absurd c (by decide)) (fun _ => ?_)
  refine lv_iload_n hx hb d_1_3_7 rfl (lv_at hl 2 rfl) ?_
  refine lv_iload_n hx hb d_1_3_8 rfl (lv_at hl 0 rfl) ?_
  refine lv_iadd hx hb d_1_3_9 ?_
  refine lv_topi (fun y15 ey15 => ?_)
  obtain rfl : y15 = 2 := ey15.trans (by decide)
  refine lv_bipush (v := 20) hx hb d_1_3_10 (by decide) ?_
  refine lv_icmp_ge (tgt := 42) hx hb d_1_3_12 (by decide) (fun c => absurd c (by decide)) (fun _ => ?_)
  refine lv_aload_n hx hb d_1_3_15 rfl (lv_at hl 1 rfl) ?_
  refine gget hx hb hts inW_12 hown hK hP14 0 rfl rfl hp0 0 rfl (by decide) k_2_128 d_1_3_16 ?_
  refine lv_iload_n hx hb d_1_3_19 rfl (lv_at hl 2 rfl) ?_
  refine lv_iload_n hx hb d_1_3_20 rfl (lv_at hl 0 rfl) ?_
  refine lv_iadd hx hb d_1_3_21 ?_
  refine lv_topi (fun y16 ey16 => ?_)
  obtain rfl : y16 = 2 := ey16.trans (by decide)
  refine lv_iload_n hx hb d_1_3_22 rfl (lv_at hl 3 rfl) ?_
  refine lv_bipush (v := 24) hx hb d_1_3_23 (by decide) ?_
  refine lv_bipush (v := 8) hx hb d_1_3_25 (by decide) ?_
  refine lv_iload_n hx hb d_1_3_27 rfl (lv_at hl 0 rfl) ?_
  refine lv_imul hx hb d_1_3_28 ?_
  refine lv_topi (fun y17 ey17 => ?_)
  obtain rfl : y17 = 16 := ey17.trans (by decide)
  refine lv_isub hx hb d_1_3_29 ?_
  refine lv_topi (fun y18 ey18 => ?_)
  obtain rfl : y18 = 8 := ey18.trans (by decide)
  refine lv_iushr hx hb d_1_3_30 rfl ?_
  refine lv_topi (fun y19 ey19 => ?_)
  refine lv_sipush (v := 255) hx hb d_1_3_31 (by decide) ?_
  refine lv_iand hx hb d_1_3_34 ?_
  refine lv_topi (fun y20 ey20 => ?_)
  refine gastX hx hb hK hP14 hD14 hS14 1 0 rfl rfl (vinC (by decide)) d_1_3_35 (fun f21 H21 locs21 hP21 hD21 hS21 => ?_)
  have hF21 : gF f21 [] := gF_nil
  have hP21 : va_P D cls [(a0, .inr (12, rg 10 g0)), (a4, .inl (ca 0, 20, .inl f21))] H21 := hP21
  have hD21 : va_D A [(a0, .inr (12, rg 10 g0)), (a4, .inl (ca 0, 20, .inl f21))] := hD21
  clear hP14 hD14 hS14 hF14
  refine lv_iinc (v := 3) (lv' := [(3, .int 3), (0, .ref a0), (1, .int 0), (2, .int v0)]) hx hb d_1_3_36 hl (k := 0) rfl (by decide) (by decide) rfl (fun ls hl => ?_)
  refine lv_goto (tgt := 2) hx hb d_1_3_39 (by decide) ?_
  refine lv_iload_n hx hb d_1_3_2 rfl (lv_at hl 0 rfl) ?_
  refine lv_iconst (v := 4) hx hb d_1_3_3 (by decide) ?_
  refine lv_icmp_ge (tgt := 42) hx hb d_1_3_4 (by decide) (fun c => absurd c (by decide)) (fun _ => ?_)
  refine lv_iload_n hx hb d_1_3_7 rfl (lv_at hl 2 rfl) ?_
  refine lv_iload_n hx hb d_1_3_8 rfl (lv_at hl 0 rfl) ?_
  refine lv_iadd hx hb d_1_3_9 ?_
  refine lv_topi (fun y22 ey22 => ?_)
  obtain rfl : y22 = 3 := ey22.trans (by decide)
  refine lv_bipush (v := 20) hx hb d_1_3_10 (by decide) ?_
  refine lv_icmp_ge (tgt := 42) hx hb d_1_3_12 (by decide) (fun c => absurd c (by decide)) (fun _ => ?_)
  refine lv_aload_n hx hb d_1_3_15 rfl (lv_at hl 1 rfl) ?_
  refine gget hx hb hts inW_12 hown hK hP21 0 rfl rfl hp0 0 rfl (by decide) k_2_128 d_1_3_16 ?_
  refine lv_iload_n hx hb d_1_3_19 rfl (lv_at hl 2 rfl) ?_
  refine lv_iload_n hx hb d_1_3_20 rfl (lv_at hl 0 rfl) ?_
  refine lv_iadd hx hb d_1_3_21 ?_
  refine lv_topi (fun y23 ey23 => ?_)
  obtain rfl : y23 = 3 := ey23.trans (by decide)
  refine lv_iload_n hx hb d_1_3_22 rfl (lv_at hl 3 rfl) ?_
  refine lv_bipush (v := 24) hx hb d_1_3_23 (by decide) ?_
  refine lv_bipush (v := 8) hx hb d_1_3_25 (by decide) ?_
  refine lv_iload_n hx hb d_1_3_27 rfl (lv_at hl 0 rfl) ?_
  refine lv_imul hx hb d_1_3_28 ?_
  refine lv_topi (fun y24 ey24 => ?_)
  obtain rfl : y24 = 24 := ey24.trans (by decide)
  refine lv_isub hx hb d_1_3_29 ?_
  refine lv_topi (fun y25 ey25 => ?_)
  obtain rfl : y25 = 0 := ey25.trans (by decide)
  refine lv_iushr hx hb d_1_3_30 rfl ?_
  refine lv_topi (fun y26 ey26 => ?_)
  refine lv_sipush (v := 255) hx hb d_1_3_31 (by decide) ?_
  refine lv_iand hx hb d_1_3_34 ?_
  refine lv_topi (fun y27 ey27 => ?_)
  refine gastX hx hb hK hP21 hD21 hS21 1 0 rfl rfl (vinC (by decide)) d_1_3_35 (fun f28 H28 locs28 hP28 hD28 hS28 => ?_)
  have hF28 : gF f28 [] := gF_nil
  have hP28 : va_P D cls [(a0, .inr (12, rg 10 g0)), (a4, .inl (ca 0, 20, .inl f28))] H28 := hP28
  have hD28 : va_D A [(a0, .inr (12, rg 10 g0)), (a4, .inl (ca 0, 20, .inl f28))] := hD28
  clear hP21 hD21 hS21 hF21
  refine lv_iinc (v := 4) (lv' := [(3, .int 4), (0, .ref a0), (1, .int 0), (2, .int v0)]) hx hb d_1_3_36 hl (k := 0) rfl (by decide) (by decide) rfl (fun ls hl => ?_)
  refine lv_goto (tgt := 2) hx hb d_1_3_39 (by decide) ?_
  refine lv_iload_n hx hb d_1_3_2 rfl (lv_at hl 0 rfl) ?_
  refine lv_iconst (v := 4) hx hb d_1_3_3 (by decide) ?_
  refine lv_icmp_ge (tgt := 42) hx hb d_1_3_4 (by decide) (fun _ => ?_) (fun c => absurd (by decide) c)
  have hP9 := hP28.sub (ws' := [(a0, .inr (12, rg 10 g0)), (a4, .inl (ca 0, 20, .inl f28))]) [0, 1] rfl
  have hD9 := hD28.sub (ws' := [(a0, .inr (12, rg 10 g0)), (a4, .inl (ca 0, 20, .inl f28))]) [0, 1] (by decide) rfl
  refine W.widen (k := 0) (n := 0) (Nat.le_of_ble_eq_true rfl) (Nat.le_of_ble_eq_true rfl) ?_
  exact W.vret hx hb hr (fun t ht hW => ⟨⟨(f28), rfl, hF28.sub [] rfl, by rw [ht]; exact hP9, va_K.moved hW.alike hK, hD9⟩, hS28.F ht⟩) hS28.2.2 d_1_3_42
abbrev Q_S_waitWord_1 (D : va_G) (ca : Nat → ClassId) (a0 : Nat) (a4 : Nat) (g0 : Nat → Value) (g4 : Nat → Int32) (v0 : Int32) (A : Nat → Prop) : Array Value → State → Outcome → State → Prop := va_Qv (S := (Nat → Int32)) (fun (u : (Nat → Int32)) => gF u []) (fun u => gB D ca A [(a0, .inr (12, rg 10 g0)), (a4, .inl (ca 0, 20, .inl u))]) A
set_option maxHeartbeats 8000000 in
set_option maxRecDepth 100000 in
theorem c_S_waitWord_1 (l : Launch) (D : va_G) (ca : Nat → ClassId) (ad av : Nat → Nat) (sz : Nat) (a0 : Nat) (a4 : Nat) (g0 : Nat → Value) (g4 : Nat → Int32) (v0 : Int32) (hp0 : gF g0 [(1, .ref a4)]) (hp4 : gF g4 []) : Met l ({ cls := "StaveHouse", name := "waitWord", desc := "(II)V" } : Jvm.MethodName) (Cond.code ({ cls := "StaveHouse", name := "waitWord", desc := "(II)V" } : Jvm.MethodName) prog_1_method_3_code 4 (Option.none : Option Jvm.ClassFile.FieldType) :: wAll) ({ frames := 0, cells := 0, slots := 0, locals := 0 } : Room) (va_Pc [.ref a0, .int 4, .int v0] (gPre D ca ad av [(a0, .inr (12, rg 10 g0)), (a4, .inl (ca 0, 20, .inl g4))] sz)) (Q_S_waitWord_1 D ca a0 a4 g0 g4 v0 (va_A [(a0, .inr (12, rg 10 g0)), (a4, .inl (ca 0, 20, .inl g4))] sz)) 0 0 (va_A [(a0, .inr (12, rg 10 g0)), (a4, .inl (ca 0, 20, .inl g4))] sz) := by
  refine gMet (Qc := Q_S_waitWord_1 D ca a0 a4 g0 g4 v0) (lv := [(0, .ref a0), (1, .int 4), (2, .int v0)]) (by decide) (Nat.le_of_ble_eq_true rfl) rfl (fun A p e s m below meth c ls hx hb hr hml hown hts hlk hnm hl hP hK hD hS hA hX => ?_)
  have hown : s.vm.findClass "StaveHouse" = some m.cls := hown
  have hnm : meth.name = "waitWord" := hnm
  refine lv_iconst (v := 0) hx hb d_1_3_0 (by decide) ?_
  refine lv_istore_n (lv' := [(3, .int 0), (0, .ref a0), (1, .int 4), (2, .int v0)]) hx hb d_1_3_1 rfl hl (by decide) rfl (fun ls hl => ?_)
  refine lv_iload_n hx hb d_1_3_2 rfl (lv_at hl 0 rfl) ?_
  refine lv_iconst (v := 4) hx hb d_1_3_3 (by decide) ?_
  refine lv_icmp_ge (tgt := 42) hx hb d_1_3_4 (by decide) (fun c => absurd c (by decide)) (fun _ => ?_)
  refine lv_iload_n hx hb d_1_3_7 rfl (lv_at hl 2 rfl) ?_
  refine lv_iload_n hx hb d_1_3_8 rfl (lv_at hl 0 rfl) ?_
  refine lv_iadd hx hb d_1_3_9 ?_
  refine lv_topi (fun y1 ey1 => ?_)
  obtain rfl : y1 = 4 := ey1.trans (by decide)
  refine lv_bipush (v := 20) hx hb d_1_3_10 (by decide) ?_
  refine lv_icmp_ge (tgt := 42) hx hb d_1_3_12 (by decide) (fun c => absurd c (by decide)) (fun _ => ?_)
  refine lv_aload_n hx hb d_1_3_15 rfl (lv_at hl 1 rfl) ?_
  refine gget hx hb hts inW_12 hown hK hP 0 rfl rfl hp0 0 rfl (by decide) k_2_128 d_1_3_16 ?_
  refine lv_iload_n hx hb d_1_3_19 rfl (lv_at hl 2 rfl) ?_
  refine lv_iload_n hx hb d_1_3_20 rfl (lv_at hl 0 rfl) ?_
  refine lv_iadd hx hb d_1_3_21 ?_
  refine lv_topi (fun y2 ey2 => ?_)
  obtain rfl : y2 = 4 := ey2.trans (by decide)
  refine lv_iload_n hx hb d_1_3_22 rfl (lv_at hl 3 rfl) ?_
  refine lv_bipush (v := 24) hx hb d_1_3_23 (by decide) ?_
  refine lv_bipush (v := 8) hx hb d_1_3_25 (by decide) ?_
  refine lv_iload_n hx hb d_1_3_27 rfl (lv_at hl 0 rfl) ?_
  refine lv_imul hx hb d_1_3_28 ?_
  refine lv_topi (fun y3 ey3 => ?_)
  obtain rfl : y3 = 0 := ey3.trans (by decide)
  refine lv_isub hx hb d_1_3_29 ?_
  refine lv_topi (fun y4 ey4 => ?_)
  obtain rfl : y4 = 24 := ey4.trans (by decide)
  refine lv_iushr hx hb d_1_3_30 rfl ?_
  refine lv_topi (fun y5 ey5 => ?_)
  refine lv_sipush (v := 255) hx hb d_1_3_31 (by decide) ?_
  refine lv_iand hx hb d_1_3_34 ?_
  refine lv_topi (fun y6 ey6 => ?_)
  refine gastX hx hb hK hP hD hS 1 0 rfl rfl (vinC (by decide)) d_1_3_35 (fun f7 H7 locs7 hP7 hD7 hS7 => ?_)
  have hF7 : gF f7 [] := gF_nil
  have hP7 : va_P D cls [(a0, .inr (12, rg 10 g0)), (a4, .inl (ca 0, 20, .inl f7))] H7 := hP7
  have hD7 : va_D A [(a0, .inr (12, rg 10 g0)), (a4, .inl (ca 0, 20, .inl f7))] := hD7
  refine lv_iinc (v := 1) (lv' := [(3, .int 1), (0, .ref a0), (1, .int 4), (2, .int v0)]) hx hb d_1_3_36 hl (k := 0) rfl (by decide) (by decide) rfl (fun ls hl => ?_)
  refine lv_goto (tgt := 2) hx hb d_1_3_39 (by decide) ?_
  refine lv_iload_n hx hb d_1_3_2 rfl (lv_at hl 0 rfl) ?_
  refine lv_iconst (v := 4) hx hb d_1_3_3 (by decide) ?_
  refine lv_icmp_ge (tgt := 42) hx hb d_1_3_4 (by decide) (fun c => absurd c (by decide)) (fun _ => ?_)
  refine lv_iload_n hx hb d_1_3_7 rfl (lv_at hl 2 rfl) ?_
  refine lv_iload_n hx hb d_1_3_8 rfl (lv_at hl 0 rfl) ?_
  refine lv_iadd hx hb d_1_3_9 ?_
  refine lv_topi (fun y8 ey8 => ?_)
  obtain rfl : y8 = 5 := ey8.trans (by decide)
  refine lv_bipush (v := 20) hx hb d_1_3_10 (by decide) ?_
  refine lv_icmp_ge (tgt := 42) hx hb d_1_3_12 (by decide) (fun c => absurd c (by decide)) (fun _ => ?_)
  refine lv_aload_n hx hb d_1_3_15 rfl (lv_at hl 1 rfl) ?_
  refine gget hx hb hts inW_12 hown hK hP7 0 rfl rfl hp0 0 rfl (by decide) k_2_128 d_1_3_16 ?_
  refine lv_iload_n hx hb d_1_3_19 rfl (lv_at hl 2 rfl) ?_
  refine lv_iload_n hx hb d_1_3_20 rfl (lv_at hl 0 rfl) ?_
  refine lv_iadd hx hb d_1_3_21 ?_
  refine lv_topi (fun y9 ey9 => ?_)
  obtain rfl : y9 = 5 := ey9.trans (by decide)
  refine lv_iload_n hx hb d_1_3_22 rfl (lv_at hl 3 rfl) ?_
  refine lv_bipush (v := 24) hx hb d_1_3_23 (by decide) ?_
  refine lv_bipush (v := 8) hx hb d_1_3_25 (by decide) ?_
  refine lv_iload_n hx hb d_1_3_27 rfl (lv_at hl 0 rfl) ?_
  refine lv_imul hx hb d_1_3_28 ?_
  refine lv_topi (fun y10 ey10 => ?_)
  obtain rfl : y10 = 8 := ey10.trans (by decide)
  refine lv_isub hx hb d_1_3_29 ?_
  refine lv_topi (fun y11 ey11 => ?_)
  obtain rfl : y11 = 16 := ey11.trans (by decide)
  refine lv_iushr hx hb d_1_3_30 rfl ?_
  refine lv_topi (fun y12 ey12 => ?_)
  refine lv_sipush (v := 255) hx hb d_1_3_31 (by decide) ?_
  refine lv_iand hx hb d_1_3_34 ?_
  refine lv_topi (fun y13 ey13 => ?_)
  refine gastX hx hb hK hP7 hD7 hS7 1 0 rfl rfl (vinC (by decide)) d_1_3_35 (fun f14 H14 locs14 hP14 hD14 hS14 => ?_)
  have hF14 : gF f14 [] := gF_nil
  have hP14 : va_P D cls [(a0, .inr (12, rg 10 g0)), (a4, .inl (ca 0, 20, .inl f14))] H14 := hP14
  have hD14 : va_D A [(a0, .inr (12, rg 10 g0)), (a4, .inl (ca 0, 20, .inl f14))] := hD14
  clear hP7 hD7 hS7 hF7
  refine lv_iinc (v := 2) (lv' := [(3, .int 2), (0, .ref a0), (1, .int 4), (2, .int v0)]) hx hb d_1_3_36 hl (k := 0) rfl (by decide) (by decide) rfl (fun ls hl => ?_)
  refine lv_goto (tgt := 2) hx hb d_1_3_39 (by decide) ?_
  refine lv_iload_n hx hb d_1_3_2 rfl (lv_at hl 0 rfl) ?_
  refine lv_iconst (v := 4) hx hb d_1_3_3 (by decide) ?_
  refine lv_icmp_ge (tgt := 42) hx hb d_1_3_4 (by decide) (fun c => absurd c (by decide)) (fun _ => ?_)
  refine lv_iload_n hx hb d_1_3_7 rfl (lv_at hl 2 rfl) ?_
  refine lv_iload_n hx hb d_1_3_8 rfl (lv_at hl 0 rfl) ?_
  refine lv_iadd hx hb d_1_3_9 ?_
  refine lv_topi (fun y15 ey15 => ?_)
  obtain rfl : y15 = 6 := ey15.trans (by decide)
  refine lv_bipush (v := 20) hx hb d_1_3_10 (by decide) ?_
  refine lv_icmp_ge (tgt := 42) hx hb d_1_3_12 (by decide) (fun c => absurd c (by decide)) (fun _ => ?_)
  refine lv_aload_n hx hb d_1_3_15 rfl (lv_at hl 1 rfl) ?_
  refine gget hx hb hts inW_12 hown hK hP14 0 rfl rfl hp0 0 rfl (by decide) k_2_128 d_1_3_16 ?_
  refine lv_iload_n hx hb d_1_3_19 rfl (lv_at hl 2 rfl) ?_
  refine lv_iload_n hx hb d_1_3_20 rfl (lv_at hl 0 rfl) ?_
  refine lv_iadd hx hb d_1_3_21 ?_
  refine lv_topi (fun y16 ey16 => ?_)
  obtain rfl : y16 = 6 := ey16.trans (by decide)
  refine lv_iload_n hx hb d_1_3_22 rfl (lv_at hl 3 rfl) ?_
  refine lv_bipush (v := 24) hx hb d_1_3_23 (by decide) ?_
  refine lv_bipush (v := 8) hx hb d_1_3_25 (by decide) ?_
  refine lv_iload_n hx hb d_1_3_27 rfl (lv_at hl 0 rfl) ?_
  refine lv_imul hx hb d_1_3_28 ?_
  refine lv_topi (fun y17 ey17 => ?_)
  obtain rfl : y17 = 16 := ey17.trans (by decide)
  refine lv_isub hx hb d_1_3_29 ?_
  refine lv_topi (fun y18 ey18 => ?_)
  obtain rfl : y18 = 8 := ey18.trans (by decide)
  refine lv_iushr hx hb d_1_3_30 rfl ?_
  refine lv_topi (fun y19 ey19 => ?_)
  refine lv_sipush (v := 255) hx hb d_1_3_31 (by decide) ?_
  refine lv_iand hx hb d_1_3_34 ?_
  refine lv_topi (fun y20 ey20 => ?_)
  refine gastX hx hb hK hP14 hD14 hS14 1 0 rfl rfl (vinC (by decide)) d_1_3_35 (fun f21 H21 locs21 hP21 hD21 hS21 => ?_)
  have hF21 : gF f21 [] := gF_nil
  have hP21 : va_P D cls [(a0, .inr (12, rg 10 g0)), (a4, .inl (ca 0, 20, .inl f21))] H21 := hP21
  have hD21 : va_D A [(a0, .inr (12, rg 10 g0)), (a4, .inl (ca 0, 20, .inl f21))] := hD21
  clear hP14 hD14 hS14 hF14
  refine lv_iinc (v := 3) (lv' := [(3, .int 3), (0, .ref a0), (1, .int 4), (2, .int v0)]) hx hb d_1_3_36 hl (k := 0) rfl (by decide) (by decide) rfl (fun ls hl => ?_)
  refine lv_goto (tgt := 2) hx hb d_1_3_39 (by decide) ?_
  refine lv_iload_n hx hb d_1_3_2 rfl (lv_at hl 0 rfl) ?_
  refine lv_iconst (v := 4) hx hb d_1_3_3 (by decide) ?_
  refine lv_icmp_ge (tgt := 42) hx hb d_1_3_4 (by decide) (fun c => absurd c (by decide)) (fun _ => ?_)
  refine lv_iload_n hx hb d_1_3_7 rfl (lv_at hl 2 rfl) ?_
  refine lv_iload_n hx hb d_1_3_8 rfl (lv_at hl 0 rfl) ?_
  refine lv_iadd hx hb d_1_3_9 ?_
  refine lv_topi (fun y22 ey22 => ?_)
  obtain rfl : y22 = 7 := ey22.trans (by decide)
  refine lv_bipush (v := 20) hx hb d_1_3_10 (by decide) ?_
  refine lv_icmp_ge (tgt := 42) hx hb d_1_3_12 (by decide) (fun c => absurd c (by decide)) (fun _ => ?_)
  refine lv_aload_n hx hb d_1_3_15 rfl (lv_at hl 1 rfl) ?_
  refine gget hx hb hts inW_12 hown hK hP21 0 rfl rfl hp0 0 rfl (by decide) k_2_128 d_1_3_16 ?_
  refine lv_iload_n hx hb d_1_3_19 rfl (lv_at hl 2 rfl) ?_
  refine lv_iload_n hx hb d_1_3_20 rfl (lv_at hl 0 rfl) ?_
  refine lv_iadd hx hb d_1_3_21 ?_
  refine lv_topi (fun y23 ey23 => ?_)
  obtain rfl : y23 = 7 := ey23.trans (by decide)
  refine lv_iload_n hx hb d_1_3_22 rfl (lv_at hl 3 rfl) ?_
  refine lv_bipush (v := 24) hx hb d_1_3_23 (by decide) ?_
  refine lv_bipush (v := 8) hx hb d_1_3_25 (by decide) ?_
  refine lv_iload_n hx hb d_1_3_27 rfl (lv_at hl 0 rfl) ?_
  refine lv_imul hx hb d_1_3_28 ?_
  refine lv_topi (fun y24 ey24 => ?_)
  obtain rfl : y24 = 24 := ey24.trans (by decide)
  refine lv_isub hx hb d_1_3_29 ?_
  refine lv_topi (fun y25 ey25 => ?_)
  obtain rfl : y25 = 0 := ey25.trans (by decide)
  refine lv_iushr hx hb d_1_3_30 rfl ?_
  refine lv_topi (fun y26 ey26 => ?_)
  refine lv_sipush (v := 255) hx hb d_1_3_31 (by decide) ?_
  refine lv_iand hx hb d_1_3_34 ?_
  refine lv_topi (fun y27 ey27 => ?_)
  refine gastX hx hb hK hP21 hD21 hS21 1 0 rfl rfl (vinC (by decide)) d_1_3_35 (fun f28 H28 locs28 hP28 hD28 hS28 => ?_)
  have hF28 : gF f28 [] := gF_nil
  have hP28 : va_P D cls [(a0, .inr (12, rg 10 g0)), (a4, .inl (ca 0, 20, .inl f28))] H28 := hP28
  have hD28 : va_D A [(a0, .inr (12, rg 10 g0)), (a4, .inl (ca 0, 20, .inl f28))] := hD28
  clear hP21 hD21 hS21 hF21
  refine lv_iinc (v := 4) (lv' := [(3, .int 4), (0, .ref a0), (1, .int 4), (2, .int v0)]) hx hb d_1_3_36 hl (k := 0) rfl (by decide) (by decide) rfl (fun ls hl => ?_)
  refine lv_goto (tgt := 2) hx hb d_1_3_39 (by decide) ?_
  refine lv_iload_n hx hb d_1_3_2 rfl (lv_at hl 0 rfl) ?_
  refine lv_iconst (v := 4) hx hb d_1_3_3 (by decide) ?_
  refine lv_icmp_ge (tgt := 42) hx hb d_1_3_4 (by decide) (fun _ => ?_) (fun c => absurd (by decide) c)
  have hP9 := hP28.sub (ws' := [(a0, .inr (12, rg 10 g0)), (a4, .inl (ca 0, 20, .inl f28))]) [0, 1] rfl
  have hD9 := hD28.sub (ws' := [(a0, .inr (12, rg 10 g0)), (a4, .inl (ca 0, 20, .inl f28))]) [0, 1] (by decide) rfl
  refine W.widen (k := 0) (n := 0) (Nat.le_of_ble_eq_true rfl) (Nat.le_of_ble_eq_true rfl) ?_
  exact W.vret hx hb hr (fun t ht hW => ⟨⟨(f28), rfl, hF28.sub [] rfl, by rw [ht]; exact hP9, va_K.moved hW.alike hK, hD9⟩, hS28.F ht⟩) hS28.2.2 d_1_3_42
abbrev Q_S_waitWord_2 (D : va_G) (ca : Nat → ClassId) (a0 : Nat) (a4 : Nat) (g0 : Nat → Value) (g4 : Nat → Int32) (v0 : Int32) (A : Nat → Prop) : Array Value → State → Outcome → State → Prop := va_Qv (S := (Nat → Int32)) (fun (u : (Nat → Int32)) => gF u []) (fun u => gB D ca A [(a0, .inr (12, rg 10 g0)), (a4, .inl (ca 0, 20, .inl u))]) A
set_option maxHeartbeats 8000000 in
set_option maxRecDepth 100000 in
theorem c_S_waitWord_2 (l : Launch) (D : va_G) (ca : Nat → ClassId) (ad av : Nat → Nat) (sz : Nat) (a0 : Nat) (a4 : Nat) (g0 : Nat → Value) (g4 : Nat → Int32) (v0 : Int32) (hp0 : gF g0 [(1, .ref a4)]) (hp4 : gF g4 []) : Met l ({ cls := "StaveHouse", name := "waitWord", desc := "(II)V" } : Jvm.MethodName) (Cond.code ({ cls := "StaveHouse", name := "waitWord", desc := "(II)V" } : Jvm.MethodName) prog_1_method_3_code 4 (Option.none : Option Jvm.ClassFile.FieldType) :: wAll) ({ frames := 0, cells := 0, slots := 0, locals := 0 } : Room) (va_Pc [.ref a0, .int 8, .int v0] (gPre D ca ad av [(a0, .inr (12, rg 10 g0)), (a4, .inl (ca 0, 20, .inl g4))] sz)) (Q_S_waitWord_2 D ca a0 a4 g0 g4 v0 (va_A [(a0, .inr (12, rg 10 g0)), (a4, .inl (ca 0, 20, .inl g4))] sz)) 0 0 (va_A [(a0, .inr (12, rg 10 g0)), (a4, .inl (ca 0, 20, .inl g4))] sz) := by
  refine gMet (Qc := Q_S_waitWord_2 D ca a0 a4 g0 g4 v0) (lv := [(0, .ref a0), (1, .int 8), (2, .int v0)]) (by decide) (Nat.le_of_ble_eq_true rfl) rfl (fun A p e s m below meth c ls hx hb hr hml hown hts hlk hnm hl hP hK hD hS hA hX => ?_)
  have hown : s.vm.findClass "StaveHouse" = some m.cls := hown
  have hnm : meth.name = "waitWord" := hnm
  refine lv_iconst (v := 0) hx hb d_1_3_0 (by decide) ?_
  refine lv_istore_n (lv' := [(3, .int 0), (0, .ref a0), (1, .int 8), (2, .int v0)]) hx hb d_1_3_1 rfl hl (by decide) rfl (fun ls hl => ?_)
  refine lv_iload_n hx hb d_1_3_2 rfl (lv_at hl 0 rfl) ?_
  refine lv_iconst (v := 4) hx hb d_1_3_3 (by decide) ?_
  refine lv_icmp_ge (tgt := 42) hx hb d_1_3_4 (by decide) (fun c => absurd c (by decide)) (fun _ => ?_)
  refine lv_iload_n hx hb d_1_3_7 rfl (lv_at hl 2 rfl) ?_
  refine lv_iload_n hx hb d_1_3_8 rfl (lv_at hl 0 rfl) ?_
  refine lv_iadd hx hb d_1_3_9 ?_
  refine lv_topi (fun y1 ey1 => ?_)
  obtain rfl : y1 = 8 := ey1.trans (by decide)
  refine lv_bipush (v := 20) hx hb d_1_3_10 (by decide) ?_
  refine lv_icmp_ge (tgt := 42) hx hb d_1_3_12 (by decide) (fun c => absurd c (by decide)) (fun _ => ?_)
  refine lv_aload_n hx hb d_1_3_15 rfl (lv_at hl 1 rfl) ?_
  refine gget hx hb hts inW_12 hown hK hP 0 rfl rfl hp0 0 rfl (by decide) k_2_128 d_1_3_16 ?_
  refine lv_iload_n hx hb d_1_3_19 rfl (lv_at hl 2 rfl) ?_
  refine lv_iload_n hx hb d_1_3_20 rfl (lv_at hl 0 rfl) ?_
  refine lv_iadd hx hb d_1_3_21 ?_
  refine lv_topi (fun y2 ey2 => ?_)
  obtain rfl : y2 = 8 := ey2.trans (by decide)
  refine lv_iload_n hx hb d_1_3_22 rfl (lv_at hl 3 rfl) ?_
  refine lv_bipush (v := 24) hx hb d_1_3_23 (by decide) ?_
  refine lv_bipush (v := 8) hx hb d_1_3_25 (by decide) ?_
  refine lv_iload_n hx hb d_1_3_27 rfl (lv_at hl 0 rfl) ?_
  refine lv_imul hx hb d_1_3_28 ?_
  refine lv_topi (fun y3 ey3 => ?_)
  obtain rfl : y3 = 0 := ey3.trans (by decide)
  refine lv_isub hx hb d_1_3_29 ?_
  refine lv_topi (fun y4 ey4 => ?_)
  obtain rfl : y4 = 24 := ey4.trans (by decide)
  refine lv_iushr hx hb d_1_3_30 rfl ?_
  refine lv_topi (fun y5 ey5 => ?_)
  refine lv_sipush (v := 255) hx hb d_1_3_31 (by decide) ?_
  refine lv_iand hx hb d_1_3_34 ?_
  refine lv_topi (fun y6 ey6 => ?_)
  refine gastX hx hb hK hP hD hS 1 0 rfl rfl (vinC (by decide)) d_1_3_35 (fun f7 H7 locs7 hP7 hD7 hS7 => ?_)
  have hF7 : gF f7 [] := gF_nil
  have hP7 : va_P D cls [(a0, .inr (12, rg 10 g0)), (a4, .inl (ca 0, 20, .inl f7))] H7 := hP7
  have hD7 : va_D A [(a0, .inr (12, rg 10 g0)), (a4, .inl (ca 0, 20, .inl f7))] := hD7
  refine lv_iinc (v := 1) (lv' := [(3, .int 1), (0, .ref a0), (1, .int 8), (2, .int v0)]) hx hb d_1_3_36 hl (k := 0) rfl (by decide) (by decide) rfl (fun ls hl => ?_)
  refine lv_goto (tgt := 2) hx hb d_1_3_39 (by decide) ?_
  refine lv_iload_n hx hb d_1_3_2 rfl (lv_at hl 0 rfl) ?_
  refine lv_iconst (v := 4) hx hb d_1_3_3 (by decide) ?_
  refine lv_icmp_ge (tgt := 42) hx hb d_1_3_4 (by decide) (fun c => absurd c (by decide)) (fun _ => ?_)
  refine lv_iload_n hx hb d_1_3_7 rfl (lv_at hl 2 rfl) ?_
  refine lv_iload_n hx hb d_1_3_8 rfl (lv_at hl 0 rfl) ?_
  refine lv_iadd hx hb d_1_3_9 ?_
  refine lv_topi (fun y8 ey8 => ?_)
  obtain rfl : y8 = 9 := ey8.trans (by decide)
  refine lv_bipush (v := 20) hx hb d_1_3_10 (by decide) ?_
  refine lv_icmp_ge (tgt := 42) hx hb d_1_3_12 (by decide) (fun c => absurd c (by decide)) (fun _ => ?_)
  refine lv_aload_n hx hb d_1_3_15 rfl (lv_at hl 1 rfl) ?_
  refine gget hx hb hts inW_12 hown hK hP7 0 rfl rfl hp0 0 rfl (by decide) k_2_128 d_1_3_16 ?_
  refine lv_iload_n hx hb d_1_3_19 rfl (lv_at hl 2 rfl) ?_
  refine lv_iload_n hx hb d_1_3_20 rfl (lv_at hl 0 rfl) ?_
  refine lv_iadd hx hb d_1_3_21 ?_
  refine lv_topi (fun y9 ey9 => ?_)
  obtain rfl : y9 = 9 := ey9.trans (by decide)
  refine lv_iload_n hx hb d_1_3_22 rfl (lv_at hl 3 rfl) ?_
  refine lv_bipush (v := 24) hx hb d_1_3_23 (by decide) ?_
  refine lv_bipush (v := 8) hx hb d_1_3_25 (by decide) ?_
  refine lv_iload_n hx hb d_1_3_27 rfl (lv_at hl 0 rfl) ?_
  refine lv_imul hx hb d_1_3_28 ?_
  refine lv_topi (fun y10 ey10 => ?_)
  obtain rfl : y10 = 8 := ey10.trans (by decide)
  refine lv_isub hx hb d_1_3_29 ?_
  refine lv_topi (fun y11 ey11 => ?_)
  obtain rfl : y11 = 16 := ey11.trans (by decide)
  refine lv_iushr hx hb d_1_3_30 rfl ?_
  refine lv_topi (fun y12 ey12 => ?_)
  refine lv_sipush (v := 255) hx hb d_1_3_31 (by decide) ?_
  refine lv_iand hx hb d_1_3_34 ?_
  refine lv_topi (fun y13 ey13 => ?_)
  refine gastX hx hb hK hP7 hD7 hS7 1 0 rfl rfl (vinC (by decide)) d_1_3_35 (fun f14 H14 locs14 hP14 hD14 hS14 => ?_)
  have hF14 : gF f14 [] := gF_nil
  have hP14 : va_P D cls [(a0, .inr (12, rg 10 g0)), (a4, .inl (ca 0, 20, .inl f14))] H14 := hP14
  have hD14 : va_D A [(a0, .inr (12, rg 10 g0)), (a4, .inl (ca 0, 20, .inl f14))] := hD14
  clear hP7 hD7 hS7 hF7
  refine lv_iinc (v := 2) (lv' := [(3, .int 2), (0, .ref a0), (1, .int 8), (2, .int v0)]) hx hb d_1_3_36 hl (k := 0) rfl (by decide) (by decide) rfl (fun ls hl => ?_)
  refine lv_goto (tgt := 2) hx hb d_1_3_39 (by decide) ?_
  refine lv_iload_n hx hb d_1_3_2 rfl (lv_at hl 0 rfl) ?_
  refine lv_iconst (v := 4) hx hb d_1_3_3 (by decide) ?_
  refine lv_icmp_ge (tgt := 42) hx hb d_1_3_4 (by decide) (fun c => absurd c (by decide)) (fun _ => ?_)
  refine lv_iload_n hx hb d_1_3_7 rfl (lv_at hl 2 rfl) ?_
  refine lv_iload_n hx hb d_1_3_8 rfl (lv_at hl 0 rfl) ?_
  refine lv_iadd hx hb d_1_3_9 ?_
  refine lv_topi (fun y15 ey15 => ?_)
  obtain rfl : y15 = 10 := ey15.trans (by decide)
  refine lv_bipush (v := 20) hx hb d_1_3_10 (by decide) ?_
  refine lv_icmp_ge (tgt := 42) hx hb d_1_3_12 (by decide) (fun c => absurd c (by decide)) (fun _ => ?_)
  refine lv_aload_n hx hb d_1_3_15 rfl (lv_at hl 1 rfl) ?_
  refine gget hx hb hts inW_12 hown hK hP14 0 rfl rfl hp0 0 rfl (by decide) k_2_128 d_1_3_16 ?_
  refine lv_iload_n hx hb d_1_3_19 rfl (lv_at hl 2 rfl) ?_
  refine lv_iload_n hx hb d_1_3_20 rfl (lv_at hl 0 rfl) ?_
  refine lv_iadd hx hb d_1_3_21 ?_
  refine lv_topi (fun y16 ey16 => ?_)
  obtain rfl : y16 = 10 := ey16.trans (by decide)
  refine lv_iload_n hx hb d_1_3_22 rfl (lv_at hl 3 rfl) ?_
  refine lv_bipush (v := 24) hx hb d_1_3_23 (by decide) ?_
  refine lv_bipush (v := 8) hx hb d_1_3_25 (by decide) ?_
  refine lv_iload_n hx hb d_1_3_27 rfl (lv_at hl 0 rfl) ?_
  refine lv_imul hx hb d_1_3_28 ?_
  refine lv_topi (fun y17 ey17 => ?_)
  obtain rfl : y17 = 16 := ey17.trans (by decide)
  refine lv_isub hx hb d_1_3_29 ?_
  refine lv_topi (fun y18 ey18 => ?_)
  obtain rfl : y18 = 8 := ey18.trans (by decide)
  refine lv_iushr hx hb d_1_3_30 rfl ?_
  refine lv_topi (fun y19 ey19 => ?_)
  refine lv_sipush (v := 255) hx hb d_1_3_31 (by decide) ?_
  refine lv_iand hx hb d_1_3_34 ?_
  refine lv_topi (fun y20 ey20 => ?_)
  refine gastX hx hb hK hP14 hD14 hS14 1 0 rfl rfl (vinC (by decide)) d_1_3_35 (fun f21 H21 locs21 hP21 hD21 hS21 => ?_)
  have hF21 : gF f21 [] := gF_nil
  have hP21 : va_P D cls [(a0, .inr (12, rg 10 g0)), (a4, .inl (ca 0, 20, .inl f21))] H21 := hP21
  have hD21 : va_D A [(a0, .inr (12, rg 10 g0)), (a4, .inl (ca 0, 20, .inl f21))] := hD21
  clear hP14 hD14 hS14 hF14
  refine lv_iinc (v := 3) (lv' := [(3, .int 3), (0, .ref a0), (1, .int 8), (2, .int v0)]) hx hb d_1_3_36 hl (k := 0) rfl (by decide) (by decide) rfl (fun ls hl => ?_)
  refine lv_goto (tgt := 2) hx hb d_1_3_39 (by decide) ?_
  refine lv_iload_n hx hb d_1_3_2 rfl (lv_at hl 0 rfl) ?_
  refine lv_iconst (v := 4) hx hb d_1_3_3 (by decide) ?_
  refine lv_icmp_ge (tgt := 42) hx hb d_1_3_4 (by decide) (fun c => absurd c (by decide)) (fun _ => ?_)
  refine lv_iload_n hx hb d_1_3_7 rfl (lv_at hl 2 rfl) ?_
  refine lv_iload_n hx hb d_1_3_8 rfl (lv_at hl 0 rfl) ?_
  refine lv_iadd hx hb d_1_3_9 ?_
  refine lv_topi (fun y22 ey22 => ?_)
  obtain rfl : y22 = 11 := ey22.trans (by decide)
  refine lv_bipush (v := 20) hx hb d_1_3_10 (by decide) ?_
  refine lv_icmp_ge (tgt := 42) hx hb d_1_3_12 (by decide) (fun c => absurd c (by decide)) (fun _ => ?_)
  refine lv_aload_n hx hb d_1_3_15 rfl (lv_at hl 1 rfl) ?_
  refine gget hx hb hts inW_12 hown hK hP21 0 rfl rfl hp0 0 rfl (by decide) k_2_128 d_1_3_16 ?_
  refine lv_iload_n hx hb d_1_3_19 rfl (lv_at hl 2 rfl) ?_
  refine lv_iload_n hx hb d_1_3_20 rfl (lv_at hl 0 rfl) ?_
  refine lv_iadd hx hb d_1_3_21 ?_
  refine lv_topi (fun y23 ey23 => ?_)
  obtain rfl : y23 = 11 := ey23.trans (by decide)
  refine lv_iload_n hx hb d_1_3_22 rfl (lv_at hl 3 rfl) ?_
  refine lv_bipush (v := 24) hx hb d_1_3_23 (by decide) ?_
  refine lv_bipush (v := 8) hx hb d_1_3_25 (by decide) ?_
  refine lv_iload_n hx hb d_1_3_27 rfl (lv_at hl 0 rfl) ?_
  refine lv_imul hx hb d_1_3_28 ?_
  refine lv_topi (fun y24 ey24 => ?_)
  obtain rfl : y24 = 24 := ey24.trans (by decide)
  refine lv_isub hx hb d_1_3_29 ?_
  refine lv_topi (fun y25 ey25 => ?_)
  obtain rfl : y25 = 0 := ey25.trans (by decide)
  refine lv_iushr hx hb d_1_3_30 rfl ?_
  refine lv_topi (fun y26 ey26 => ?_)
  refine lv_sipush (v := 255) hx hb d_1_3_31 (by decide) ?_
  refine lv_iand hx hb d_1_3_34 ?_
  refine lv_topi (fun y27 ey27 => ?_)
  refine gastX hx hb hK hP21 hD21 hS21 1 0 rfl rfl (vinC (by decide)) d_1_3_35 (fun f28 H28 locs28 hP28 hD28 hS28 => ?_)
  have hF28 : gF f28 [] := gF_nil
  have hP28 : va_P D cls [(a0, .inr (12, rg 10 g0)), (a4, .inl (ca 0, 20, .inl f28))] H28 := hP28
  have hD28 : va_D A [(a0, .inr (12, rg 10 g0)), (a4, .inl (ca 0, 20, .inl f28))] := hD28
  clear hP21 hD21 hS21 hF21
  refine lv_iinc (v := 4) (lv' := [(3, .int 4), (0, .ref a0), (1, .int 8), (2, .int v0)]) hx hb d_1_3_36 hl (k := 0) rfl (by decide) (by decide) rfl (fun ls hl => ?_)
  refine lv_goto (tgt := 2) hx hb d_1_3_39 (by decide) ?_
  refine lv_iload_n hx hb d_1_3_2 rfl (lv_at hl 0 rfl) ?_
  refine lv_iconst (v := 4) hx hb d_1_3_3 (by decide) ?_
  refine lv_icmp_ge (tgt := 42) hx hb d_1_3_4 (by decide) (fun _ => ?_) (fun c => absurd (by decide) c)
  have hP9 := hP28.sub (ws' := [(a0, .inr (12, rg 10 g0)), (a4, .inl (ca 0, 20, .inl f28))]) [0, 1] rfl
  have hD9 := hD28.sub (ws' := [(a0, .inr (12, rg 10 g0)), (a4, .inl (ca 0, 20, .inl f28))]) [0, 1] (by decide) rfl
  refine W.widen (k := 0) (n := 0) (Nat.le_of_ble_eq_true rfl) (Nat.le_of_ble_eq_true rfl) ?_
  exact W.vret hx hb hr (fun t ht hW => ⟨⟨(f28), rfl, hF28.sub [] rfl, by rw [ht]; exact hP9, va_K.moved hW.alike hK, hD9⟩, hS28.F ht⟩) hS28.2.2 d_1_3_42
abbrev Q_S_waitWord_3 (D : va_G) (ca : Nat → ClassId) (a0 : Nat) (a4 : Nat) (g0 : Nat → Value) (g4 : Nat → Int32) (v0 : Int32) (A : Nat → Prop) : Array Value → State → Outcome → State → Prop := va_Qv (S := (Nat → Int32)) (fun (u : (Nat → Int32)) => gF u []) (fun u => gB D ca A [(a0, .inr (12, rg 10 g0)), (a4, .inl (ca 0, 20, .inl u))]) A
set_option maxHeartbeats 8000000 in
set_option maxRecDepth 100000 in
theorem c_S_waitWord_3 (l : Launch) (D : va_G) (ca : Nat → ClassId) (ad av : Nat → Nat) (sz : Nat) (a0 : Nat) (a4 : Nat) (g0 : Nat → Value) (g4 : Nat → Int32) (v0 : Int32) (hp0 : gF g0 [(1, .ref a4)]) (hp4 : gF g4 []) : Met l ({ cls := "StaveHouse", name := "waitWord", desc := "(II)V" } : Jvm.MethodName) (Cond.code ({ cls := "StaveHouse", name := "waitWord", desc := "(II)V" } : Jvm.MethodName) prog_1_method_3_code 4 (Option.none : Option Jvm.ClassFile.FieldType) :: wAll) ({ frames := 0, cells := 0, slots := 0, locals := 0 } : Room) (va_Pc [.ref a0, .int 12, .int v0] (gPre D ca ad av [(a0, .inr (12, rg 10 g0)), (a4, .inl (ca 0, 20, .inl g4))] sz)) (Q_S_waitWord_3 D ca a0 a4 g0 g4 v0 (va_A [(a0, .inr (12, rg 10 g0)), (a4, .inl (ca 0, 20, .inl g4))] sz)) 0 0 (va_A [(a0, .inr (12, rg 10 g0)), (a4, .inl (ca 0, 20, .inl g4))] sz) := by
  refine gMet (Qc := Q_S_waitWord_3 D ca a0 a4 g0 g4 v0) (lv := [(0, .ref a0), (1, .int 12), (2, .int v0)]) (by decide) (Nat.le_of_ble_eq_true rfl) rfl (fun A p e s m below meth c ls hx hb hr hml hown hts hlk hnm hl hP hK hD hS hA hX => ?_)
  have hown : s.vm.findClass "StaveHouse" = some m.cls := hown
  have hnm : meth.name = "waitWord" := hnm
  refine lv_iconst (v := 0) hx hb d_1_3_0 (by decide) ?_
  refine lv_istore_n (lv' := [(3, .int 0), (0, .ref a0), (1, .int 12), (2, .int v0)]) hx hb d_1_3_1 rfl hl (by decide) rfl (fun ls hl => ?_)
  refine lv_iload_n hx hb d_1_3_2 rfl (lv_at hl 0 rfl) ?_
  refine lv_iconst (v := 4) hx hb d_1_3_3 (by decide) ?_
  refine lv_icmp_ge (tgt := 42) hx hb d_1_3_4 (by decide) (fun c => absurd c (by decide)) (fun _ => ?_)
  refine lv_iload_n hx hb d_1_3_7 rfl (lv_at hl 2 rfl) ?_
  refine lv_iload_n hx hb d_1_3_8 rfl (lv_at hl 0 rfl) ?_
  refine lv_iadd hx hb d_1_3_9 ?_
  refine lv_topi (fun y1 ey1 => ?_)
  obtain rfl : y1 = 12 := ey1.trans (by decide)
  refine lv_bipush (v := 20) hx hb d_1_3_10 (by decide) ?_
  refine lv_icmp_ge (tgt := 42) hx hb d_1_3_12 (by decide) (fun c => absurd c (by decide)) (fun _ => ?_)
  refine lv_aload_n hx hb d_1_3_15 rfl (lv_at hl 1 rfl) ?_
  refine gget hx hb hts inW_12 hown hK hP 0 rfl rfl hp0 0 rfl (by decide) k_2_128 d_1_3_16 ?_
  refine lv_iload_n hx hb d_1_3_19 rfl (lv_at hl 2 rfl) ?_
  refine lv_iload_n hx hb d_1_3_20 rfl (lv_at hl 0 rfl) ?_
  refine lv_iadd hx hb d_1_3_21 ?_
  refine lv_topi (fun y2 ey2 => ?_)
  obtain rfl : y2 = 12 := ey2.trans (by decide)
  refine lv_iload_n hx hb d_1_3_22 rfl (lv_at hl 3 rfl) ?_
  refine lv_bipush (v := 24) hx hb d_1_3_23 (by decide) ?_
  refine lv_bipush (v := 8) hx hb d_1_3_25 (by decide) ?_
  refine lv_iload_n hx hb d_1_3_27 rfl (lv_at hl 0 rfl) ?_
  refine lv_imul hx hb d_1_3_28 ?_
  refine lv_topi (fun y3 ey3 => ?_)
  obtain rfl : y3 = 0 := ey3.trans (by decide)
  refine lv_isub hx hb d_1_3_29 ?_
  refine lv_topi (fun y4 ey4 => ?_)
  obtain rfl : y4 = 24 := ey4.trans (by decide)
  refine lv_iushr hx hb d_1_3_30 rfl ?_
  refine lv_topi (fun y5 ey5 => ?_)
  refine lv_sipush (v := 255) hx hb d_1_3_31 (by decide) ?_
  refine lv_iand hx hb d_1_3_34 ?_
  refine lv_topi (fun y6 ey6 => ?_)
  refine gastX hx hb hK hP hD hS 1 0 rfl rfl (vinC (by decide)) d_1_3_35 (fun f7 H7 locs7 hP7 hD7 hS7 => ?_)
  have hF7 : gF f7 [] := gF_nil
  have hP7 : va_P D cls [(a0, .inr (12, rg 10 g0)), (a4, .inl (ca 0, 20, .inl f7))] H7 := hP7
  have hD7 : va_D A [(a0, .inr (12, rg 10 g0)), (a4, .inl (ca 0, 20, .inl f7))] := hD7
  refine lv_iinc (v := 1) (lv' := [(3, .int 1), (0, .ref a0), (1, .int 12), (2, .int v0)]) hx hb d_1_3_36 hl (k := 0) rfl (by decide) (by decide) rfl (fun ls hl => ?_)
  refine lv_goto (tgt := 2) hx hb d_1_3_39 (by decide) ?_
  refine lv_iload_n hx hb d_1_3_2 rfl (lv_at hl 0 rfl) ?_
  refine lv_iconst (v := 4) hx hb d_1_3_3 (by decide) ?_
  refine lv_icmp_ge (tgt := 42) hx hb d_1_3_4 (by decide) (fun c => absurd c (by decide)) (fun _ => ?_)
  refine lv_iload_n hx hb d_1_3_7 rfl (lv_at hl 2 rfl) ?_
  refine lv_iload_n hx hb d_1_3_8 rfl (lv_at hl 0 rfl) ?_
  refine lv_iadd hx hb d_1_3_9 ?_
  refine lv_topi (fun y8 ey8 => ?_)
  obtain rfl : y8 = 13 := ey8.trans (by decide)
  refine lv_bipush (v := 20) hx hb d_1_3_10 (by decide) ?_
  refine lv_icmp_ge (tgt := 42) hx hb d_1_3_12 (by decide) (fun c => absurd c (by decide)) (fun _ => ?_)
  refine lv_aload_n hx hb d_1_3_15 rfl (lv_at hl 1 rfl) ?_
  refine gget hx hb hts inW_12 hown hK hP7 0 rfl rfl hp0 0 rfl (by decide) k_2_128 d_1_3_16 ?_
  refine lv_iload_n hx hb d_1_3_19 rfl (lv_at hl 2 rfl) ?_
  refine lv_iload_n hx hb d_1_3_20 rfl (lv_at hl 0 rfl) ?_
  refine lv_iadd hx hb d_1_3_21 ?_
  refine lv_topi (fun y9 ey9 => ?_)
  obtain rfl : y9 = 13 := ey9.trans (by decide)
  refine lv_iload_n hx hb d_1_3_22 rfl (lv_at hl 3 rfl) ?_
  refine lv_bipush (v := 24) hx hb d_1_3_23 (by decide) ?_
  refine lv_bipush (v := 8) hx hb d_1_3_25 (by decide) ?_
  refine lv_iload_n hx hb d_1_3_27 rfl (lv_at hl 0 rfl) ?_
  refine lv_imul hx hb d_1_3_28 ?_
  refine lv_topi (fun y10 ey10 => ?_)
  obtain rfl : y10 = 8 := ey10.trans (by decide)
  refine lv_isub hx hb d_1_3_29 ?_
  refine lv_topi (fun y11 ey11 => ?_)
  obtain rfl : y11 = 16 := ey11.trans (by decide)
  refine lv_iushr hx hb d_1_3_30 rfl ?_
  refine lv_topi (fun y12 ey12 => ?_)
  refine lv_sipush (v := 255) hx hb d_1_3_31 (by decide) ?_
  refine lv_iand hx hb d_1_3_34 ?_
  refine lv_topi (fun y13 ey13 => ?_)
  refine gastX hx hb hK hP7 hD7 hS7 1 0 rfl rfl (vinC (by decide)) d_1_3_35 (fun f14 H14 locs14 hP14 hD14 hS14 => ?_)
  have hF14 : gF f14 [] := gF_nil
  have hP14 : va_P D cls [(a0, .inr (12, rg 10 g0)), (a4, .inl (ca 0, 20, .inl f14))] H14 := hP14
  have hD14 : va_D A [(a0, .inr (12, rg 10 g0)), (a4, .inl (ca 0, 20, .inl f14))] := hD14
  clear hP7 hD7 hS7 hF7
  refine lv_iinc (v := 2) (lv' := [(3, .int 2), (0, .ref a0), (1, .int 12), (2, .int v0)]) hx hb d_1_3_36 hl (k := 0) rfl (by decide) (by decide) rfl (fun ls hl => ?_)
  refine lv_goto (tgt := 2) hx hb d_1_3_39 (by decide) ?_
  refine lv_iload_n hx hb d_1_3_2 rfl (lv_at hl 0 rfl) ?_
  refine lv_iconst (v := 4) hx hb d_1_3_3 (by decide) ?_
  refine lv_icmp_ge (tgt := 42) hx hb d_1_3_4 (by decide) (fun c => absurd c (by decide)) (fun _ => ?_)
  refine lv_iload_n hx hb d_1_3_7 rfl (lv_at hl 2 rfl) ?_
  refine lv_iload_n hx hb d_1_3_8 rfl (lv_at hl 0 rfl) ?_
  refine lv_iadd hx hb d_1_3_9 ?_
  refine lv_topi (fun y15 ey15 => ?_)
  obtain rfl : y15 = 14 := ey15.trans (by decide)
  refine lv_bipush (v := 20) hx hb d_1_3_10 (by decide) ?_
  refine lv_icmp_ge (tgt := 42) hx hb d_1_3_12 (by decide) (fun c => absurd c (by decide)) (fun _ => ?_)
  refine lv_aload_n hx hb d_1_3_15 rfl (lv_at hl 1 rfl) ?_
  refine gget hx hb hts inW_12 hown hK hP14 0 rfl rfl hp0 0 rfl (by decide) k_2_128 d_1_3_16 ?_
  refine lv_iload_n hx hb d_1_3_19 rfl (lv_at hl 2 rfl) ?_
  refine lv_iload_n hx hb d_1_3_20 rfl (lv_at hl 0 rfl) ?_
  refine lv_iadd hx hb d_1_3_21 ?_
  refine lv_topi (fun y16 ey16 => ?_)
  obtain rfl : y16 = 14 := ey16.trans (by decide)
  refine lv_iload_n hx hb d_1_3_22 rfl (lv_at hl 3 rfl) ?_
  refine lv_bipush (v := 24) hx hb d_1_3_23 (by decide) ?_
  refine lv_bipush (v := 8) hx hb d_1_3_25 (by decide) ?_
  refine lv_iload_n hx hb d_1_3_27 rfl (lv_at hl 0 rfl) ?_
  refine lv_imul hx hb d_1_3_28 ?_
  refine lv_topi (fun y17 ey17 => ?_)
  obtain rfl : y17 = 16 := ey17.trans (by decide)
  refine lv_isub hx hb d_1_3_29 ?_
  refine lv_topi (fun y18 ey18 => ?_)
  obtain rfl : y18 = 8 := ey18.trans (by decide)
  refine lv_iushr hx hb d_1_3_30 rfl ?_
  refine lv_topi (fun y19 ey19 => ?_)
  refine lv_sipush (v := 255) hx hb d_1_3_31 (by decide) ?_
  refine lv_iand hx hb d_1_3_34 ?_
  refine lv_topi (fun y20 ey20 => ?_)
  refine gastX hx hb hK hP14 hD14 hS14 1 0 rfl rfl (vinC (by decide)) d_1_3_35 (fun f21 H21 locs21 hP21 hD21 hS21 => ?_)
  have hF21 : gF f21 [] := gF_nil
  have hP21 : va_P D cls [(a0, .inr (12, rg 10 g0)), (a4, .inl (ca 0, 20, .inl f21))] H21 := hP21
  have hD21 : va_D A [(a0, .inr (12, rg 10 g0)), (a4, .inl (ca 0, 20, .inl f21))] := hD21
  clear hP14 hD14 hS14 hF14
  refine lv_iinc (v := 3) (lv' := [(3, .int 3), (0, .ref a0), (1, .int 12), (2, .int v0)]) hx hb d_1_3_36 hl (k := 0) rfl (by decide) (by decide) rfl (fun ls hl => ?_)
  refine lv_goto (tgt := 2) hx hb d_1_3_39 (by decide) ?_
  refine lv_iload_n hx hb d_1_3_2 rfl (lv_at hl 0 rfl) ?_
  refine lv_iconst (v := 4) hx hb d_1_3_3 (by decide) ?_
  refine lv_icmp_ge (tgt := 42) hx hb d_1_3_4 (by decide) (fun c => absurd c (by decide)) (fun _ => ?_)
  refine lv_iload_n hx hb d_1_3_7 rfl (lv_at hl 2 rfl) ?_
  refine lv_iload_n hx hb d_1_3_8 rfl (lv_at hl 0 rfl) ?_
  refine lv_iadd hx hb d_1_3_9 ?_
  refine lv_topi (fun y22 ey22 => ?_)
  obtain rfl : y22 = 15 := ey22.trans (by decide)
  refine lv_bipush (v := 20) hx hb d_1_3_10 (by decide) ?_
  refine lv_icmp_ge (tgt := 42) hx hb d_1_3_12 (by decide) (fun c => absurd c (by decide)) (fun _ => ?_)
  refine lv_aload_n hx hb d_1_3_15 rfl (lv_at hl 1 rfl) ?_
  refine gget hx hb hts inW_12 hown hK hP21 0 rfl rfl hp0 0 rfl (by decide) k_2_128 d_1_3_16 ?_
  refine lv_iload_n hx hb d_1_3_19 rfl (lv_at hl 2 rfl) ?_
  refine lv_iload_n hx hb d_1_3_20 rfl (lv_at hl 0 rfl) ?_
  refine lv_iadd hx hb d_1_3_21 ?_
  refine lv_topi (fun y23 ey23 => ?_)
  obtain rfl : y23 = 15 := ey23.trans (by decide)
  refine lv_iload_n hx hb d_1_3_22 rfl (lv_at hl 3 rfl) ?_
  refine lv_bipush (v := 24) hx hb d_1_3_23 (by decide) ?_
  refine lv_bipush (v := 8) hx hb d_1_3_25 (by decide) ?_
  refine lv_iload_n hx hb d_1_3_27 rfl (lv_at hl 0 rfl) ?_
  refine lv_imul hx hb d_1_3_28 ?_
  refine lv_topi (fun y24 ey24 => ?_)
  obtain rfl : y24 = 24 := ey24.trans (by decide)
  refine lv_isub hx hb d_1_3_29 ?_
  refine lv_topi (fun y25 ey25 => ?_)
  obtain rfl : y25 = 0 := ey25.trans (by decide)
  refine lv_iushr hx hb d_1_3_30 rfl ?_
  refine lv_topi (fun y26 ey26 => ?_)
  refine lv_sipush (v := 255) hx hb d_1_3_31 (by decide) ?_
  refine lv_iand hx hb d_1_3_34 ?_
  refine lv_topi (fun y27 ey27 => ?_)
  refine gastX hx hb hK hP21 hD21 hS21 1 0 rfl rfl (vinC (by decide)) d_1_3_35 (fun f28 H28 locs28 hP28 hD28 hS28 => ?_)
  have hF28 : gF f28 [] := gF_nil
  have hP28 : va_P D cls [(a0, .inr (12, rg 10 g0)), (a4, .inl (ca 0, 20, .inl f28))] H28 := hP28
  have hD28 : va_D A [(a0, .inr (12, rg 10 g0)), (a4, .inl (ca 0, 20, .inl f28))] := hD28
  clear hP21 hD21 hS21 hF21
  refine lv_iinc (v := 4) (lv' := [(3, .int 4), (0, .ref a0), (1, .int 12), (2, .int v0)]) hx hb d_1_3_36 hl (k := 0) rfl (by decide) (by decide) rfl (fun ls hl => ?_)
  refine lv_goto (tgt := 2) hx hb d_1_3_39 (by decide) ?_
  refine lv_iload_n hx hb d_1_3_2 rfl (lv_at hl 0 rfl) ?_
  refine lv_iconst (v := 4) hx hb d_1_3_3 (by decide) ?_
  refine lv_icmp_ge (tgt := 42) hx hb d_1_3_4 (by decide) (fun _ => ?_) (fun c => absurd (by decide) c)
  have hP9 := hP28.sub (ws' := [(a0, .inr (12, rg 10 g0)), (a4, .inl (ca 0, 20, .inl f28))]) [0, 1] rfl
  have hD9 := hD28.sub (ws' := [(a0, .inr (12, rg 10 g0)), (a4, .inl (ca 0, 20, .inl f28))]) [0, 1] (by decide) rfl
  refine W.widen (k := 0) (n := 0) (Nat.le_of_ble_eq_true rfl) (Nat.le_of_ble_eq_true rfl) ?_
  exact W.vret hx hb hr (fun t ht hW => ⟨⟨(f28), rfl, hF28.sub [] rfl, by rw [ht]; exact hP9, va_K.moved hW.alike hK, hD9⟩, hS28.F ht⟩) hS28.2.2 d_1_3_42
abbrev Q_S_waitWord_4 (D : va_G) (ca : Nat → ClassId) (a0 : Nat) (a4 : Nat) (g0 : Nat → Value) (g4 : Nat → Int32) (v0 : Int32) (A : Nat → Prop) : Array Value → State → Outcome → State → Prop := va_Qv (S := (Nat → Int32)) (fun (u : (Nat → Int32)) => gF u []) (fun u => gB D ca A [(a0, .inr (12, rg 10 g0)), (a4, .inl (ca 0, 20, .inl u))]) A
set_option maxHeartbeats 8000000 in
set_option maxRecDepth 100000 in
theorem c_S_waitWord_4 (l : Launch) (D : va_G) (ca : Nat → ClassId) (ad av : Nat → Nat) (sz : Nat) (a0 : Nat) (a4 : Nat) (g0 : Nat → Value) (g4 : Nat → Int32) (v0 : Int32) (hp0 : gF g0 [(1, .ref a4)]) (hp4 : gF g4 []) : Met l ({ cls := "StaveHouse", name := "waitWord", desc := "(II)V" } : Jvm.MethodName) (Cond.code ({ cls := "StaveHouse", name := "waitWord", desc := "(II)V" } : Jvm.MethodName) prog_1_method_3_code 4 (Option.none : Option Jvm.ClassFile.FieldType) :: wAll) ({ frames := 0, cells := 0, slots := 0, locals := 0 } : Room) (va_Pc [.ref a0, .int 16, .int v0] (gPre D ca ad av [(a0, .inr (12, rg 10 g0)), (a4, .inl (ca 0, 20, .inl g4))] sz)) (Q_S_waitWord_4 D ca a0 a4 g0 g4 v0 (va_A [(a0, .inr (12, rg 10 g0)), (a4, .inl (ca 0, 20, .inl g4))] sz)) 0 0 (va_A [(a0, .inr (12, rg 10 g0)), (a4, .inl (ca 0, 20, .inl g4))] sz) := by
  refine gMet (Qc := Q_S_waitWord_4 D ca a0 a4 g0 g4 v0) (lv := [(0, .ref a0), (1, .int 16), (2, .int v0)]) (by decide) (Nat.le_of_ble_eq_true rfl) rfl (fun A p e s m below meth c ls hx hb hr hml hown hts hlk hnm hl hP hK hD hS hA hX => ?_)
  have hown : s.vm.findClass "StaveHouse" = some m.cls := hown
  have hnm : meth.name = "waitWord" := hnm
  refine lv_iconst (v := 0) hx hb d_1_3_0 (by decide) ?_
  refine lv_istore_n (lv' := [(3, .int 0), (0, .ref a0), (1, .int 16), (2, .int v0)]) hx hb d_1_3_1 rfl hl (by decide) rfl (fun ls hl => ?_)
  refine lv_iload_n hx hb d_1_3_2 rfl (lv_at hl 0 rfl) ?_
  refine lv_iconst (v := 4) hx hb d_1_3_3 (by decide) ?_
  refine lv_icmp_ge (tgt := 42) hx hb d_1_3_4 (by decide) (fun c => absurd c (by decide)) (fun _ => ?_)
  refine lv_iload_n hx hb d_1_3_7 rfl (lv_at hl 2 rfl) ?_
  refine lv_iload_n hx hb d_1_3_8 rfl (lv_at hl 0 rfl) ?_
  refine lv_iadd hx hb d_1_3_9 ?_
  refine lv_topi (fun y1 ey1 => ?_)
  obtain rfl : y1 = 16 := ey1.trans (by decide)
  refine lv_bipush (v := 20) hx hb d_1_3_10 (by decide) ?_
  refine lv_icmp_ge (tgt := 42) hx hb d_1_3_12 (by decide) (fun c => absurd c (by decide)) (fun _ => ?_)
  refine lv_aload_n hx hb d_1_3_15 rfl (lv_at hl 1 rfl) ?_
  refine gget hx hb hts inW_12 hown hK hP 0 rfl rfl hp0 0 rfl (by decide) k_2_128 d_1_3_16 ?_
  refine lv_iload_n hx hb d_1_3_19 rfl (lv_at hl 2 rfl) ?_
  refine lv_iload_n hx hb d_1_3_20 rfl (lv_at hl 0 rfl) ?_
  refine lv_iadd hx hb d_1_3_21 ?_
  refine lv_topi (fun y2 ey2 => ?_)
  obtain rfl : y2 = 16 := ey2.trans (by decide)
  refine lv_iload_n hx hb d_1_3_22 rfl (lv_at hl 3 rfl) ?_
  refine lv_bipush (v := 24) hx hb d_1_3_23 (by decide) ?_
  refine lv_bipush (v := 8) hx hb d_1_3_25 (by decide) ?_
  refine lv_iload_n hx hb d_1_3_27 rfl (lv_at hl 0 rfl) ?_
  refine lv_imul hx hb d_1_3_28 ?_
  refine lv_topi (fun y3 ey3 => ?_)
  obtain rfl : y3 = 0 := ey3.trans (by decide)
  refine lv_isub hx hb d_1_3_29 ?_
  refine lv_topi (fun y4 ey4 => ?_)
  obtain rfl : y4 = 24 := ey4.trans (by decide)
  refine lv_iushr hx hb d_1_3_30 rfl ?_
  refine lv_topi (fun y5 ey5 => ?_)
  refine lv_sipush (v := 255) hx hb d_1_3_31 (by decide) ?_
  refine lv_iand hx hb d_1_3_34 ?_
  refine lv_topi (fun y6 ey6 => ?_)
  refine gastX hx hb hK hP hD hS 1 0 rfl rfl (vinC (by decide)) d_1_3_35 (fun f7 H7 locs7 hP7 hD7 hS7 => ?_)
  have hF7 : gF f7 [] := gF_nil
  have hP7 : va_P D cls [(a0, .inr (12, rg 10 g0)), (a4, .inl (ca 0, 20, .inl f7))] H7 := hP7
  have hD7 : va_D A [(a0, .inr (12, rg 10 g0)), (a4, .inl (ca 0, 20, .inl f7))] := hD7
  refine lv_iinc (v := 1) (lv' := [(3, .int 1), (0, .ref a0), (1, .int 16), (2, .int v0)]) hx hb d_1_3_36 hl (k := 0) rfl (by decide) (by decide) rfl (fun ls hl => ?_)
  refine lv_goto (tgt := 2) hx hb d_1_3_39 (by decide) ?_
  refine lv_iload_n hx hb d_1_3_2 rfl (lv_at hl 0 rfl) ?_
  refine lv_iconst (v := 4) hx hb d_1_3_3 (by decide) ?_
  refine lv_icmp_ge (tgt := 42) hx hb d_1_3_4 (by decide) (fun c => absurd c (by decide)) (fun _ => ?_)
  refine lv_iload_n hx hb d_1_3_7 rfl (lv_at hl 2 rfl) ?_
  refine lv_iload_n hx hb d_1_3_8 rfl (lv_at hl 0 rfl) ?_
  refine lv_iadd hx hb d_1_3_9 ?_
  refine lv_topi (fun y8 ey8 => ?_)
  obtain rfl : y8 = 17 := ey8.trans (by decide)
  refine lv_bipush (v := 20) hx hb d_1_3_10 (by decide) ?_
  refine lv_icmp_ge (tgt := 42) hx hb d_1_3_12 (by decide) (fun c => absurd c (by decide)) (fun _ => ?_)
  refine lv_aload_n hx hb d_1_3_15 rfl (lv_at hl 1 rfl) ?_
  refine gget hx hb hts inW_12 hown hK hP7 0 rfl rfl hp0 0 rfl (by decide) k_2_128 d_1_3_16 ?_
  refine lv_iload_n hx hb d_1_3_19 rfl (lv_at hl 2 rfl) ?_
  refine lv_iload_n hx hb d_1_3_20 rfl (lv_at hl 0 rfl) ?_
  refine lv_iadd hx hb d_1_3_21 ?_
  refine lv_topi (fun y9 ey9 => ?_)
  obtain rfl : y9 = 17 := ey9.trans (by decide)
  refine lv_iload_n hx hb d_1_3_22 rfl (lv_at hl 3 rfl) ?_
  refine lv_bipush (v := 24) hx hb d_1_3_23 (by decide) ?_
  refine lv_bipush (v := 8) hx hb d_1_3_25 (by decide) ?_
  refine lv_iload_n hx hb d_1_3_27 rfl (lv_at hl 0 rfl) ?_
  refine lv_imul hx hb d_1_3_28 ?_
  refine lv_topi (fun y10 ey10 => ?_)
  obtain rfl : y10 = 8 := ey10.trans (by decide)
  refine lv_isub hx hb d_1_3_29 ?_
  refine lv_topi (fun y11 ey11 => ?_)
  obtain rfl : y11 = 16 := ey11.trans (by decide)
  refine lv_iushr hx hb d_1_3_30 rfl ?_
  refine lv_topi (fun y12 ey12 => ?_)
  refine lv_sipush (v := 255) hx hb d_1_3_31 (by decide) ?_
  refine lv_iand hx hb d_1_3_34 ?_
  refine lv_topi (fun y13 ey13 => ?_)
  refine gastX hx hb hK hP7 hD7 hS7 1 0 rfl rfl (vinC (by decide)) d_1_3_35 (fun f14 H14 locs14 hP14 hD14 hS14 => ?_)
  have hF14 : gF f14 [] := gF_nil
  have hP14 : va_P D cls [(a0, .inr (12, rg 10 g0)), (a4, .inl (ca 0, 20, .inl f14))] H14 := hP14
  have hD14 : va_D A [(a0, .inr (12, rg 10 g0)), (a4, .inl (ca 0, 20, .inl f14))] := hD14
  clear hP7 hD7 hS7 hF7
  refine lv_iinc (v := 2) (lv' := [(3, .int 2), (0, .ref a0), (1, .int 16), (2, .int v0)]) hx hb d_1_3_36 hl (k := 0) rfl (by decide) (by decide) rfl (fun ls hl => ?_)
  refine lv_goto (tgt := 2) hx hb d_1_3_39 (by decide) ?_
  refine lv_iload_n hx hb d_1_3_2 rfl (lv_at hl 0 rfl) ?_
  refine lv_iconst (v := 4) hx hb d_1_3_3 (by decide) ?_
  refine lv_icmp_ge (tgt := 42) hx hb d_1_3_4 (by decide) (fun c => absurd c (by decide)) (fun _ => ?_)
  refine lv_iload_n hx hb d_1_3_7 rfl (lv_at hl 2 rfl) ?_
  refine lv_iload_n hx hb d_1_3_8 rfl (lv_at hl 0 rfl) ?_
  refine lv_iadd hx hb d_1_3_9 ?_
  refine lv_topi (fun y15 ey15 => ?_)
  obtain rfl : y15 = 18 := ey15.trans (by decide)
  refine lv_bipush (v := 20) hx hb d_1_3_10 (by decide) ?_
  refine lv_icmp_ge (tgt := 42) hx hb d_1_3_12 (by decide) (fun c => absurd c (by decide)) (fun _ => ?_)
  refine lv_aload_n hx hb d_1_3_15 rfl (lv_at hl 1 rfl) ?_
  refine gget hx hb hts inW_12 hown hK hP14 0 rfl rfl hp0 0 rfl (by decide) k_2_128 d_1_3_16 ?_
  refine lv_iload_n hx hb d_1_3_19 rfl (lv_at hl 2 rfl) ?_
  refine lv_iload_n hx hb d_1_3_20 rfl (lv_at hl 0 rfl) ?_
  refine lv_iadd hx hb d_1_3_21 ?_
  refine lv_topi (fun y16 ey16 => ?_)
  obtain rfl : y16 = 18 := ey16.trans (by decide)
  refine lv_iload_n hx hb d_1_3_22 rfl (lv_at hl 3 rfl) ?_
  refine lv_bipush (v := 24) hx hb d_1_3_23 (by decide) ?_
  refine lv_bipush (v := 8) hx hb d_1_3_25 (by decide) ?_
  refine lv_iload_n hx hb d_1_3_27 rfl (lv_at hl 0 rfl) ?_
  refine lv_imul hx hb d_1_3_28 ?_
  refine lv_topi (fun y17 ey17 => ?_)
  obtain rfl : y17 = 16 := ey17.trans (by decide)
  refine lv_isub hx hb d_1_3_29 ?_
  refine lv_topi (fun y18 ey18 => ?_)
  obtain rfl : y18 = 8 := ey18.trans (by decide)
  refine lv_iushr hx hb d_1_3_30 rfl ?_
  refine lv_topi (fun y19 ey19 => ?_)
  refine lv_sipush (v := 255) hx hb d_1_3_31 (by decide) ?_
  refine lv_iand hx hb d_1_3_34 ?_
  refine lv_topi (fun y20 ey20 => ?_)
  refine gastX hx hb hK hP14 hD14 hS14 1 0 rfl rfl (vinC (by decide)) d_1_3_35 (fun f21 H21 locs21 hP21 hD21 hS21 => ?_)
  have hF21 : gF f21 [] := gF_nil
  have hP21 : va_P D cls [(a0, .inr (12, rg 10 g0)), (a4, .inl (ca 0, 20, .inl f21))] H21 := hP21
  have hD21 : va_D A [(a0, .inr (12, rg 10 g0)), (a4, .inl (ca 0, 20, .inl f21))] := hD21
  clear hP14 hD14 hS14 hF14
  refine lv_iinc (v := 3) (lv' := [(3, .int 3), (0, .ref a0), (1, .int 16), (2, .int v0)]) hx hb d_1_3_36 hl (k := 0) rfl (by decide) (by decide) rfl (fun ls hl => ?_)
  refine lv_goto (tgt := 2) hx hb d_1_3_39 (by decide) ?_
  refine lv_iload_n hx hb d_1_3_2 rfl (lv_at hl 0 rfl) ?_
  refine lv_iconst (v := 4) hx hb d_1_3_3 (by decide) ?_
  refine lv_icmp_ge (tgt := 42) hx hb d_1_3_4 (by decide) (fun c => absurd c (by decide)) (fun _ => ?_)
  refine lv_iload_n hx hb d_1_3_7 rfl (lv_at hl 2 rfl) ?_
  refine lv_iload_n hx hb d_1_3_8 rfl (lv_at hl 0 rfl) ?_
  refine lv_iadd hx hb d_1_3_9 ?_
  refine lv_topi (fun y22 ey22 => ?_)
  obtain rfl : y22 = 19 := ey22.trans (by decide)
  refine lv_bipush (v := 20) hx hb d_1_3_10 (by decide) ?_
  refine lv_icmp_ge (tgt := 42) hx hb d_1_3_12 (by decide) (fun c => absurd c (by decide)) (fun _ => ?_)
  refine lv_aload_n hx hb d_1_3_15 rfl (lv_at hl 1 rfl) ?_
  refine gget hx hb hts inW_12 hown hK hP21 0 rfl rfl hp0 0 rfl (by decide) k_2_128 d_1_3_16 ?_
  refine lv_iload_n hx hb d_1_3_19 rfl (lv_at hl 2 rfl) ?_
  refine lv_iload_n hx hb d_1_3_20 rfl (lv_at hl 0 rfl) ?_
  refine lv_iadd hx hb d_1_3_21 ?_
  refine lv_topi (fun y23 ey23 => ?_)
  obtain rfl : y23 = 19 := ey23.trans (by decide)
  refine lv_iload_n hx hb d_1_3_22 rfl (lv_at hl 3 rfl) ?_
  refine lv_bipush (v := 24) hx hb d_1_3_23 (by decide) ?_
  refine lv_bipush (v := 8) hx hb d_1_3_25 (by decide) ?_
  refine lv_iload_n hx hb d_1_3_27 rfl (lv_at hl 0 rfl) ?_
  refine lv_imul hx hb d_1_3_28 ?_
  refine lv_topi (fun y24 ey24 => ?_)
  obtain rfl : y24 = 24 := ey24.trans (by decide)
  refine lv_isub hx hb d_1_3_29 ?_
  refine lv_topi (fun y25 ey25 => ?_)
  obtain rfl : y25 = 0 := ey25.trans (by decide)
  refine lv_iushr hx hb d_1_3_30 rfl ?_
  refine lv_topi (fun y26 ey26 => ?_)
  refine lv_sipush (v := 255) hx hb d_1_3_31 (by decide) ?_
  refine lv_iand hx hb d_1_3_34 ?_
  refine lv_topi (fun y27 ey27 => ?_)
  refine gastX hx hb hK hP21 hD21 hS21 1 0 rfl rfl (vinC (by decide)) d_1_3_35 (fun f28 H28 locs28 hP28 hD28 hS28 => ?_)
  have hF28 : gF f28 [] := gF_nil
  have hP28 : va_P D cls [(a0, .inr (12, rg 10 g0)), (a4, .inl (ca 0, 20, .inl f28))] H28 := hP28
  have hD28 : va_D A [(a0, .inr (12, rg 10 g0)), (a4, .inl (ca 0, 20, .inl f28))] := hD28
  clear hP21 hD21 hS21 hF21
  refine lv_iinc (v := 4) (lv' := [(3, .int 4), (0, .ref a0), (1, .int 16), (2, .int v0)]) hx hb d_1_3_36 hl (k := 0) rfl (by decide) (by decide) rfl (fun ls hl => ?_)
  refine lv_goto (tgt := 2) hx hb d_1_3_39 (by decide) ?_
  refine lv_iload_n hx hb d_1_3_2 rfl (lv_at hl 0 rfl) ?_
  refine lv_iconst (v := 4) hx hb d_1_3_3 (by decide) ?_
  refine lv_icmp_ge (tgt := 42) hx hb d_1_3_4 (by decide) (fun _ => ?_) (fun c => absurd (by decide) c)
  have hP9 := hP28.sub (ws' := [(a0, .inr (12, rg 10 g0)), (a4, .inl (ca 0, 20, .inl f28))]) [0, 1] rfl
  have hD9 := hD28.sub (ws' := [(a0, .inr (12, rg 10 g0)), (a4, .inl (ca 0, 20, .inl f28))]) [0, 1] (by decide) rfl
  refine W.widen (k := 0) (n := 0) (Nat.le_of_ble_eq_true rfl) (Nat.le_of_ble_eq_true rfl) ?_
  exact W.vret hx hb hr (fun t ht hW => ⟨⟨(f28), rfl, hF28.sub [] rfl, by rw [ht]; exact hP9, va_K.moved hW.alike hK, hD9⟩, hS28.F ht⟩) hS28.2.2 d_1_3_42
abbrev Q_S_feed_0 (D : va_G) (ca : Nat → ClassId) (a0 : Nat) (a4 : Nat) (g0 : Nat → Value) (g4 : Nat → Int32) (v0 : Int32) (v1 : Int32) (v2 : Int32) (v3 : Int32) (v4 : Int32) (A : Nat → Prop) : Array Value → State → Outcome → State → Prop := va_Qv (S := (Nat → Int32)) (fun (u : (Nat → Int32)) => gF u []) (fun u => gB D ca A [(a0, .inr (12, rg 10 g0)), (a4, .inl (ca 0, 20, .inl u))]) A
set_option maxHeartbeats 8000000 in
set_option maxRecDepth 100000 in
theorem c_S_feed_0 (l : Launch) (D : va_G) (ca : Nat → ClassId) (ad av : Nat → Nat) (sz : Nat) (a0 : Nat) (a4 : Nat) (g0 : Nat → Value) (g4 : Nat → Int32) (v0 : Int32) (v1 : Int32) (v2 : Int32) (v3 : Int32) (v4 : Int32) (hp0 : gF g0 [(1, .ref a4)]) (hp4 : gF g4 []) : Met l ({ cls := "StaveHouse", name := "feed", desc := "(IIIII)V" } : Jvm.MethodName) (Cond.code ({ cls := "StaveHouse", name := "feed", desc := "(IIIII)V" } : Jvm.MethodName) prog_1_method_2_code 6 (Option.none : Option Jvm.ClassFile.FieldType) :: wAll) ({ frames := 1, cells := 0, slots := 0, locals := 23 } : Room) (va_Pc [.ref a0, .int v0, .int v1, .int v2, .int v3, .int v4] (gPre D ca ad av [(a0, .inr (12, rg 10 g0)), (a4, .inl (ca 0, 20, .inl g4))] sz)) (Q_S_feed_0 D ca a0 a4 g0 g4 v0 v1 v2 v3 v4 (va_A [(a0, .inr (12, rg 10 g0)), (a4, .inl (ca 0, 20, .inl g4))] sz)) 0 0 (va_A [(a0, .inr (12, rg 10 g0)), (a4, .inl (ca 0, 20, .inl g4))] sz) := by
  refine gMet (Qc := Q_S_feed_0 D ca a0 a4 g0 g4 v0 v1 v2 v3 v4) (lv := [(0, .ref a0), (1, .int v0), (2, .int v1), (3, .int v2), (4, .int v3), (5, .int v4)]) (by decide) (Nat.le_of_ble_eq_true rfl) rfl (fun A p e s m below meth c ls hx hb hr hml hown hts hlk hnm hl hP hK hD hS hA hX => ?_)
  have hown : s.vm.findClass "StaveHouse" = some m.cls := hown
  have hnm : meth.name = "feed" := hnm
  refine lv_aload_n hx hb d_1_2_0 rfl (lv_at hl 0 rfl) ?_
  refine lv_iconst (v := 0) hx hb d_1_2_1 (by decide) ?_
  refine lv_iload_n hx hb d_1_2_2 rfl (lv_at hl 1 rfl) ?_
  have hFc1 := va_free (wc := [(a0, .inr (12, rg 10 g0)), (a4, .inl (ca 0, 20, .inl g4))]) hD hS hA [0, 1] rfl
  refine va_callv (va_runV (As := [.int 0, .int v0]) (rest := []) ⟨hx, hb, hml, hown, hts⟩ (c_S_waitWord_0 l D ca ad av s.heap.size a0 a4 g0 g4 v0 (hp0.sub [0] rfl) (hp4.sub [] rfl)) (cwV 2 hts (gdV k_2_162 k_2_164 ks_0 k_1_1 k_2_165) rfl rfl rfl (by decide +kernel) ⟨Nat.le_of_ble_eq_true rfl, Nat.le_of_ble_eq_true rfl⟩) (gPV hP hD hK hS hA hX [0, 1] (by decide) rfl a0 [.int 0, .int v0] 0 (ci := 12) (r := (RX12, TX12, 10)) rfl rfl) rfl rfl hl.1 rfl (lv_room (Nat.le_of_ble_eq_true rfl)) d_1_2_3 ⟨Nat.le_of_ble_eq_true rfl, Nat.le_of_ble_eq_true rfl⟩) hS (fun q _ h => hFc1 q h) hFc1 (fun x1_0 t1 H1 locs1 ht1 hvm1 hw1 hB1 hz1 hk1 hS1 => ?_)
  have hw1_0 := hw1
  obtain ⟨hP1, hD1⟩ := gJoin (wr := []) (w1 := [(a0, .inr (12, rg 10 g0)), (a4, .inl (ca 0, 20, .inl x1_0))]) hP hD [0, 1] [] rfl rfl (by decide) (by decide) hk1 hFc1 ht1 hB1
  have hP1 : va_P D cls [(a0, .inr (12, rg 10 g0)), (a4, .inl (ca 0, 20, .inl x1_0))] H1 := hP1
  have hD1 : va_D A [(a0, .inr (12, rg 10 g0)), (a4, .inl (ca 0, 20, .inl x1_0))] := hD1
  refine W.widen (k := 0) (n := 0) (Nat.le_of_ble_eq_true rfl) (Nat.le_of_ble_eq_true rfl) ?_
  refine lv_aload_n hx hb d_1_2_6 rfl (lv_at hl 0 rfl) ?_
  refine lv_iconst (v := 4) hx hb d_1_2_7 (by decide) ?_
  refine lv_iload_n hx hb d_1_2_8 rfl (lv_at hl 2 rfl) ?_
  have hFc2 := va_free (wc := [(a0, .inr (12, rg 10 g0)), (a4, .inl (ca 0, 20, .inl x1_0))]) hD1 hS1 hA [0, 1] rfl
  refine va_callv (va_runV (As := [.int 4, .int v1]) (rest := []) ⟨hx, hb, hml, hown, hts⟩ (c_S_waitWord_1 l D ca ad av H1.size a0 a4 g0 x1_0 v1 (hp0.sub [0] rfl) (hw1_0.sub [] rfl)) (cwV 2 hts (gdV k_2_162 k_2_164 ks_0 k_1_1 k_2_165) rfl rfl rfl (by decide +kernel) ⟨Nat.le_of_ble_eq_true rfl, Nat.le_of_ble_eq_true rfl⟩) (gPV hP1 hD1 hK hS1 hA hX [0, 1] (by decide) rfl a0 [.int 4, .int v1] 0 (ci := 12) (r := (RX12, TX12, 10)) rfl rfl) rfl rfl hl.1 rfl (lv_room (Nat.le_of_ble_eq_true rfl)) d_1_2_9 ⟨Nat.le_of_ble_eq_true rfl, Nat.le_of_ble_eq_true rfl⟩) hS1 (fun q _ h => hFc2 q h) hFc2 (fun x2_0 t2 H2 locs2 ht2 hvm2 hw2 hB2 hz2 hk2 hS2 => ?_)
  have hw2_0 := hw2
  obtain ⟨hP2, hD2⟩ := gJoin (wr := []) (w1 := [(a0, .inr (12, rg 10 g0)), (a4, .inl (ca 0, 20, .inl x2_0))]) hP1 hD1 [0, 1] [] rfl rfl (by decide) (by decide) hk2 hFc2 ht2 hB2
  have hP2 : va_P D cls [(a0, .inr (12, rg 10 g0)), (a4, .inl (ca 0, 20, .inl x2_0))] H2 := hP2
  have hD2 : va_D A [(a0, .inr (12, rg 10 g0)), (a4, .inl (ca 0, 20, .inl x2_0))] := hD2
  refine W.widen (k := 0) (n := 0) (Nat.le_of_ble_eq_true rfl) (Nat.le_of_ble_eq_true rfl) ?_
  refine lv_aload_n hx hb d_1_2_12 rfl (lv_at hl 0 rfl) ?_
  refine lv_bipush (v := 8) hx hb d_1_2_13 (by decide) ?_
  refine lv_iload_n hx hb d_1_2_15 rfl (lv_at hl 3 rfl) ?_
  have hFc3 := va_free (wc := [(a0, .inr (12, rg 10 g0)), (a4, .inl (ca 0, 20, .inl x2_0))]) hD2 hS2 hA [0, 1] rfl
  refine va_callv (va_runV (As := [.int 8, .int v2]) (rest := []) ⟨hx, hb, hml, hown, hts⟩ (c_S_waitWord_2 l D ca ad av H2.size a0 a4 g0 x2_0 v2 (hp0.sub [0] rfl) (hw2_0.sub [] rfl)) (cwV 2 hts (gdV k_2_162 k_2_164 ks_0 k_1_1 k_2_165) rfl rfl rfl (by decide +kernel) ⟨Nat.le_of_ble_eq_true rfl, Nat.le_of_ble_eq_true rfl⟩) (gPV hP2 hD2 hK hS2 hA hX [0, 1] (by decide) rfl a0 [.int 8, .int v2] 0 (ci := 12) (r := (RX12, TX12, 10)) rfl rfl) rfl rfl hl.1 rfl (lv_room (Nat.le_of_ble_eq_true rfl)) d_1_2_16 ⟨Nat.le_of_ble_eq_true rfl, Nat.le_of_ble_eq_true rfl⟩) hS2 (fun q _ h => hFc3 q h) hFc3 (fun x3_0 t3 H3 locs3 ht3 hvm3 hw3 hB3 hz3 hk3 hS3 => ?_)
  have hw3_0 := hw3
  obtain ⟨hP3, hD3⟩ := gJoin (wr := []) (w1 := [(a0, .inr (12, rg 10 g0)), (a4, .inl (ca 0, 20, .inl x3_0))]) hP2 hD2 [0, 1] [] rfl rfl (by decide) (by decide) hk3 hFc3 ht3 hB3
  have hP3 : va_P D cls [(a0, .inr (12, rg 10 g0)), (a4, .inl (ca 0, 20, .inl x3_0))] H3 := hP3
  have hD3 : va_D A [(a0, .inr (12, rg 10 g0)), (a4, .inl (ca 0, 20, .inl x3_0))] := hD3
  refine W.widen (k := 0) (n := 0) (Nat.le_of_ble_eq_true rfl) (Nat.le_of_ble_eq_true rfl) ?_
  refine lv_aload_n hx hb d_1_2_19 rfl (lv_at hl 0 rfl) ?_
  refine lv_bipush (v := 12) hx hb d_1_2_20 (by decide) ?_
  refine lv_iload hx hb d_1_2_22 (lv_at hl 4 rfl) ?_
  have hFc4 := va_free (wc := [(a0, .inr (12, rg 10 g0)), (a4, .inl (ca 0, 20, .inl x3_0))]) hD3 hS3 hA [0, 1] rfl
  refine va_callv (va_runV (As := [.int 12, .int v3]) (rest := []) ⟨hx, hb, hml, hown, hts⟩ (c_S_waitWord_3 l D ca ad av H3.size a0 a4 g0 x3_0 v3 (hp0.sub [0] rfl) (hw3_0.sub [] rfl)) (cwV 2 hts (gdV k_2_162 k_2_164 ks_0 k_1_1 k_2_165) rfl rfl rfl (by decide +kernel) ⟨Nat.le_of_ble_eq_true rfl, Nat.le_of_ble_eq_true rfl⟩) (gPV hP3 hD3 hK hS3 hA hX [0, 1] (by decide) rfl a0 [.int 12, .int v3] 0 (ci := 12) (r := (RX12, TX12, 10)) rfl rfl) rfl rfl hl.1 rfl (lv_room (Nat.le_of_ble_eq_true rfl)) d_1_2_24 ⟨Nat.le_of_ble_eq_true rfl, Nat.le_of_ble_eq_true rfl⟩) hS3 (fun q _ h => hFc4 q h) hFc4 (fun x4_0 t4 H4 locs4 ht4 hvm4 hw4 hB4 hz4 hk4 hS4 => ?_)
  have hw4_0 := hw4
  obtain ⟨hP4, hD4⟩ := gJoin (wr := []) (w1 := [(a0, .inr (12, rg 10 g0)), (a4, .inl (ca 0, 20, .inl x4_0))]) hP3 hD3 [0, 1] [] rfl rfl (by decide) (by decide) hk4 hFc4 ht4 hB4
  have hP4 : va_P D cls [(a0, .inr (12, rg 10 g0)), (a4, .inl (ca 0, 20, .inl x4_0))] H4 := hP4
  have hD4 : va_D A [(a0, .inr (12, rg 10 g0)), (a4, .inl (ca 0, 20, .inl x4_0))] := hD4
  refine W.widen (k := 0) (n := 0) (Nat.le_of_ble_eq_true rfl) (Nat.le_of_ble_eq_true rfl) ?_
  refine lv_aload_n hx hb d_1_2_27 rfl (lv_at hl 0 rfl) ?_
  refine lv_bipush (v := 16) hx hb d_1_2_28 (by decide) ?_
  refine lv_iload hx hb d_1_2_30 (lv_at hl 5 rfl) ?_
  have hFc5 := va_free (wc := [(a0, .inr (12, rg 10 g0)), (a4, .inl (ca 0, 20, .inl x4_0))]) hD4 hS4 hA [0, 1] rfl
  refine va_callv (va_runV (As := [.int 16, .int v4]) (rest := []) ⟨hx, hb, hml, hown, hts⟩ (c_S_waitWord_4 l D ca ad av H4.size a0 a4 g0 x4_0 v4 (hp0.sub [0] rfl) (hw4_0.sub [] rfl)) (cwV 2 hts (gdV k_2_162 k_2_164 ks_0 k_1_1 k_2_165) rfl rfl rfl (by decide +kernel) ⟨Nat.le_of_ble_eq_true rfl, Nat.le_of_ble_eq_true rfl⟩) (gPV hP4 hD4 hK hS4 hA hX [0, 1] (by decide) rfl a0 [.int 16, .int v4] 0 (ci := 12) (r := (RX12, TX12, 10)) rfl rfl) rfl rfl hl.1 rfl (lv_room (Nat.le_of_ble_eq_true rfl)) d_1_2_32 ⟨Nat.le_of_ble_eq_true rfl, Nat.le_of_ble_eq_true rfl⟩) hS4 (fun q _ h => hFc5 q h) hFc5 (fun x5_0 t5 H5 locs5 ht5 hvm5 hw5 hB5 hz5 hk5 hS5 => ?_)
  have hw5_0 := hw5
  obtain ⟨hP5, hD5⟩ := gJoin (wr := []) (w1 := [(a0, .inr (12, rg 10 g0)), (a4, .inl (ca 0, 20, .inl x5_0))]) hP4 hD4 [0, 1] [] rfl rfl (by decide) (by decide) hk5 hFc5 ht5 hB5
  have hP5 : va_P D cls [(a0, .inr (12, rg 10 g0)), (a4, .inl (ca 0, 20, .inl x5_0))] H5 := hP5
  have hD5 : va_D A [(a0, .inr (12, rg 10 g0)), (a4, .inl (ca 0, 20, .inl x5_0))] := hD5
  refine W.widen (k := 0) (n := 0) (Nat.le_of_ble_eq_true rfl) (Nat.le_of_ble_eq_true rfl) ?_
  have hP9 := hP5.sub (ws' := [(a0, .inr (12, rg 10 g0)), (a4, .inl (ca 0, 20, .inl x5_0))]) [0, 1] rfl
  have hD9 := hD5.sub (ws' := [(a0, .inr (12, rg 10 g0)), (a4, .inl (ca 0, 20, .inl x5_0))]) [0, 1] (by decide) rfl
  refine W.widen (k := 0) (n := 0) (Nat.le_of_ble_eq_true rfl) (Nat.le_of_ble_eq_true rfl) ?_
  exact W.vret hx hb hr (fun t ht hW => ⟨⟨(x5_0), rfl, hw5_0.sub [] rfl, by rw [ht]; exact hP9, va_K.moved hW.alike hK, hD9⟩, hS5.F ht⟩) hS5.2.2 d_1_2_35
abbrev Q_ByteRow_put_0 (D : va_G) (ca : Nat → ClassId) (a0 : Nat) (a1 : Nat) (g0 : Nat → Value) (g1 : Nat → Int32) (v0 : Int32) (A : Nat → Prop) : Array Value → State → Outcome → State → Prop := va_Qv (S := (Nat → Value) × (Nat → Int32)) (fun (u : (Nat → Value) × (Nat → Int32)) => gM g0 u.1 [1] ∧ gF u.1 [(1, .int 1)] ∧ gF u.2 []) (fun u => gB D ca A [(a0, .inr (0, rg 3 u.1)), (a1, .inl (ca 0, 3000, .inl u.2))]) A
set_option maxHeartbeats 8000000 in
set_option maxRecDepth 100000 in
theorem c_ByteRow_put_0 (l : Launch) (D : va_G) (ca : Nat → ClassId) (ad av : Nat → Nat) (sz : Nat) (a0 : Nat) (a1 : Nat) (g0 : Nat → Value) (g1 : Nat → Int32) (v0 : Int32) (hp0 : gF g0 [(0, .ref a1), (1, .int 0)]) (hp1 : gF g1 []) : Met l ({ cls := "StaveHouse$ByteRow", name := "put", desc := "(I)V" } : Jvm.MethodName) (Cond.code ({ cls := "StaveHouse$ByteRow", name := "put", desc := "(I)V" } : Jvm.MethodName) prog_2_method_4_code 2 (Option.none : Option Jvm.ClassFile.FieldType) :: wAll) ({ frames := 0, cells := 0, slots := 0, locals := 0 } : Room) (va_Pc [.ref a0, .int v0] (gPre D ca ad av [(a0, .inr (0, rg 3 g0)), (a1, .inl (ca 0, 3000, .inl g1))] sz)) (Q_ByteRow_put_0 D ca a0 a1 g0 g1 v0 (va_A [(a0, .inr (0, rg 3 g0)), (a1, .inl (ca 0, 3000, .inl g1))] sz)) 0 0 (va_A [(a0, .inr (0, rg 3 g0)), (a1, .inl (ca 0, 3000, .inl g1))] sz) := by
  refine gMet (Qc := Q_ByteRow_put_0 D ca a0 a1 g0 g1 v0) (lv := [(0, .ref a0), (1, .int v0)]) (by decide) (Nat.le_of_ble_eq_true rfl) rfl (fun A p e s m below meth c ls hx hb hr hml hown hts hlk hnm hl hP hK hD hS hA hX => ?_)
  have hown : s.vm.findClass "StaveHouse$ByteRow" = some m.cls := hown
  have hnm : meth.name = "put" := hnm
  refine lv_aload_n hx hb d_2_4_0 rfl (lv_at hl 0 rfl) ?_
  refine gget hx hb hts inW_0 hown hK hP 0 rfl rfl hp0 1 rfl (by decide) k_1_42 d_2_4_1 ?_
  refine lv_aload_n hx hb d_2_4_4 rfl (lv_at hl 0 rfl) ?_
  refine gget hx hb hts inW_0 hown hK hP 0 rfl rfl hp0 0 rfl (by decide) k_1_41 d_2_4_5 ?_
  refine va_alen (v := 3000) hx hb hK hP 1 0 rfl rfl rfl d_2_4_8 ?_
  refine lv_icmp_lt (tgt := 18) hx hb d_2_4_9 (by decide) (fun _ => ?_) (fun c => absurd (by decide) c)
  refine lv_aload_n hx hb d_2_4_18 rfl (lv_at hl 0 rfl) ?_
  refine gget hx hb hts inW_0 hown hK hP 0 rfl rfl hp0 0 rfl (by decide) k_1_41 d_2_4_19 ?_
  refine lv_aload_n hx hb d_2_4_22 rfl (lv_at hl 0 rfl) ?_
  refine gget hx hb hts inW_0 hown hK hP 0 rfl rfl hp0 1 rfl (by decide) k_1_42 d_2_4_23 ?_
  refine lv_iload_n hx hb d_2_4_26 rfl (lv_at hl 1 rfl) ?_
  refine lv_sipush (v := 255) hx hb d_2_4_27 (by decide) ?_
  refine lv_iand hx hb d_2_4_30 ?_
  refine lv_topi (fun y1 ey1 => ?_)
  refine gastX hx hb hK hP hD hS 1 0 rfl rfl (vinC (by decide)) d_2_4_31 (fun f2 H2 locs2 hP2 hD2 hS2 => ?_)
  have hF2 : gF f2 [] := gF_nil
  have hP2 : va_P D cls [(a0, .inr (0, rg 3 g0)), (a1, .inl (ca 0, 3000, .inl f2))] H2 := hP2
  have hD2 : va_D A [(a0, .inr (0, rg 3 g0)), (a1, .inl (ca 0, 3000, .inl f2))] := hD2
  refine lv_aload_n hx hb d_2_4_32 rfl (lv_at hl 0 rfl) ?_
  refine lv_dup hx hb d_2_4_33 rfl ?_
  refine gget hx hb hts inW_0 hown hK hP2 0 rfl rfl hp0 1 rfl (by decide) k_1_42 d_2_4_34 ?_
  refine lv_iconst (v := 1) hx hb d_2_4_37 (by decide) ?_
  refine lv_iadd hx hb d_2_4_38 ?_
  refine lv_topi (fun y3 ey3 => ?_)
  obtain rfl : y3 = 1 := ey3.trans (by decide)
  refine gput hx hb hts inW_0 tyX0 tyX0_ok nmX0 hown hK hP2 hD2 hS2 0 rfl rfl hp0 1 (by decide) k_1_42 rfl rfl rfl d_2_4_39 (L' := [(1, .int 1), (0, .ref a1)]) rfl (fun f4 H4 locs4 hF4 hm4 hP4 hD4 hS4 => ?_)
  have hM4 := gM.tr (gM.rf (f := g0)) hm4
  have hP4 : va_P D cls [(a0, .inr (0, rg 3 f4)), (a1, .inl (ca 0, 3000, .inl f2))] H4 := hP4
  have hD4 : va_D A [(a0, .inr (0, rg 3 f4)), (a1, .inl (ca 0, 3000, .inl f2))] := hD4
  clear hP2 hD2 hS2 hm4
  have hP9 := hP4.sub (ws' := [(a0, .inr (0, rg 3 f4)), (a1, .inl (ca 0, 3000, .inl f2))]) [0, 1] rfl
  have hD9 := hD4.sub (ws' := [(a0, .inr (0, rg 3 f4)), (a1, .inl (ca 0, 3000, .inl f2))]) [0, 1] (by decide) rfl
  refine W.widen (k := 0) (n := 0) (Nat.le_of_ble_eq_true rfl) (Nat.le_of_ble_eq_true rfl) ?_
  exact W.vret hx hb hr (fun t ht hW => ⟨⟨(f4, f2), rfl, ⟨hM4.mono (by decide), hF4.sub [0] rfl, hF2.sub [] rfl⟩, by rw [ht]; exact hP9, va_K.moved hW.alike hK, hD9⟩, hS4.F ht⟩) hS4.2.2 d_2_4_42
abbrev Q_ByteRow_put_1 (D : va_G) (ca : Nat → ClassId) (a0 : Nat) (a1 : Nat) (g0 : Nat → Value) (g1 : Nat → Int32) (v0 : Int32) (A : Nat → Prop) : Array Value → State → Outcome → State → Prop := va_Qv (S := (Nat → Value) × (Nat → Int32)) (fun (u : (Nat → Value) × (Nat → Int32)) => gM g0 u.1 [1] ∧ gF u.1 [(1, .int 2)] ∧ gF u.2 []) (fun u => gB D ca A [(a0, .inr (0, rg 3 u.1)), (a1, .inl (ca 0, 3000, .inl u.2))]) A
set_option maxHeartbeats 8000000 in
set_option maxRecDepth 100000 in
theorem c_ByteRow_put_1 (l : Launch) (D : va_G) (ca : Nat → ClassId) (ad av : Nat → Nat) (sz : Nat) (a0 : Nat) (a1 : Nat) (g0 : Nat → Value) (g1 : Nat → Int32) (v0 : Int32) (hp0 : gF g0 [(1, .int 1), (0, .ref a1)]) (hp1 : gF g1 []) : Met l ({ cls := "StaveHouse$ByteRow", name := "put", desc := "(I)V" } : Jvm.MethodName) (Cond.code ({ cls := "StaveHouse$ByteRow", name := "put", desc := "(I)V" } : Jvm.MethodName) prog_2_method_4_code 2 (Option.none : Option Jvm.ClassFile.FieldType) :: wAll) ({ frames := 0, cells := 0, slots := 0, locals := 0 } : Room) (va_Pc [.ref a0, .int v0] (gPre D ca ad av [(a0, .inr (0, rg 3 g0)), (a1, .inl (ca 0, 3000, .inl g1))] sz)) (Q_ByteRow_put_1 D ca a0 a1 g0 g1 v0 (va_A [(a0, .inr (0, rg 3 g0)), (a1, .inl (ca 0, 3000, .inl g1))] sz)) 0 0 (va_A [(a0, .inr (0, rg 3 g0)), (a1, .inl (ca 0, 3000, .inl g1))] sz) := by
  refine gMet (Qc := Q_ByteRow_put_1 D ca a0 a1 g0 g1 v0) (lv := [(0, .ref a0), (1, .int v0)]) (by decide) (Nat.le_of_ble_eq_true rfl) rfl (fun A p e s m below meth c ls hx hb hr hml hown hts hlk hnm hl hP hK hD hS hA hX => ?_)
  have hown : s.vm.findClass "StaveHouse$ByteRow" = some m.cls := hown
  have hnm : meth.name = "put" := hnm
  refine lv_aload_n hx hb d_2_4_0 rfl (lv_at hl 0 rfl) ?_
  refine gget hx hb hts inW_0 hown hK hP 0 rfl rfl hp0 0 rfl (by decide) k_1_42 d_2_4_1 ?_
  refine lv_aload_n hx hb d_2_4_4 rfl (lv_at hl 0 rfl) ?_
  refine gget hx hb hts inW_0 hown hK hP 0 rfl rfl hp0 1 rfl (by decide) k_1_41 d_2_4_5 ?_
  refine va_alen (v := 3000) hx hb hK hP 1 0 rfl rfl rfl d_2_4_8 ?_
  refine lv_icmp_lt (tgt := 18) hx hb d_2_4_9 (by decide) (fun _ => ?_) (fun c => absurd (by decide) c)
  refine lv_aload_n hx hb d_2_4_18 rfl (lv_at hl 0 rfl) ?_
  refine gget hx hb hts inW_0 hown hK hP 0 rfl rfl hp0 1 rfl (by decide) k_1_41 d_2_4_19 ?_
  refine lv_aload_n hx hb d_2_4_22 rfl (lv_at hl 0 rfl) ?_
  refine gget hx hb hts inW_0 hown hK hP 0 rfl rfl hp0 0 rfl (by decide) k_1_42 d_2_4_23 ?_
  refine lv_iload_n hx hb d_2_4_26 rfl (lv_at hl 1 rfl) ?_
  refine lv_sipush (v := 255) hx hb d_2_4_27 (by decide) ?_
  refine lv_iand hx hb d_2_4_30 ?_
  refine lv_topi (fun y1 ey1 => ?_)
  refine gastX hx hb hK hP hD hS 1 0 rfl rfl (vinC (by decide)) d_2_4_31 (fun f2 H2 locs2 hP2 hD2 hS2 => ?_)
  have hF2 : gF f2 [] := gF_nil
  have hP2 : va_P D cls [(a0, .inr (0, rg 3 g0)), (a1, .inl (ca 0, 3000, .inl f2))] H2 := hP2
  have hD2 : va_D A [(a0, .inr (0, rg 3 g0)), (a1, .inl (ca 0, 3000, .inl f2))] := hD2
  refine lv_aload_n hx hb d_2_4_32 rfl (lv_at hl 0 rfl) ?_
  refine lv_dup hx hb d_2_4_33 rfl ?_
  refine gget hx hb hts inW_0 hown hK hP2 0 rfl rfl hp0 0 rfl (by decide) k_1_42 d_2_4_34 ?_
  refine lv_iconst (v := 1) hx hb d_2_4_37 (by decide) ?_
  refine lv_iadd hx hb d_2_4_38 ?_
  refine lv_topi (fun y3 ey3 => ?_)
  obtain rfl : y3 = 2 := ey3.trans (by decide)
  refine gput hx hb hts inW_0 tyX0 tyX0_ok nmX0 hown hK hP2 hD2 hS2 0 rfl rfl hp0 1 (by decide) k_1_42 rfl rfl rfl d_2_4_39 (L' := [(1, .int 2), (0, .ref a1)]) rfl (fun f4 H4 locs4 hF4 hm4 hP4 hD4 hS4 => ?_)
  have hM4 := gM.tr (gM.rf (f := g0)) hm4
  have hP4 : va_P D cls [(a0, .inr (0, rg 3 f4)), (a1, .inl (ca 0, 3000, .inl f2))] H4 := hP4
  have hD4 : va_D A [(a0, .inr (0, rg 3 f4)), (a1, .inl (ca 0, 3000, .inl f2))] := hD4
  clear hP2 hD2 hS2 hm4
  have hP9 := hP4.sub (ws' := [(a0, .inr (0, rg 3 f4)), (a1, .inl (ca 0, 3000, .inl f2))]) [0, 1] rfl
  have hD9 := hD4.sub (ws' := [(a0, .inr (0, rg 3 f4)), (a1, .inl (ca 0, 3000, .inl f2))]) [0, 1] (by decide) rfl
  refine W.widen (k := 0) (n := 0) (Nat.le_of_ble_eq_true rfl) (Nat.le_of_ble_eq_true rfl) ?_
  exact W.vret hx hb hr (fun t ht hW => ⟨⟨(f4, f2), rfl, ⟨hM4.mono (by decide), hF4.sub [0] rfl, hF2.sub [] rfl⟩, by rw [ht]; exact hP9, va_K.moved hW.alike hK, hD9⟩, hS4.F ht⟩) hS4.2.2 d_2_4_42
abbrev Q_ByteRow_put_2 (D : va_G) (ca : Nat → ClassId) (a0 : Nat) (a1 : Nat) (g0 : Nat → Value) (g1 : Nat → Int32) (v0 : Int32) (A : Nat → Prop) : Array Value → State → Outcome → State → Prop := va_Qv (S := (Nat → Value) × (Nat → Int32)) (fun (u : (Nat → Value) × (Nat → Int32)) => gM g0 u.1 [1] ∧ gF u.1 [(1, .int 3)] ∧ gF u.2 []) (fun u => gB D ca A [(a0, .inr (0, rg 3 u.1)), (a1, .inl (ca 0, 3000, .inl u.2))]) A
set_option maxHeartbeats 8000000 in
set_option maxRecDepth 100000 in
theorem c_ByteRow_put_2 (l : Launch) (D : va_G) (ca : Nat → ClassId) (ad av : Nat → Nat) (sz : Nat) (a0 : Nat) (a1 : Nat) (g0 : Nat → Value) (g1 : Nat → Int32) (v0 : Int32) (hp0 : gF g0 [(1, .int 2), (0, .ref a1)]) (hp1 : gF g1 []) : Met l ({ cls := "StaveHouse$ByteRow", name := "put", desc := "(I)V" } : Jvm.MethodName) (Cond.code ({ cls := "StaveHouse$ByteRow", name := "put", desc := "(I)V" } : Jvm.MethodName) prog_2_method_4_code 2 (Option.none : Option Jvm.ClassFile.FieldType) :: wAll) ({ frames := 0, cells := 0, slots := 0, locals := 0 } : Room) (va_Pc [.ref a0, .int v0] (gPre D ca ad av [(a0, .inr (0, rg 3 g0)), (a1, .inl (ca 0, 3000, .inl g1))] sz)) (Q_ByteRow_put_2 D ca a0 a1 g0 g1 v0 (va_A [(a0, .inr (0, rg 3 g0)), (a1, .inl (ca 0, 3000, .inl g1))] sz)) 0 0 (va_A [(a0, .inr (0, rg 3 g0)), (a1, .inl (ca 0, 3000, .inl g1))] sz) := by
  refine gMet (Qc := Q_ByteRow_put_2 D ca a0 a1 g0 g1 v0) (lv := [(0, .ref a0), (1, .int v0)]) (by decide) (Nat.le_of_ble_eq_true rfl) rfl (fun A p e s m below meth c ls hx hb hr hml hown hts hlk hnm hl hP hK hD hS hA hX => ?_)
  have hown : s.vm.findClass "StaveHouse$ByteRow" = some m.cls := hown
  have hnm : meth.name = "put" := hnm
  refine lv_aload_n hx hb d_2_4_0 rfl (lv_at hl 0 rfl) ?_
  refine gget hx hb hts inW_0 hown hK hP 0 rfl rfl hp0 0 rfl (by decide) k_1_42 d_2_4_1 ?_
  refine lv_aload_n hx hb d_2_4_4 rfl (lv_at hl 0 rfl) ?_
  refine gget hx hb hts inW_0 hown hK hP 0 rfl rfl hp0 1 rfl (by decide) k_1_41 d_2_4_5 ?_
  refine va_alen (v := 3000) hx hb hK hP 1 0 rfl rfl rfl d_2_4_8 ?_
  refine lv_icmp_lt (tgt := 18) hx hb d_2_4_9 (by decide) (fun _ => ?_) (fun c => absurd (by decide) c)
  refine lv_aload_n hx hb d_2_4_18 rfl (lv_at hl 0 rfl) ?_
  refine gget hx hb hts inW_0 hown hK hP 0 rfl rfl hp0 1 rfl (by decide) k_1_41 d_2_4_19 ?_
  refine lv_aload_n hx hb d_2_4_22 rfl (lv_at hl 0 rfl) ?_
  refine gget hx hb hts inW_0 hown hK hP 0 rfl rfl hp0 0 rfl (by decide) k_1_42 d_2_4_23 ?_
  refine lv_iload_n hx hb d_2_4_26 rfl (lv_at hl 1 rfl) ?_
  refine lv_sipush (v := 255) hx hb d_2_4_27 (by decide) ?_
  refine lv_iand hx hb d_2_4_30 ?_
  refine lv_topi (fun y1 ey1 => ?_)
  refine gastX hx hb hK hP hD hS 1 0 rfl rfl (vinC (by decide)) d_2_4_31 (fun f2 H2 locs2 hP2 hD2 hS2 => ?_)
  have hF2 : gF f2 [] := gF_nil
  have hP2 : va_P D cls [(a0, .inr (0, rg 3 g0)), (a1, .inl (ca 0, 3000, .inl f2))] H2 := hP2
  have hD2 : va_D A [(a0, .inr (0, rg 3 g0)), (a1, .inl (ca 0, 3000, .inl f2))] := hD2
  refine lv_aload_n hx hb d_2_4_32 rfl (lv_at hl 0 rfl) ?_
  refine lv_dup hx hb d_2_4_33 rfl ?_
  refine gget hx hb hts inW_0 hown hK hP2 0 rfl rfl hp0 0 rfl (by decide) k_1_42 d_2_4_34 ?_
  refine lv_iconst (v := 1) hx hb d_2_4_37 (by decide) ?_
  refine lv_iadd hx hb d_2_4_38 ?_
  refine lv_topi (fun y3 ey3 => ?_)
  obtain rfl : y3 = 3 := ey3.trans (by decide)
  refine gput hx hb hts inW_0 tyX0 tyX0_ok nmX0 hown hK hP2 hD2 hS2 0 rfl rfl hp0 1 (by decide) k_1_42 rfl rfl rfl d_2_4_39 (L' := [(1, .int 3), (0, .ref a1)]) rfl (fun f4 H4 locs4 hF4 hm4 hP4 hD4 hS4 => ?_)
  have hM4 := gM.tr (gM.rf (f := g0)) hm4
  have hP4 : va_P D cls [(a0, .inr (0, rg 3 f4)), (a1, .inl (ca 0, 3000, .inl f2))] H4 := hP4
  have hD4 : va_D A [(a0, .inr (0, rg 3 f4)), (a1, .inl (ca 0, 3000, .inl f2))] := hD4
  clear hP2 hD2 hS2 hm4
  have hP9 := hP4.sub (ws' := [(a0, .inr (0, rg 3 f4)), (a1, .inl (ca 0, 3000, .inl f2))]) [0, 1] rfl
  have hD9 := hD4.sub (ws' := [(a0, .inr (0, rg 3 f4)), (a1, .inl (ca 0, 3000, .inl f2))]) [0, 1] (by decide) rfl
  refine W.widen (k := 0) (n := 0) (Nat.le_of_ble_eq_true rfl) (Nat.le_of_ble_eq_true rfl) ?_
  exact W.vret hx hb hr (fun t ht hW => ⟨⟨(f4, f2), rfl, ⟨hM4.mono (by decide), hF4.sub [0] rfl, hF2.sub [] rfl⟩, by rw [ht]; exact hP9, va_K.moved hW.alike hK, hD9⟩, hS4.F ht⟩) hS4.2.2 d_2_4_42
abbrev Q_ByteRow_put_3 (D : va_G) (ca : Nat → ClassId) (a0 : Nat) (a1 : Nat) (g0 : Nat → Value) (g1 : Nat → Int32) (v0 : Int32) (A : Nat → Prop) : Array Value → State → Outcome → State → Prop := va_Qv (S := (Nat → Value) × (Nat → Int32)) (fun (u : (Nat → Value) × (Nat → Int32)) => gM g0 u.1 [1] ∧ gF u.1 [(1, .int 4)] ∧ gF u.2 []) (fun u => gB D ca A [(a0, .inr (0, rg 3 u.1)), (a1, .inl (ca 0, 3000, .inl u.2))]) A
set_option maxHeartbeats 8000000 in
set_option maxRecDepth 100000 in
theorem c_ByteRow_put_3 (l : Launch) (D : va_G) (ca : Nat → ClassId) (ad av : Nat → Nat) (sz : Nat) (a0 : Nat) (a1 : Nat) (g0 : Nat → Value) (g1 : Nat → Int32) (v0 : Int32) (hp0 : gF g0 [(1, .int 3), (0, .ref a1)]) (hp1 : gF g1 []) : Met l ({ cls := "StaveHouse$ByteRow", name := "put", desc := "(I)V" } : Jvm.MethodName) (Cond.code ({ cls := "StaveHouse$ByteRow", name := "put", desc := "(I)V" } : Jvm.MethodName) prog_2_method_4_code 2 (Option.none : Option Jvm.ClassFile.FieldType) :: wAll) ({ frames := 0, cells := 0, slots := 0, locals := 0 } : Room) (va_Pc [.ref a0, .int v0] (gPre D ca ad av [(a0, .inr (0, rg 3 g0)), (a1, .inl (ca 0, 3000, .inl g1))] sz)) (Q_ByteRow_put_3 D ca a0 a1 g0 g1 v0 (va_A [(a0, .inr (0, rg 3 g0)), (a1, .inl (ca 0, 3000, .inl g1))] sz)) 0 0 (va_A [(a0, .inr (0, rg 3 g0)), (a1, .inl (ca 0, 3000, .inl g1))] sz) := by
  refine gMet (Qc := Q_ByteRow_put_3 D ca a0 a1 g0 g1 v0) (lv := [(0, .ref a0), (1, .int v0)]) (by decide) (Nat.le_of_ble_eq_true rfl) rfl (fun A p e s m below meth c ls hx hb hr hml hown hts hlk hnm hl hP hK hD hS hA hX => ?_)
  have hown : s.vm.findClass "StaveHouse$ByteRow" = some m.cls := hown
  have hnm : meth.name = "put" := hnm
  refine lv_aload_n hx hb d_2_4_0 rfl (lv_at hl 0 rfl) ?_
  refine gget hx hb hts inW_0 hown hK hP 0 rfl rfl hp0 0 rfl (by decide) k_1_42 d_2_4_1 ?_
  refine lv_aload_n hx hb d_2_4_4 rfl (lv_at hl 0 rfl) ?_
  refine gget hx hb hts inW_0 hown hK hP 0 rfl rfl hp0 1 rfl (by decide) k_1_41 d_2_4_5 ?_
  refine va_alen (v := 3000) hx hb hK hP 1 0 rfl rfl rfl d_2_4_8 ?_
  refine lv_icmp_lt (tgt := 18) hx hb d_2_4_9 (by decide) (fun _ => ?_) (fun c => absurd (by decide) c)
  refine lv_aload_n hx hb d_2_4_18 rfl (lv_at hl 0 rfl) ?_
  refine gget hx hb hts inW_0 hown hK hP 0 rfl rfl hp0 1 rfl (by decide) k_1_41 d_2_4_19 ?_
  refine lv_aload_n hx hb d_2_4_22 rfl (lv_at hl 0 rfl) ?_
  refine gget hx hb hts inW_0 hown hK hP 0 rfl rfl hp0 0 rfl (by decide) k_1_42 d_2_4_23 ?_
  refine lv_iload_n hx hb d_2_4_26 rfl (lv_at hl 1 rfl) ?_
  refine lv_sipush (v := 255) hx hb d_2_4_27 (by decide) ?_
  refine lv_iand hx hb d_2_4_30 ?_
  refine lv_topi (fun y1 ey1 => ?_)
  refine gastX hx hb hK hP hD hS 1 0 rfl rfl (vinC (by decide)) d_2_4_31 (fun f2 H2 locs2 hP2 hD2 hS2 => ?_)
  have hF2 : gF f2 [] := gF_nil
  have hP2 : va_P D cls [(a0, .inr (0, rg 3 g0)), (a1, .inl (ca 0, 3000, .inl f2))] H2 := hP2
  have hD2 : va_D A [(a0, .inr (0, rg 3 g0)), (a1, .inl (ca 0, 3000, .inl f2))] := hD2
  refine lv_aload_n hx hb d_2_4_32 rfl (lv_at hl 0 rfl) ?_
  refine lv_dup hx hb d_2_4_33 rfl ?_
  refine gget hx hb hts inW_0 hown hK hP2 0 rfl rfl hp0 0 rfl (by decide) k_1_42 d_2_4_34 ?_
  refine lv_iconst (v := 1) hx hb d_2_4_37 (by decide) ?_
  refine lv_iadd hx hb d_2_4_38 ?_
  refine lv_topi (fun y3 ey3 => ?_)
  obtain rfl : y3 = 4 := ey3.trans (by decide)
  refine gput hx hb hts inW_0 tyX0 tyX0_ok nmX0 hown hK hP2 hD2 hS2 0 rfl rfl hp0 1 (by decide) k_1_42 rfl rfl rfl d_2_4_39 (L' := [(1, .int 4), (0, .ref a1)]) rfl (fun f4 H4 locs4 hF4 hm4 hP4 hD4 hS4 => ?_)
  have hM4 := gM.tr (gM.rf (f := g0)) hm4
  have hP4 : va_P D cls [(a0, .inr (0, rg 3 f4)), (a1, .inl (ca 0, 3000, .inl f2))] H4 := hP4
  have hD4 : va_D A [(a0, .inr (0, rg 3 f4)), (a1, .inl (ca 0, 3000, .inl f2))] := hD4
  clear hP2 hD2 hS2 hm4
  have hP9 := hP4.sub (ws' := [(a0, .inr (0, rg 3 f4)), (a1, .inl (ca 0, 3000, .inl f2))]) [0, 1] rfl
  have hD9 := hD4.sub (ws' := [(a0, .inr (0, rg 3 f4)), (a1, .inl (ca 0, 3000, .inl f2))]) [0, 1] (by decide) rfl
  refine W.widen (k := 0) (n := 0) (Nat.le_of_ble_eq_true rfl) (Nat.le_of_ble_eq_true rfl) ?_
  exact W.vret hx hb hr (fun t ht hW => ⟨⟨(f4, f2), rfl, ⟨hM4.mono (by decide), hF4.sub [0] rfl, hF2.sub [] rfl⟩, by rw [ht]; exact hP9, va_K.moved hW.alike hK, hD9⟩, hS4.F ht⟩) hS4.2.2 d_2_4_42
abbrev Q_ByteRow_put_4 (D : va_G) (ca : Nat → ClassId) (a0 : Nat) (a1 : Nat) (g0 : Nat → Value) (g1 : Nat → Int32) (v0 : Int32) (A : Nat → Prop) : Array Value → State → Outcome → State → Prop := va_Qv (S := (Nat → Value) × (Nat → Int32)) (fun (u : (Nat → Value) × (Nat → Int32)) => gM g0 u.1 [1] ∧ gF u.1 [(1, .int 5)] ∧ gF u.2 []) (fun u => gB D ca A [(a0, .inr (0, rg 3 u.1)), (a1, .inl (ca 0, 3000, .inl u.2))]) A
set_option maxHeartbeats 8000000 in
set_option maxRecDepth 100000 in
theorem c_ByteRow_put_4 (l : Launch) (D : va_G) (ca : Nat → ClassId) (ad av : Nat → Nat) (sz : Nat) (a0 : Nat) (a1 : Nat) (g0 : Nat → Value) (g1 : Nat → Int32) (v0 : Int32) (hp0 : gF g0 [(1, .int 4), (0, .ref a1)]) (hp1 : gF g1 []) : Met l ({ cls := "StaveHouse$ByteRow", name := "put", desc := "(I)V" } : Jvm.MethodName) (Cond.code ({ cls := "StaveHouse$ByteRow", name := "put", desc := "(I)V" } : Jvm.MethodName) prog_2_method_4_code 2 (Option.none : Option Jvm.ClassFile.FieldType) :: wAll) ({ frames := 0, cells := 0, slots := 0, locals := 0 } : Room) (va_Pc [.ref a0, .int v0] (gPre D ca ad av [(a0, .inr (0, rg 3 g0)), (a1, .inl (ca 0, 3000, .inl g1))] sz)) (Q_ByteRow_put_4 D ca a0 a1 g0 g1 v0 (va_A [(a0, .inr (0, rg 3 g0)), (a1, .inl (ca 0, 3000, .inl g1))] sz)) 0 0 (va_A [(a0, .inr (0, rg 3 g0)), (a1, .inl (ca 0, 3000, .inl g1))] sz) := by
  refine gMet (Qc := Q_ByteRow_put_4 D ca a0 a1 g0 g1 v0) (lv := [(0, .ref a0), (1, .int v0)]) (by decide) (Nat.le_of_ble_eq_true rfl) rfl (fun A p e s m below meth c ls hx hb hr hml hown hts hlk hnm hl hP hK hD hS hA hX => ?_)
  have hown : s.vm.findClass "StaveHouse$ByteRow" = some m.cls := hown
  have hnm : meth.name = "put" := hnm
  refine lv_aload_n hx hb d_2_4_0 rfl (lv_at hl 0 rfl) ?_
  refine gget hx hb hts inW_0 hown hK hP 0 rfl rfl hp0 0 rfl (by decide) k_1_42 d_2_4_1 ?_
  refine lv_aload_n hx hb d_2_4_4 rfl (lv_at hl 0 rfl) ?_
  refine gget hx hb hts inW_0 hown hK hP 0 rfl rfl hp0 1 rfl (by decide) k_1_41 d_2_4_5 ?_
  refine va_alen (v := 3000) hx hb hK hP 1 0 rfl rfl rfl d_2_4_8 ?_
  refine lv_icmp_lt (tgt := 18) hx hb d_2_4_9 (by decide) (fun _ => ?_) (fun c => absurd (by decide) c)
  refine lv_aload_n hx hb d_2_4_18 rfl (lv_at hl 0 rfl) ?_
  refine gget hx hb hts inW_0 hown hK hP 0 rfl rfl hp0 1 rfl (by decide) k_1_41 d_2_4_19 ?_
  refine lv_aload_n hx hb d_2_4_22 rfl (lv_at hl 0 rfl) ?_
  refine gget hx hb hts inW_0 hown hK hP 0 rfl rfl hp0 0 rfl (by decide) k_1_42 d_2_4_23 ?_
  refine lv_iload_n hx hb d_2_4_26 rfl (lv_at hl 1 rfl) ?_
  refine lv_sipush (v := 255) hx hb d_2_4_27 (by decide) ?_
  refine lv_iand hx hb d_2_4_30 ?_
  refine lv_topi (fun y1 ey1 => ?_)
  refine gastX hx hb hK hP hD hS 1 0 rfl rfl (vinC (by decide)) d_2_4_31 (fun f2 H2 locs2 hP2 hD2 hS2 => ?_)
  have hF2 : gF f2 [] := gF_nil
  have hP2 : va_P D cls [(a0, .inr (0, rg 3 g0)), (a1, .inl (ca 0, 3000, .inl f2))] H2 := hP2
  have hD2 : va_D A [(a0, .inr (0, rg 3 g0)), (a1, .inl (ca 0, 3000, .inl f2))] := hD2
  refine lv_aload_n hx hb d_2_4_32 rfl (lv_at hl 0 rfl) ?_
  refine lv_dup hx hb d_2_4_33 rfl ?_
  refine gget hx hb hts inW_0 hown hK hP2 0 rfl rfl hp0 0 rfl (by decide) k_1_42 d_2_4_34 ?_
  refine lv_iconst (v := 1) hx hb d_2_4_37 (by decide) ?_
  refine lv_iadd hx hb d_2_4_38 ?_
  refine lv_topi (fun y3 ey3 => ?_)
  obtain rfl : y3 = 5 := ey3.trans (by decide)
  refine gput hx hb hts inW_0 tyX0 tyX0_ok nmX0 hown hK hP2 hD2 hS2 0 rfl rfl hp0 1 (by decide) k_1_42 rfl rfl rfl d_2_4_39 (L' := [(1, .int 5), (0, .ref a1)]) rfl (fun f4 H4 locs4 hF4 hm4 hP4 hD4 hS4 => ?_)
  have hM4 := gM.tr (gM.rf (f := g0)) hm4
  have hP4 : va_P D cls [(a0, .inr (0, rg 3 f4)), (a1, .inl (ca 0, 3000, .inl f2))] H4 := hP4
  have hD4 : va_D A [(a0, .inr (0, rg 3 f4)), (a1, .inl (ca 0, 3000, .inl f2))] := hD4
  clear hP2 hD2 hS2 hm4
  have hP9 := hP4.sub (ws' := [(a0, .inr (0, rg 3 f4)), (a1, .inl (ca 0, 3000, .inl f2))]) [0, 1] rfl
  have hD9 := hD4.sub (ws' := [(a0, .inr (0, rg 3 f4)), (a1, .inl (ca 0, 3000, .inl f2))]) [0, 1] (by decide) rfl
  refine W.widen (k := 0) (n := 0) (Nat.le_of_ble_eq_true rfl) (Nat.le_of_ble_eq_true rfl) ?_
  exact W.vret hx hb hr (fun t ht hW => ⟨⟨(f4, f2), rfl, ⟨hM4.mono (by decide), hF4.sub [0] rfl, hF2.sub [] rfl⟩, by rw [ht]; exact hP9, va_K.moved hW.alike hK, hD9⟩, hS4.F ht⟩) hS4.2.2 d_2_4_42
abbrev Q_ByteRow_put_5 (D : va_G) (ca : Nat → ClassId) (a0 : Nat) (a1 : Nat) (g0 : Nat → Value) (g1 : Nat → Int32) (v0 : Int32) (A : Nat → Prop) : Array Value → State → Outcome → State → Prop := va_Qv (S := (Nat → Value) × (Nat → Int32)) (fun (u : (Nat → Value) × (Nat → Int32)) => gM g0 u.1 [1] ∧ gF u.1 [(1, .int 6)] ∧ gF u.2 []) (fun u => gB D ca A [(a0, .inr (0, rg 3 u.1)), (a1, .inl (ca 0, 3000, .inl u.2))]) A
set_option maxHeartbeats 8000000 in
set_option maxRecDepth 100000 in
theorem c_ByteRow_put_5 (l : Launch) (D : va_G) (ca : Nat → ClassId) (ad av : Nat → Nat) (sz : Nat) (a0 : Nat) (a1 : Nat) (g0 : Nat → Value) (g1 : Nat → Int32) (v0 : Int32) (hp0 : gF g0 [(1, .int 5), (0, .ref a1)]) (hp1 : gF g1 []) : Met l ({ cls := "StaveHouse$ByteRow", name := "put", desc := "(I)V" } : Jvm.MethodName) (Cond.code ({ cls := "StaveHouse$ByteRow", name := "put", desc := "(I)V" } : Jvm.MethodName) prog_2_method_4_code 2 (Option.none : Option Jvm.ClassFile.FieldType) :: wAll) ({ frames := 0, cells := 0, slots := 0, locals := 0 } : Room) (va_Pc [.ref a0, .int v0] (gPre D ca ad av [(a0, .inr (0, rg 3 g0)), (a1, .inl (ca 0, 3000, .inl g1))] sz)) (Q_ByteRow_put_5 D ca a0 a1 g0 g1 v0 (va_A [(a0, .inr (0, rg 3 g0)), (a1, .inl (ca 0, 3000, .inl g1))] sz)) 0 0 (va_A [(a0, .inr (0, rg 3 g0)), (a1, .inl (ca 0, 3000, .inl g1))] sz) := by
  refine gMet (Qc := Q_ByteRow_put_5 D ca a0 a1 g0 g1 v0) (lv := [(0, .ref a0), (1, .int v0)]) (by decide) (Nat.le_of_ble_eq_true rfl) rfl (fun A p e s m below meth c ls hx hb hr hml hown hts hlk hnm hl hP hK hD hS hA hX => ?_)
  have hown : s.vm.findClass "StaveHouse$ByteRow" = some m.cls := hown
  have hnm : meth.name = "put" := hnm
  refine lv_aload_n hx hb d_2_4_0 rfl (lv_at hl 0 rfl) ?_
  refine gget hx hb hts inW_0 hown hK hP 0 rfl rfl hp0 0 rfl (by decide) k_1_42 d_2_4_1 ?_
  refine lv_aload_n hx hb d_2_4_4 rfl (lv_at hl 0 rfl) ?_
  refine gget hx hb hts inW_0 hown hK hP 0 rfl rfl hp0 1 rfl (by decide) k_1_41 d_2_4_5 ?_
  refine va_alen (v := 3000) hx hb hK hP 1 0 rfl rfl rfl d_2_4_8 ?_
  refine lv_icmp_lt (tgt := 18) hx hb d_2_4_9 (by decide) (fun _ => ?_) (fun c => absurd (by decide) c)
  refine lv_aload_n hx hb d_2_4_18 rfl (lv_at hl 0 rfl) ?_
  refine gget hx hb hts inW_0 hown hK hP 0 rfl rfl hp0 1 rfl (by decide) k_1_41 d_2_4_19 ?_
  refine lv_aload_n hx hb d_2_4_22 rfl (lv_at hl 0 rfl) ?_
  refine gget hx hb hts inW_0 hown hK hP 0 rfl rfl hp0 0 rfl (by decide) k_1_42 d_2_4_23 ?_
  refine lv_iload_n hx hb d_2_4_26 rfl (lv_at hl 1 rfl) ?_
  refine lv_sipush (v := 255) hx hb d_2_4_27 (by decide) ?_
  refine lv_iand hx hb d_2_4_30 ?_
  refine lv_topi (fun y1 ey1 => ?_)
  refine gastX hx hb hK hP hD hS 1 0 rfl rfl (vinC (by decide)) d_2_4_31 (fun f2 H2 locs2 hP2 hD2 hS2 => ?_)
  have hF2 : gF f2 [] := gF_nil
  have hP2 : va_P D cls [(a0, .inr (0, rg 3 g0)), (a1, .inl (ca 0, 3000, .inl f2))] H2 := hP2
  have hD2 : va_D A [(a0, .inr (0, rg 3 g0)), (a1, .inl (ca 0, 3000, .inl f2))] := hD2
  refine lv_aload_n hx hb d_2_4_32 rfl (lv_at hl 0 rfl) ?_
  refine lv_dup hx hb d_2_4_33 rfl ?_
  refine gget hx hb hts inW_0 hown hK hP2 0 rfl rfl hp0 0 rfl (by decide) k_1_42 d_2_4_34 ?_
  refine lv_iconst (v := 1) hx hb d_2_4_37 (by decide) ?_
  refine lv_iadd hx hb d_2_4_38 ?_
  refine lv_topi (fun y3 ey3 => ?_)
  obtain rfl : y3 = 6 := ey3.trans (by decide)
  refine gput hx hb hts inW_0 tyX0 tyX0_ok nmX0 hown hK hP2 hD2 hS2 0 rfl rfl hp0 1 (by decide) k_1_42 rfl rfl rfl d_2_4_39 (L' := [(1, .int 6), (0, .ref a1)]) rfl (fun f4 H4 locs4 hF4 hm4 hP4 hD4 hS4 => ?_)
  have hM4 := gM.tr (gM.rf (f := g0)) hm4
  have hP4 : va_P D cls [(a0, .inr (0, rg 3 f4)), (a1, .inl (ca 0, 3000, .inl f2))] H4 := hP4
  have hD4 : va_D A [(a0, .inr (0, rg 3 f4)), (a1, .inl (ca 0, 3000, .inl f2))] := hD4
  clear hP2 hD2 hS2 hm4
  have hP9 := hP4.sub (ws' := [(a0, .inr (0, rg 3 f4)), (a1, .inl (ca 0, 3000, .inl f2))]) [0, 1] rfl
  have hD9 := hD4.sub (ws' := [(a0, .inr (0, rg 3 f4)), (a1, .inl (ca 0, 3000, .inl f2))]) [0, 1] (by decide) rfl
  refine W.widen (k := 0) (n := 0) (Nat.le_of_ble_eq_true rfl) (Nat.le_of_ble_eq_true rfl) ?_
  exact W.vret hx hb hr (fun t ht hW => ⟨⟨(f4, f2), rfl, ⟨hM4.mono (by decide), hF4.sub [0] rfl, hF2.sub [] rfl⟩, by rw [ht]; exact hP9, va_K.moved hW.alike hK, hD9⟩, hS4.F ht⟩) hS4.2.2 d_2_4_42
abbrev Q_ByteRow_put_6 (D : va_G) (ca : Nat → ClassId) (a0 : Nat) (a1 : Nat) (g0 : Nat → Value) (g1 : Nat → Int32) (v0 : Int32) (A : Nat → Prop) : Array Value → State → Outcome → State → Prop := va_Qv (S := (Nat → Value) × (Nat → Int32)) (fun (u : (Nat → Value) × (Nat → Int32)) => gM g0 u.1 [1] ∧ gF u.1 [(1, .int 7)] ∧ gF u.2 []) (fun u => gB D ca A [(a0, .inr (0, rg 3 u.1)), (a1, .inl (ca 0, 3000, .inl u.2))]) A
set_option maxHeartbeats 8000000 in
set_option maxRecDepth 100000 in
theorem c_ByteRow_put_6 (l : Launch) (D : va_G) (ca : Nat → ClassId) (ad av : Nat → Nat) (sz : Nat) (a0 : Nat) (a1 : Nat) (g0 : Nat → Value) (g1 : Nat → Int32) (v0 : Int32) (hp0 : gF g0 [(1, .int 6), (0, .ref a1)]) (hp1 : gF g1 []) : Met l ({ cls := "StaveHouse$ByteRow", name := "put", desc := "(I)V" } : Jvm.MethodName) (Cond.code ({ cls := "StaveHouse$ByteRow", name := "put", desc := "(I)V" } : Jvm.MethodName) prog_2_method_4_code 2 (Option.none : Option Jvm.ClassFile.FieldType) :: wAll) ({ frames := 0, cells := 0, slots := 0, locals := 0 } : Room) (va_Pc [.ref a0, .int v0] (gPre D ca ad av [(a0, .inr (0, rg 3 g0)), (a1, .inl (ca 0, 3000, .inl g1))] sz)) (Q_ByteRow_put_6 D ca a0 a1 g0 g1 v0 (va_A [(a0, .inr (0, rg 3 g0)), (a1, .inl (ca 0, 3000, .inl g1))] sz)) 0 0 (va_A [(a0, .inr (0, rg 3 g0)), (a1, .inl (ca 0, 3000, .inl g1))] sz) := by
  refine gMet (Qc := Q_ByteRow_put_6 D ca a0 a1 g0 g1 v0) (lv := [(0, .ref a0), (1, .int v0)]) (by decide) (Nat.le_of_ble_eq_true rfl) rfl (fun A p e s m below meth c ls hx hb hr hml hown hts hlk hnm hl hP hK hD hS hA hX => ?_)
  have hown : s.vm.findClass "StaveHouse$ByteRow" = some m.cls := hown
  have hnm : meth.name = "put" := hnm
  refine lv_aload_n hx hb d_2_4_0 rfl (lv_at hl 0 rfl) ?_
  refine gget hx hb hts inW_0 hown hK hP 0 rfl rfl hp0 0 rfl (by decide) k_1_42 d_2_4_1 ?_
  refine lv_aload_n hx hb d_2_4_4 rfl (lv_at hl 0 rfl) ?_
  refine gget hx hb hts inW_0 hown hK hP 0 rfl rfl hp0 1 rfl (by decide) k_1_41 d_2_4_5 ?_
  refine va_alen (v := 3000) hx hb hK hP 1 0 rfl rfl rfl d_2_4_8 ?_
  refine lv_icmp_lt (tgt := 18) hx hb d_2_4_9 (by decide) (fun _ => ?_) (fun c => absurd (by decide) c)
  refine lv_aload_n hx hb d_2_4_18 rfl (lv_at hl 0 rfl) ?_
  refine gget hx hb hts inW_0 hown hK hP 0 rfl rfl hp0 1 rfl (by decide) k_1_41 d_2_4_19 ?_
  refine lv_aload_n hx hb d_2_4_22 rfl (lv_at hl 0 rfl) ?_
  refine gget hx hb hts inW_0 hown hK hP 0 rfl rfl hp0 0 rfl (by decide) k_1_42 d_2_4_23 ?_
  refine lv_iload_n hx hb d_2_4_26 rfl (lv_at hl 1 rfl) ?_
  refine lv_sipush (v := 255) hx hb d_2_4_27 (by decide) ?_
  refine lv_iand hx hb d_2_4_30 ?_
  refine lv_topi (fun y1 ey1 => ?_)
  refine gastX hx hb hK hP hD hS 1 0 rfl rfl (vinC (by decide)) d_2_4_31 (fun f2 H2 locs2 hP2 hD2 hS2 => ?_)
  have hF2 : gF f2 [] := gF_nil
  have hP2 : va_P D cls [(a0, .inr (0, rg 3 g0)), (a1, .inl (ca 0, 3000, .inl f2))] H2 := hP2
  have hD2 : va_D A [(a0, .inr (0, rg 3 g0)), (a1, .inl (ca 0, 3000, .inl f2))] := hD2
  refine lv_aload_n hx hb d_2_4_32 rfl (lv_at hl 0 rfl) ?_
  refine lv_dup hx hb d_2_4_33 rfl ?_
  refine gget hx hb hts inW_0 hown hK hP2 0 rfl rfl hp0 0 rfl (by decide) k_1_42 d_2_4_34 ?_
  refine lv_iconst (v := 1) hx hb d_2_4_37 (by decide) ?_
  refine lv_iadd hx hb d_2_4_38 ?_
  refine lv_topi (fun y3 ey3 => ?_)
  obtain rfl : y3 = 7 := ey3.trans (by decide)
  refine gput hx hb hts inW_0 tyX0 tyX0_ok nmX0 hown hK hP2 hD2 hS2 0 rfl rfl hp0 1 (by decide) k_1_42 rfl rfl rfl d_2_4_39 (L' := [(1, .int 7), (0, .ref a1)]) rfl (fun f4 H4 locs4 hF4 hm4 hP4 hD4 hS4 => ?_)
  have hM4 := gM.tr (gM.rf (f := g0)) hm4
  have hP4 : va_P D cls [(a0, .inr (0, rg 3 f4)), (a1, .inl (ca 0, 3000, .inl f2))] H4 := hP4
  have hD4 : va_D A [(a0, .inr (0, rg 3 f4)), (a1, .inl (ca 0, 3000, .inl f2))] := hD4
  clear hP2 hD2 hS2 hm4
  have hP9 := hP4.sub (ws' := [(a0, .inr (0, rg 3 f4)), (a1, .inl (ca 0, 3000, .inl f2))]) [0, 1] rfl
  have hD9 := hD4.sub (ws' := [(a0, .inr (0, rg 3 f4)), (a1, .inl (ca 0, 3000, .inl f2))]) [0, 1] (by decide) rfl
  refine W.widen (k := 0) (n := 0) (Nat.le_of_ble_eq_true rfl) (Nat.le_of_ble_eq_true rfl) ?_
  exact W.vret hx hb hr (fun t ht hW => ⟨⟨(f4, f2), rfl, ⟨hM4.mono (by decide), hF4.sub [0] rfl, hF2.sub [] rfl⟩, by rw [ht]; exact hP9, va_K.moved hW.alike hK, hD9⟩, hS4.F ht⟩) hS4.2.2 d_2_4_42
abbrev Q_ByteRow_put_7 (D : va_G) (ca : Nat → ClassId) (a0 : Nat) (a1 : Nat) (g0 : Nat → Value) (g1 : Nat → Int32) (v0 : Int32) (A : Nat → Prop) : Array Value → State → Outcome → State → Prop := va_Qv (S := (Nat → Value) × (Nat → Int32)) (fun (u : (Nat → Value) × (Nat → Int32)) => gM g0 u.1 [1] ∧ gF u.1 [(1, .int 8)] ∧ gF u.2 []) (fun u => gB D ca A [(a0, .inr (0, rg 3 u.1)), (a1, .inl (ca 0, 3000, .inl u.2))]) A
set_option maxHeartbeats 8000000 in
set_option maxRecDepth 100000 in
theorem c_ByteRow_put_7 (l : Launch) (D : va_G) (ca : Nat → ClassId) (ad av : Nat → Nat) (sz : Nat) (a0 : Nat) (a1 : Nat) (g0 : Nat → Value) (g1 : Nat → Int32) (v0 : Int32) (hp0 : gF g0 [(1, .int 7), (0, .ref a1)]) (hp1 : gF g1 []) : Met l ({ cls := "StaveHouse$ByteRow", name := "put", desc := "(I)V" } : Jvm.MethodName) (Cond.code ({ cls := "StaveHouse$ByteRow", name := "put", desc := "(I)V" } : Jvm.MethodName) prog_2_method_4_code 2 (Option.none : Option Jvm.ClassFile.FieldType) :: wAll) ({ frames := 0, cells := 0, slots := 0, locals := 0 } : Room) (va_Pc [.ref a0, .int v0] (gPre D ca ad av [(a0, .inr (0, rg 3 g0)), (a1, .inl (ca 0, 3000, .inl g1))] sz)) (Q_ByteRow_put_7 D ca a0 a1 g0 g1 v0 (va_A [(a0, .inr (0, rg 3 g0)), (a1, .inl (ca 0, 3000, .inl g1))] sz)) 0 0 (va_A [(a0, .inr (0, rg 3 g0)), (a1, .inl (ca 0, 3000, .inl g1))] sz) := by
  refine gMet (Qc := Q_ByteRow_put_7 D ca a0 a1 g0 g1 v0) (lv := [(0, .ref a0), (1, .int v0)]) (by decide) (Nat.le_of_ble_eq_true rfl) rfl (fun A p e s m below meth c ls hx hb hr hml hown hts hlk hnm hl hP hK hD hS hA hX => ?_)
  have hown : s.vm.findClass "StaveHouse$ByteRow" = some m.cls := hown
  have hnm : meth.name = "put" := hnm
  refine lv_aload_n hx hb d_2_4_0 rfl (lv_at hl 0 rfl) ?_
  refine gget hx hb hts inW_0 hown hK hP 0 rfl rfl hp0 0 rfl (by decide) k_1_42 d_2_4_1 ?_
  refine lv_aload_n hx hb d_2_4_4 rfl (lv_at hl 0 rfl) ?_
  refine gget hx hb hts inW_0 hown hK hP 0 rfl rfl hp0 1 rfl (by decide) k_1_41 d_2_4_5 ?_
  refine va_alen (v := 3000) hx hb hK hP 1 0 rfl rfl rfl d_2_4_8 ?_
  refine lv_icmp_lt (tgt := 18) hx hb d_2_4_9 (by decide) (fun _ => ?_) (fun c => absurd (by decide) c)
  refine lv_aload_n hx hb d_2_4_18 rfl (lv_at hl 0 rfl) ?_
  refine gget hx hb hts inW_0 hown hK hP 0 rfl rfl hp0 1 rfl (by decide) k_1_41 d_2_4_19 ?_
  refine lv_aload_n hx hb d_2_4_22 rfl (lv_at hl 0 rfl) ?_
  refine gget hx hb hts inW_0 hown hK hP 0 rfl rfl hp0 0 rfl (by decide) k_1_42 d_2_4_23 ?_
  refine lv_iload_n hx hb d_2_4_26 rfl (lv_at hl 1 rfl) ?_
  refine lv_sipush (v := 255) hx hb d_2_4_27 (by decide) ?_
  refine lv_iand hx hb d_2_4_30 ?_
  refine lv_topi (fun y1 ey1 => ?_)
  refine gastX hx hb hK hP hD hS 1 0 rfl rfl (vinC (by decide)) d_2_4_31 (fun f2 H2 locs2 hP2 hD2 hS2 => ?_)
  have hF2 : gF f2 [] := gF_nil
  have hP2 : va_P D cls [(a0, .inr (0, rg 3 g0)), (a1, .inl (ca 0, 3000, .inl f2))] H2 := hP2
  have hD2 : va_D A [(a0, .inr (0, rg 3 g0)), (a1, .inl (ca 0, 3000, .inl f2))] := hD2
  refine lv_aload_n hx hb d_2_4_32 rfl (lv_at hl 0 rfl) ?_
  refine lv_dup hx hb d_2_4_33 rfl ?_
  refine gget hx hb hts inW_0 hown hK hP2 0 rfl rfl hp0 0 rfl (by decide) k_1_42 d_2_4_34 ?_
  refine lv_iconst (v := 1) hx hb d_2_4_37 (by decide) ?_
  refine lv_iadd hx hb d_2_4_38 ?_
  refine lv_topi (fun y3 ey3 => ?_)
  obtain rfl : y3 = 8 := ey3.trans (by decide)
  refine gput hx hb hts inW_0 tyX0 tyX0_ok nmX0 hown hK hP2 hD2 hS2 0 rfl rfl hp0 1 (by decide) k_1_42 rfl rfl rfl d_2_4_39 (L' := [(1, .int 8), (0, .ref a1)]) rfl (fun f4 H4 locs4 hF4 hm4 hP4 hD4 hS4 => ?_)
  have hM4 := gM.tr (gM.rf (f := g0)) hm4
  have hP4 : va_P D cls [(a0, .inr (0, rg 3 f4)), (a1, .inl (ca 0, 3000, .inl f2))] H4 := hP4
  have hD4 : va_D A [(a0, .inr (0, rg 3 f4)), (a1, .inl (ca 0, 3000, .inl f2))] := hD4
  clear hP2 hD2 hS2 hm4
  have hP9 := hP4.sub (ws' := [(a0, .inr (0, rg 3 f4)), (a1, .inl (ca 0, 3000, .inl f2))]) [0, 1] rfl
  have hD9 := hD4.sub (ws' := [(a0, .inr (0, rg 3 f4)), (a1, .inl (ca 0, 3000, .inl f2))]) [0, 1] (by decide) rfl
  refine W.widen (k := 0) (n := 0) (Nat.le_of_ble_eq_true rfl) (Nat.le_of_ble_eq_true rfl) ?_
  exact W.vret hx hb hr (fun t ht hW => ⟨⟨(f4, f2), rfl, ⟨hM4.mono (by decide), hF4.sub [0] rfl, hF2.sub [] rfl⟩, by rw [ht]; exact hP9, va_K.moved hW.alike hK, hD9⟩, hS4.F ht⟩) hS4.2.2 d_2_4_42
abbrev Q_ByteRow_put_8 (D : va_G) (ca : Nat → ClassId) (a0 : Nat) (a1 : Nat) (g0 : Nat → Value) (g1 : Nat → Int32) (v0 : Int32) (A : Nat → Prop) : Array Value → State → Outcome → State → Prop := va_Qv (S := (Nat → Value) × (Nat → Int32)) (fun (u : (Nat → Value) × (Nat → Int32)) => gM g0 u.1 [1] ∧ gF u.1 [(1, .int 9)] ∧ gF u.2 []) (fun u => gB D ca A [(a0, .inr (0, rg 3 u.1)), (a1, .inl (ca 0, 3000, .inl u.2))]) A
set_option maxHeartbeats 8000000 in
set_option maxRecDepth 100000 in
theorem c_ByteRow_put_8 (l : Launch) (D : va_G) (ca : Nat → ClassId) (ad av : Nat → Nat) (sz : Nat) (a0 : Nat) (a1 : Nat) (g0 : Nat → Value) (g1 : Nat → Int32) (v0 : Int32) (hp0 : gF g0 [(1, .int 8), (0, .ref a1)]) (hp1 : gF g1 []) : Met l ({ cls := "StaveHouse$ByteRow", name := "put", desc := "(I)V" } : Jvm.MethodName) (Cond.code ({ cls := "StaveHouse$ByteRow", name := "put", desc := "(I)V" } : Jvm.MethodName) prog_2_method_4_code 2 (Option.none : Option Jvm.ClassFile.FieldType) :: wAll) ({ frames := 0, cells := 0, slots := 0, locals := 0 } : Room) (va_Pc [.ref a0, .int v0] (gPre D ca ad av [(a0, .inr (0, rg 3 g0)), (a1, .inl (ca 0, 3000, .inl g1))] sz)) (Q_ByteRow_put_8 D ca a0 a1 g0 g1 v0 (va_A [(a0, .inr (0, rg 3 g0)), (a1, .inl (ca 0, 3000, .inl g1))] sz)) 0 0 (va_A [(a0, .inr (0, rg 3 g0)), (a1, .inl (ca 0, 3000, .inl g1))] sz) := by
  refine gMet (Qc := Q_ByteRow_put_8 D ca a0 a1 g0 g1 v0) (lv := [(0, .ref a0), (1, .int v0)]) (by decide) (Nat.le_of_ble_eq_true rfl) rfl (fun A p e s m below meth c ls hx hb hr hml hown hts hlk hnm hl hP hK hD hS hA hX => ?_)
  have hown : s.vm.findClass "StaveHouse$ByteRow" = some m.cls := hown
  have hnm : meth.name = "put" := hnm
  refine lv_aload_n hx hb d_2_4_0 rfl (lv_at hl 0 rfl) ?_
  refine gget hx hb hts inW_0 hown hK hP 0 rfl rfl hp0 0 rfl (by decide) k_1_42 d_2_4_1 ?_
  refine lv_aload_n hx hb d_2_4_4 rfl (lv_at hl 0 rfl) ?_
  refine gget hx hb hts inW_0 hown hK hP 0 rfl rfl hp0 1 rfl (by decide) k_1_41 d_2_4_5 ?_
  refine va_alen (v := 3000) hx hb hK hP 1 0 rfl rfl rfl d_2_4_8 ?_
  refine lv_icmp_lt (tgt := 18) hx hb d_2_4_9 (by decide) (fun _ => ?_) (fun c => absurd (by decide) c)
  refine lv_aload_n hx hb d_2_4_18 rfl (lv_at hl 0 rfl) ?_
  refine gget hx hb hts inW_0 hown hK hP 0 rfl rfl hp0 1 rfl (by decide) k_1_41 d_2_4_19 ?_
  refine lv_aload_n hx hb d_2_4_22 rfl (lv_at hl 0 rfl) ?_
  refine gget hx hb hts inW_0 hown hK hP 0 rfl rfl hp0 0 rfl (by decide) k_1_42 d_2_4_23 ?_
  refine lv_iload_n hx hb d_2_4_26 rfl (lv_at hl 1 rfl) ?_
  refine lv_sipush (v := 255) hx hb d_2_4_27 (by decide) ?_
  refine lv_iand hx hb d_2_4_30 ?_
  refine lv_topi (fun y1 ey1 => ?_)
  refine gastX hx hb hK hP hD hS 1 0 rfl rfl (vinC (by decide)) d_2_4_31 (fun f2 H2 locs2 hP2 hD2 hS2 => ?_)
  have hF2 : gF f2 [] := gF_nil
  have hP2 : va_P D cls [(a0, .inr (0, rg 3 g0)), (a1, .inl (ca 0, 3000, .inl f2))] H2 := hP2
  have hD2 : va_D A [(a0, .inr (0, rg 3 g0)), (a1, .inl (ca 0, 3000, .inl f2))] := hD2
  refine lv_aload_n hx hb d_2_4_32 rfl (lv_at hl 0 rfl) ?_
  refine lv_dup hx hb d_2_4_33 rfl ?_
  refine gget hx hb hts inW_0 hown hK hP2 0 rfl rfl hp0 0 rfl (by decide) k_1_42 d_2_4_34 ?_
  refine lv_iconst (v := 1) hx hb d_2_4_37 (by decide) ?_
  refine lv_iadd hx hb d_2_4_38 ?_
  refine lv_topi (fun y3 ey3 => ?_)
  obtain rfl : y3 = 9 := ey3.trans (by decide)
  refine gput hx hb hts inW_0 tyX0 tyX0_ok nmX0 hown hK hP2 hD2 hS2 0 rfl rfl hp0 1 (by decide) k_1_42 rfl rfl rfl d_2_4_39 (L' := [(1, .int 9), (0, .ref a1)]) rfl (fun f4 H4 locs4 hF4 hm4 hP4 hD4 hS4 => ?_)
  have hM4 := gM.tr (gM.rf (f := g0)) hm4
  have hP4 : va_P D cls [(a0, .inr (0, rg 3 f4)), (a1, .inl (ca 0, 3000, .inl f2))] H4 := hP4
  have hD4 : va_D A [(a0, .inr (0, rg 3 f4)), (a1, .inl (ca 0, 3000, .inl f2))] := hD4
  clear hP2 hD2 hS2 hm4
  have hP9 := hP4.sub (ws' := [(a0, .inr (0, rg 3 f4)), (a1, .inl (ca 0, 3000, .inl f2))]) [0, 1] rfl
  have hD9 := hD4.sub (ws' := [(a0, .inr (0, rg 3 f4)), (a1, .inl (ca 0, 3000, .inl f2))]) [0, 1] (by decide) rfl
  refine W.widen (k := 0) (n := 0) (Nat.le_of_ble_eq_true rfl) (Nat.le_of_ble_eq_true rfl) ?_
  exact W.vret hx hb hr (fun t ht hW => ⟨⟨(f4, f2), rfl, ⟨hM4.mono (by decide), hF4.sub [0] rfl, hF2.sub [] rfl⟩, by rw [ht]; exact hP9, va_K.moved hW.alike hK, hD9⟩, hS4.F ht⟩) hS4.2.2 d_2_4_42
abbrev Q_ByteRow_put_9 (D : va_G) (ca : Nat → ClassId) (a0 : Nat) (a1 : Nat) (g0 : Nat → Value) (g1 : Nat → Int32) (v0 : Int32) (A : Nat → Prop) : Array Value → State → Outcome → State → Prop := va_Qv (S := (Nat → Value) × (Nat → Int32)) (fun (u : (Nat → Value) × (Nat → Int32)) => gM g0 u.1 [1] ∧ gF u.1 [(1, .int 10)] ∧ gF u.2 []) (fun u => gB D ca A [(a0, .inr (0, rg 3 u.1)), (a1, .inl (ca 0, 3000, .inl u.2))]) A
set_option maxHeartbeats 8000000 in
set_option maxRecDepth 100000 in
theorem c_ByteRow_put_9 (l : Launch) (D : va_G) (ca : Nat → ClassId) (ad av : Nat → Nat) (sz : Nat) (a0 : Nat) (a1 : Nat) (g0 : Nat → Value) (g1 : Nat → Int32) (v0 : Int32) (hp0 : gF g0 [(1, .int 9), (0, .ref a1)]) (hp1 : gF g1 []) : Met l ({ cls := "StaveHouse$ByteRow", name := "put", desc := "(I)V" } : Jvm.MethodName) (Cond.code ({ cls := "StaveHouse$ByteRow", name := "put", desc := "(I)V" } : Jvm.MethodName) prog_2_method_4_code 2 (Option.none : Option Jvm.ClassFile.FieldType) :: wAll) ({ frames := 0, cells := 0, slots := 0, locals := 0 } : Room) (va_Pc [.ref a0, .int v0] (gPre D ca ad av [(a0, .inr (0, rg 3 g0)), (a1, .inl (ca 0, 3000, .inl g1))] sz)) (Q_ByteRow_put_9 D ca a0 a1 g0 g1 v0 (va_A [(a0, .inr (0, rg 3 g0)), (a1, .inl (ca 0, 3000, .inl g1))] sz)) 0 0 (va_A [(a0, .inr (0, rg 3 g0)), (a1, .inl (ca 0, 3000, .inl g1))] sz) := by
  refine gMet (Qc := Q_ByteRow_put_9 D ca a0 a1 g0 g1 v0) (lv := [(0, .ref a0), (1, .int v0)]) (by decide) (Nat.le_of_ble_eq_true rfl) rfl (fun A p e s m below meth c ls hx hb hr hml hown hts hlk hnm hl hP hK hD hS hA hX => ?_)
  have hown : s.vm.findClass "StaveHouse$ByteRow" = some m.cls := hown
  have hnm : meth.name = "put" := hnm
  refine lv_aload_n hx hb d_2_4_0 rfl (lv_at hl 0 rfl) ?_
  refine gget hx hb hts inW_0 hown hK hP 0 rfl rfl hp0 0 rfl (by decide) k_1_42 d_2_4_1 ?_
  refine lv_aload_n hx hb d_2_4_4 rfl (lv_at hl 0 rfl) ?_
  refine gget hx hb hts inW_0 hown hK hP 0 rfl rfl hp0 1 rfl (by decide) k_1_41 d_2_4_5 ?_
  refine va_alen (v := 3000) hx hb hK hP 1 0 rfl rfl rfl d_2_4_8 ?_
  refine lv_icmp_lt (tgt := 18) hx hb d_2_4_9 (by decide) (fun _ => ?_) (fun c => absurd (by decide) c)
  refine lv_aload_n hx hb d_2_4_18 rfl (lv_at hl 0 rfl) ?_
  refine gget hx hb hts inW_0 hown hK hP 0 rfl rfl hp0 1 rfl (by decide) k_1_41 d_2_4_19 ?_
  refine lv_aload_n hx hb d_2_4_22 rfl (lv_at hl 0 rfl) ?_
  refine gget hx hb hts inW_0 hown hK hP 0 rfl rfl hp0 0 rfl (by decide) k_1_42 d_2_4_23 ?_
  refine lv_iload_n hx hb d_2_4_26 rfl (lv_at hl 1 rfl) ?_
  refine lv_sipush (v := 255) hx hb d_2_4_27 (by decide) ?_
  refine lv_iand hx hb d_2_4_30 ?_
  refine lv_topi (fun y1 ey1 => ?_)
  refine gastX hx hb hK hP hD hS 1 0 rfl rfl (vinC (by decide)) d_2_4_31 (fun f2 H2 locs2 hP2 hD2 hS2 => ?_)
  have hF2 : gF f2 [] := gF_nil
  have hP2 : va_P D cls [(a0, .inr (0, rg 3 g0)), (a1, .inl (ca 0, 3000, .inl f2))] H2 := hP2
  have hD2 : va_D A [(a0, .inr (0, rg 3 g0)), (a1, .inl (ca 0, 3000, .inl f2))] := hD2
  refine lv_aload_n hx hb d_2_4_32 rfl (lv_at hl 0 rfl) ?_
  refine lv_dup hx hb d_2_4_33 rfl ?_
  refine gget hx hb hts inW_0 hown hK hP2 0 rfl rfl hp0 0 rfl (by decide) k_1_42 d_2_4_34 ?_
  refine lv_iconst (v := 1) hx hb d_2_4_37 (by decide) ?_
  refine lv_iadd hx hb d_2_4_38 ?_
  refine lv_topi (fun y3 ey3 => ?_)
  obtain rfl : y3 = 10 := ey3.trans (by decide)
  refine gput hx hb hts inW_0 tyX0 tyX0_ok nmX0 hown hK hP2 hD2 hS2 0 rfl rfl hp0 1 (by decide) k_1_42 rfl rfl rfl d_2_4_39 (L' := [(1, .int 10), (0, .ref a1)]) rfl (fun f4 H4 locs4 hF4 hm4 hP4 hD4 hS4 => ?_)
  have hM4 := gM.tr (gM.rf (f := g0)) hm4
  have hP4 : va_P D cls [(a0, .inr (0, rg 3 f4)), (a1, .inl (ca 0, 3000, .inl f2))] H4 := hP4
  have hD4 : va_D A [(a0, .inr (0, rg 3 f4)), (a1, .inl (ca 0, 3000, .inl f2))] := hD4
  clear hP2 hD2 hS2 hm4
  have hP9 := hP4.sub (ws' := [(a0, .inr (0, rg 3 f4)), (a1, .inl (ca 0, 3000, .inl f2))]) [0, 1] rfl
  have hD9 := hD4.sub (ws' := [(a0, .inr (0, rg 3 f4)), (a1, .inl (ca 0, 3000, .inl f2))]) [0, 1] (by decide) rfl
  refine W.widen (k := 0) (n := 0) (Nat.le_of_ble_eq_true rfl) (Nat.le_of_ble_eq_true rfl) ?_
  exact W.vret hx hb hr (fun t ht hW => ⟨⟨(f4, f2), rfl, ⟨hM4.mono (by decide), hF4.sub [0] rfl, hF2.sub [] rfl⟩, by rw [ht]; exact hP9, va_K.moved hW.alike hK, hD9⟩, hS4.F ht⟩) hS4.2.2 d_2_4_42
abbrev Q_ByteRow_put_10 (D : va_G) (ca : Nat → ClassId) (a0 : Nat) (a1 : Nat) (g0 : Nat → Value) (g1 : Nat → Int32) (v0 : Int32) (A : Nat → Prop) : Array Value → State → Outcome → State → Prop := va_Qv (S := (Nat → Value) × (Nat → Int32)) (fun (u : (Nat → Value) × (Nat → Int32)) => gM g0 u.1 [1] ∧ gF u.1 [(1, .int 11)] ∧ gF u.2 []) (fun u => gB D ca A [(a0, .inr (0, rg 3 u.1)), (a1, .inl (ca 0, 3000, .inl u.2))]) A
set_option maxHeartbeats 8000000 in
set_option maxRecDepth 100000 in
theorem c_ByteRow_put_10 (l : Launch) (D : va_G) (ca : Nat → ClassId) (ad av : Nat → Nat) (sz : Nat) (a0 : Nat) (a1 : Nat) (g0 : Nat → Value) (g1 : Nat → Int32) (v0 : Int32) (hp0 : gF g0 [(1, .int 10), (0, .ref a1)]) (hp1 : gF g1 []) : Met l ({ cls := "StaveHouse$ByteRow", name := "put", desc := "(I)V" } : Jvm.MethodName) (Cond.code ({ cls := "StaveHouse$ByteRow", name := "put", desc := "(I)V" } : Jvm.MethodName) prog_2_method_4_code 2 (Option.none : Option Jvm.ClassFile.FieldType) :: wAll) ({ frames := 0, cells := 0, slots := 0, locals := 0 } : Room) (va_Pc [.ref a0, .int v0] (gPre D ca ad av [(a0, .inr (0, rg 3 g0)), (a1, .inl (ca 0, 3000, .inl g1))] sz)) (Q_ByteRow_put_10 D ca a0 a1 g0 g1 v0 (va_A [(a0, .inr (0, rg 3 g0)), (a1, .inl (ca 0, 3000, .inl g1))] sz)) 0 0 (va_A [(a0, .inr (0, rg 3 g0)), (a1, .inl (ca 0, 3000, .inl g1))] sz) := by
  refine gMet (Qc := Q_ByteRow_put_10 D ca a0 a1 g0 g1 v0) (lv := [(0, .ref a0), (1, .int v0)]) (by decide) (Nat.le_of_ble_eq_true rfl) rfl (fun A p e s m below meth c ls hx hb hr hml hown hts hlk hnm hl hP hK hD hS hA hX => ?_)
  have hown : s.vm.findClass "StaveHouse$ByteRow" = some m.cls := hown
  have hnm : meth.name = "put" := hnm
  refine lv_aload_n hx hb d_2_4_0 rfl (lv_at hl 0 rfl) ?_
  refine gget hx hb hts inW_0 hown hK hP 0 rfl rfl hp0 0 rfl (by decide) k_1_42 d_2_4_1 ?_
  refine lv_aload_n hx hb d_2_4_4 rfl (lv_at hl 0 rfl) ?_
  refine gget hx hb hts inW_0 hown hK hP 0 rfl rfl hp0 1 rfl (by decide) k_1_41 d_2_4_5 ?_
  refine va_alen (v := 3000) hx hb hK hP 1 0 rfl rfl rfl d_2_4_8 ?_
  refine lv_icmp_lt (tgt := 18) hx hb d_2_4_9 (by decide) (fun _ => ?_) (fun c => absurd (by decide) c)
  refine lv_aload_n hx hb d_2_4_18 rfl (lv_at hl 0 rfl) ?_
  refine gget hx hb hts inW_0 hown hK hP 0 rfl rfl hp0 1 rfl (by decide) k_1_41 d_2_4_19 ?_
  refine lv_aload_n hx hb d_2_4_22 rfl (lv_at hl 0 rfl) ?_
  refine gget hx hb hts inW_0 hown hK hP 0 rfl rfl hp0 0 rfl (by decide) k_1_42 d_2_4_23 ?_
  refine lv_iload_n hx hb d_2_4_26 rfl (lv_at hl 1 rfl) ?_
  refine lv_sipush (v := 255) hx hb d_2_4_27 (by decide) ?_
  refine lv_iand hx hb d_2_4_30 ?_
  refine lv_topi (fun y1 ey1 => ?_)
  refine gastX hx hb hK hP hD hS 1 0 rfl rfl (vinC (by decide)) d_2_4_31 (fun f2 H2 locs2 hP2 hD2 hS2 => ?_)
  have hF2 : gF f2 [] := gF_nil
  have hP2 : va_P D cls [(a0, .inr (0, rg 3 g0)), (a1, .inl (ca 0, 3000, .inl f2))] H2 := hP2
  have hD2 : va_D A [(a0, .inr (0, rg 3 g0)), (a1, .inl (ca 0, 3000, .inl f2))] := hD2
  refine lv_aload_n hx hb d_2_4_32 rfl (lv_at hl 0 rfl) ?_
  refine lv_dup hx hb d_2_4_33 rfl ?_
  refine gget hx hb hts inW_0 hown hK hP2 0 rfl rfl hp0 0 rfl (by decide) k_1_42 d_2_4_34 ?_
  refine lv_iconst (v := 1) hx hb d_2_4_37 (by decide) ?_
  refine lv_iadd hx hb d_2_4_38 ?_
  refine lv_topi (fun y3 ey3 => ?_)
  obtain rfl : y3 = 11 := ey3.trans (by decide)
  refine gput hx hb hts inW_0 tyX0 tyX0_ok nmX0 hown hK hP2 hD2 hS2 0 rfl rfl hp0 1 (by decide) k_1_42 rfl rfl rfl d_2_4_39 (L' := [(1, .int 11), (0, .ref a1)]) rfl (fun f4 H4 locs4 hF4 hm4 hP4 hD4 hS4 => ?_)
  have hM4 := gM.tr (gM.rf (f := g0)) hm4
  have hP4 : va_P D cls [(a0, .inr (0, rg 3 f4)), (a1, .inl (ca 0, 3000, .inl f2))] H4 := hP4
  have hD4 : va_D A [(a0, .inr (0, rg 3 f4)), (a1, .inl (ca 0, 3000, .inl f2))] := hD4
  clear hP2 hD2 hS2 hm4
  have hP9 := hP4.sub (ws' := [(a0, .inr (0, rg 3 f4)), (a1, .inl (ca 0, 3000, .inl f2))]) [0, 1] rfl
  have hD9 := hD4.sub (ws' := [(a0, .inr (0, rg 3 f4)), (a1, .inl (ca 0, 3000, .inl f2))]) [0, 1] (by decide) rfl
  refine W.widen (k := 0) (n := 0) (Nat.le_of_ble_eq_true rfl) (Nat.le_of_ble_eq_true rfl) ?_
  exact W.vret hx hb hr (fun t ht hW => ⟨⟨(f4, f2), rfl, ⟨hM4.mono (by decide), hF4.sub [0] rfl, hF2.sub [] rfl⟩, by rw [ht]; exact hP9, va_K.moved hW.alike hK, hD9⟩, hS4.F ht⟩) hS4.2.2 d_2_4_42
abbrev Q_ByteRow_put_11 (D : va_G) (ca : Nat → ClassId) (a0 : Nat) (a1 : Nat) (g0 : Nat → Value) (g1 : Nat → Int32) (v0 : Int32) (A : Nat → Prop) : Array Value → State → Outcome → State → Prop := va_Qv (S := (Nat → Value) × (Nat → Int32)) (fun (u : (Nat → Value) × (Nat → Int32)) => gM g0 u.1 [1] ∧ gF u.1 [(1, .int 12)] ∧ gF u.2 []) (fun u => gB D ca A [(a0, .inr (0, rg 3 u.1)), (a1, .inl (ca 0, 3000, .inl u.2))]) A
set_option maxHeartbeats 8000000 in
set_option maxRecDepth 100000 in
theorem c_ByteRow_put_11 (l : Launch) (D : va_G) (ca : Nat → ClassId) (ad av : Nat → Nat) (sz : Nat) (a0 : Nat) (a1 : Nat) (g0 : Nat → Value) (g1 : Nat → Int32) (v0 : Int32) (hp0 : gF g0 [(1, .int 11), (0, .ref a1)]) (hp1 : gF g1 []) : Met l ({ cls := "StaveHouse$ByteRow", name := "put", desc := "(I)V" } : Jvm.MethodName) (Cond.code ({ cls := "StaveHouse$ByteRow", name := "put", desc := "(I)V" } : Jvm.MethodName) prog_2_method_4_code 2 (Option.none : Option Jvm.ClassFile.FieldType) :: wAll) ({ frames := 0, cells := 0, slots := 0, locals := 0 } : Room) (va_Pc [.ref a0, .int v0] (gPre D ca ad av [(a0, .inr (0, rg 3 g0)), (a1, .inl (ca 0, 3000, .inl g1))] sz)) (Q_ByteRow_put_11 D ca a0 a1 g0 g1 v0 (va_A [(a0, .inr (0, rg 3 g0)), (a1, .inl (ca 0, 3000, .inl g1))] sz)) 0 0 (va_A [(a0, .inr (0, rg 3 g0)), (a1, .inl (ca 0, 3000, .inl g1))] sz) := by
  refine gMet (Qc := Q_ByteRow_put_11 D ca a0 a1 g0 g1 v0) (lv := [(0, .ref a0), (1, .int v0)]) (by decide) (Nat.le_of_ble_eq_true rfl) rfl (fun A p e s m below meth c ls hx hb hr hml hown hts hlk hnm hl hP hK hD hS hA hX => ?_)
  have hown : s.vm.findClass "StaveHouse$ByteRow" = some m.cls := hown
  have hnm : meth.name = "put" := hnm
  refine lv_aload_n hx hb d_2_4_0 rfl (lv_at hl 0 rfl) ?_
  refine gget hx hb hts inW_0 hown hK hP 0 rfl rfl hp0 0 rfl (by decide) k_1_42 d_2_4_1 ?_
  refine lv_aload_n hx hb d_2_4_4 rfl (lv_at hl 0 rfl) ?_
  refine gget hx hb hts inW_0 hown hK hP 0 rfl rfl hp0 1 rfl (by decide) k_1_41 d_2_4_5 ?_
  refine va_alen (v := 3000) hx hb hK hP 1 0 rfl rfl rfl d_2_4_8 ?_
  refine lv_icmp_lt (tgt := 18) hx hb d_2_4_9 (by decide) (fun _ => ?_) (fun c => absurd (by decide) c)
  refine lv_aload_n hx hb d_2_4_18 rfl (lv_at hl 0 rfl) ?_
  refine gget hx hb hts inW_0 hown hK hP 0 rfl rfl hp0 1 rfl (by decide) k_1_41 d_2_4_19 ?_
  refine lv_aload_n hx hb d_2_4_22 rfl (lv_at hl 0 rfl) ?_
  refine gget hx hb hts inW_0 hown hK hP 0 rfl rfl hp0 0 rfl (by decide) k_1_42 d_2_4_23 ?_
  refine lv_iload_n hx hb d_2_4_26 rfl (lv_at hl 1 rfl) ?_
  refine lv_sipush (v := 255) hx hb d_2_4_27 (by decide) ?_
  refine lv_iand hx hb d_2_4_30 ?_
  refine lv_topi (fun y1 ey1 => ?_)
  refine gastX hx hb hK hP hD hS 1 0 rfl rfl (vinC (by decide)) d_2_4_31 (fun f2 H2 locs2 hP2 hD2 hS2 => ?_)
  have hF2 : gF f2 [] := gF_nil
  have hP2 : va_P D cls [(a0, .inr (0, rg 3 g0)), (a1, .inl (ca 0, 3000, .inl f2))] H2 := hP2
  have hD2 : va_D A [(a0, .inr (0, rg 3 g0)), (a1, .inl (ca 0, 3000, .inl f2))] := hD2
  refine lv_aload_n hx hb d_2_4_32 rfl (lv_at hl 0 rfl) ?_
  refine lv_dup hx hb d_2_4_33 rfl ?_
  refine gget hx hb hts inW_0 hown hK hP2 0 rfl rfl hp0 0 rfl (by decide) k_1_42 d_2_4_34 ?_
  refine lv_iconst (v := 1) hx hb d_2_4_37 (by decide) ?_
  refine lv_iadd hx hb d_2_4_38 ?_
  refine lv_topi (fun y3 ey3 => ?_)
  obtain rfl : y3 = 12 := ey3.trans (by decide)
  refine gput hx hb hts inW_0 tyX0 tyX0_ok nmX0 hown hK hP2 hD2 hS2 0 rfl rfl hp0 1 (by decide) k_1_42 rfl rfl rfl d_2_4_39 (L' := [(1, .int 12), (0, .ref a1)]) rfl (fun f4 H4 locs4 hF4 hm4 hP4 hD4 hS4 => ?_)
  have hM4 := gM.tr (gM.rf (f := g0)) hm4
  have hP4 : va_P D cls [(a0, .inr (0, rg 3 f4)), (a1, .inl (ca 0, 3000, .inl f2))] H4 := hP4
  have hD4 : va_D A [(a0, .inr (0, rg 3 f4)), (a1, .inl (ca 0, 3000, .inl f2))] := hD4
  clear hP2 hD2 hS2 hm4
  have hP9 := hP4.sub (ws' := [(a0, .inr (0, rg 3 f4)), (a1, .inl (ca 0, 3000, .inl f2))]) [0, 1] rfl
  have hD9 := hD4.sub (ws' := [(a0, .inr (0, rg 3 f4)), (a1, .inl (ca 0, 3000, .inl f2))]) [0, 1] (by decide) rfl
  refine W.widen (k := 0) (n := 0) (Nat.le_of_ble_eq_true rfl) (Nat.le_of_ble_eq_true rfl) ?_
  exact W.vret hx hb hr (fun t ht hW => ⟨⟨(f4, f2), rfl, ⟨hM4.mono (by decide), hF4.sub [0] rfl, hF2.sub [] rfl⟩, by rw [ht]; exact hP9, va_K.moved hW.alike hK, hD9⟩, hS4.F ht⟩) hS4.2.2 d_2_4_42
abbrev Q_ByteRow_put_12 (D : va_G) (ca : Nat → ClassId) (a0 : Nat) (a1 : Nat) (g0 : Nat → Value) (g1 : Nat → Int32) (v0 : Int32) (A : Nat → Prop) : Array Value → State → Outcome → State → Prop := va_Qv (S := (Nat → Value) × (Nat → Int32)) (fun (u : (Nat → Value) × (Nat → Int32)) => gM g0 u.1 [1] ∧ gF u.1 [(1, .int 13)] ∧ gF u.2 []) (fun u => gB D ca A [(a0, .inr (0, rg 3 u.1)), (a1, .inl (ca 0, 3000, .inl u.2))]) A
set_option maxHeartbeats 8000000 in
set_option maxRecDepth 100000 in
theorem c_ByteRow_put_12 (l : Launch) (D : va_G) (ca : Nat → ClassId) (ad av : Nat → Nat) (sz : Nat) (a0 : Nat) (a1 : Nat) (g0 : Nat → Value) (g1 : Nat → Int32) (v0 : Int32) (hp0 : gF g0 [(1, .int 12), (0, .ref a1)]) (hp1 : gF g1 []) : Met l ({ cls := "StaveHouse$ByteRow", name := "put", desc := "(I)V" } : Jvm.MethodName) (Cond.code ({ cls := "StaveHouse$ByteRow", name := "put", desc := "(I)V" } : Jvm.MethodName) prog_2_method_4_code 2 (Option.none : Option Jvm.ClassFile.FieldType) :: wAll) ({ frames := 0, cells := 0, slots := 0, locals := 0 } : Room) (va_Pc [.ref a0, .int v0] (gPre D ca ad av [(a0, .inr (0, rg 3 g0)), (a1, .inl (ca 0, 3000, .inl g1))] sz)) (Q_ByteRow_put_12 D ca a0 a1 g0 g1 v0 (va_A [(a0, .inr (0, rg 3 g0)), (a1, .inl (ca 0, 3000, .inl g1))] sz)) 0 0 (va_A [(a0, .inr (0, rg 3 g0)), (a1, .inl (ca 0, 3000, .inl g1))] sz) := by
  refine gMet (Qc := Q_ByteRow_put_12 D ca a0 a1 g0 g1 v0) (lv := [(0, .ref a0), (1, .int v0)]) (by decide) (Nat.le_of_ble_eq_true rfl) rfl (fun A p e s m below meth c ls hx hb hr hml hown hts hlk hnm hl hP hK hD hS hA hX => ?_)
  have hown : s.vm.findClass "StaveHouse$ByteRow" = some m.cls := hown
  have hnm : meth.name = "put" := hnm
  refine lv_aload_n hx hb d_2_4_0 rfl (lv_at hl 0 rfl) ?_
  refine gget hx hb hts inW_0 hown hK hP 0 rfl rfl hp0 0 rfl (by decide) k_1_42 d_2_4_1 ?_
  refine lv_aload_n hx hb d_2_4_4 rfl (lv_at hl 0 rfl) ?_
  refine gget hx hb hts inW_0 hown hK hP 0 rfl rfl hp0 1 rfl (by decide) k_1_41 d_2_4_5 ?_
  refine va_alen (v := 3000) hx hb hK hP 1 0 rfl rfl rfl d_2_4_8 ?_
  refine lv_icmp_lt (tgt := 18) hx hb d_2_4_9 (by decide) (fun _ => ?_) (fun c => absurd (by decide) c)
  refine lv_aload_n hx hb d_2_4_18 rfl (lv_at hl 0 rfl) ?_
  refine gget hx hb hts inW_0 hown hK hP 0 rfl rfl hp0 1 rfl (by decide) k_1_41 d_2_4_19 ?_
  refine lv_aload_n hx hb d_2_4_22 rfl (lv_at hl 0 rfl) ?_
  refine gget hx hb hts inW_0 hown hK hP 0 rfl rfl hp0 0 rfl (by decide) k_1_42 d_2_4_23 ?_
  refine lv_iload_n hx hb d_2_4_26 rfl (lv_at hl 1 rfl) ?_
  refine lv_sipush (v := 255) hx hb d_2_4_27 (by decide) ?_
  refine lv_iand hx hb d_2_4_30 ?_
  refine lv_topi (fun y1 ey1 => ?_)
  refine gastX hx hb hK hP hD hS 1 0 rfl rfl (vinC (by decide)) d_2_4_31 (fun f2 H2 locs2 hP2 hD2 hS2 => ?_)
  have hF2 : gF f2 [] := gF_nil
  have hP2 : va_P D cls [(a0, .inr (0, rg 3 g0)), (a1, .inl (ca 0, 3000, .inl f2))] H2 := hP2
  have hD2 : va_D A [(a0, .inr (0, rg 3 g0)), (a1, .inl (ca 0, 3000, .inl f2))] := hD2
  refine lv_aload_n hx hb d_2_4_32 rfl (lv_at hl 0 rfl) ?_
  refine lv_dup hx hb d_2_4_33 rfl ?_
  refine gget hx hb hts inW_0 hown hK hP2 0 rfl rfl hp0 0 rfl (by decide) k_1_42 d_2_4_34 ?_
  refine lv_iconst (v := 1) hx hb d_2_4_37 (by decide) ?_
  refine lv_iadd hx hb d_2_4_38 ?_
  refine lv_topi (fun y3 ey3 => ?_)
  obtain rfl : y3 = 13 := ey3.trans (by decide)
  refine gput hx hb hts inW_0 tyX0 tyX0_ok nmX0 hown hK hP2 hD2 hS2 0 rfl rfl hp0 1 (by decide) k_1_42 rfl rfl rfl d_2_4_39 (L' := [(1, .int 13), (0, .ref a1)]) rfl (fun f4 H4 locs4 hF4 hm4 hP4 hD4 hS4 => ?_)
  have hM4 := gM.tr (gM.rf (f := g0)) hm4
  have hP4 : va_P D cls [(a0, .inr (0, rg 3 f4)), (a1, .inl (ca 0, 3000, .inl f2))] H4 := hP4
  have hD4 : va_D A [(a0, .inr (0, rg 3 f4)), (a1, .inl (ca 0, 3000, .inl f2))] := hD4
  clear hP2 hD2 hS2 hm4
  have hP9 := hP4.sub (ws' := [(a0, .inr (0, rg 3 f4)), (a1, .inl (ca 0, 3000, .inl f2))]) [0, 1] rfl
  have hD9 := hD4.sub (ws' := [(a0, .inr (0, rg 3 f4)), (a1, .inl (ca 0, 3000, .inl f2))]) [0, 1] (by decide) rfl
  refine W.widen (k := 0) (n := 0) (Nat.le_of_ble_eq_true rfl) (Nat.le_of_ble_eq_true rfl) ?_
  exact W.vret hx hb hr (fun t ht hW => ⟨⟨(f4, f2), rfl, ⟨hM4.mono (by decide), hF4.sub [0] rfl, hF2.sub [] rfl⟩, by rw [ht]; exact hP9, va_K.moved hW.alike hK, hD9⟩, hS4.F ht⟩) hS4.2.2 d_2_4_42
abbrev Q_ByteRow_put_13 (D : va_G) (ca : Nat → ClassId) (a0 : Nat) (a1 : Nat) (g0 : Nat → Value) (g1 : Nat → Int32) (v0 : Int32) (A : Nat → Prop) : Array Value → State → Outcome → State → Prop := va_Qv (S := (Nat → Value) × (Nat → Int32)) (fun (u : (Nat → Value) × (Nat → Int32)) => gM g0 u.1 [1] ∧ gF u.1 [(1, .int 14)] ∧ gF u.2 []) (fun u => gB D ca A [(a0, .inr (0, rg 3 u.1)), (a1, .inl (ca 0, 3000, .inl u.2))]) A
set_option maxHeartbeats 8000000 in
set_option maxRecDepth 100000 in
theorem c_ByteRow_put_13 (l : Launch) (D : va_G) (ca : Nat → ClassId) (ad av : Nat → Nat) (sz : Nat) (a0 : Nat) (a1 : Nat) (g0 : Nat → Value) (g1 : Nat → Int32) (v0 : Int32) (hp0 : gF g0 [(1, .int 13), (0, .ref a1)]) (hp1 : gF g1 []) : Met l ({ cls := "StaveHouse$ByteRow", name := "put", desc := "(I)V" } : Jvm.MethodName) (Cond.code ({ cls := "StaveHouse$ByteRow", name := "put", desc := "(I)V" } : Jvm.MethodName) prog_2_method_4_code 2 (Option.none : Option Jvm.ClassFile.FieldType) :: wAll) ({ frames := 0, cells := 0, slots := 0, locals := 0 } : Room) (va_Pc [.ref a0, .int v0] (gPre D ca ad av [(a0, .inr (0, rg 3 g0)), (a1, .inl (ca 0, 3000, .inl g1))] sz)) (Q_ByteRow_put_13 D ca a0 a1 g0 g1 v0 (va_A [(a0, .inr (0, rg 3 g0)), (a1, .inl (ca 0, 3000, .inl g1))] sz)) 0 0 (va_A [(a0, .inr (0, rg 3 g0)), (a1, .inl (ca 0, 3000, .inl g1))] sz) := by
  refine gMet (Qc := Q_ByteRow_put_13 D ca a0 a1 g0 g1 v0) (lv := [(0, .ref a0), (1, .int v0)]) (by decide) (Nat.le_of_ble_eq_true rfl) rfl (fun A p e s m below meth c ls hx hb hr hml hown hts hlk hnm hl hP hK hD hS hA hX => ?_)
  have hown : s.vm.findClass "StaveHouse$ByteRow" = some m.cls := hown
  have hnm : meth.name = "put" := hnm
  refine lv_aload_n hx hb d_2_4_0 rfl (lv_at hl 0 rfl) ?_
  refine gget hx hb hts inW_0 hown hK hP 0 rfl rfl hp0 0 rfl (by decide) k_1_42 d_2_4_1 ?_
  refine lv_aload_n hx hb d_2_4_4 rfl (lv_at hl 0 rfl) ?_
  refine gget hx hb hts inW_0 hown hK hP 0 rfl rfl hp0 1 rfl (by decide) k_1_41 d_2_4_5 ?_
  refine va_alen (v := 3000) hx hb hK hP 1 0 rfl rfl rfl d_2_4_8 ?_
  refine lv_icmp_lt (tgt := 18) hx hb d_2_4_9 (by decide) (fun _ => ?_) (fun c => absurd (by decide) c)
  refine lv_aload_n hx hb d_2_4_18 rfl (lv_at hl 0 rfl) ?_
  refine gget hx hb hts inW_0 hown hK hP 0 rfl rfl hp0 1 rfl (by decide) k_1_41 d_2_4_19 ?_
  refine lv_aload_n hx hb d_2_4_22 rfl (lv_at hl 0 rfl) ?_
  refine gget hx hb hts inW_0 hown hK hP 0 rfl rfl hp0 0 rfl (by decide) k_1_42 d_2_4_23 ?_
  refine lv_iload_n hx hb d_2_4_26 rfl (lv_at hl 1 rfl) ?_
  refine lv_sipush (v := 255) hx hb d_2_4_27 (by decide) ?_
  refine lv_iand hx hb d_2_4_30 ?_
  refine lv_topi (fun y1 ey1 => ?_)
  refine gastX hx hb hK hP hD hS 1 0 rfl rfl (vinC (by decide)) d_2_4_31 (fun f2 H2 locs2 hP2 hD2 hS2 => ?_)
  have hF2 : gF f2 [] := gF_nil
  have hP2 : va_P D cls [(a0, .inr (0, rg 3 g0)), (a1, .inl (ca 0, 3000, .inl f2))] H2 := hP2
  have hD2 : va_D A [(a0, .inr (0, rg 3 g0)), (a1, .inl (ca 0, 3000, .inl f2))] := hD2
  refine lv_aload_n hx hb d_2_4_32 rfl (lv_at hl 0 rfl) ?_
  refine lv_dup hx hb d_2_4_33 rfl ?_
  refine gget hx hb hts inW_0 hown hK hP2 0 rfl rfl hp0 0 rfl (by decide) k_1_42 d_2_4_34 ?_
  refine lv_iconst (v := 1) hx hb d_2_4_37 (by decide) ?_
  refine lv_iadd hx hb d_2_4_38 ?_
  refine lv_topi (fun y3 ey3 => ?_)
  obtain rfl : y3 = 14 := ey3.trans (by decide)
  refine gput hx hb hts inW_0 tyX0 tyX0_ok nmX0 hown hK hP2 hD2 hS2 0 rfl rfl hp0 1 (by decide) k_1_42 rfl rfl rfl d_2_4_39 (L' := [(1, .int 14), (0, .ref a1)]) rfl (fun f4 H4 locs4 hF4 hm4 hP4 hD4 hS4 => ?_)
  have hM4 := gM.tr (gM.rf (f := g0)) hm4
  have hP4 : va_P D cls [(a0, .inr (0, rg 3 f4)), (a1, .inl (ca 0, 3000, .inl f2))] H4 := hP4
  have hD4 : va_D A [(a0, .inr (0, rg 3 f4)), (a1, .inl (ca 0, 3000, .inl f2))] := hD4
  clear hP2 hD2 hS2 hm4
  have hP9 := hP4.sub (ws' := [(a0, .inr (0, rg 3 f4)), (a1, .inl (ca 0, 3000, .inl f2))]) [0, 1] rfl
  have hD9 := hD4.sub (ws' := [(a0, .inr (0, rg 3 f4)), (a1, .inl (ca 0, 3000, .inl f2))]) [0, 1] (by decide) rfl
  refine W.widen (k := 0) (n := 0) (Nat.le_of_ble_eq_true rfl) (Nat.le_of_ble_eq_true rfl) ?_
  exact W.vret hx hb hr (fun t ht hW => ⟨⟨(f4, f2), rfl, ⟨hM4.mono (by decide), hF4.sub [0] rfl, hF2.sub [] rfl⟩, by rw [ht]; exact hP9, va_K.moved hW.alike hK, hD9⟩, hS4.F ht⟩) hS4.2.2 d_2_4_42
abbrev Q_ByteRow_put_14 (D : va_G) (ca : Nat → ClassId) (a0 : Nat) (a1 : Nat) (g0 : Nat → Value) (g1 : Nat → Int32) (v0 : Int32) (A : Nat → Prop) : Array Value → State → Outcome → State → Prop := va_Qv (S := (Nat → Value) × (Nat → Int32)) (fun (u : (Nat → Value) × (Nat → Int32)) => gM g0 u.1 [1] ∧ gF u.1 [(1, .int 15)] ∧ gF u.2 []) (fun u => gB D ca A [(a0, .inr (0, rg 3 u.1)), (a1, .inl (ca 0, 3000, .inl u.2))]) A
set_option maxHeartbeats 8000000 in
set_option maxRecDepth 100000 in
theorem c_ByteRow_put_14 (l : Launch) (D : va_G) (ca : Nat → ClassId) (ad av : Nat → Nat) (sz : Nat) (a0 : Nat) (a1 : Nat) (g0 : Nat → Value) (g1 : Nat → Int32) (v0 : Int32) (hp0 : gF g0 [(1, .int 14), (0, .ref a1)]) (hp1 : gF g1 []) : Met l ({ cls := "StaveHouse$ByteRow", name := "put", desc := "(I)V" } : Jvm.MethodName) (Cond.code ({ cls := "StaveHouse$ByteRow", name := "put", desc := "(I)V" } : Jvm.MethodName) prog_2_method_4_code 2 (Option.none : Option Jvm.ClassFile.FieldType) :: wAll) ({ frames := 0, cells := 0, slots := 0, locals := 0 } : Room) (va_Pc [.ref a0, .int v0] (gPre D ca ad av [(a0, .inr (0, rg 3 g0)), (a1, .inl (ca 0, 3000, .inl g1))] sz)) (Q_ByteRow_put_14 D ca a0 a1 g0 g1 v0 (va_A [(a0, .inr (0, rg 3 g0)), (a1, .inl (ca 0, 3000, .inl g1))] sz)) 0 0 (va_A [(a0, .inr (0, rg 3 g0)), (a1, .inl (ca 0, 3000, .inl g1))] sz) := by
  refine gMet (Qc := Q_ByteRow_put_14 D ca a0 a1 g0 g1 v0) (lv := [(0, .ref a0), (1, .int v0)]) (by decide) (Nat.le_of_ble_eq_true rfl) rfl (fun A p e s m below meth c ls hx hb hr hml hown hts hlk hnm hl hP hK hD hS hA hX => ?_)
  have hown : s.vm.findClass "StaveHouse$ByteRow" = some m.cls := hown
  have hnm : meth.name = "put" := hnm
  refine lv_aload_n hx hb d_2_4_0 rfl (lv_at hl 0 rfl) ?_
  refine gget hx hb hts inW_0 hown hK hP 0 rfl rfl hp0 0 rfl (by decide) k_1_42 d_2_4_1 ?_
  refine lv_aload_n hx hb d_2_4_4 rfl (lv_at hl 0 rfl) ?_
  refine gget hx hb hts inW_0 hown hK hP 0 rfl rfl hp0 1 rfl (by decide) k_1_41 d_2_4_5 ?_
  refine va_alen (v := 3000) hx hb hK hP 1 0 rfl rfl rfl d_2_4_8 ?_
  refine lv_icmp_lt (tgt := 18) hx hb d_2_4_9 (by decide) (fun _ => ?_) (fun c => absurd (by decide) c)
  refine lv_aload_n hx hb d_2_4_18 rfl (lv_at hl 0 rfl) ?_
  refine gget hx hb hts inW_0 hown hK hP 0 rfl rfl hp0 1 rfl (by decide) k_1_41 d_2_4_19 ?_
  refine lv_aload_n hx hb d_2_4_22 rfl (lv_at hl 0 rfl) ?_
  refine gget hx hb hts inW_0 hown hK hP 0 rfl rfl hp0 0 rfl (by decide) k_1_42 d_2_4_23 ?_
  refine lv_iload_n hx hb d_2_4_26 rfl (lv_at hl 1 rfl) ?_
  refine lv_sipush (v := 255) hx hb d_2_4_27 (by decide) ?_
  refine lv_iand hx hb d_2_4_30 ?_
  refine lv_topi (fun y1 ey1 => ?_)
  refine gastX hx hb hK hP hD hS 1 0 rfl rfl (vinC (by decide)) d_2_4_31 (fun f2 H2 locs2 hP2 hD2 hS2 => ?_)
  have hF2 : gF f2 [] := gF_nil
  have hP2 : va_P D cls [(a0, .inr (0, rg 3 g0)), (a1, .inl (ca 0, 3000, .inl f2))] H2 := hP2
  have hD2 : va_D A [(a0, .inr (0, rg 3 g0)), (a1, .inl (ca 0, 3000, .inl f2))] := hD2
  refine lv_aload_n hx hb d_2_4_32 rfl (lv_at hl 0 rfl) ?_
  refine lv_dup hx hb d_2_4_33 rfl ?_
  refine gget hx hb hts inW_0 hown hK hP2 0 rfl rfl hp0 0 rfl (by decide) k_1_42 d_2_4_34 ?_
  refine lv_iconst (v := 1) hx hb d_2_4_37 (by decide) ?_
  refine lv_iadd hx hb d_2_4_38 ?_
  refine lv_topi (fun y3 ey3 => ?_)
  obtain rfl : y3 = 15 := ey3.trans (by decide)
  refine gput hx hb hts inW_0 tyX0 tyX0_ok nmX0 hown hK hP2 hD2 hS2 0 rfl rfl hp0 1 (by decide) k_1_42 rfl rfl rfl d_2_4_39 (L' := [(1, .int 15), (0, .ref a1)]) rfl (fun f4 H4 locs4 hF4 hm4 hP4 hD4 hS4 => ?_)
  have hM4 := gM.tr (gM.rf (f := g0)) hm4
  have hP4 : va_P D cls [(a0, .inr (0, rg 3 f4)), (a1, .inl (ca 0, 3000, .inl f2))] H4 := hP4
  have hD4 : va_D A [(a0, .inr (0, rg 3 f4)), (a1, .inl (ca 0, 3000, .inl f2))] := hD4
  clear hP2 hD2 hS2 hm4
  have hP9 := hP4.sub (ws' := [(a0, .inr (0, rg 3 f4)), (a1, .inl (ca 0, 3000, .inl f2))]) [0, 1] rfl
  have hD9 := hD4.sub (ws' := [(a0, .inr (0, rg 3 f4)), (a1, .inl (ca 0, 3000, .inl f2))]) [0, 1] (by decide) rfl
  refine W.widen (k := 0) (n := 0) (Nat.le_of_ble_eq_true rfl) (Nat.le_of_ble_eq_true rfl) ?_
  exact W.vret hx hb hr (fun t ht hW => ⟨⟨(f4, f2), rfl, ⟨hM4.mono (by decide), hF4.sub [0] rfl, hF2.sub [] rfl⟩, by rw [ht]; exact hP9, va_K.moved hW.alike hK, hD9⟩, hS4.F ht⟩) hS4.2.2 d_2_4_42
abbrev Q_ByteRow_put_15 (D : va_G) (ca : Nat → ClassId) (a0 : Nat) (a1 : Nat) (g0 : Nat → Value) (g1 : Nat → Int32) (v0 : Int32) (A : Nat → Prop) : Array Value → State → Outcome → State → Prop := va_Qv (S := (Nat → Value) × (Nat → Int32)) (fun (u : (Nat → Value) × (Nat → Int32)) => gM g0 u.1 [1] ∧ gF u.1 [(1, .int 16)] ∧ gF u.2 []) (fun u => gB D ca A [(a0, .inr (0, rg 3 u.1)), (a1, .inl (ca 0, 3000, .inl u.2))]) A
set_option maxHeartbeats 8000000 in
set_option maxRecDepth 100000 in
theorem c_ByteRow_put_15 (l : Launch) (D : va_G) (ca : Nat → ClassId) (ad av : Nat → Nat) (sz : Nat) (a0 : Nat) (a1 : Nat) (g0 : Nat → Value) (g1 : Nat → Int32) (v0 : Int32) (hp0 : gF g0 [(1, .int 15), (0, .ref a1)]) (hp1 : gF g1 []) : Met l ({ cls := "StaveHouse$ByteRow", name := "put", desc := "(I)V" } : Jvm.MethodName) (Cond.code ({ cls := "StaveHouse$ByteRow", name := "put", desc := "(I)V" } : Jvm.MethodName) prog_2_method_4_code 2 (Option.none : Option Jvm.ClassFile.FieldType) :: wAll) ({ frames := 0, cells := 0, slots := 0, locals := 0 } : Room) (va_Pc [.ref a0, .int v0] (gPre D ca ad av [(a0, .inr (0, rg 3 g0)), (a1, .inl (ca 0, 3000, .inl g1))] sz)) (Q_ByteRow_put_15 D ca a0 a1 g0 g1 v0 (va_A [(a0, .inr (0, rg 3 g0)), (a1, .inl (ca 0, 3000, .inl g1))] sz)) 0 0 (va_A [(a0, .inr (0, rg 3 g0)), (a1, .inl (ca 0, 3000, .inl g1))] sz) := by
  refine gMet (Qc := Q_ByteRow_put_15 D ca a0 a1 g0 g1 v0) (lv := [(0, .ref a0), (1, .int v0)]) (by decide) (Nat.le_of_ble_eq_true rfl) rfl (fun A p e s m below meth c ls hx hb hr hml hown hts hlk hnm hl hP hK hD hS hA hX => ?_)
  have hown : s.vm.findClass "StaveHouse$ByteRow" = some m.cls := hown
  have hnm : meth.name = "put" := hnm
  refine lv_aload_n hx hb d_2_4_0 rfl (lv_at hl 0 rfl) ?_
  refine gget hx hb hts inW_0 hown hK hP 0 rfl rfl hp0 0 rfl (by decide) k_1_42 d_2_4_1 ?_
  refine lv_aload_n hx hb d_2_4_4 rfl (lv_at hl 0 rfl) ?_
  refine gget hx hb hts inW_0 hown hK hP 0 rfl rfl hp0 1 rfl (by decide) k_1_41 d_2_4_5 ?_
  refine va_alen (v := 3000) hx hb hK hP 1 0 rfl rfl rfl d_2_4_8 ?_
  refine lv_icmp_lt (tgt := 18) hx hb d_2_4_9 (by decide) (fun _ => ?_) (fun c => absurd (by decide) c)
  refine lv_aload_n hx hb d_2_4_18 rfl (lv_at hl 0 rfl) ?_
  refine gget hx hb hts inW_0 hown hK hP 0 rfl rfl hp0 1 rfl (by decide) k_1_41 d_2_4_19 ?_
  refine lv_aload_n hx hb d_2_4_22 rfl (lv_at hl 0 rfl) ?_
  refine gget hx hb hts inW_0 hown hK hP 0 rfl rfl hp0 0 rfl (by decide) k_1_42 d_2_4_23 ?_
  refine lv_iload_n hx hb d_2_4_26 rfl (lv_at hl 1 rfl) ?_
  refine lv_sipush (v := 255) hx hb d_2_4_27 (by decide) ?_
  refine lv_iand hx hb d_2_4_30 ?_
  refine lv_topi (fun y1 ey1 => ?_)
  refine gastX hx hb hK hP hD hS 1 0 rfl rfl (vinC (by decide)) d_2_4_31 (fun f2 H2 locs2 hP2 hD2 hS2 => ?_)
  have hF2 : gF f2 [] := gF_nil
  have hP2 : va_P D cls [(a0, .inr (0, rg 3 g0)), (a1, .inl (ca 0, 3000, .inl f2))] H2 := hP2
  have hD2 : va_D A [(a0, .inr (0, rg 3 g0)), (a1, .inl (ca 0, 3000, .inl f2))] := hD2
  refine lv_aload_n hx hb d_2_4_32 rfl (lv_at hl 0 rfl) ?_
  refine lv_dup hx hb d_2_4_33 rfl ?_
  refine gget hx hb hts inW_0 hown hK hP2 0 rfl rfl hp0 0 rfl (by decide) k_1_42 d_2_4_34 ?_
  refine lv_iconst (v := 1) hx hb d_2_4_37 (by decide) ?_
  refine lv_iadd hx hb d_2_4_38 ?_
  refine lv_topi (fun y3 ey3 => ?_)
  obtain rfl : y3 = 16 := ey3.trans (by decide)
  refine gput hx hb hts inW_0 tyX0 tyX0_ok nmX0 hown hK hP2 hD2 hS2 0 rfl rfl hp0 1 (by decide) k_1_42 rfl rfl rfl d_2_4_39 (L' := [(1, .int 16), (0, .ref a1)]) rfl (fun f4 H4 locs4 hF4 hm4 hP4 hD4 hS4 => ?_)
  have hM4 := gM.tr (gM.rf (f := g0)) hm4
  have hP4 : va_P D cls [(a0, .inr (0, rg 3 f4)), (a1, .inl (ca 0, 3000, .inl f2))] H4 := hP4
  have hD4 : va_D A [(a0, .inr (0, rg 3 f4)), (a1, .inl (ca 0, 3000, .inl f2))] := hD4
  clear hP2 hD2 hS2 hm4
  have hP9 := hP4.sub (ws' := [(a0, .inr (0, rg 3 f4)), (a1, .inl (ca 0, 3000, .inl f2))]) [0, 1] rfl
  have hD9 := hD4.sub (ws' := [(a0, .inr (0, rg 3 f4)), (a1, .inl (ca 0, 3000, .inl f2))]) [0, 1] (by decide) rfl
  refine W.widen (k := 0) (n := 0) (Nat.le_of_ble_eq_true rfl) (Nat.le_of_ble_eq_true rfl) ?_
  exact W.vret hx hb hr (fun t ht hW => ⟨⟨(f4, f2), rfl, ⟨hM4.mono (by decide), hF4.sub [0] rfl, hF2.sub [] rfl⟩, by rw [ht]; exact hP9, va_K.moved hW.alike hK, hD9⟩, hS4.F ht⟩) hS4.2.2 d_2_4_42
abbrev Q_ByteRow_put_16 (D : va_G) (ca : Nat → ClassId) (a0 : Nat) (a1 : Nat) (g0 : Nat → Value) (g1 : Nat → Int32) (v0 : Int32) (A : Nat → Prop) : Array Value → State → Outcome → State → Prop := va_Qv (S := (Nat → Value) × (Nat → Int32)) (fun (u : (Nat → Value) × (Nat → Int32)) => gM g0 u.1 [1] ∧ gF u.1 [(1, .int 17)] ∧ gF u.2 []) (fun u => gB D ca A [(a0, .inr (0, rg 3 u.1)), (a1, .inl (ca 0, 3000, .inl u.2))]) A
set_option maxHeartbeats 8000000 in
set_option maxRecDepth 100000 in
theorem c_ByteRow_put_16 (l : Launch) (D : va_G) (ca : Nat → ClassId) (ad av : Nat → Nat) (sz : Nat) (a0 : Nat) (a1 : Nat) (g0 : Nat → Value) (g1 : Nat → Int32) (v0 : Int32) (hp0 : gF g0 [(1, .int 16), (0, .ref a1)]) (hp1 : gF g1 []) : Met l ({ cls := "StaveHouse$ByteRow", name := "put", desc := "(I)V" } : Jvm.MethodName) (Cond.code ({ cls := "StaveHouse$ByteRow", name := "put", desc := "(I)V" } : Jvm.MethodName) prog_2_method_4_code 2 (Option.none : Option Jvm.ClassFile.FieldType) :: wAll) ({ frames := 0, cells := 0, slots := 0, locals := 0 } : Room) (va_Pc [.ref a0, .int v0] (gPre D ca ad av [(a0, .inr (0, rg 3 g0)), (a1, .inl (ca 0, 3000, .inl g1))] sz)) (Q_ByteRow_put_16 D ca a0 a1 g0 g1 v0 (va_A [(a0, .inr (0, rg 3 g0)), (a1, .inl (ca 0, 3000, .inl g1))] sz)) 0 0 (va_A [(a0, .inr (0, rg 3 g0)), (a1, .inl (ca 0, 3000, .inl g1))] sz) := by
  refine gMet (Qc := Q_ByteRow_put_16 D ca a0 a1 g0 g1 v0) (lv := [(0, .ref a0), (1, .int v0)]) (by decide) (Nat.le_of_ble_eq_true rfl) rfl (fun A p e s m below meth c ls hx hb hr hml hown hts hlk hnm hl hP hK hD hS hA hX => ?_)
  have hown : s.vm.findClass "StaveHouse$ByteRow" = some m.cls := hown
  have hnm : meth.name = "put" := hnm
  refine lv_aload_n hx hb d_2_4_0 rfl (lv_at hl 0 rfl) ?_
  refine gget hx hb hts inW_0 hown hK hP 0 rfl rfl hp0 0 rfl (by decide) k_1_42 d_2_4_1 ?_
  refine lv_aload_n hx hb d_2_4_4 rfl (lv_at hl 0 rfl) ?_
  refine gget hx hb hts inW_0 hown hK hP 0 rfl rfl hp0 1 rfl (by decide) k_1_41 d_2_4_5 ?_
  refine va_alen (v := 3000) hx hb hK hP 1 0 rfl rfl rfl d_2_4_8 ?_
  refine lv_icmp_lt (tgt := 18) hx hb d_2_4_9 (by decide) (fun _ => ?_) (fun c => absurd (by decide) c)
  refine lv_aload_n hx hb d_2_4_18 rfl (lv_at hl 0 rfl) ?_
  refine gget hx hb hts inW_0 hown hK hP 0 rfl rfl hp0 1 rfl (by decide) k_1_41 d_2_4_19 ?_
  refine lv_aload_n hx hb d_2_4_22 rfl (lv_at hl 0 rfl) ?_
  refine gget hx hb hts inW_0 hown hK hP 0 rfl rfl hp0 0 rfl (by decide) k_1_42 d_2_4_23 ?_
  refine lv_iload_n hx hb d_2_4_26 rfl (lv_at hl 1 rfl) ?_
  refine lv_sipush (v := 255) hx hb d_2_4_27 (by decide) ?_
  refine lv_iand hx hb d_2_4_30 ?_
  refine lv_topi (fun y1 ey1 => ?_)
  refine gastX hx hb hK hP hD hS 1 0 rfl rfl (vinC (by decide)) d_2_4_31 (fun f2 H2 locs2 hP2 hD2 hS2 => ?_)
  have hF2 : gF f2 [] := gF_nil
  have hP2 : va_P D cls [(a0, .inr (0, rg 3 g0)), (a1, .inl (ca 0, 3000, .inl f2))] H2 := hP2
  have hD2 : va_D A [(a0, .inr (0, rg 3 g0)), (a1, .inl (ca 0, 3000, .inl f2))] := hD2
  refine lv_aload_n hx hb d_2_4_32 rfl (lv_at hl 0 rfl) ?_
  refine lv_dup hx hb d_2_4_33 rfl ?_
  refine gget hx hb hts inW_0 hown hK hP2 0 rfl rfl hp0 0 rfl (by decide) k_1_42 d_2_4_34 ?_
  refine lv_iconst (v := 1) hx hb d_2_4_37 (by decide) ?_
  refine lv_iadd hx hb d_2_4_38 ?_
  refine lv_topi (fun y3 ey3 => ?_)
  obtain rfl : y3 = 17 := ey3.trans (by decide)
  refine gput hx hb hts inW_0 tyX0 tyX0_ok nmX0 hown hK hP2 hD2 hS2 0 rfl rfl hp0 1 (by decide) k_1_42 rfl rfl rfl d_2_4_39 (L' := [(1, .int 17), (0, .ref a1)]) rfl (fun f4 H4 locs4 hF4 hm4 hP4 hD4 hS4 => ?_)
  have hM4 := gM.tr (gM.rf (f := g0)) hm4
  have hP4 : va_P D cls [(a0, .inr (0, rg 3 f4)), (a1, .inl (ca 0, 3000, .inl f2))] H4 := hP4
  have hD4 : va_D A [(a0, .inr (0, rg 3 f4)), (a1, .inl (ca 0, 3000, .inl f2))] := hD4
  clear hP2 hD2 hS2 hm4
  have hP9 := hP4.sub (ws' := [(a0, .inr (0, rg 3 f4)), (a1, .inl (ca 0, 3000, .inl f2))]) [0, 1] rfl
  have hD9 := hD4.sub (ws' := [(a0, .inr (0, rg 3 f4)), (a1, .inl (ca 0, 3000, .inl f2))]) [0, 1] (by decide) rfl
  refine W.widen (k := 0) (n := 0) (Nat.le_of_ble_eq_true rfl) (Nat.le_of_ble_eq_true rfl) ?_
  exact W.vret hx hb hr (fun t ht hW => ⟨⟨(f4, f2), rfl, ⟨hM4.mono (by decide), hF4.sub [0] rfl, hF2.sub [] rfl⟩, by rw [ht]; exact hP9, va_K.moved hW.alike hK, hD9⟩, hS4.F ht⟩) hS4.2.2 d_2_4_42
abbrev Q_ByteRow_put_17 (D : va_G) (ca : Nat → ClassId) (a0 : Nat) (a1 : Nat) (g0 : Nat → Value) (g1 : Nat → Int32) (v0 : Int32) (A : Nat → Prop) : Array Value → State → Outcome → State → Prop := va_Qv (S := (Nat → Value) × (Nat → Int32)) (fun (u : (Nat → Value) × (Nat → Int32)) => gM g0 u.1 [1] ∧ gF u.1 [(1, .int 18)] ∧ gF u.2 []) (fun u => gB D ca A [(a0, .inr (0, rg 3 u.1)), (a1, .inl (ca 0, 3000, .inl u.2))]) A
set_option maxHeartbeats 8000000 in
set_option maxRecDepth 100000 in
theorem c_ByteRow_put_17 (l : Launch) (D : va_G) (ca : Nat → ClassId) (ad av : Nat → Nat) (sz : Nat) (a0 : Nat) (a1 : Nat) (g0 : Nat → Value) (g1 : Nat → Int32) (v0 : Int32) (hp0 : gF g0 [(1, .int 17), (0, .ref a1)]) (hp1 : gF g1 []) : Met l ({ cls := "StaveHouse$ByteRow", name := "put", desc := "(I)V" } : Jvm.MethodName) (Cond.code ({ cls := "StaveHouse$ByteRow", name := "put", desc := "(I)V" } : Jvm.MethodName) prog_2_method_4_code 2 (Option.none : Option Jvm.ClassFile.FieldType) :: wAll) ({ frames := 0, cells := 0, slots := 0, locals := 0 } : Room) (va_Pc [.ref a0, .int v0] (gPre D ca ad av [(a0, .inr (0, rg 3 g0)), (a1, .inl (ca 0, 3000, .inl g1))] sz)) (Q_ByteRow_put_17 D ca a0 a1 g0 g1 v0 (va_A [(a0, .inr (0, rg 3 g0)), (a1, .inl (ca 0, 3000, .inl g1))] sz)) 0 0 (va_A [(a0, .inr (0, rg 3 g0)), (a1, .inl (ca 0, 3000, .inl g1))] sz) := by
  refine gMet (Qc := Q_ByteRow_put_17 D ca a0 a1 g0 g1 v0) (lv := [(0, .ref a0), (1, .int v0)]) (by decide) (Nat.le_of_ble_eq_true rfl) rfl (fun A p e s m below meth c ls hx hb hr hml hown hts hlk hnm hl hP hK hD hS hA hX => ?_)
  have hown : s.vm.findClass "StaveHouse$ByteRow" = some m.cls := hown
  have hnm : meth.name = "put" := hnm
  refine lv_aload_n hx hb d_2_4_0 rfl (lv_at hl 0 rfl) ?_
  refine gget hx hb hts inW_0 hown hK hP 0 rfl rfl hp0 0 rfl (by decide) k_1_42 d_2_4_1 ?_
  refine lv_aload_n hx hb d_2_4_4 rfl (lv_at hl 0 rfl) ?_
  refine gget hx hb hts inW_0 hown hK hP 0 rfl rfl hp0 1 rfl (by decide) k_1_41 d_2_4_5 ?_
  refine va_alen (v := 3000) hx hb hK hP 1 0 rfl rfl rfl d_2_4_8 ?_
  refine lv_icmp_lt (tgt := 18) hx hb d_2_4_9 (by decide) (fun _ => ?_) (fun c => absurd (by decide) c)
  refine lv_aload_n hx hb d_2_4_18 rfl (lv_at hl 0 rfl) ?_
  refine gget hx hb hts inW_0 hown hK hP 0 rfl rfl hp0 1 rfl (by decide) k_1_41 d_2_4_19 ?_
  refine lv_aload_n hx hb d_2_4_22 rfl (lv_at hl 0 rfl) ?_
  refine gget hx hb hts inW_0 hown hK hP 0 rfl rfl hp0 0 rfl (by decide) k_1_42 d_2_4_23 ?_
  refine lv_iload_n hx hb d_2_4_26 rfl (lv_at hl 1 rfl) ?_
  refine lv_sipush (v := 255) hx hb d_2_4_27 (by decide) ?_
  refine lv_iand hx hb d_2_4_30 ?_
  refine lv_topi (fun y1 ey1 => ?_)
  refine gastX hx hb hK hP hD hS 1 0 rfl rfl (vinC (by decide)) d_2_4_31 (fun f2 H2 locs2 hP2 hD2 hS2 => ?_)
  have hF2 : gF f2 [] := gF_nil
  have hP2 : va_P D cls [(a0, .inr (0, rg 3 g0)), (a1, .inl (ca 0, 3000, .inl f2))] H2 := hP2
  have hD2 : va_D A [(a0, .inr (0, rg 3 g0)), (a1, .inl (ca 0, 3000, .inl f2))] := hD2
  refine lv_aload_n hx hb d_2_4_32 rfl (lv_at hl 0 rfl) ?_
  refine lv_dup hx hb d_2_4_33 rfl ?_
  refine gget hx hb hts inW_0 hown hK hP2 0 rfl rfl hp0 0 rfl (by decide) k_1_42 d_2_4_34 ?_
  refine lv_iconst (v := 1) hx hb d_2_4_37 (by decide) ?_
  refine lv_iadd hx hb d_2_4_38 ?_
  refine lv_topi (fun y3 ey3 => ?_)
  obtain rfl : y3 = 18 := ey3.trans (by decide)
  refine gput hx hb hts inW_0 tyX0 tyX0_ok nmX0 hown hK hP2 hD2 hS2 0 rfl rfl hp0 1 (by decide) k_1_42 rfl rfl rfl d_2_4_39 (L' := [(1, .int 18), (0, .ref a1)]) rfl (fun f4 H4 locs4 hF4 hm4 hP4 hD4 hS4 => ?_)
  have hM4 := gM.tr (gM.rf (f := g0)) hm4
  have hP4 : va_P D cls [(a0, .inr (0, rg 3 f4)), (a1, .inl (ca 0, 3000, .inl f2))] H4 := hP4
  have hD4 : va_D A [(a0, .inr (0, rg 3 f4)), (a1, .inl (ca 0, 3000, .inl f2))] := hD4
  clear hP2 hD2 hS2 hm4
  have hP9 := hP4.sub (ws' := [(a0, .inr (0, rg 3 f4)), (a1, .inl (ca 0, 3000, .inl f2))]) [0, 1] rfl
  have hD9 := hD4.sub (ws' := [(a0, .inr (0, rg 3 f4)), (a1, .inl (ca 0, 3000, .inl f2))]) [0, 1] (by decide) rfl
  refine W.widen (k := 0) (n := 0) (Nat.le_of_ble_eq_true rfl) (Nat.le_of_ble_eq_true rfl) ?_
  exact W.vret hx hb hr (fun t ht hW => ⟨⟨(f4, f2), rfl, ⟨hM4.mono (by decide), hF4.sub [0] rfl, hF2.sub [] rfl⟩, by rw [ht]; exact hP9, va_K.moved hW.alike hK, hD9⟩, hS4.F ht⟩) hS4.2.2 d_2_4_42
abbrev Q_ByteRow_put_18 (D : va_G) (ca : Nat → ClassId) (a0 : Nat) (a1 : Nat) (g0 : Nat → Value) (g1 : Nat → Int32) (v0 : Int32) (A : Nat → Prop) : Array Value → State → Outcome → State → Prop := va_Qv (S := (Nat → Value) × (Nat → Int32)) (fun (u : (Nat → Value) × (Nat → Int32)) => gM g0 u.1 [1] ∧ gF u.1 [(1, .int 19)] ∧ gF u.2 []) (fun u => gB D ca A [(a0, .inr (0, rg 3 u.1)), (a1, .inl (ca 0, 3000, .inl u.2))]) A
set_option maxHeartbeats 8000000 in
set_option maxRecDepth 100000 in
theorem c_ByteRow_put_18 (l : Launch) (D : va_G) (ca : Nat → ClassId) (ad av : Nat → Nat) (sz : Nat) (a0 : Nat) (a1 : Nat) (g0 : Nat → Value) (g1 : Nat → Int32) (v0 : Int32) (hp0 : gF g0 [(1, .int 18), (0, .ref a1)]) (hp1 : gF g1 []) : Met l ({ cls := "StaveHouse$ByteRow", name := "put", desc := "(I)V" } : Jvm.MethodName) (Cond.code ({ cls := "StaveHouse$ByteRow", name := "put", desc := "(I)V" } : Jvm.MethodName) prog_2_method_4_code 2 (Option.none : Option Jvm.ClassFile.FieldType) :: wAll) ({ frames := 0, cells := 0, slots := 0, locals := 0 } : Room) (va_Pc [.ref a0, .int v0] (gPre D ca ad av [(a0, .inr (0, rg 3 g0)), (a1, .inl (ca 0, 3000, .inl g1))] sz)) (Q_ByteRow_put_18 D ca a0 a1 g0 g1 v0 (va_A [(a0, .inr (0, rg 3 g0)), (a1, .inl (ca 0, 3000, .inl g1))] sz)) 0 0 (va_A [(a0, .inr (0, rg 3 g0)), (a1, .inl (ca 0, 3000, .inl g1))] sz) := by
  refine gMet (Qc := Q_ByteRow_put_18 D ca a0 a1 g0 g1 v0) (lv := [(0, .ref a0), (1, .int v0)]) (by decide) (Nat.le_of_ble_eq_true rfl) rfl (fun A p e s m below meth c ls hx hb hr hml hown hts hlk hnm hl hP hK hD hS hA hX => ?_)
  have hown : s.vm.findClass "StaveHouse$ByteRow" = some m.cls := hown
  have hnm : meth.name = "put" := hnm
  refine lv_aload_n hx hb d_2_4_0 rfl (lv_at hl 0 rfl) ?_
  refine gget hx hb hts inW_0 hown hK hP 0 rfl rfl hp0 0 rfl (by decide) k_1_42 d_2_4_1 ?_
  refine lv_aload_n hx hb d_2_4_4 rfl (lv_at hl 0 rfl) ?_
  refine gget hx hb hts inW_0 hown hK hP 0 rfl rfl hp0 1 rfl (by decide) k_1_41 d_2_4_5 ?_
  refine va_alen (v := 3000) hx hb hK hP 1 0 rfl rfl rfl d_2_4_8 ?_
  refine lv_icmp_lt (tgt := 18) hx hb d_2_4_9 (by decide) (fun _ => ?_) (fun c => absurd (by decide) c)
  refine lv_aload_n hx hb d_2_4_18 rfl (lv_at hl 0 rfl) ?_
  refine gget hx hb hts inW_0 hown hK hP 0 rfl rfl hp0 1 rfl (by decide) k_1_41 d_2_4_19 ?_
  refine lv_aload_n hx hb d_2_4_22 rfl (lv_at hl 0 rfl) ?_
  refine gget hx hb hts inW_0 hown hK hP 0 rfl rfl hp0 0 rfl (by decide) k_1_42 d_2_4_23 ?_
  refine lv_iload_n hx hb d_2_4_26 rfl (lv_at hl 1 rfl) ?_
  refine lv_sipush (v := 255) hx hb d_2_4_27 (by decide) ?_
  refine lv_iand hx hb d_2_4_30 ?_
  refine lv_topi (fun y1 ey1 => ?_)
  refine gastX hx hb hK hP hD hS 1 0 rfl rfl (vinC (by decide)) d_2_4_31 (fun f2 H2 locs2 hP2 hD2 hS2 => ?_)
  have hF2 : gF f2 [] := gF_nil
  have hP2 : va_P D cls [(a0, .inr (0, rg 3 g0)), (a1, .inl (ca 0, 3000, .inl f2))] H2 := hP2
  have hD2 : va_D A [(a0, .inr (0, rg 3 g0)), (a1, .inl (ca 0, 3000, .inl f2))] := hD2
  refine lv_aload_n hx hb d_2_4_32 rfl (lv_at hl 0 rfl) ?_
  refine lv_dup hx hb d_2_4_33 rfl ?_
  refine gget hx hb hts inW_0 hown hK hP2 0 rfl rfl hp0 0 rfl (by decide) k_1_42 d_2_4_34 ?_
  refine lv_iconst (v := 1) hx hb d_2_4_37 (by decide) ?_
  refine lv_iadd hx hb d_2_4_38 ?_
  refine lv_topi (fun y3 ey3 => ?_)
  obtain rfl : y3 = 19 := ey3.trans (by decide)
  refine gput hx hb hts inW_0 tyX0 tyX0_ok nmX0 hown hK hP2 hD2 hS2 0 rfl rfl hp0 1 (by decide) k_1_42 rfl rfl rfl d_2_4_39 (L' := [(1, .int 19), (0, .ref a1)]) rfl (fun f4 H4 locs4 hF4 hm4 hP4 hD4 hS4 => ?_)
  have hM4 := gM.tr (gM.rf (f := g0)) hm4
  have hP4 : va_P D cls [(a0, .inr (0, rg 3 f4)), (a1, .inl (ca 0, 3000, .inl f2))] H4 := hP4
  have hD4 : va_D A [(a0, .inr (0, rg 3 f4)), (a1, .inl (ca 0, 3000, .inl f2))] := hD4
  clear hP2 hD2 hS2 hm4
  have hP9 := hP4.sub (ws' := [(a0, .inr (0, rg 3 f4)), (a1, .inl (ca 0, 3000, .inl f2))]) [0, 1] rfl
  have hD9 := hD4.sub (ws' := [(a0, .inr (0, rg 3 f4)), (a1, .inl (ca 0, 3000, .inl f2))]) [0, 1] (by decide) rfl
  refine W.widen (k := 0) (n := 0) (Nat.le_of_ble_eq_true rfl) (Nat.le_of_ble_eq_true rfl) ?_
  exact W.vret hx hb hr (fun t ht hW => ⟨⟨(f4, f2), rfl, ⟨hM4.mono (by decide), hF4.sub [0] rfl, hF2.sub [] rfl⟩, by rw [ht]; exact hP9, va_K.moved hW.alike hK, hD9⟩, hS4.F ht⟩) hS4.2.2 d_2_4_42
abbrev Q_ByteRow_put_19 (D : va_G) (ca : Nat → ClassId) (a0 : Nat) (a1 : Nat) (g0 : Nat → Value) (g1 : Nat → Int32) (v0 : Int32) (A : Nat → Prop) : Array Value → State → Outcome → State → Prop := va_Qv (S := (Nat → Value) × (Nat → Int32)) (fun (u : (Nat → Value) × (Nat → Int32)) => gM g0 u.1 [1] ∧ gF u.1 [(1, .int 20)] ∧ gF u.2 []) (fun u => gB D ca A [(a0, .inr (0, rg 3 u.1)), (a1, .inl (ca 0, 3000, .inl u.2))]) A
set_option maxHeartbeats 8000000 in
set_option maxRecDepth 100000 in
theorem c_ByteRow_put_19 (l : Launch) (D : va_G) (ca : Nat → ClassId) (ad av : Nat → Nat) (sz : Nat) (a0 : Nat) (a1 : Nat) (g0 : Nat → Value) (g1 : Nat → Int32) (v0 : Int32) (hp0 : gF g0 [(1, .int 19), (0, .ref a1)]) (hp1 : gF g1 []) : Met l ({ cls := "StaveHouse$ByteRow", name := "put", desc := "(I)V" } : Jvm.MethodName) (Cond.code ({ cls := "StaveHouse$ByteRow", name := "put", desc := "(I)V" } : Jvm.MethodName) prog_2_method_4_code 2 (Option.none : Option Jvm.ClassFile.FieldType) :: wAll) ({ frames := 0, cells := 0, slots := 0, locals := 0 } : Room) (va_Pc [.ref a0, .int v0] (gPre D ca ad av [(a0, .inr (0, rg 3 g0)), (a1, .inl (ca 0, 3000, .inl g1))] sz)) (Q_ByteRow_put_19 D ca a0 a1 g0 g1 v0 (va_A [(a0, .inr (0, rg 3 g0)), (a1, .inl (ca 0, 3000, .inl g1))] sz)) 0 0 (va_A [(a0, .inr (0, rg 3 g0)), (a1, .inl (ca 0, 3000, .inl g1))] sz) := by
  refine gMet (Qc := Q_ByteRow_put_19 D ca a0 a1 g0 g1 v0) (lv := [(0, .ref a0), (1, .int v0)]) (by decide) (Nat.le_of_ble_eq_true rfl) rfl (fun A p e s m below meth c ls hx hb hr hml hown hts hlk hnm hl hP hK hD hS hA hX => ?_)
  have hown : s.vm.findClass "StaveHouse$ByteRow" = some m.cls := hown
  have hnm : meth.name = "put" := hnm
  refine lv_aload_n hx hb d_2_4_0 rfl (lv_at hl 0 rfl) ?_
  refine gget hx hb hts inW_0 hown hK hP 0 rfl rfl hp0 0 rfl (by decide) k_1_42 d_2_4_1 ?_
  refine lv_aload_n hx hb d_2_4_4 rfl (lv_at hl 0 rfl) ?_
  refine gget hx hb hts inW_0 hown hK hP 0 rfl rfl hp0 1 rfl (by decide) k_1_41 d_2_4_5 ?_
  refine va_alen (v := 3000) hx hb hK hP 1 0 rfl rfl rfl d_2_4_8 ?_
  refine lv_icmp_lt (tgt := 18) hx hb d_2_4_9 (by decide) (fun _ => ?_) (fun c => absurd (by decide) c)
  refine lv_aload_n hx hb d_2_4_18 rfl (lv_at hl 0 rfl) ?_
  refine gget hx hb hts inW_0 hown hK hP 0 rfl rfl hp0 1 rfl (by decide) k_1_41 d_2_4_19 ?_
  refine lv_aload_n hx hb d_2_4_22 rfl (lv_at hl 0 rfl) ?_
  refine gget hx hb hts inW_0 hown hK hP 0 rfl rfl hp0 0 rfl (by decide) k_1_42 d_2_4_23 ?_
  refine lv_iload_n hx hb d_2_4_26 rfl (lv_at hl 1 rfl) ?_
  refine lv_sipush (v := 255) hx hb d_2_4_27 (by decide) ?_
  refine lv_iand hx hb d_2_4_30 ?_
  refine lv_topi (fun y1 ey1 => ?_)
  refine gastX hx hb hK hP hD hS 1 0 rfl rfl (vinC (by decide)) d_2_4_31 (fun f2 H2 locs2 hP2 hD2 hS2 => ?_)
  have hF2 : gF f2 [] := gF_nil
  have hP2 : va_P D cls [(a0, .inr (0, rg 3 g0)), (a1, .inl (ca 0, 3000, .inl f2))] H2 := hP2
  have hD2 : va_D A [(a0, .inr (0, rg 3 g0)), (a1, .inl (ca 0, 3000, .inl f2))] := hD2
  refine lv_aload_n hx hb d_2_4_32 rfl (lv_at hl 0 rfl) ?_
  refine lv_dup hx hb d_2_4_33 rfl ?_
  refine gget hx hb hts inW_0 hown hK hP2 0 rfl rfl hp0 0 rfl (by decide) k_1_42 d_2_4_34 ?_
  refine lv_iconst (v := 1) hx hb d_2_4_37 (by decide) ?_
  refine lv_iadd hx hb d_2_4_38 ?_
  refine lv_topi (fun y3 ey3 => ?_)
  obtain rfl : y3 = 20 := ey3.trans (by decide)
  refine gput hx hb hts inW_0 tyX0 tyX0_ok nmX0 hown hK hP2 hD2 hS2 0 rfl rfl hp0 1 (by decide) k_1_42 rfl rfl rfl d_2_4_39 (L' := [(1, .int 20), (0, .ref a1)]) rfl (fun f4 H4 locs4 hF4 hm4 hP4 hD4 hS4 => ?_)
  have hM4 := gM.tr (gM.rf (f := g0)) hm4
  have hP4 : va_P D cls [(a0, .inr (0, rg 3 f4)), (a1, .inl (ca 0, 3000, .inl f2))] H4 := hP4
  have hD4 : va_D A [(a0, .inr (0, rg 3 f4)), (a1, .inl (ca 0, 3000, .inl f2))] := hD4
  clear hP2 hD2 hS2 hm4
  have hP9 := hP4.sub (ws' := [(a0, .inr (0, rg 3 f4)), (a1, .inl (ca 0, 3000, .inl f2))]) [0, 1] rfl
  have hD9 := hD4.sub (ws' := [(a0, .inr (0, rg 3 f4)), (a1, .inl (ca 0, 3000, .inl f2))]) [0, 1] (by decide) rfl
  refine W.widen (k := 0) (n := 0) (Nat.le_of_ble_eq_true rfl) (Nat.le_of_ble_eq_true rfl) ?_
  exact W.vret hx hb hr (fun t ht hW => ⟨⟨(f4, f2), rfl, ⟨hM4.mono (by decide), hF4.sub [0] rfl, hF2.sub [] rfl⟩, by rw [ht]; exact hP9, va_K.moved hW.alike hK, hD9⟩, hS4.F ht⟩) hS4.2.2 d_2_4_42
abbrev Q_S_end_0 (D : va_G) (ca : Nat → ClassId) (a0 : Nat) (a4 : Nat) (a5 : Nat) (a8 : Nat) (g0 : Nat → Value) (g4 : Nat → Int32) (g5 : Nat → Value) (g8 : Nat → Int32) (v0 : Int32) (A : Nat → Prop) : Array Value → State → Outcome → State → Prop := va_Qi (S := (Nat → Value) × (Nat → Int32)) (fun (r : Int32) (u : (Nat → Value) × (Nat → Int32)) => ((v0 < 0 → r = -1) ∧ (¬ v0 < 0 → 20 < v0 → r = -1) ∧ (¬ v0 < 0 → ¬ 20 < v0 → r = v0)) ∧ gM g5 u.1 [1] ∧ gF u.1 [] ∧ gF u.2 []) (fun u => gB D ca A [(a0, .inr (12, rg 10 g0)), (a4, .inl (ca 0, 20, .inl g4)), (a5, .inr (0, rg 3 u.1)), (a8, .inl (ca 0, 3000, .inl u.2))]) A
set_option maxHeartbeats 8000000 in
set_option maxRecDepth 100000 in
theorem c_S_end_0 (l : Launch) (D : va_G) (ca : Nat → ClassId) (ad av : Nat → Nat) (sz : Nat) (a0 : Nat) (a4 : Nat) (a5 : Nat) (a8 : Nat) (g0 : Nat → Value) (g4 : Nat → Int32) (g5 : Nat → Value) (g8 : Nat → Int32) (v0 : Int32) (hp0 : gF g0 [(1, .ref a4), (0, .ref a5)]) (hp4 : gF g4 []) (hp5 : gF g5 [(0, .ref a8), (1, .int 0)]) (hp8 : gF g8 []) : Met l ({ cls := "StaveHouse", name := "end", desc := "(I)I" } : Jvm.MethodName) (Cond.code ({ cls := "StaveHouse", name := "end", desc := "(I)I" } : Jvm.MethodName) prog_1_method_4_code 3 (Option.some Jvm.ClassFile.FieldType.int) :: wAll) ({ frames := 1, cells := 0, slots := 0, locals := 21 } : Room) (va_Pc [.ref a0, .int v0] (gPre D ca ad av [(a0, .inr (12, rg 10 g0)), (a4, .inl (ca 0, 20, .inl g4)), (a5, .inr (0, rg 3 g5)), (a8, .inl (ca 0, 3000, .inl g8))] sz)) (Q_S_end_0 D ca a0 a4 a5 a8 g0 g4 g5 g8 v0 (va_A [(a0, .inr (12, rg 10 g0)), (a4, .inl (ca 0, 20, .inl g4)), (a5, .inr (0, rg 3 g5)), (a8, .inl (ca 0, 3000, .inl g8))] sz)) 0 0 (va_A [(a0, .inr (12, rg 10 g0)), (a4, .inl (ca 0, 20, .inl g4)), (a5, .inr (0, rg 3 g5)), (a8, .inl (ca 0, 3000, .inl g8))] sz) := by
  refine gMet (Qc := Q_S_end_0 D ca a0 a4 a5 a8 g0 g4 g5 g8 v0) (lv := [(0, .ref a0), (1, .int v0)]) (by decide) (Nat.le_of_ble_eq_true rfl) rfl (fun A p e s m below meth c ls hx hb hr hml hown hts hlk hnm hl hP hK hD hS hA hX => ?_)
  have hown : s.vm.findClass "StaveHouse" = some m.cls := hown
  have hnm : meth.name = "end" := hnm
  refine lv_iload_n hx hb d_1_4_0 rfl (lv_at hl 1 rfl) ?_
  refine lv_if_lt (tgt := 25) hx hb d_1_4_1 (by decide) (fun c1 => ?_) (fun c1 => ?_)
  · refine lv_iconst (v := (-1)) hx hb d_1_4_25 (by decide) ?_
    have hP9 := hP.sub (ws' := [(a0, .inr (12, rg 10 g0)), (a4, .inl (ca 0, 20, .inl g4)), (a5, .inr (0, rg 3 g5)), (a8, .inl (ca 0, 3000, .inl g8))]) [0, 1, 2, 3] rfl
    have hD9 := hD.sub (ws' := [(a0, .inr (12, rg 10 g0)), (a4, .inl (ca 0, 20, .inl g4)), (a5, .inr (0, rg 3 g5)), (a8, .inl (ca 0, 3000, .inl g8))]) [0, 1, 2, 3] (by decide) rfl
    refine W.widen (k := 0) (n := 0) (Nat.le_of_ble_eq_true rfl) (Nat.le_of_ble_eq_true rfl) ?_
    exact W.iret (v := (-1)) hx hb hr (fun t ht hW => ⟨⟨(-1), (g5, g8), rfl, ⟨⟨fun _ => rfl, fun z => absurd c1 z, fun z => absurd c1 z⟩, (gM.rf.mono (by decide)), hp5.sub [] rfl, hp8.sub [] rfl⟩, by rw [ht]; exact hP9, va_K.moved hW.alike hK, hD9⟩, hS.F ht⟩) hS.2.2 d_1_4_26
  · refine lv_iload_n hx hb d_1_4_4 rfl (lv_at hl 1 rfl) ?_
    refine lv_bipush (v := 20) hx hb d_1_4_5 (by decide) ?_
    refine lv_icmp_gt (tgt := 25) hx hb d_1_4_7 (by decide) (fun c2 => ?_) (fun c2 => ?_)
    · refine lv_iconst (v := (-1)) hx hb d_1_4_25 (by decide) ?_
      have hP9 := hP.sub (ws' := [(a0, .inr (12, rg 10 g0)), (a4, .inl (ca 0, 20, .inl g4)), (a5, .inr (0, rg 3 g5)), (a8, .inl (ca 0, 3000, .inl g8))]) [0, 1, 2, 3] rfl
      have hD9 := hD.sub (ws' := [(a0, .inr (12, rg 10 g0)), (a4, .inl (ca 0, 20, .inl g4)), (a5, .inr (0, rg 3 g5)), (a8, .inl (ca 0, 3000, .inl g8))]) [0, 1, 2, 3] (by decide) rfl
      refine W.widen (k := 0) (n := 0) (Nat.le_of_ble_eq_true rfl) (Nat.le_of_ble_eq_true rfl) ?_
      exact W.iret (v := (-1)) hx hb hr (fun t ht hW => ⟨⟨(-1), (g5, g8), rfl, ⟨⟨fun z => absurd z c1, fun _ _ => rfl, fun _ z => absurd c2 z⟩, (gM.rf.mono (by decide)), hp5.sub [] rfl, hp8.sub [] rfl⟩, by rw [ht]; exact hP9, va_K.moved hW.alike hK, hD9⟩, hS.F ht⟩) hS.2.2 d_1_4_26
    · refine lv_aload_n hx hb d_1_4_10 rfl (lv_at hl 0 rfl) ?_
      refine gget hx hb hts inW_12 hown hK hP 0 rfl rfl hp0 1 rfl (by decide) k_2_127 d_1_4_11 ?_
      refine gget hx hb hts inW_0 hown hK hP 2 rfl rfl hp5 1 rfl (by decide) k_1_46 d_1_4_14 ?_
      refine lv_iload_n hx hb d_1_4_17 rfl (lv_at hl 1 rfl) ?_
      refine lv_iadd hx hb d_1_4_18 ?_
      refine lv_topi (fun y3 ey3 => ?_)
      refine lv_sipush (v := 3000) hx hb d_1_4_19 (by decide) ?_
      refine lv_icmp_le (tgt := 27) hx hb d_1_4_22 (by decide) (fun _ => ?_) (fun c => absurd (e3000 ey3 c1 c2) c)
      refine lv_iconst (v := 0) hx hb d_1_4_27 (by decide) ?_
      refine lv_istore_n (lv' := [(2, .int 0), (0, .ref a0), (1, .int v0)]) hx hb d_1_4_28 rfl hl (by decide) rfl (fun ls hl => ?_)
      refine lv_iload_n hx hb d_1_4_29 rfl (lv_at hl 0 rfl) ?_
      refine lv_iload_n hx hb d_1_4_30 rfl (lv_at hl 2 rfl) ?_
      refine lv_icmp_ge (tgt := 53) hx hb d_1_4_31 (by decide) (fun c4 => ?_) (fun c4 => ?_)
      · refine lv_aload_n hx hb d_1_4_53 rfl (lv_at hl 1 rfl) ?_
        refine gget hx hb hts inW_12 hown hK hP 0 rfl rfl hp0 1 rfl (by decide) k_2_127 d_1_4_54 ?_
        refine gget hx hb hts inW_0 hown hK hP 2 rfl rfl hp5 1 rfl (by decide) k_1_46 d_1_4_57 ?_
        have hP9 := hP.sub (ws' := [(a0, .inr (12, rg 10 g0)), (a4, .inl (ca 0, 20, .inl g4)), (a5, .inr (0, rg 3 g5)), (a8, .inl (ca 0, 3000, .inl g8))]) [0, 1, 2, 3] rfl
        have hD9 := hD.sub (ws' := [(a0, .inr (12, rg 10 g0)), (a4, .inl (ca 0, 20, .inl g4)), (a5, .inr (0, rg 3 g5)), (a8, .inl (ca 0, 3000, .inl g8))]) [0, 1, 2, 3] (by decide) rfl
        refine W.widen (k := 0) (n := 0) (Nat.le_of_ble_eq_true rfl) (Nat.le_of_ble_eq_true rfl) ?_
        exact W.iret (v := 0) hx hb hr (fun t ht hW => ⟨⟨0, (g5, g8), rfl, ⟨⟨fun z => absurd z c1, fun _ z => absurd z c2, fun _ _ => eq0 c4 c1⟩, (gM.rf.mono (by decide)), hp5.sub [] rfl, hp8.sub [] rfl⟩, by rw [ht]; exact hP9, va_K.moved hW.alike hK, hD9⟩, hS.F ht⟩) hS.2.2 d_1_4_60
      · refine lv_aload_n hx hb d_1_4_34 rfl (lv_at hl 1 rfl) ?_
        refine gget hx hb hts inW_12 hown hK hP 0 rfl rfl hp0 1 rfl (by decide) k_2_127 d_1_4_35 ?_
        refine lv_aload_n hx hb d_1_4_38 rfl (lv_at hl 1 rfl) ?_
        refine gget hx hb hts inW_12 hown hK hP 0 rfl rfl hp0 0 rfl (by decide) k_2_128 d_1_4_39 ?_
        refine lv_iload_n hx hb d_1_4_42 rfl (lv_at hl 0 rfl) ?_
        refine galdX hx hb hK hP 1 0 rfl rfl (vinC (by decide)) d_1_4_43 (fun y5 => ?_)
        have hFc6 := va_free (wc := [(a5, .inr (0, rg 3 g5)), (a8, .inl (ca 0, 3000, .inl g8))]) hD hS hA [2, 3] rfl
        refine va_callv (va_runV (As := [.int y5]) (rest := []) ⟨hx, hb, hml, hown, hts⟩ (c_ByteRow_put_0 l D ca ad av s.heap.size a5 a8 g5 g8 y5 (hp5.sub [0, 1] rfl) (hp8.sub [] rfl)) (cwV 1 hts (gdV k_2_170 k_2_171 k_2_172 k_1_2 k_2_173) rfl rfl rfl (by decide +kernel) ⟨Nat.le_of_ble_eq_true rfl, Nat.le_of_ble_eq_true rfl⟩) (gPV hP hD hK hS hA hX [2, 3] (by decide) rfl a5 [.int y5] 2 (ci := 0) (r := (RX0, TX0, 3)) rfl rfl) rfl rfl hl.1 rfl (lv_room (Nat.le_of_ble_eq_true rfl)) d_1_4_44 ⟨Nat.le_of_ble_eq_true rfl, Nat.le_of_ble_eq_true rfl⟩) hS (fun q _ h => hFc6 q h) hFc6 (fun u6 t6 H6 locs6 ht6 hvm6 hw6 hB6 hz6 hk6 hS6 => ?_)
        obtain ⟨x6_0, x6_1⟩ := u6
        try dsimp only at hw6 hB6
        obtain ⟨hw6_0, hw6_1, hw6_2⟩ := hw6
        obtain ⟨hP6, hD6⟩ := gJoin (wr := [(a0, .inr (12, rg 10 g0)), (a4, .inl (ca 0, 20, .inl g4))]) (w1 := [(a5, .inr (0, rg 3 x6_0)), (a8, .inl (ca 0, 3000, .inl x6_1))]) hP hD [2, 3] [0, 1] rfl rfl (by decide) (by decide) hk6 hFc6 ht6 hB6
        have hF6_0 : gF x6_0 [(1, .int 1), (0, .ref a8)] := gF.upd hp5 hw6_0 hw6_1 rfl
        have hM6_0 := gM.tr (gM.rf (f := g5)) hw6_0
        have hP6 : va_P D cls [(a0, .inr (12, rg 10 g0)), (a4, .inl (ca 0, 20, .inl g4)), (a5, .inr (0, rg 3 x6_0)), (a8, .inl (ca 0, 3000, .inl x6_1))] H6 := hP6
        have hD6 : va_D A [(a0, .inr (12, rg 10 g0)), (a4, .inl (ca 0, 20, .inl g4)), (a5, .inr (0, rg 3 x6_0)), (a8, .inl (ca 0, 3000, .inl x6_1))] := hD6
        refine W.widen (k := 0) (n := 0) (Nat.le_of_ble_eq_true rfl) (Nat.le_of_ble_eq_true rfl) ?_
        refine lv_iinc (v := 1) (lv' := [(2, .int 1), (0, .ref a0), (1, .int v0)]) hx hb d_1_4_47 hl (k := 0) rfl (by decide) (by decide) rfl (fun ls hl => ?_)
        refine lv_goto (tgt := 29) hx hb d_1_4_50 (by decide) ?_
        refine lv_iload_n hx hb d_1_4_29 rfl (lv_at hl 0 rfl) ?_
        refine lv_iload_n hx hb d_1_4_30 rfl (lv_at hl 2 rfl) ?_
        refine lv_icmp_ge (tgt := 53) hx hb d_1_4_31 (by decide) (fun c7 => ?_) (fun c7 => ?_)
        · refine lv_aload_n hx hb d_1_4_53 rfl (lv_at hl 1 rfl) ?_
          refine gget hx hb hts inW_12 hown hK hP6 0 rfl rfl hp0 1 rfl (by decide) k_2_127 d_1_4_54 ?_
          refine gget hx hb hts inW_0 hown hK hP6 2 rfl rfl hF6_0 0 rfl (by decide) k_1_46 d_1_4_57 ?_
          have hP9 := hP6.sub (ws' := [(a0, .inr (12, rg 10 g0)), (a4, .inl (ca 0, 20, .inl g4)), (a5, .inr (0, rg 3 x6_0)), (a8, .inl (ca 0, 3000, .inl x6_1))]) [0, 1, 2, 3] rfl
          have hD9 := hD6.sub (ws' := [(a0, .inr (12, rg 10 g0)), (a4, .inl (ca 0, 20, .inl g4)), (a5, .inr (0, rg 3 x6_0)), (a8, .inl (ca 0, 3000, .inl x6_1))]) [0, 1, 2, 3] (by decide) rfl
          refine W.widen (k := 0) (n := 0) (Nat.le_of_ble_eq_true rfl) (Nat.le_of_ble_eq_true rfl) ?_
          exact W.iret (v := 1) hx hb hr (fun t ht hW => ⟨⟨1, (x6_0, x6_1), rfl, ⟨⟨fun z => absurd z c1, fun _ z => absurd z c2, fun _ _ => eqn c7 c4 (by decide)⟩, hM6_0.mono (by decide), hF6_0.sub [] rfl, hw6_2.sub [] rfl⟩, by rw [ht]; exact hP9, va_K.moved hW.alike hK, hD9⟩, hS6.F ht⟩) hS6.2.2 d_1_4_60
        · refine lv_aload_n hx hb d_1_4_34 rfl (lv_at hl 1 rfl) ?_
          refine gget hx hb hts inW_12 hown hK hP6 0 rfl rfl hp0 1 rfl (by decide) k_2_127 d_1_4_35 ?_
          refine lv_aload_n hx hb d_1_4_38 rfl (lv_at hl 1 rfl) ?_
          refine gget hx hb hts inW_12 hown hK hP6 0 rfl rfl hp0 0 rfl (by decide) k_2_128 d_1_4_39 ?_
          refine lv_iload_n hx hb d_1_4_42 rfl (lv_at hl 0 rfl) ?_
          refine galdX hx hb hK hP6 1 0 rfl rfl (vinC (by decide)) d_1_4_43 (fun y8 => ?_)
          have hFc9 := va_free (wc := [(a5, .inr (0, rg 3 x6_0)), (a8, .inl (ca 0, 3000, .inl x6_1))]) hD6 hS6 hA [2, 3] rfl
          refine va_callv (va_runV (As := [.int y8]) (rest := []) ⟨hx, hb, hml, hown, hts⟩ (c_ByteRow_put_1 l D ca ad av H6.size a5 a8 x6_0 x6_1 y8 (hF6_0.sub [0, 1] rfl) (hw6_2.sub [] rfl)) (cwV 1 hts (gdV k_2_170 k_2_171 k_2_172 k_1_2 k_2_173) rfl rfl rfl (by decide +kernel) ⟨Nat.le_of_ble_eq_true rfl, Nat.le_of_ble_eq_true rfl⟩) (gPV hP6 hD6 hK hS6 hA hX [2, 3] (by decide) rfl a5 [.int y8] 2 (ci := 0) (r := (RX0, TX0, 3)) rfl rfl) rfl rfl hl.1 rfl (lv_room (Nat.le_of_ble_eq_true rfl)) d_1_4_44 ⟨Nat.le_of_ble_eq_true rfl, Nat.le_of_ble_eq_true rfl⟩) hS6 (fun q _ h => hFc9 q h) hFc9 (fun u9 t9 H9 locs9 ht9 hvm9 hw9 hB9 hz9 hk9 hS9 => ?_)
          obtain ⟨x9_0, x9_1⟩ := u9
          try dsimp only at hw9 hB9
          obtain ⟨hw9_0, hw9_1, hw9_2⟩ := hw9
          obtain ⟨hP9, hD9⟩ := gJoin (wr := [(a0, .inr (12, rg 10 g0)), (a4, .inl (ca 0, 20, .inl g4))]) (w1 := [(a5, .inr (0, rg 3 x9_0)), (a8, .inl (ca 0, 3000, .inl x9_1))]) hP6 hD6 [2, 3] [0, 1] rfl rfl (by decide) (by decide) hk9 hFc9 ht9 hB9
          have hF9_0 : gF x9_0 [(1, .int 2), (0, .ref a8)] := gF.upd hF6_0 hw9_0 hw9_1 rfl
          have hM9_0 := gM.tr hM6_0 hw9_0
          have hP9 : va_P D cls [(a0, .inr (12, rg 10 g0)), (a4, .inl (ca 0, 20, .inl g4)), (a5, .inr (0, rg 3 x9_0)), (a8, .inl (ca 0, 3000, .inl x9_1))] H9 := hP9
          have hD9 : va_D A [(a0, .inr (12, rg 10 g0)), (a4, .inl (ca 0, 20, .inl g4)), (a5, .inr (0, rg 3 x9_0)), (a8, .inl (ca 0, 3000, .inl x9_1))] := hD9
          refine W.widen (k := 0) (n := 0) (Nat.le_of_ble_eq_true rfl) (Nat.le_of_ble_eq_true rfl) ?_
          refine lv_iinc (v := 2) (lv' := [(2, .int 2), (0, .ref a0), (1, .int v0)]) hx hb d_1_4_47 hl (k := 0) rfl (by decide) (by decide) rfl (fun ls hl => ?_)
          refine lv_goto (tgt := 29) hx hb d_1_4_50 (by decide) ?_
          refine lv_iload_n hx hb d_1_4_29 rfl (lv_at hl 0 rfl) ?_
          refine lv_iload_n hx hb d_1_4_30 rfl (lv_at hl 2 rfl) ?_
          refine lv_icmp_ge (tgt := 53) hx hb d_1_4_31 (by decide) (fun c10 => ?_) (fun c10 => ?_)
          · refine lv_aload_n hx hb d_1_4_53 rfl (lv_at hl 1 rfl) ?_
            refine gget hx hb hts inW_12 hown hK hP9 0 rfl rfl hp0 1 rfl (by decide) k_2_127 d_1_4_54 ?_
            refine gget hx hb hts inW_0 hown hK hP9 2 rfl rfl hF9_0 0 rfl (by decide) k_1_46 d_1_4_57 ?_
            have hP9 := hP9.sub (ws' := [(a0, .inr (12, rg 10 g0)), (a4, .inl (ca 0, 20, .inl g4)), (a5, .inr (0, rg 3 x9_0)), (a8, .inl (ca 0, 3000, .inl x9_1))]) [0, 1, 2, 3] rfl
            have hD9 := hD9.sub (ws' := [(a0, .inr (12, rg 10 g0)), (a4, .inl (ca 0, 20, .inl g4)), (a5, .inr (0, rg 3 x9_0)), (a8, .inl (ca 0, 3000, .inl x9_1))]) [0, 1, 2, 3] (by decide) rfl
            refine W.widen (k := 0) (n := 0) (Nat.le_of_ble_eq_true rfl) (Nat.le_of_ble_eq_true rfl) ?_
            exact W.iret (v := 2) hx hb hr (fun t ht hW => ⟨⟨2, (x9_0, x9_1), rfl, ⟨⟨fun z => absurd z c1, fun _ z => absurd z c2, fun _ _ => eqn c10 c7 (by decide)⟩, hM9_0.mono (by decide), hF9_0.sub [] rfl, hw9_2.sub [] rfl⟩, by rw [ht]; exact hP9, va_K.moved hW.alike hK, hD9⟩, hS9.F ht⟩) hS9.2.2 d_1_4_60
          · refine lv_aload_n hx hb d_1_4_34 rfl (lv_at hl 1 rfl) ?_
            refine gget hx hb hts inW_12 hown hK hP9 0 rfl rfl hp0 1 rfl (by decide) k_2_127 d_1_4_35 ?_
            refine lv_aload_n hx hb d_1_4_38 rfl (lv_at hl 1 rfl) ?_
            refine gget hx hb hts inW_12 hown hK hP9 0 rfl rfl hp0 0 rfl (by decide) k_2_128 d_1_4_39 ?_
            refine lv_iload_n hx hb d_1_4_42 rfl (lv_at hl 0 rfl) ?_
            refine galdX hx hb hK hP9 1 0 rfl rfl (vinC (by decide)) d_1_4_43 (fun y11 => ?_)
            have hFc12 := va_free (wc := [(a5, .inr (0, rg 3 x9_0)), (a8, .inl (ca 0, 3000, .inl x9_1))]) hD9 hS9 hA [2, 3] rfl
            refine va_callv (va_runV (As := [.int y11]) (rest := []) ⟨hx, hb, hml, hown, hts⟩ (c_ByteRow_put_2 l D ca ad av H9.size a5 a8 x9_0 x9_1 y11 (hF9_0.sub [0, 1] rfl) (hw9_2.sub [] rfl)) (cwV 1 hts (gdV k_2_170 k_2_171 k_2_172 k_1_2 k_2_173) rfl rfl rfl (by decide +kernel) ⟨Nat.le_of_ble_eq_true rfl, Nat.le_of_ble_eq_true rfl⟩) (gPV hP9 hD9 hK hS9 hA hX [2, 3] (by decide) rfl a5 [.int y11] 2 (ci := 0) (r := (RX0, TX0, 3)) rfl rfl) rfl rfl hl.1 rfl (lv_room (Nat.le_of_ble_eq_true rfl)) d_1_4_44 ⟨Nat.le_of_ble_eq_true rfl, Nat.le_of_ble_eq_true rfl⟩) hS9 (fun q _ h => hFc12 q h) hFc12 (fun u12 t12 H12 locs12 ht12 hvm12 hw12 hB12 hz12 hk12 hS12 => ?_)
            obtain ⟨x12_0, x12_1⟩ := u12
            try dsimp only at hw12 hB12
            obtain ⟨hw12_0, hw12_1, hw12_2⟩ := hw12
            obtain ⟨hP12, hD12⟩ := gJoin (wr := [(a0, .inr (12, rg 10 g0)), (a4, .inl (ca 0, 20, .inl g4))]) (w1 := [(a5, .inr (0, rg 3 x12_0)), (a8, .inl (ca 0, 3000, .inl x12_1))]) hP9 hD9 [2, 3] [0, 1] rfl rfl (by decide) (by decide) hk12 hFc12 ht12 hB12
            have hF12_0 : gF x12_0 [(1, .int 3), (0, .ref a8)] := gF.upd hF9_0 hw12_0 hw12_1 rfl
            have hM12_0 := gM.tr hM9_0 hw12_0
            have hP12 : va_P D cls [(a0, .inr (12, rg 10 g0)), (a4, .inl (ca 0, 20, .inl g4)), (a5, .inr (0, rg 3 x12_0)), (a8, .inl (ca 0, 3000, .inl x12_1))] H12 := hP12
            have hD12 : va_D A [(a0, .inr (12, rg 10 g0)), (a4, .inl (ca 0, 20, .inl g4)), (a5, .inr (0, rg 3 x12_0)), (a8, .inl (ca 0, 3000, .inl x12_1))] := hD12
            refine W.widen (k := 0) (n := 0) (Nat.le_of_ble_eq_true rfl) (Nat.le_of_ble_eq_true rfl) ?_
            refine lv_iinc (v := 3) (lv' := [(2, .int 3), (0, .ref a0), (1, .int v0)]) hx hb d_1_4_47 hl (k := 0) rfl (by decide) (by decide) rfl (fun ls hl => ?_)
            refine lv_goto (tgt := 29) hx hb d_1_4_50 (by decide) ?_
            refine lv_iload_n hx hb d_1_4_29 rfl (lv_at hl 0 rfl) ?_
            refine lv_iload_n hx hb d_1_4_30 rfl (lv_at hl 2 rfl) ?_
            refine lv_icmp_ge (tgt := 53) hx hb d_1_4_31 (by decide) (fun c13 => ?_) (fun c13 => ?_)
            · refine lv_aload_n hx hb d_1_4_53 rfl (lv_at hl 1 rfl) ?_
              refine gget hx hb hts inW_12 hown hK hP12 0 rfl rfl hp0 1 rfl (by decide) k_2_127 d_1_4_54 ?_
              refine gget hx hb hts inW_0 hown hK hP12 2 rfl rfl hF12_0 0 rfl (by decide) k_1_46 d_1_4_57 ?_
              have hP9 := hP12.sub (ws' := [(a0, .inr (12, rg 10 g0)), (a4, .inl (ca 0, 20, .inl g4)), (a5, .inr (0, rg 3 x12_0)), (a8, .inl (ca 0, 3000, .inl x12_1))]) [0, 1, 2, 3] rfl
              have hD9 := hD12.sub (ws' := [(a0, .inr (12, rg 10 g0)), (a4, .inl (ca 0, 20, .inl g4)), (a5, .inr (0, rg 3 x12_0)), (a8, .inl (ca 0, 3000, .inl x12_1))]) [0, 1, 2, 3] (by decide) rfl
              refine W.widen (k := 0) (n := 0) (Nat.le_of_ble_eq_true rfl) (Nat.le_of_ble_eq_true rfl) ?_
              exact W.iret (v := 3) hx hb hr (fun t ht hW => ⟨⟨3, (x12_0, x12_1), rfl, ⟨⟨fun z => absurd z c1, fun _ z => absurd z c2, fun _ _ => eqn c13 c10 (by decide)⟩, hM12_0.mono (by decide), hF12_0.sub [] rfl, hw12_2.sub [] rfl⟩, by rw [ht]; exact hP9, va_K.moved hW.alike hK, hD9⟩, hS12.F ht⟩) hS12.2.2 d_1_4_60
            · refine lv_aload_n hx hb d_1_4_34 rfl (lv_at hl 1 rfl) ?_
              refine gget hx hb hts inW_12 hown hK hP12 0 rfl rfl hp0 1 rfl (by decide) k_2_127 d_1_4_35 ?_
              refine lv_aload_n hx hb d_1_4_38 rfl (lv_at hl 1 rfl) ?_
              refine gget hx hb hts inW_12 hown hK hP12 0 rfl rfl hp0 0 rfl (by decide) k_2_128 d_1_4_39 ?_
              refine lv_iload_n hx hb d_1_4_42 rfl (lv_at hl 0 rfl) ?_
              refine galdX hx hb hK hP12 1 0 rfl rfl (vinC (by decide)) d_1_4_43 (fun y14 => ?_)
              have hFc15 := va_free (wc := [(a5, .inr (0, rg 3 x12_0)), (a8, .inl (ca 0, 3000, .inl x12_1))]) hD12 hS12 hA [2, 3] rfl
              refine va_callv (va_runV (As := [.int y14]) (rest := []) ⟨hx, hb, hml, hown, hts⟩ (c_ByteRow_put_3 l D ca ad av H12.size a5 a8 x12_0 x12_1 y14 (hF12_0.sub [0, 1] rfl) (hw12_2.sub [] rfl)) (cwV 1 hts (gdV k_2_170 k_2_171 k_2_172 k_1_2 k_2_173) rfl rfl rfl (by decide +kernel) ⟨Nat.le_of_ble_eq_true rfl, Nat.le_of_ble_eq_true rfl⟩) (gPV hP12 hD12 hK hS12 hA hX [2, 3] (by decide) rfl a5 [.int y14] 2 (ci := 0) (r := (RX0, TX0, 3)) rfl rfl) rfl rfl hl.1 rfl (lv_room (Nat.le_of_ble_eq_true rfl)) d_1_4_44 ⟨Nat.le_of_ble_eq_true rfl, Nat.le_of_ble_eq_true rfl⟩) hS12 (fun q _ h => hFc15 q h) hFc15 (fun u15 t15 H15 locs15 ht15 hvm15 hw15 hB15 hz15 hk15 hS15 => ?_)
              obtain ⟨x15_0, x15_1⟩ := u15
              try dsimp only at hw15 hB15
              obtain ⟨hw15_0, hw15_1, hw15_2⟩ := hw15
              obtain ⟨hP15, hD15⟩ := gJoin (wr := [(a0, .inr (12, rg 10 g0)), (a4, .inl (ca 0, 20, .inl g4))]) (w1 := [(a5, .inr (0, rg 3 x15_0)), (a8, .inl (ca 0, 3000, .inl x15_1))]) hP12 hD12 [2, 3] [0, 1] rfl rfl (by decide) (by decide) hk15 hFc15 ht15 hB15
              have hF15_0 : gF x15_0 [(1, .int 4), (0, .ref a8)] := gF.upd hF12_0 hw15_0 hw15_1 rfl
              have hM15_0 := gM.tr hM12_0 hw15_0
              have hP15 : va_P D cls [(a0, .inr (12, rg 10 g0)), (a4, .inl (ca 0, 20, .inl g4)), (a5, .inr (0, rg 3 x15_0)), (a8, .inl (ca 0, 3000, .inl x15_1))] H15 := hP15
              have hD15 : va_D A [(a0, .inr (12, rg 10 g0)), (a4, .inl (ca 0, 20, .inl g4)), (a5, .inr (0, rg 3 x15_0)), (a8, .inl (ca 0, 3000, .inl x15_1))] := hD15
              refine W.widen (k := 0) (n := 0) (Nat.le_of_ble_eq_true rfl) (Nat.le_of_ble_eq_true rfl) ?_
              refine lv_iinc (v := 4) (lv' := [(2, .int 4), (0, .ref a0), (1, .int v0)]) hx hb d_1_4_47 hl (k := 0) rfl (by decide) (by decide) rfl (fun ls hl => ?_)
              refine lv_goto (tgt := 29) hx hb d_1_4_50 (by decide) ?_
              refine lv_iload_n hx hb d_1_4_29 rfl (lv_at hl 0 rfl) ?_
              refine lv_iload_n hx hb d_1_4_30 rfl (lv_at hl 2 rfl) ?_
              refine lv_icmp_ge (tgt := 53) hx hb d_1_4_31 (by decide) (fun c16 => ?_) (fun c16 => ?_)
              · refine lv_aload_n hx hb d_1_4_53 rfl (lv_at hl 1 rfl) ?_
                refine gget hx hb hts inW_12 hown hK hP15 0 rfl rfl hp0 1 rfl (by decide) k_2_127 d_1_4_54 ?_
                refine gget hx hb hts inW_0 hown hK hP15 2 rfl rfl hF15_0 0 rfl (by decide) k_1_46 d_1_4_57 ?_
                have hP9 := hP15.sub (ws' := [(a0, .inr (12, rg 10 g0)), (a4, .inl (ca 0, 20, .inl g4)), (a5, .inr (0, rg 3 x15_0)), (a8, .inl (ca 0, 3000, .inl x15_1))]) [0, 1, 2, 3] rfl
                have hD9 := hD15.sub (ws' := [(a0, .inr (12, rg 10 g0)), (a4, .inl (ca 0, 20, .inl g4)), (a5, .inr (0, rg 3 x15_0)), (a8, .inl (ca 0, 3000, .inl x15_1))]) [0, 1, 2, 3] (by decide) rfl
                refine W.widen (k := 0) (n := 0) (Nat.le_of_ble_eq_true rfl) (Nat.le_of_ble_eq_true rfl) ?_
                exact W.iret (v := 4) hx hb hr (fun t ht hW => ⟨⟨4, (x15_0, x15_1), rfl, ⟨⟨fun z => absurd z c1, fun _ z => absurd z c2, fun _ _ => eqn c16 c13 (by decide)⟩, hM15_0.mono (by decide), hF15_0.sub [] rfl, hw15_2.sub [] rfl⟩, by rw [ht]; exact hP9, va_K.moved hW.alike hK, hD9⟩, hS15.F ht⟩) hS15.2.2 d_1_4_60
              · refine lv_aload_n hx hb d_1_4_34 rfl (lv_at hl 1 rfl) ?_
                refine gget hx hb hts inW_12 hown hK hP15 0 rfl rfl hp0 1 rfl (by decide) k_2_127 d_1_4_35 ?_
                refine lv_aload_n hx hb d_1_4_38 rfl (lv_at hl 1 rfl) ?_
                refine gget hx hb hts inW_12 hown hK hP15 0 rfl rfl hp0 0 rfl (by decide) k_2_128 d_1_4_39 ?_
                refine lv_iload_n hx hb d_1_4_42 rfl (lv_at hl 0 rfl) ?_
                refine galdX hx hb hK hP15 1 0 rfl rfl (vinC (by decide)) d_1_4_43 (fun y17 => ?_)
                have hFc18 := va_free (wc := [(a5, .inr (0, rg 3 x15_0)), (a8, .inl (ca 0, 3000, .inl x15_1))]) hD15 hS15 hA [2, 3] rfl
                refine va_callv (va_runV (As := [.int y17]) (rest := []) ⟨hx, hb, hml, hown, hts⟩ (c_ByteRow_put_4 l D ca ad av H15.size a5 a8 x15_0 x15_1 y17 (hF15_0.sub [0, 1] rfl) (hw15_2.sub [] rfl)) (cwV 1 hts (gdV k_2_170 k_2_171 k_2_172 k_1_2 k_2_173) rfl rfl rfl (by decide +kernel) ⟨Nat.le_of_ble_eq_true rfl, Nat.le_of_ble_eq_true rfl⟩) (gPV hP15 hD15 hK hS15 hA hX [2, 3] (by decide) rfl a5 [.int y17] 2 (ci := 0) (r := (RX0, TX0, 3)) rfl rfl) rfl rfl hl.1 rfl (lv_room (Nat.le_of_ble_eq_true rfl)) d_1_4_44 ⟨Nat.le_of_ble_eq_true rfl, Nat.le_of_ble_eq_true rfl⟩) hS15 (fun q _ h => hFc18 q h) hFc18 (fun u18 t18 H18 locs18 ht18 hvm18 hw18 hB18 hz18 hk18 hS18 => ?_)
                obtain ⟨x18_0, x18_1⟩ := u18
                try dsimp only at hw18 hB18
                obtain ⟨hw18_0, hw18_1, hw18_2⟩ := hw18
                obtain ⟨hP18, hD18⟩ := gJoin (wr := [(a0, .inr (12, rg 10 g0)), (a4, .inl (ca 0, 20, .inl g4))]) (w1 := [(a5, .inr (0, rg 3 x18_0)), (a8, .inl (ca 0, 3000, .inl x18_1))]) hP15 hD15 [2, 3] [0, 1] rfl rfl (by decide) (by decide) hk18 hFc18 ht18 hB18
                have hF18_0 : gF x18_0 [(1, .int 5), (0, .ref a8)] := gF.upd hF15_0 hw18_0 hw18_1 rfl
                have hM18_0 := gM.tr hM15_0 hw18_0
                have hP18 : va_P D cls [(a0, .inr (12, rg 10 g0)), (a4, .inl (ca 0, 20, .inl g4)), (a5, .inr (0, rg 3 x18_0)), (a8, .inl (ca 0, 3000, .inl x18_1))] H18 := hP18
                have hD18 : va_D A [(a0, .inr (12, rg 10 g0)), (a4, .inl (ca 0, 20, .inl g4)), (a5, .inr (0, rg 3 x18_0)), (a8, .inl (ca 0, 3000, .inl x18_1))] := hD18
                refine W.widen (k := 0) (n := 0) (Nat.le_of_ble_eq_true rfl) (Nat.le_of_ble_eq_true rfl) ?_
                refine lv_iinc (v := 5) (lv' := [(2, .int 5), (0, .ref a0), (1, .int v0)]) hx hb d_1_4_47 hl (k := 0) rfl (by decide) (by decide) rfl (fun ls hl => ?_)
                refine lv_goto (tgt := 29) hx hb d_1_4_50 (by decide) ?_
                refine lv_iload_n hx hb d_1_4_29 rfl (lv_at hl 0 rfl) ?_
                refine lv_iload_n hx hb d_1_4_30 rfl (lv_at hl 2 rfl) ?_
                refine lv_icmp_ge (tgt := 53) hx hb d_1_4_31 (by decide) (fun c19 => ?_) (fun c19 => ?_)
                · refine lv_aload_n hx hb d_1_4_53 rfl (lv_at hl 1 rfl) ?_
                  refine gget hx hb hts inW_12 hown hK hP18 0 rfl rfl hp0 1 rfl (by decide) k_2_127 d_1_4_54 ?_
                  refine gget hx hb hts inW_0 hown hK hP18 2 rfl rfl hF18_0 0 rfl (by decide) k_1_46 d_1_4_57 ?_
                  have hP9 := hP18.sub (ws' := [(a0, .inr (12, rg 10 g0)), (a4, .inl (ca 0, 20, .inl g4)), (a5, .inr (0, rg 3 x18_0)), (a8, .inl (ca 0, 3000, .inl x18_1))]) [0, 1, 2, 3] rfl
                  have hD9 := hD18.sub (ws' := [(a0, .inr (12, rg 10 g0)), (a4, .inl (ca 0, 20, .inl g4)), (a5, .inr (0, rg 3 x18_0)), (a8, .inl (ca 0, 3000, .inl x18_1))]) [0, 1, 2, 3] (by decide) rfl
                  refine W.widen (k := 0) (n := 0) (Nat.le_of_ble_eq_true rfl) (Nat.le_of_ble_eq_true rfl) ?_
                  exact W.iret (v := 5) hx hb hr (fun t ht hW => ⟨⟨5, (x18_0, x18_1), rfl, ⟨⟨fun z => absurd z c1, fun _ z => absurd z c2, fun _ _ => eqn c19 c16 (by decide)⟩, hM18_0.mono (by decide), hF18_0.sub [] rfl, hw18_2.sub [] rfl⟩, by rw [ht]; exact hP9, va_K.moved hW.alike hK, hD9⟩, hS18.F ht⟩) hS18.2.2 d_1_4_60
                · refine lv_aload_n hx hb d_1_4_34 rfl (lv_at hl 1 rfl) ?_
                  refine gget hx hb hts inW_12 hown hK hP18 0 rfl rfl hp0 1 rfl (by decide) k_2_127 d_1_4_35 ?_
                  refine lv_aload_n hx hb d_1_4_38 rfl (lv_at hl 1 rfl) ?_
                  refine gget hx hb hts inW_12 hown hK hP18 0 rfl rfl hp0 0 rfl (by decide) k_2_128 d_1_4_39 ?_
                  refine lv_iload_n hx hb d_1_4_42 rfl (lv_at hl 0 rfl) ?_
                  refine galdX hx hb hK hP18 1 0 rfl rfl (vinC (by decide)) d_1_4_43 (fun y20 => ?_)
                  have hFc21 := va_free (wc := [(a5, .inr (0, rg 3 x18_0)), (a8, .inl (ca 0, 3000, .inl x18_1))]) hD18 hS18 hA [2, 3] rfl
                  refine va_callv (va_runV (As := [.int y20]) (rest := []) ⟨hx, hb, hml, hown, hts⟩ (c_ByteRow_put_5 l D ca ad av H18.size a5 a8 x18_0 x18_1 y20 (hF18_0.sub [0, 1] rfl) (hw18_2.sub [] rfl)) (cwV 1 hts (gdV k_2_170 k_2_171 k_2_172 k_1_2 k_2_173) rfl rfl rfl (by decide +kernel) ⟨Nat.le_of_ble_eq_true rfl, Nat.le_of_ble_eq_true rfl⟩) (gPV hP18 hD18 hK hS18 hA hX [2, 3] (by decide) rfl a5 [.int y20] 2 (ci := 0) (r := (RX0, TX0, 3)) rfl rfl) rfl rfl hl.1 rfl (lv_room (Nat.le_of_ble_eq_true rfl)) d_1_4_44 ⟨Nat.le_of_ble_eq_true rfl, Nat.le_of_ble_eq_true rfl⟩) hS18 (fun q _ h => hFc21 q h) hFc21 (fun u21 t21 H21 locs21 ht21 hvm21 hw21 hB21 hz21 hk21 hS21 => ?_)
                  obtain ⟨x21_0, x21_1⟩ := u21
                  try dsimp only at hw21 hB21
                  obtain ⟨hw21_0, hw21_1, hw21_2⟩ := hw21
                  obtain ⟨hP21, hD21⟩ := gJoin (wr := [(a0, .inr (12, rg 10 g0)), (a4, .inl (ca 0, 20, .inl g4))]) (w1 := [(a5, .inr (0, rg 3 x21_0)), (a8, .inl (ca 0, 3000, .inl x21_1))]) hP18 hD18 [2, 3] [0, 1] rfl rfl (by decide) (by decide) hk21 hFc21 ht21 hB21
                  have hF21_0 : gF x21_0 [(1, .int 6), (0, .ref a8)] := gF.upd hF18_0 hw21_0 hw21_1 rfl
                  have hM21_0 := gM.tr hM18_0 hw21_0
                  have hP21 : va_P D cls [(a0, .inr (12, rg 10 g0)), (a4, .inl (ca 0, 20, .inl g4)), (a5, .inr (0, rg 3 x21_0)), (a8, .inl (ca 0, 3000, .inl x21_1))] H21 := hP21
                  have hD21 : va_D A [(a0, .inr (12, rg 10 g0)), (a4, .inl (ca 0, 20, .inl g4)), (a5, .inr (0, rg 3 x21_0)), (a8, .inl (ca 0, 3000, .inl x21_1))] := hD21
                  refine W.widen (k := 0) (n := 0) (Nat.le_of_ble_eq_true rfl) (Nat.le_of_ble_eq_true rfl) ?_
                  refine lv_iinc (v := 6) (lv' := [(2, .int 6), (0, .ref a0), (1, .int v0)]) hx hb d_1_4_47 hl (k := 0) rfl (by decide) (by decide) rfl (fun ls hl => ?_)
                  refine lv_goto (tgt := 29) hx hb d_1_4_50 (by decide) ?_
                  refine lv_iload_n hx hb d_1_4_29 rfl (lv_at hl 0 rfl) ?_
                  refine lv_iload_n hx hb d_1_4_30 rfl (lv_at hl 2 rfl) ?_
                  refine lv_icmp_ge (tgt := 53) hx hb d_1_4_31 (by decide) (fun c22 => ?_) (fun c22 => ?_)
                  · refine lv_aload_n hx hb d_1_4_53 rfl (lv_at hl 1 rfl) ?_
                    refine gget hx hb hts inW_12 hown hK hP21 0 rfl rfl hp0 1 rfl (by decide) k_2_127 d_1_4_54 ?_
                    refine gget hx hb hts inW_0 hown hK hP21 2 rfl rfl hF21_0 0 rfl (by decide) k_1_46 d_1_4_57 ?_
                    have hP9 := hP21.sub (ws' := [(a0, .inr (12, rg 10 g0)), (a4, .inl (ca 0, 20, .inl g4)), (a5, .inr (0, rg 3 x21_0)), (a8, .inl (ca 0, 3000, .inl x21_1))]) [0, 1, 2, 3] rfl
                    have hD9 := hD21.sub (ws' := [(a0, .inr (12, rg 10 g0)), (a4, .inl (ca 0, 20, .inl g4)), (a5, .inr (0, rg 3 x21_0)), (a8, .inl (ca 0, 3000, .inl x21_1))]) [0, 1, 2, 3] (by decide) rfl
                    refine W.widen (k := 0) (n := 0) (Nat.le_of_ble_eq_true rfl) (Nat.le_of_ble_eq_true rfl) ?_
                    exact W.iret (v := 6) hx hb hr (fun t ht hW => ⟨⟨6, (x21_0, x21_1), rfl, ⟨⟨fun z => absurd z c1, fun _ z => absurd z c2, fun _ _ => eqn c22 c19 (by decide)⟩, hM21_0.mono (by decide), hF21_0.sub [] rfl, hw21_2.sub [] rfl⟩, by rw [ht]; exact hP9, va_K.moved hW.alike hK, hD9⟩, hS21.F ht⟩) hS21.2.2 d_1_4_60
                  · refine lv_aload_n hx hb d_1_4_34 rfl (lv_at hl 1 rfl) ?_
                    refine gget hx hb hts inW_12 hown hK hP21 0 rfl rfl hp0 1 rfl (by decide) k_2_127 d_1_4_35 ?_
                    refine lv_aload_n hx hb d_1_4_38 rfl (lv_at hl 1 rfl) ?_
                    refine gget hx hb hts inW_12 hown hK hP21 0 rfl rfl hp0 0 rfl (by decide) k_2_128 d_1_4_39 ?_
                    refine lv_iload_n hx hb d_1_4_42 rfl (lv_at hl 0 rfl) ?_
                    refine galdX hx hb hK hP21 1 0 rfl rfl (vinC (by decide)) d_1_4_43 (fun y23 => ?_)
                    have hFc24 := va_free (wc := [(a5, .inr (0, rg 3 x21_0)), (a8, .inl (ca 0, 3000, .inl x21_1))]) hD21 hS21 hA [2, 3] rfl
                    refine va_callv (va_runV (As := [.int y23]) (rest := []) ⟨hx, hb, hml, hown, hts⟩ (c_ByteRow_put_6 l D ca ad av H21.size a5 a8 x21_0 x21_1 y23 (hF21_0.sub [0, 1] rfl) (hw21_2.sub [] rfl)) (cwV 1 hts (gdV k_2_170 k_2_171 k_2_172 k_1_2 k_2_173) rfl rfl rfl (by decide +kernel) ⟨Nat.le_of_ble_eq_true rfl, Nat.le_of_ble_eq_true rfl⟩) (gPV hP21 hD21 hK hS21 hA hX [2, 3] (by decide) rfl a5 [.int y23] 2 (ci := 0) (r := (RX0, TX0, 3)) rfl rfl) rfl rfl hl.1 rfl (lv_room (Nat.le_of_ble_eq_true rfl)) d_1_4_44 ⟨Nat.le_of_ble_eq_true rfl, Nat.le_of_ble_eq_true rfl⟩) hS21 (fun q _ h => hFc24 q h) hFc24 (fun u24 t24 H24 locs24 ht24 hvm24 hw24 hB24 hz24 hk24 hS24 => ?_)
                    obtain ⟨x24_0, x24_1⟩ := u24
                    try dsimp only at hw24 hB24
                    obtain ⟨hw24_0, hw24_1, hw24_2⟩ := hw24
                    obtain ⟨hP24, hD24⟩ := gJoin (wr := [(a0, .inr (12, rg 10 g0)), (a4, .inl (ca 0, 20, .inl g4))]) (w1 := [(a5, .inr (0, rg 3 x24_0)), (a8, .inl (ca 0, 3000, .inl x24_1))]) hP21 hD21 [2, 3] [0, 1] rfl rfl (by decide) (by decide) hk24 hFc24 ht24 hB24
                    have hF24_0 : gF x24_0 [(1, .int 7), (0, .ref a8)] := gF.upd hF21_0 hw24_0 hw24_1 rfl
                    have hM24_0 := gM.tr hM21_0 hw24_0
                    have hP24 : va_P D cls [(a0, .inr (12, rg 10 g0)), (a4, .inl (ca 0, 20, .inl g4)), (a5, .inr (0, rg 3 x24_0)), (a8, .inl (ca 0, 3000, .inl x24_1))] H24 := hP24
                    have hD24 : va_D A [(a0, .inr (12, rg 10 g0)), (a4, .inl (ca 0, 20, .inl g4)), (a5, .inr (0, rg 3 x24_0)), (a8, .inl (ca 0, 3000, .inl x24_1))] := hD24
                    refine W.widen (k := 0) (n := 0) (Nat.le_of_ble_eq_true rfl) (Nat.le_of_ble_eq_true rfl) ?_
                    refine lv_iinc (v := 7) (lv' := [(2, .int 7), (0, .ref a0), (1, .int v0)]) hx hb d_1_4_47 hl (k := 0) rfl (by decide) (by decide) rfl (fun ls hl => ?_)
                    refine lv_goto (tgt := 29) hx hb d_1_4_50 (by decide) ?_
                    refine lv_iload_n hx hb d_1_4_29 rfl (lv_at hl 0 rfl) ?_
                    refine lv_iload_n hx hb d_1_4_30 rfl (lv_at hl 2 rfl) ?_
                    refine lv_icmp_ge (tgt := 53) hx hb d_1_4_31 (by decide) (fun c25 => ?_) (fun c25 => ?_)
                    · refine lv_aload_n hx hb d_1_4_53 rfl (lv_at hl 1 rfl) ?_
                      refine gget hx hb hts inW_12 hown hK hP24 0 rfl rfl hp0 1 rfl (by decide) k_2_127 d_1_4_54 ?_
                      refine gget hx hb hts inW_0 hown hK hP24 2 rfl rfl hF24_0 0 rfl (by decide) k_1_46 d_1_4_57 ?_
                      have hP9 := hP24.sub (ws' := [(a0, .inr (12, rg 10 g0)), (a4, .inl (ca 0, 20, .inl g4)), (a5, .inr (0, rg 3 x24_0)), (a8, .inl (ca 0, 3000, .inl x24_1))]) [0, 1, 2, 3] rfl
                      have hD9 := hD24.sub (ws' := [(a0, .inr (12, rg 10 g0)), (a4, .inl (ca 0, 20, .inl g4)), (a5, .inr (0, rg 3 x24_0)), (a8, .inl (ca 0, 3000, .inl x24_1))]) [0, 1, 2, 3] (by decide) rfl
                      refine W.widen (k := 0) (n := 0) (Nat.le_of_ble_eq_true rfl) (Nat.le_of_ble_eq_true rfl) ?_
                      exact W.iret (v := 7) hx hb hr (fun t ht hW => ⟨⟨7, (x24_0, x24_1), rfl, ⟨⟨fun z => absurd z c1, fun _ z => absurd z c2, fun _ _ => eqn c25 c22 (by decide)⟩, hM24_0.mono (by decide), hF24_0.sub [] rfl, hw24_2.sub [] rfl⟩, by rw [ht]; exact hP9, va_K.moved hW.alike hK, hD9⟩, hS24.F ht⟩) hS24.2.2 d_1_4_60
                    · refine lv_aload_n hx hb d_1_4_34 rfl (lv_at hl 1 rfl) ?_
                      refine gget hx hb hts inW_12 hown hK hP24 0 rfl rfl hp0 1 rfl (by decide) k_2_127 d_1_4_35 ?_
                      refine lv_aload_n hx hb d_1_4_38 rfl (lv_at hl 1 rfl) ?_
                      refine gget hx hb hts inW_12 hown hK hP24 0 rfl rfl hp0 0 rfl (by decide) k_2_128 d_1_4_39 ?_
                      refine lv_iload_n hx hb d_1_4_42 rfl (lv_at hl 0 rfl) ?_
                      refine galdX hx hb hK hP24 1 0 rfl rfl (vinC (by decide)) d_1_4_43 (fun y26 => ?_)
                      have hFc27 := va_free (wc := [(a5, .inr (0, rg 3 x24_0)), (a8, .inl (ca 0, 3000, .inl x24_1))]) hD24 hS24 hA [2, 3] rfl
                      refine va_callv (va_runV (As := [.int y26]) (rest := []) ⟨hx, hb, hml, hown, hts⟩ (c_ByteRow_put_7 l D ca ad av H24.size a5 a8 x24_0 x24_1 y26 (hF24_0.sub [0, 1] rfl) (hw24_2.sub [] rfl)) (cwV 1 hts (gdV k_2_170 k_2_171 k_2_172 k_1_2 k_2_173) rfl rfl rfl (by decide +kernel) ⟨Nat.le_of_ble_eq_true rfl, Nat.le_of_ble_eq_true rfl⟩) (gPV hP24 hD24 hK hS24 hA hX [2, 3] (by decide) rfl a5 [.int y26] 2 (ci := 0) (r := (RX0, TX0, 3)) rfl rfl) rfl rfl hl.1 rfl (lv_room (Nat.le_of_ble_eq_true rfl)) d_1_4_44 ⟨Nat.le_of_ble_eq_true rfl, Nat.le_of_ble_eq_true rfl⟩) hS24 (fun q _ h => hFc27 q h) hFc27 (fun u27 t27 H27 locs27 ht27 hvm27 hw27 hB27 hz27 hk27 hS27 => ?_)
                      obtain ⟨x27_0, x27_1⟩ := u27
                      try dsimp only at hw27 hB27
                      obtain ⟨hw27_0, hw27_1, hw27_2⟩ := hw27
                      obtain ⟨hP27, hD27⟩ := gJoin (wr := [(a0, .inr (12, rg 10 g0)), (a4, .inl (ca 0, 20, .inl g4))]) (w1 := [(a5, .inr (0, rg 3 x27_0)), (a8, .inl (ca 0, 3000, .inl x27_1))]) hP24 hD24 [2, 3] [0, 1] rfl rfl (by decide) (by decide) hk27 hFc27 ht27 hB27
                      have hF27_0 : gF x27_0 [(1, .int 8), (0, .ref a8)] := gF.upd hF24_0 hw27_0 hw27_1 rfl
                      have hM27_0 := gM.tr hM24_0 hw27_0
                      have hP27 : va_P D cls [(a0, .inr (12, rg 10 g0)), (a4, .inl (ca 0, 20, .inl g4)), (a5, .inr (0, rg 3 x27_0)), (a8, .inl (ca 0, 3000, .inl x27_1))] H27 := hP27
                      have hD27 : va_D A [(a0, .inr (12, rg 10 g0)), (a4, .inl (ca 0, 20, .inl g4)), (a5, .inr (0, rg 3 x27_0)), (a8, .inl (ca 0, 3000, .inl x27_1))] := hD27
                      refine W.widen (k := 0) (n := 0) (Nat.le_of_ble_eq_true rfl) (Nat.le_of_ble_eq_true rfl) ?_
                      refine lv_iinc (v := 8) (lv' := [(2, .int 8), (0, .ref a0), (1, .int v0)]) hx hb d_1_4_47 hl (k := 0) rfl (by decide) (by decide) rfl (fun ls hl => ?_)
                      refine lv_goto (tgt := 29) hx hb d_1_4_50 (by decide) ?_
                      refine lv_iload_n hx hb d_1_4_29 rfl (lv_at hl 0 rfl) ?_
                      refine lv_iload_n hx hb d_1_4_30 rfl (lv_at hl 2 rfl) ?_
                      refine lv_icmp_ge (tgt := 53) hx hb d_1_4_31 (by decide) (fun c28 => ?_) (fun c28 => ?_)
                      · refine lv_aload_n hx hb d_1_4_53 rfl (lv_at hl 1 rfl) ?_
                        refine gget hx hb hts inW_12 hown hK hP27 0 rfl rfl hp0 1 rfl (by decide) k_2_127 d_1_4_54 ?_
                        refine gget hx hb hts inW_0 hown hK hP27 2 rfl rfl hF27_0 0 rfl (by decide) k_1_46 d_1_4_57 ?_
                        have hP9 := hP27.sub (ws' := [(a0, .inr (12, rg 10 g0)), (a4, .inl (ca 0, 20, .inl g4)), (a5, .inr (0, rg 3 x27_0)), (a8, .inl (ca 0, 3000, .inl x27_1))]) [0, 1, 2, 3] rfl
                        have hD9 := hD27.sub (ws' := [(a0, .inr (12, rg 10 g0)), (a4, .inl (ca 0, 20, .inl g4)), (a5, .inr (0, rg 3 x27_0)), (a8, .inl (ca 0, 3000, .inl x27_1))]) [0, 1, 2, 3] (by decide) rfl
                        refine W.widen (k := 0) (n := 0) (Nat.le_of_ble_eq_true rfl) (Nat.le_of_ble_eq_true rfl) ?_
                        exact W.iret (v := 8) hx hb hr (fun t ht hW => ⟨⟨8, (x27_0, x27_1), rfl, ⟨⟨fun z => absurd z c1, fun _ z => absurd z c2, fun _ _ => eqn c28 c25 (by decide)⟩, hM27_0.mono (by decide), hF27_0.sub [] rfl, hw27_2.sub [] rfl⟩, by rw [ht]; exact hP9, va_K.moved hW.alike hK, hD9⟩, hS27.F ht⟩) hS27.2.2 d_1_4_60
                      · refine lv_aload_n hx hb d_1_4_34 rfl (lv_at hl 1 rfl) ?_
                        refine gget hx hb hts inW_12 hown hK hP27 0 rfl rfl hp0 1 rfl (by decide) k_2_127 d_1_4_35 ?_
                        refine lv_aload_n hx hb d_1_4_38 rfl (lv_at hl 1 rfl) ?_
                        refine gget hx hb hts inW_12 hown hK hP27 0 rfl rfl hp0 0 rfl (by decide) k_2_128 d_1_4_39 ?_
                        refine lv_iload_n hx hb d_1_4_42 rfl (lv_at hl 0 rfl) ?_
                        refine galdX hx hb hK hP27 1 0 rfl rfl (vinC (by decide)) d_1_4_43 (fun y29 => ?_)
                        have hFc30 := va_free (wc := [(a5, .inr (0, rg 3 x27_0)), (a8, .inl (ca 0, 3000, .inl x27_1))]) hD27 hS27 hA [2, 3] rfl
                        refine va_callv (va_runV (As := [.int y29]) (rest := []) ⟨hx, hb, hml, hown, hts⟩ (c_ByteRow_put_8 l D ca ad av H27.size a5 a8 x27_0 x27_1 y29 (hF27_0.sub [0, 1] rfl) (hw27_2.sub [] rfl)) (cwV 1 hts (gdV k_2_170 k_2_171 k_2_172 k_1_2 k_2_173) rfl rfl rfl (by decide +kernel) ⟨Nat.le_of_ble_eq_true rfl, Nat.le_of_ble_eq_true rfl⟩) (gPV hP27 hD27 hK hS27 hA hX [2, 3] (by decide) rfl a5 [.int y29] 2 (ci := 0) (r := (RX0, TX0, 3)) rfl rfl) rfl rfl hl.1 rfl (lv_room (Nat.le_of_ble_eq_true rfl)) d_1_4_44 ⟨Nat.le_of_ble_eq_true rfl, Nat.le_of_ble_eq_true rfl⟩) hS27 (fun q _ h => hFc30 q h) hFc30 (fun u30 t30 H30 locs30 ht30 hvm30 hw30 hB30 hz30 hk30 hS30 => ?_)
                        obtain ⟨x30_0, x30_1⟩ := u30
                        try dsimp only at hw30 hB30
                        obtain ⟨hw30_0, hw30_1, hw30_2⟩ := hw30
                        obtain ⟨hP30, hD30⟩ := gJoin (wr := [(a0, .inr (12, rg 10 g0)), (a4, .inl (ca 0, 20, .inl g4))]) (w1 := [(a5, .inr (0, rg 3 x30_0)), (a8, .inl (ca 0, 3000, .inl x30_1))]) hP27 hD27 [2, 3] [0, 1] rfl rfl (by decide) (by decide) hk30 hFc30 ht30 hB30
                        have hF30_0 : gF x30_0 [(1, .int 9), (0, .ref a8)] := gF.upd hF27_0 hw30_0 hw30_1 rfl
                        have hM30_0 := gM.tr hM27_0 hw30_0
                        have hP30 : va_P D cls [(a0, .inr (12, rg 10 g0)), (a4, .inl (ca 0, 20, .inl g4)), (a5, .inr (0, rg 3 x30_0)), (a8, .inl (ca 0, 3000, .inl x30_1))] H30 := hP30
                        have hD30 : va_D A [(a0, .inr (12, rg 10 g0)), (a4, .inl (ca 0, 20, .inl g4)), (a5, .inr (0, rg 3 x30_0)), (a8, .inl (ca 0, 3000, .inl x30_1))] := hD30
                        refine W.widen (k := 0) (n := 0) (Nat.le_of_ble_eq_true rfl) (Nat.le_of_ble_eq_true rfl) ?_
                        refine lv_iinc (v := 9) (lv' := [(2, .int 9), (0, .ref a0), (1, .int v0)]) hx hb d_1_4_47 hl (k := 0) rfl (by decide) (by decide) rfl (fun ls hl => ?_)
                        refine lv_goto (tgt := 29) hx hb d_1_4_50 (by decide) ?_
                        refine lv_iload_n hx hb d_1_4_29 rfl (lv_at hl 0 rfl) ?_
                        refine lv_iload_n hx hb d_1_4_30 rfl (lv_at hl 2 rfl) ?_
                        refine lv_icmp_ge (tgt := 53) hx hb d_1_4_31 (by decide) (fun c31 => ?_) (fun c31 => ?_)
                        · refine lv_aload_n hx hb d_1_4_53 rfl (lv_at hl 1 rfl) ?_
                          refine gget hx hb hts inW_12 hown hK hP30 0 rfl rfl hp0 1 rfl (by decide) k_2_127 d_1_4_54 ?_
                          refine gget hx hb hts inW_0 hown hK hP30 2 rfl rfl hF30_0 0 rfl (by decide) k_1_46 d_1_4_57 ?_
                          have hP9 := hP30.sub (ws' := [(a0, .inr (12, rg 10 g0)), (a4, .inl (ca 0, 20, .inl g4)), (a5, .inr (0, rg 3 x30_0)), (a8, .inl (ca 0, 3000, .inl x30_1))]) [0, 1, 2, 3] rfl
                          have hD9 := hD30.sub (ws' := [(a0, .inr (12, rg 10 g0)), (a4, .inl (ca 0, 20, .inl g4)), (a5, .inr (0, rg 3 x30_0)), (a8, .inl (ca 0, 3000, .inl x30_1))]) [0, 1, 2, 3] (by decide) rfl
                          refine W.widen (k := 0) (n := 0) (Nat.le_of_ble_eq_true rfl) (Nat.le_of_ble_eq_true rfl) ?_
                          exact W.iret (v := 9) hx hb hr (fun t ht hW => ⟨⟨9, (x30_0, x30_1), rfl, ⟨⟨fun z => absurd z c1, fun _ z => absurd z c2, fun _ _ => eqn c31 c28 (by decide)⟩, hM30_0.mono (by decide), hF30_0.sub [] rfl, hw30_2.sub [] rfl⟩, by rw [ht]; exact hP9, va_K.moved hW.alike hK, hD9⟩, hS30.F ht⟩) hS30.2.2 d_1_4_60
                        · refine lv_aload_n hx hb d_1_4_34 rfl (lv_at hl 1 rfl) ?_
                          refine gget hx hb hts inW_12 hown hK hP30 0 rfl rfl hp0 1 rfl (by decide) k_2_127 d_1_4_35 ?_
                          refine lv_aload_n hx hb d_1_4_38 rfl (lv_at hl 1 rfl) ?_
                          refine gget hx hb hts inW_12 hown hK hP30 0 rfl rfl hp0 0 rfl (by decide) k_2_128 d_1_4_39 ?_
                          refine lv_iload_n hx hb d_1_4_42 rfl (lv_at hl 0 rfl) ?_
                          refine galdX hx hb hK hP30 1 0 rfl rfl (vinC (by decide)) d_1_4_43 (fun y32 => ?_)
                          have hFc33 := va_free (wc := [(a5, .inr (0, rg 3 x30_0)), (a8, .inl (ca 0, 3000, .inl x30_1))]) hD30 hS30 hA [2, 3] rfl
                          refine va_callv (va_runV (As := [.int y32]) (rest := []) ⟨hx, hb, hml, hown, hts⟩ (c_ByteRow_put_9 l D ca ad av H30.size a5 a8 x30_0 x30_1 y32 (hF30_0.sub [0, 1] rfl) (hw30_2.sub [] rfl)) (cwV 1 hts (gdV k_2_170 k_2_171 k_2_172 k_1_2 k_2_173) rfl rfl rfl (by decide +kernel) ⟨Nat.le_of_ble_eq_true rfl, Nat.le_of_ble_eq_true rfl⟩) (gPV hP30 hD30 hK hS30 hA hX [2, 3] (by decide) rfl a5 [.int y32] 2 (ci := 0) (r := (RX0, TX0, 3)) rfl rfl) rfl rfl hl.1 rfl (lv_room (Nat.le_of_ble_eq_true rfl)) d_1_4_44 ⟨Nat.le_of_ble_eq_true rfl, Nat.le_of_ble_eq_true rfl⟩) hS30 (fun q _ h => hFc33 q h) hFc33 (fun u33 t33 H33 locs33 ht33 hvm33 hw33 hB33 hz33 hk33 hS33 => ?_)
                          obtain ⟨x33_0, x33_1⟩ := u33
                          try dsimp only at hw33 hB33
                          obtain ⟨hw33_0, hw33_1, hw33_2⟩ := hw33
                          obtain ⟨hP33, hD33⟩ := gJoin (wr := [(a0, .inr (12, rg 10 g0)), (a4, .inl (ca 0, 20, .inl g4))]) (w1 := [(a5, .inr (0, rg 3 x33_0)), (a8, .inl (ca 0, 3000, .inl x33_1))]) hP30 hD30 [2, 3] [0, 1] rfl rfl (by decide) (by decide) hk33 hFc33 ht33 hB33
                          have hF33_0 : gF x33_0 [(1, .int 10), (0, .ref a8)] := gF.upd hF30_0 hw33_0 hw33_1 rfl
                          have hM33_0 := gM.tr hM30_0 hw33_0
                          have hP33 : va_P D cls [(a0, .inr (12, rg 10 g0)), (a4, .inl (ca 0, 20, .inl g4)), (a5, .inr (0, rg 3 x33_0)), (a8, .inl (ca 0, 3000, .inl x33_1))] H33 := hP33
                          have hD33 : va_D A [(a0, .inr (12, rg 10 g0)), (a4, .inl (ca 0, 20, .inl g4)), (a5, .inr (0, rg 3 x33_0)), (a8, .inl (ca 0, 3000, .inl x33_1))] := hD33
                          refine W.widen (k := 0) (n := 0) (Nat.le_of_ble_eq_true rfl) (Nat.le_of_ble_eq_true rfl) ?_
                          refine lv_iinc (v := 10) (lv' := [(2, .int 10), (0, .ref a0), (1, .int v0)]) hx hb d_1_4_47 hl (k := 0) rfl (by decide) (by decide) rfl (fun ls hl => ?_)
                          refine lv_goto (tgt := 29) hx hb d_1_4_50 (by decide) ?_
                          refine lv_iload_n hx hb d_1_4_29 rfl (lv_at hl 0 rfl) ?_
                          refine lv_iload_n hx hb d_1_4_30 rfl (lv_at hl 2 rfl) ?_
                          refine lv_icmp_ge (tgt := 53) hx hb d_1_4_31 (by decide) (fun c34 => ?_) (fun c34 => ?_)
                          · refine lv_aload_n hx hb d_1_4_53 rfl (lv_at hl 1 rfl) ?_
                            refine gget hx hb hts inW_12 hown hK hP33 0 rfl rfl hp0 1 rfl (by decide) k_2_127 d_1_4_54 ?_
                            refine gget hx hb hts inW_0 hown hK hP33 2 rfl rfl hF33_0 0 rfl (by decide) k_1_46 d_1_4_57 ?_
                            have hP9 := hP33.sub (ws' := [(a0, .inr (12, rg 10 g0)), (a4, .inl (ca 0, 20, .inl g4)), (a5, .inr (0, rg 3 x33_0)), (a8, .inl (ca 0, 3000, .inl x33_1))]) [0, 1, 2, 3] rfl
                            have hD9 := hD33.sub (ws' := [(a0, .inr (12, rg 10 g0)), (a4, .inl (ca 0, 20, .inl g4)), (a5, .inr (0, rg 3 x33_0)), (a8, .inl (ca 0, 3000, .inl x33_1))]) [0, 1, 2, 3] (by decide) rfl
                            refine W.widen (k := 0) (n := 0) (Nat.le_of_ble_eq_true rfl) (Nat.le_of_ble_eq_true rfl) ?_
                            exact W.iret (v := 10) hx hb hr (fun t ht hW => ⟨⟨10, (x33_0, x33_1), rfl, ⟨⟨fun z => absurd z c1, fun _ z => absurd z c2, fun _ _ => eqn c34 c31 (by decide)⟩, hM33_0.mono (by decide), hF33_0.sub [] rfl, hw33_2.sub [] rfl⟩, by rw [ht]; exact hP9, va_K.moved hW.alike hK, hD9⟩, hS33.F ht⟩) hS33.2.2 d_1_4_60
                          · refine lv_aload_n hx hb d_1_4_34 rfl (lv_at hl 1 rfl) ?_
                            refine gget hx hb hts inW_12 hown hK hP33 0 rfl rfl hp0 1 rfl (by decide) k_2_127 d_1_4_35 ?_
                            refine lv_aload_n hx hb d_1_4_38 rfl (lv_at hl 1 rfl) ?_
                            refine gget hx hb hts inW_12 hown hK hP33 0 rfl rfl hp0 0 rfl (by decide) k_2_128 d_1_4_39 ?_
                            refine lv_iload_n hx hb d_1_4_42 rfl (lv_at hl 0 rfl) ?_
                            refine galdX hx hb hK hP33 1 0 rfl rfl (vinC (by decide)) d_1_4_43 (fun y35 => ?_)
                            have hFc36 := va_free (wc := [(a5, .inr (0, rg 3 x33_0)), (a8, .inl (ca 0, 3000, .inl x33_1))]) hD33 hS33 hA [2, 3] rfl
                            refine va_callv (va_runV (As := [.int y35]) (rest := []) ⟨hx, hb, hml, hown, hts⟩ (c_ByteRow_put_10 l D ca ad av H33.size a5 a8 x33_0 x33_1 y35 (hF33_0.sub [0, 1] rfl) (hw33_2.sub [] rfl)) (cwV 1 hts (gdV k_2_170 k_2_171 k_2_172 k_1_2 k_2_173) rfl rfl rfl (by decide +kernel) ⟨Nat.le_of_ble_eq_true rfl, Nat.le_of_ble_eq_true rfl⟩) (gPV hP33 hD33 hK hS33 hA hX [2, 3] (by decide) rfl a5 [.int y35] 2 (ci := 0) (r := (RX0, TX0, 3)) rfl rfl) rfl rfl hl.1 rfl (lv_room (Nat.le_of_ble_eq_true rfl)) d_1_4_44 ⟨Nat.le_of_ble_eq_true rfl, Nat.le_of_ble_eq_true rfl⟩) hS33 (fun q _ h => hFc36 q h) hFc36 (fun u36 t36 H36 locs36 ht36 hvm36 hw36 hB36 hz36 hk36 hS36 => ?_)
                            obtain ⟨x36_0, x36_1⟩ := u36
                            try dsimp only at hw36 hB36
                            obtain ⟨hw36_0, hw36_1, hw36_2⟩ := hw36
                            obtain ⟨hP36, hD36⟩ := gJoin (wr := [(a0, .inr (12, rg 10 g0)), (a4, .inl (ca 0, 20, .inl g4))]) (w1 := [(a5, .inr (0, rg 3 x36_0)), (a8, .inl (ca 0, 3000, .inl x36_1))]) hP33 hD33 [2, 3] [0, 1] rfl rfl (by decide) (by decide) hk36 hFc36 ht36 hB36
                            have hF36_0 : gF x36_0 [(1, .int 11), (0, .ref a8)] := gF.upd hF33_0 hw36_0 hw36_1 rfl
                            have hM36_0 := gM.tr hM33_0 hw36_0
                            have hP36 : va_P D cls [(a0, .inr (12, rg 10 g0)), (a4, .inl (ca 0, 20, .inl g4)), (a5, .inr (0, rg 3 x36_0)), (a8, .inl (ca 0, 3000, .inl x36_1))] H36 := hP36
                            have hD36 : va_D A [(a0, .inr (12, rg 10 g0)), (a4, .inl (ca 0, 20, .inl g4)), (a5, .inr (0, rg 3 x36_0)), (a8, .inl (ca 0, 3000, .inl x36_1))] := hD36
                            refine W.widen (k := 0) (n := 0) (Nat.le_of_ble_eq_true rfl) (Nat.le_of_ble_eq_true rfl) ?_
                            refine lv_iinc (v := 11) (lv' := [(2, .int 11), (0, .ref a0), (1, .int v0)]) hx hb d_1_4_47 hl (k := 0) rfl (by decide) (by decide) rfl (fun ls hl => ?_)
                            refine lv_goto (tgt := 29) hx hb d_1_4_50 (by decide) ?_
                            refine lv_iload_n hx hb d_1_4_29 rfl (lv_at hl 0 rfl) ?_
                            refine lv_iload_n hx hb d_1_4_30 rfl (lv_at hl 2 rfl) ?_
                            refine lv_icmp_ge (tgt := 53) hx hb d_1_4_31 (by decide) (fun c37 => ?_) (fun c37 => ?_)
                            · refine lv_aload_n hx hb d_1_4_53 rfl (lv_at hl 1 rfl) ?_
                              refine gget hx hb hts inW_12 hown hK hP36 0 rfl rfl hp0 1 rfl (by decide) k_2_127 d_1_4_54 ?_
                              refine gget hx hb hts inW_0 hown hK hP36 2 rfl rfl hF36_0 0 rfl (by decide) k_1_46 d_1_4_57 ?_
                              have hP9 := hP36.sub (ws' := [(a0, .inr (12, rg 10 g0)), (a4, .inl (ca 0, 20, .inl g4)), (a5, .inr (0, rg 3 x36_0)), (a8, .inl (ca 0, 3000, .inl x36_1))]) [0, 1, 2, 3] rfl
                              have hD9 := hD36.sub (ws' := [(a0, .inr (12, rg 10 g0)), (a4, .inl (ca 0, 20, .inl g4)), (a5, .inr (0, rg 3 x36_0)), (a8, .inl (ca 0, 3000, .inl x36_1))]) [0, 1, 2, 3] (by decide) rfl
                              refine W.widen (k := 0) (n := 0) (Nat.le_of_ble_eq_true rfl) (Nat.le_of_ble_eq_true rfl) ?_
                              exact W.iret (v := 11) hx hb hr (fun t ht hW => ⟨⟨11, (x36_0, x36_1), rfl, ⟨⟨fun z => absurd z c1, fun _ z => absurd z c2, fun _ _ => eqn c37 c34 (by decide)⟩, hM36_0.mono (by decide), hF36_0.sub [] rfl, hw36_2.sub [] rfl⟩, by rw [ht]; exact hP9, va_K.moved hW.alike hK, hD9⟩, hS36.F ht⟩) hS36.2.2 d_1_4_60
                            · refine lv_aload_n hx hb d_1_4_34 rfl (lv_at hl 1 rfl) ?_
                              refine gget hx hb hts inW_12 hown hK hP36 0 rfl rfl hp0 1 rfl (by decide) k_2_127 d_1_4_35 ?_
                              refine lv_aload_n hx hb d_1_4_38 rfl (lv_at hl 1 rfl) ?_
                              refine gget hx hb hts inW_12 hown hK hP36 0 rfl rfl hp0 0 rfl (by decide) k_2_128 d_1_4_39 ?_
                              refine lv_iload_n hx hb d_1_4_42 rfl (lv_at hl 0 rfl) ?_
                              refine galdX hx hb hK hP36 1 0 rfl rfl (vinC (by decide)) d_1_4_43 (fun y38 => ?_)
                              have hFc39 := va_free (wc := [(a5, .inr (0, rg 3 x36_0)), (a8, .inl (ca 0, 3000, .inl x36_1))]) hD36 hS36 hA [2, 3] rfl
                              refine va_callv (va_runV (As := [.int y38]) (rest := []) ⟨hx, hb, hml, hown, hts⟩ (c_ByteRow_put_11 l D ca ad av H36.size a5 a8 x36_0 x36_1 y38 (hF36_0.sub [0, 1] rfl) (hw36_2.sub [] rfl)) (cwV 1 hts (gdV k_2_170 k_2_171 k_2_172 k_1_2 k_2_173) rfl rfl rfl (by decide +kernel) ⟨Nat.le_of_ble_eq_true rfl, Nat.le_of_ble_eq_true rfl⟩) (gPV hP36 hD36 hK hS36 hA hX [2, 3] (by decide) rfl a5 [.int y38] 2 (ci := 0) (r := (RX0, TX0, 3)) rfl rfl) rfl rfl hl.1 rfl (lv_room (Nat.le_of_ble_eq_true rfl)) d_1_4_44 ⟨Nat.le_of_ble_eq_true rfl, Nat.le_of_ble_eq_true rfl⟩) hS36 (fun q _ h => hFc39 q h) hFc39 (fun u39 t39 H39 locs39 ht39 hvm39 hw39 hB39 hz39 hk39 hS39 => ?_)
                              obtain ⟨x39_0, x39_1⟩ := u39
                              try dsimp only at hw39 hB39
                              obtain ⟨hw39_0, hw39_1, hw39_2⟩ := hw39
                              obtain ⟨hP39, hD39⟩ := gJoin (wr := [(a0, .inr (12, rg 10 g0)), (a4, .inl (ca 0, 20, .inl g4))]) (w1 := [(a5, .inr (0, rg 3 x39_0)), (a8, .inl (ca 0, 3000, .inl x39_1))]) hP36 hD36 [2, 3] [0, 1] rfl rfl (by decide) (by decide) hk39 hFc39 ht39 hB39
                              have hF39_0 : gF x39_0 [(1, .int 12), (0, .ref a8)] := gF.upd hF36_0 hw39_0 hw39_1 rfl
                              have hM39_0 := gM.tr hM36_0 hw39_0
                              have hP39 : va_P D cls [(a0, .inr (12, rg 10 g0)), (a4, .inl (ca 0, 20, .inl g4)), (a5, .inr (0, rg 3 x39_0)), (a8, .inl (ca 0, 3000, .inl x39_1))] H39 := hP39
                              have hD39 : va_D A [(a0, .inr (12, rg 10 g0)), (a4, .inl (ca 0, 20, .inl g4)), (a5, .inr (0, rg 3 x39_0)), (a8, .inl (ca 0, 3000, .inl x39_1))] := hD39
                              refine W.widen (k := 0) (n := 0) (Nat.le_of_ble_eq_true rfl) (Nat.le_of_ble_eq_true rfl) ?_
                              refine lv_iinc (v := 12) (lv' := [(2, .int 12), (0, .ref a0), (1, .int v0)]) hx hb d_1_4_47 hl (k := 0) rfl (by decide) (by decide) rfl (fun ls hl => ?_)
                              refine lv_goto (tgt := 29) hx hb d_1_4_50 (by decide) ?_
                              refine lv_iload_n hx hb d_1_4_29 rfl (lv_at hl 0 rfl) ?_
                              refine lv_iload_n hx hb d_1_4_30 rfl (lv_at hl 2 rfl) ?_
                              refine lv_icmp_ge (tgt := 53) hx hb d_1_4_31 (by decide) (fun c40 => ?_) (fun c40 => ?_)
                              · refine lv_aload_n hx hb d_1_4_53 rfl (lv_at hl 1 rfl) ?_
                                refine gget hx hb hts inW_12 hown hK hP39 0 rfl rfl hp0 1 rfl (by decide) k_2_127 d_1_4_54 ?_
                                refine gget hx hb hts inW_0 hown hK hP39 2 rfl rfl hF39_0 0 rfl (by decide) k_1_46 d_1_4_57 ?_
                                have hP9 := hP39.sub (ws' := [(a0, .inr (12, rg 10 g0)), (a4, .inl (ca 0, 20, .inl g4)), (a5, .inr (0, rg 3 x39_0)), (a8, .inl (ca 0, 3000, .inl x39_1))]) [0, 1, 2, 3] rfl
                                have hD9 := hD39.sub (ws' := [(a0, .inr (12, rg 10 g0)), (a4, .inl (ca 0, 20, .inl g4)), (a5, .inr (0, rg 3 x39_0)), (a8, .inl (ca 0, 3000, .inl x39_1))]) [0, 1, 2, 3] (by decide) rfl
                                refine W.widen (k := 0) (n := 0) (Nat.le_of_ble_eq_true rfl) (Nat.le_of_ble_eq_true rfl) ?_
                                exact W.iret (v := 12) hx hb hr (fun t ht hW => ⟨⟨12, (x39_0, x39_1), rfl, ⟨⟨fun z => absurd z c1, fun _ z => absurd z c2, fun _ _ => eqn c40 c37 (by decide)⟩, hM39_0.mono (by decide), hF39_0.sub [] rfl, hw39_2.sub [] rfl⟩, by rw [ht]; exact hP9, va_K.moved hW.alike hK, hD9⟩, hS39.F ht⟩) hS39.2.2 d_1_4_60
                              · refine lv_aload_n hx hb d_1_4_34 rfl (lv_at hl 1 rfl) ?_
                                refine gget hx hb hts inW_12 hown hK hP39 0 rfl rfl hp0 1 rfl (by decide) k_2_127 d_1_4_35 ?_
                                refine lv_aload_n hx hb d_1_4_38 rfl (lv_at hl 1 rfl) ?_
                                refine gget hx hb hts inW_12 hown hK hP39 0 rfl rfl hp0 0 rfl (by decide) k_2_128 d_1_4_39 ?_
                                refine lv_iload_n hx hb d_1_4_42 rfl (lv_at hl 0 rfl) ?_
                                refine galdX hx hb hK hP39 1 0 rfl rfl (vinC (by decide)) d_1_4_43 (fun y41 => ?_)
                                have hFc42 := va_free (wc := [(a5, .inr (0, rg 3 x39_0)), (a8, .inl (ca 0, 3000, .inl x39_1))]) hD39 hS39 hA [2, 3] rfl
                                refine va_callv (va_runV (As := [.int y41]) (rest := []) ⟨hx, hb, hml, hown, hts⟩ (c_ByteRow_put_12 l D ca ad av H39.size a5 a8 x39_0 x39_1 y41 (hF39_0.sub [0, 1] rfl) (hw39_2.sub [] rfl)) (cwV 1 hts (gdV k_2_170 k_2_171 k_2_172 k_1_2 k_2_173) rfl rfl rfl (by decide +kernel) ⟨Nat.le_of_ble_eq_true rfl, Nat.le_of_ble_eq_true rfl⟩) (gPV hP39 hD39 hK hS39 hA hX [2, 3] (by decide) rfl a5 [.int y41] 2 (ci := 0) (r := (RX0, TX0, 3)) rfl rfl) rfl rfl hl.1 rfl (lv_room (Nat.le_of_ble_eq_true rfl)) d_1_4_44 ⟨Nat.le_of_ble_eq_true rfl, Nat.le_of_ble_eq_true rfl⟩) hS39 (fun q _ h => hFc42 q h) hFc42 (fun u42 t42 H42 locs42 ht42 hvm42 hw42 hB42 hz42 hk42 hS42 => ?_)
                                obtain ⟨x42_0, x42_1⟩ := u42
                                try dsimp only at hw42 hB42
                                obtain ⟨hw42_0, hw42_1, hw42_2⟩ := hw42
                                obtain ⟨hP42, hD42⟩ := gJoin (wr := [(a0, .inr (12, rg 10 g0)), (a4, .inl (ca 0, 20, .inl g4))]) (w1 := [(a5, .inr (0, rg 3 x42_0)), (a8, .inl (ca 0, 3000, .inl x42_1))]) hP39 hD39 [2, 3] [0, 1] rfl rfl (by decide) (by decide) hk42 hFc42 ht42 hB42
                                have hF42_0 : gF x42_0 [(1, .int 13), (0, .ref a8)] := gF.upd hF39_0 hw42_0 hw42_1 rfl
                                have hM42_0 := gM.tr hM39_0 hw42_0
                                have hP42 : va_P D cls [(a0, .inr (12, rg 10 g0)), (a4, .inl (ca 0, 20, .inl g4)), (a5, .inr (0, rg 3 x42_0)), (a8, .inl (ca 0, 3000, .inl x42_1))] H42 := hP42
                                have hD42 : va_D A [(a0, .inr (12, rg 10 g0)), (a4, .inl (ca 0, 20, .inl g4)), (a5, .inr (0, rg 3 x42_0)), (a8, .inl (ca 0, 3000, .inl x42_1))] := hD42
                                refine W.widen (k := 0) (n := 0) (Nat.le_of_ble_eq_true rfl) (Nat.le_of_ble_eq_true rfl) ?_
                                refine lv_iinc (v := 13) (lv' := [(2, .int 13), (0, .ref a0), (1, .int v0)]) hx hb d_1_4_47 hl (k := 0) rfl (by decide) (by decide) rfl (fun ls hl => ?_)
                                refine lv_goto (tgt := 29) hx hb d_1_4_50 (by decide) ?_
                                refine lv_iload_n hx hb d_1_4_29 rfl (lv_at hl 0 rfl) ?_
                                refine lv_iload_n hx hb d_1_4_30 rfl (lv_at hl 2 rfl) ?_
                                refine lv_icmp_ge (tgt := 53) hx hb d_1_4_31 (by decide) (fun c43 => ?_) (fun c43 => ?_)
                                · refine lv_aload_n hx hb d_1_4_53 rfl (lv_at hl 1 rfl) ?_
                                  refine gget hx hb hts inW_12 hown hK hP42 0 rfl rfl hp0 1 rfl (by decide) k_2_127 d_1_4_54 ?_
                                  refine gget hx hb hts inW_0 hown hK hP42 2 rfl rfl hF42_0 0 rfl (by decide) k_1_46 d_1_4_57 ?_
                                  have hP9 := hP42.sub (ws' := [(a0, .inr (12, rg 10 g0)), (a4, .inl (ca 0, 20, .inl g4)), (a5, .inr (0, rg 3 x42_0)), (a8, .inl (ca 0, 3000, .inl x42_1))]) [0, 1, 2, 3] rfl
                                  have hD9 := hD42.sub (ws' := [(a0, .inr (12, rg 10 g0)), (a4, .inl (ca 0, 20, .inl g4)), (a5, .inr (0, rg 3 x42_0)), (a8, .inl (ca 0, 3000, .inl x42_1))]) [0, 1, 2, 3] (by decide) rfl
                                  refine W.widen (k := 0) (n := 0) (Nat.le_of_ble_eq_true rfl) (Nat.le_of_ble_eq_true rfl) ?_
                                  exact W.iret (v := 13) hx hb hr (fun t ht hW => ⟨⟨13, (x42_0, x42_1), rfl, ⟨⟨fun z => absurd z c1, fun _ z => absurd z c2, fun _ _ => eqn c43 c40 (by decide)⟩, hM42_0.mono (by decide), hF42_0.sub [] rfl, hw42_2.sub [] rfl⟩, by rw [ht]; exact hP9, va_K.moved hW.alike hK, hD9⟩, hS42.F ht⟩) hS42.2.2 d_1_4_60
                                · refine lv_aload_n hx hb d_1_4_34 rfl (lv_at hl 1 rfl) ?_
                                  refine gget hx hb hts inW_12 hown hK hP42 0 rfl rfl hp0 1 rfl (by decide) k_2_127 d_1_4_35 ?_
                                  refine lv_aload_n hx hb d_1_4_38 rfl (lv_at hl 1 rfl) ?_
                                  refine gget hx hb hts inW_12 hown hK hP42 0 rfl rfl hp0 0 rfl (by decide) k_2_128 d_1_4_39 ?_
                                  refine lv_iload_n hx hb d_1_4_42 rfl (lv_at hl 0 rfl) ?_
                                  refine galdX hx hb hK hP42 1 0 rfl rfl (vinC (by decide)) d_1_4_43 (fun y44 => ?_)
                                  have hFc45 := va_free (wc := [(a5, .inr (0, rg 3 x42_0)), (a8, .inl (ca 0, 3000, .inl x42_1))]) hD42 hS42 hA [2, 3] rfl
                                  refine va_callv (va_runV (As := [.int y44]) (rest := []) ⟨hx, hb, hml, hown, hts⟩ (c_ByteRow_put_13 l D ca ad av H42.size a5 a8 x42_0 x42_1 y44 (hF42_0.sub [0, 1] rfl) (hw42_2.sub [] rfl)) (cwV 1 hts (gdV k_2_170 k_2_171 k_2_172 k_1_2 k_2_173) rfl rfl rfl (by decide +kernel) ⟨Nat.le_of_ble_eq_true rfl, Nat.le_of_ble_eq_true rfl⟩) (gPV hP42 hD42 hK hS42 hA hX [2, 3] (by decide) rfl a5 [.int y44] 2 (ci := 0) (r := (RX0, TX0, 3)) rfl rfl) rfl rfl hl.1 rfl (lv_room (Nat.le_of_ble_eq_true rfl)) d_1_4_44 ⟨Nat.le_of_ble_eq_true rfl, Nat.le_of_ble_eq_true rfl⟩) hS42 (fun q _ h => hFc45 q h) hFc45 (fun u45 t45 H45 locs45 ht45 hvm45 hw45 hB45 hz45 hk45 hS45 => ?_)
                                  obtain ⟨x45_0, x45_1⟩ := u45
                                  try dsimp only at hw45 hB45
                                  obtain ⟨hw45_0, hw45_1, hw45_2⟩ := hw45
                                  obtain ⟨hP45, hD45⟩ := gJoin (wr := [(a0, .inr (12, rg 10 g0)), (a4, .inl (ca 0, 20, .inl g4))]) (w1 := [(a5, .inr (0, rg 3 x45_0)), (a8, .inl (ca 0, 3000, .inl x45_1))]) hP42 hD42 [2, 3] [0, 1] rfl rfl (by decide) (by decide) hk45 hFc45 ht45 hB45
                                  have hF45_0 : gF x45_0 [(1, .int 14), (0, .ref a8)] := gF.upd hF42_0 hw45_0 hw45_1 rfl
                                  have hM45_0 := gM.tr hM42_0 hw45_0
                                  have hP45 : va_P D cls [(a0, .inr (12, rg 10 g0)), (a4, .inl (ca 0, 20, .inl g4)), (a5, .inr (0, rg 3 x45_0)), (a8, .inl (ca 0, 3000, .inl x45_1))] H45 := hP45
                                  have hD45 : va_D A [(a0, .inr (12, rg 10 g0)), (a4, .inl (ca 0, 20, .inl g4)), (a5, .inr (0, rg 3 x45_0)), (a8, .inl (ca 0, 3000, .inl x45_1))] := hD45
                                  refine W.widen (k := 0) (n := 0) (Nat.le_of_ble_eq_true rfl) (Nat.le_of_ble_eq_true rfl) ?_
                                  refine lv_iinc (v := 14) (lv' := [(2, .int 14), (0, .ref a0), (1, .int v0)]) hx hb d_1_4_47 hl (k := 0) rfl (by decide) (by decide) rfl (fun ls hl => ?_)
                                  refine lv_goto (tgt := 29) hx hb d_1_4_50 (by decide) ?_
                                  refine lv_iload_n hx hb d_1_4_29 rfl (lv_at hl 0 rfl) ?_
                                  refine lv_iload_n hx hb d_1_4_30 rfl (lv_at hl 2 rfl) ?_
                                  refine lv_icmp_ge (tgt := 53) hx hb d_1_4_31 (by decide) (fun c46 => ?_) (fun c46 => ?_)
                                  · refine lv_aload_n hx hb d_1_4_53 rfl (lv_at hl 1 rfl) ?_
                                    refine gget hx hb hts inW_12 hown hK hP45 0 rfl rfl hp0 1 rfl (by decide) k_2_127 d_1_4_54 ?_
                                    refine gget hx hb hts inW_0 hown hK hP45 2 rfl rfl hF45_0 0 rfl (by decide) k_1_46 d_1_4_57 ?_
                                    have hP9 := hP45.sub (ws' := [(a0, .inr (12, rg 10 g0)), (a4, .inl (ca 0, 20, .inl g4)), (a5, .inr (0, rg 3 x45_0)), (a8, .inl (ca 0, 3000, .inl x45_1))]) [0, 1, 2, 3] rfl
                                    have hD9 := hD45.sub (ws' := [(a0, .inr (12, rg 10 g0)), (a4, .inl (ca 0, 20, .inl g4)), (a5, .inr (0, rg 3 x45_0)), (a8, .inl (ca 0, 3000, .inl x45_1))]) [0, 1, 2, 3] (by decide) rfl
                                    refine W.widen (k := 0) (n := 0) (Nat.le_of_ble_eq_true rfl) (Nat.le_of_ble_eq_true rfl) ?_
                                    exact W.iret (v := 14) hx hb hr (fun t ht hW => ⟨⟨14, (x45_0, x45_1), rfl, ⟨⟨fun z => absurd z c1, fun _ z => absurd z c2, fun _ _ => eqn c46 c43 (by decide)⟩, hM45_0.mono (by decide), hF45_0.sub [] rfl, hw45_2.sub [] rfl⟩, by rw [ht]; exact hP9, va_K.moved hW.alike hK, hD9⟩, hS45.F ht⟩) hS45.2.2 d_1_4_60
                                  · refine lv_aload_n hx hb d_1_4_34 rfl (lv_at hl 1 rfl) ?_
                                    refine gget hx hb hts inW_12 hown hK hP45 0 rfl rfl hp0 1 rfl (by decide) k_2_127 d_1_4_35 ?_
                                    refine lv_aload_n hx hb d_1_4_38 rfl (lv_at hl 1 rfl) ?_
                                    refine gget hx hb hts inW_12 hown hK hP45 0 rfl rfl hp0 0 rfl (by decide) k_2_128 d_1_4_39 ?_
                                    refine lv_iload_n hx hb d_1_4_42 rfl (lv_at hl 0 rfl) ?_
                                    refine galdX hx hb hK hP45 1 0 rfl rfl (vinC (by decide)) d_1_4_43 (fun y47 => ?_)
                                    have hFc48 := va_free (wc := [(a5, .inr (0, rg 3 x45_0)), (a8, .inl (ca 0, 3000, .inl x45_1))]) hD45 hS45 hA [2, 3] rfl
                                    refine va_callv (va_runV (As := [.int y47]) (rest := []) ⟨hx, hb, hml, hown, hts⟩ (c_ByteRow_put_14 l D ca ad av H45.size a5 a8 x45_0 x45_1 y47 (hF45_0.sub [0, 1] rfl) (hw45_2.sub [] rfl)) (cwV 1 hts (gdV k_2_170 k_2_171 k_2_172 k_1_2 k_2_173) rfl rfl rfl (by decide +kernel) ⟨Nat.le_of_ble_eq_true rfl, Nat.le_of_ble_eq_true rfl⟩) (gPV hP45 hD45 hK hS45 hA hX [2, 3] (by decide) rfl a5 [.int y47] 2 (ci := 0) (r := (RX0, TX0, 3)) rfl rfl) rfl rfl hl.1 rfl (lv_room (Nat.le_of_ble_eq_true rfl)) d_1_4_44 ⟨Nat.le_of_ble_eq_true rfl, Nat.le_of_ble_eq_true rfl⟩) hS45 (fun q _ h => hFc48 q h) hFc48 (fun u48 t48 H48 locs48 ht48 hvm48 hw48 hB48 hz48 hk48 hS48 => ?_)
                                    obtain ⟨x48_0, x48_1⟩ := u48
                                    try dsimp only at hw48 hB48
                                    obtain ⟨hw48_0, hw48_1, hw48_2⟩ := hw48
                                    obtain ⟨hP48, hD48⟩ := gJoin (wr := [(a0, .inr (12, rg 10 g0)), (a4, .inl (ca 0, 20, .inl g4))]) (w1 := [(a5, .inr (0, rg 3 x48_0)), (a8, .inl (ca 0, 3000, .inl x48_1))]) hP45 hD45 [2, 3] [0, 1] rfl rfl (by decide) (by decide) hk48 hFc48 ht48 hB48
                                    have hF48_0 : gF x48_0 [(1, .int 15), (0, .ref a8)] := gF.upd hF45_0 hw48_0 hw48_1 rfl
                                    have hM48_0 := gM.tr hM45_0 hw48_0
                                    have hP48 : va_P D cls [(a0, .inr (12, rg 10 g0)), (a4, .inl (ca 0, 20, .inl g4)), (a5, .inr (0, rg 3 x48_0)), (a8, .inl (ca 0, 3000, .inl x48_1))] H48 := hP48
                                    have hD48 : va_D A [(a0, .inr (12, rg 10 g0)), (a4, .inl (ca 0, 20, .inl g4)), (a5, .inr (0, rg 3 x48_0)), (a8, .inl (ca 0, 3000, .inl x48_1))] := hD48
                                    refine W.widen (k := 0) (n := 0) (Nat.le_of_ble_eq_true rfl) (Nat.le_of_ble_eq_true rfl) ?_
                                    refine lv_iinc (v := 15) (lv' := [(2, .int 15), (0, .ref a0), (1, .int v0)]) hx hb d_1_4_47 hl (k := 0) rfl (by decide) (by decide) rfl (fun ls hl => ?_)
                                    refine lv_goto (tgt := 29) hx hb d_1_4_50 (by decide) ?_
                                    refine lv_iload_n hx hb d_1_4_29 rfl (lv_at hl 0 rfl) ?_
                                    refine lv_iload_n hx hb d_1_4_30 rfl (lv_at hl 2 rfl) ?_
                                    refine lv_icmp_ge (tgt := 53) hx hb d_1_4_31 (by decide) (fun c49 => ?_) (fun c49 => ?_)
                                    · refine lv_aload_n hx hb d_1_4_53 rfl (lv_at hl 1 rfl) ?_
                                      refine gget hx hb hts inW_12 hown hK hP48 0 rfl rfl hp0 1 rfl (by decide) k_2_127 d_1_4_54 ?_
                                      refine gget hx hb hts inW_0 hown hK hP48 2 rfl rfl hF48_0 0 rfl (by decide) k_1_46 d_1_4_57 ?_
                                      have hP9 := hP48.sub (ws' := [(a0, .inr (12, rg 10 g0)), (a4, .inl (ca 0, 20, .inl g4)), (a5, .inr (0, rg 3 x48_0)), (a8, .inl (ca 0, 3000, .inl x48_1))]) [0, 1, 2, 3] rfl
                                      have hD9 := hD48.sub (ws' := [(a0, .inr (12, rg 10 g0)), (a4, .inl (ca 0, 20, .inl g4)), (a5, .inr (0, rg 3 x48_0)), (a8, .inl (ca 0, 3000, .inl x48_1))]) [0, 1, 2, 3] (by decide) rfl
                                      refine W.widen (k := 0) (n := 0) (Nat.le_of_ble_eq_true rfl) (Nat.le_of_ble_eq_true rfl) ?_
                                      exact W.iret (v := 15) hx hb hr (fun t ht hW => ⟨⟨15, (x48_0, x48_1), rfl, ⟨⟨fun z => absurd z c1, fun _ z => absurd z c2, fun _ _ => eqn c49 c46 (by decide)⟩, hM48_0.mono (by decide), hF48_0.sub [] rfl, hw48_2.sub [] rfl⟩, by rw [ht]; exact hP9, va_K.moved hW.alike hK, hD9⟩, hS48.F ht⟩) hS48.2.2 d_1_4_60
                                    · refine lv_aload_n hx hb d_1_4_34 rfl (lv_at hl 1 rfl) ?_
                                      refine gget hx hb hts inW_12 hown hK hP48 0 rfl rfl hp0 1 rfl (by decide) k_2_127 d_1_4_35 ?_
                                      refine lv_aload_n hx hb d_1_4_38 rfl (lv_at hl 1 rfl) ?_
                                      refine gget hx hb hts inW_12 hown hK hP48 0 rfl rfl hp0 0 rfl (by decide) k_2_128 d_1_4_39 ?_
                                      refine lv_iload_n hx hb d_1_4_42 rfl (lv_at hl 0 rfl) ?_
                                      refine galdX hx hb hK hP48 1 0 rfl rfl (vinC (by decide)) d_1_4_43 (fun y50 => ?_)
                                      have hFc51 := va_free (wc := [(a5, .inr (0, rg 3 x48_0)), (a8, .inl (ca 0, 3000, .inl x48_1))]) hD48 hS48 hA [2, 3] rfl
                                      refine va_callv (va_runV (As := [.int y50]) (rest := []) ⟨hx, hb, hml, hown, hts⟩ (c_ByteRow_put_15 l D ca ad av H48.size a5 a8 x48_0 x48_1 y50 (hF48_0.sub [0, 1] rfl) (hw48_2.sub [] rfl)) (cwV 1 hts (gdV k_2_170 k_2_171 k_2_172 k_1_2 k_2_173) rfl rfl rfl (by decide +kernel) ⟨Nat.le_of_ble_eq_true rfl, Nat.le_of_ble_eq_true rfl⟩) (gPV hP48 hD48 hK hS48 hA hX [2, 3] (by decide) rfl a5 [.int y50] 2 (ci := 0) (r := (RX0, TX0, 3)) rfl rfl) rfl rfl hl.1 rfl (lv_room (Nat.le_of_ble_eq_true rfl)) d_1_4_44 ⟨Nat.le_of_ble_eq_true rfl, Nat.le_of_ble_eq_true rfl⟩) hS48 (fun q _ h => hFc51 q h) hFc51 (fun u51 t51 H51 locs51 ht51 hvm51 hw51 hB51 hz51 hk51 hS51 => ?_)
                                      obtain ⟨x51_0, x51_1⟩ := u51
                                      try dsimp only at hw51 hB51
                                      obtain ⟨hw51_0, hw51_1, hw51_2⟩ := hw51
                                      obtain ⟨hP51, hD51⟩ := gJoin (wr := [(a0, .inr (12, rg 10 g0)), (a4, .inl (ca 0, 20, .inl g4))]) (w1 := [(a5, .inr (0, rg 3 x51_0)), (a8, .inl (ca 0, 3000, .inl x51_1))]) hP48 hD48 [2, 3] [0, 1] rfl rfl (by decide) (by decide) hk51 hFc51 ht51 hB51
                                      have hF51_0 : gF x51_0 [(1, .int 16), (0, .ref a8)] := gF.upd hF48_0 hw51_0 hw51_1 rfl
                                      have hM51_0 := gM.tr hM48_0 hw51_0
                                      have hP51 : va_P D cls [(a0, .inr (12, rg 10 g0)), (a4, .inl (ca 0, 20, .inl g4)), (a5, .inr (0, rg 3 x51_0)), (a8, .inl (ca 0, 3000, .inl x51_1))] H51 := hP51
                                      have hD51 : va_D A [(a0, .inr (12, rg 10 g0)), (a4, .inl (ca 0, 20, .inl g4)), (a5, .inr (0, rg 3 x51_0)), (a8, .inl (ca 0, 3000, .inl x51_1))] := hD51
                                      refine W.widen (k := 0) (n := 0) (Nat.le_of_ble_eq_true rfl) (Nat.le_of_ble_eq_true rfl) ?_
                                      refine lv_iinc (v := 16) (lv' := [(2, .int 16), (0, .ref a0), (1, .int v0)]) hx hb d_1_4_47 hl (k := 0) rfl (by decide) (by decide) rfl (fun ls hl => ?_)
                                      refine lv_goto (tgt := 29) hx hb d_1_4_50 (by decide) ?_
                                      refine lv_iload_n hx hb d_1_4_29 rfl (lv_at hl 0 rfl) ?_
                                      refine lv_iload_n hx hb d_1_4_30 rfl (lv_at hl 2 rfl) ?_
                                      refine lv_icmp_ge (tgt := 53) hx hb d_1_4_31 (by decide) (fun c52 => ?_) (fun c52 => ?_)
                                      · refine lv_aload_n hx hb d_1_4_53 rfl (lv_at hl 1 rfl) ?_
                                        refine gget hx hb hts inW_12 hown hK hP51 0 rfl rfl hp0 1 rfl (by decide) k_2_127 d_1_4_54 ?_
                                        refine gget hx hb hts inW_0 hown hK hP51 2 rfl rfl hF51_0 0 rfl (by decide) k_1_46 d_1_4_57 ?_
                                        have hP9 := hP51.sub (ws' := [(a0, .inr (12, rg 10 g0)), (a4, .inl (ca 0, 20, .inl g4)), (a5, .inr (0, rg 3 x51_0)), (a8, .inl (ca 0, 3000, .inl x51_1))]) [0, 1, 2, 3] rfl
                                        have hD9 := hD51.sub (ws' := [(a0, .inr (12, rg 10 g0)), (a4, .inl (ca 0, 20, .inl g4)), (a5, .inr (0, rg 3 x51_0)), (a8, .inl (ca 0, 3000, .inl x51_1))]) [0, 1, 2, 3] (by decide) rfl
                                        refine W.widen (k := 0) (n := 0) (Nat.le_of_ble_eq_true rfl) (Nat.le_of_ble_eq_true rfl) ?_
                                        exact W.iret (v := 16) hx hb hr (fun t ht hW => ⟨⟨16, (x51_0, x51_1), rfl, ⟨⟨fun z => absurd z c1, fun _ z => absurd z c2, fun _ _ => eqn c52 c49 (by decide)⟩, hM51_0.mono (by decide), hF51_0.sub [] rfl, hw51_2.sub [] rfl⟩, by rw [ht]; exact hP9, va_K.moved hW.alike hK, hD9⟩, hS51.F ht⟩) hS51.2.2 d_1_4_60
                                      · refine lv_aload_n hx hb d_1_4_34 rfl (lv_at hl 1 rfl) ?_
                                        refine gget hx hb hts inW_12 hown hK hP51 0 rfl rfl hp0 1 rfl (by decide) k_2_127 d_1_4_35 ?_
                                        refine lv_aload_n hx hb d_1_4_38 rfl (lv_at hl 1 rfl) ?_
                                        refine gget hx hb hts inW_12 hown hK hP51 0 rfl rfl hp0 0 rfl (by decide) k_2_128 d_1_4_39 ?_
                                        refine lv_iload_n hx hb d_1_4_42 rfl (lv_at hl 0 rfl) ?_
                                        refine galdX hx hb hK hP51 1 0 rfl rfl (vinC (by decide)) d_1_4_43 (fun y53 => ?_)
                                        have hFc54 := va_free (wc := [(a5, .inr (0, rg 3 x51_0)), (a8, .inl (ca 0, 3000, .inl x51_1))]) hD51 hS51 hA [2, 3] rfl
                                        refine va_callv (va_runV (As := [.int y53]) (rest := []) ⟨hx, hb, hml, hown, hts⟩ (c_ByteRow_put_16 l D ca ad av H51.size a5 a8 x51_0 x51_1 y53 (hF51_0.sub [0, 1] rfl) (hw51_2.sub [] rfl)) (cwV 1 hts (gdV k_2_170 k_2_171 k_2_172 k_1_2 k_2_173) rfl rfl rfl (by decide +kernel) ⟨Nat.le_of_ble_eq_true rfl, Nat.le_of_ble_eq_true rfl⟩) (gPV hP51 hD51 hK hS51 hA hX [2, 3] (by decide) rfl a5 [.int y53] 2 (ci := 0) (r := (RX0, TX0, 3)) rfl rfl) rfl rfl hl.1 rfl (lv_room (Nat.le_of_ble_eq_true rfl)) d_1_4_44 ⟨Nat.le_of_ble_eq_true rfl, Nat.le_of_ble_eq_true rfl⟩) hS51 (fun q _ h => hFc54 q h) hFc54 (fun u54 t54 H54 locs54 ht54 hvm54 hw54 hB54 hz54 hk54 hS54 => ?_)
                                        obtain ⟨x54_0, x54_1⟩ := u54
                                        try dsimp only at hw54 hB54
                                        obtain ⟨hw54_0, hw54_1, hw54_2⟩ := hw54
                                        obtain ⟨hP54, hD54⟩ := gJoin (wr := [(a0, .inr (12, rg 10 g0)), (a4, .inl (ca 0, 20, .inl g4))]) (w1 := [(a5, .inr (0, rg 3 x54_0)), (a8, .inl (ca 0, 3000, .inl x54_1))]) hP51 hD51 [2, 3] [0, 1] rfl rfl (by decide) (by decide) hk54 hFc54 ht54 hB54
                                        have hF54_0 : gF x54_0 [(1, .int 17), (0, .ref a8)] := gF.upd hF51_0 hw54_0 hw54_1 rfl
                                        have hM54_0 := gM.tr hM51_0 hw54_0
                                        have hP54 : va_P D cls [(a0, .inr (12, rg 10 g0)), (a4, .inl (ca 0, 20, .inl g4)), (a5, .inr (0, rg 3 x54_0)), (a8, .inl (ca 0, 3000, .inl x54_1))] H54 := hP54
                                        have hD54 : va_D A [(a0, .inr (12, rg 10 g0)), (a4, .inl (ca 0, 20, .inl g4)), (a5, .inr (0, rg 3 x54_0)), (a8, .inl (ca 0, 3000, .inl x54_1))] := hD54
                                        refine W.widen (k := 0) (n := 0) (Nat.le_of_ble_eq_true rfl) (Nat.le_of_ble_eq_true rfl) ?_
                                        refine lv_iinc (v := 17) (lv' := [(2, .int 17), (0, .ref a0), (1, .int v0)]) hx hb d_1_4_47 hl (k := 0) rfl (by decide) (by decide) rfl (fun ls hl => ?_)
                                        refine lv_goto (tgt := 29) hx hb d_1_4_50 (by decide) ?_
                                        refine lv_iload_n hx hb d_1_4_29 rfl (lv_at hl 0 rfl) ?_
                                        refine lv_iload_n hx hb d_1_4_30 rfl (lv_at hl 2 rfl) ?_
                                        refine lv_icmp_ge (tgt := 53) hx hb d_1_4_31 (by decide) (fun c55 => ?_) (fun c55 => ?_)
                                        · refine lv_aload_n hx hb d_1_4_53 rfl (lv_at hl 1 rfl) ?_
                                          refine gget hx hb hts inW_12 hown hK hP54 0 rfl rfl hp0 1 rfl (by decide) k_2_127 d_1_4_54 ?_
                                          refine gget hx hb hts inW_0 hown hK hP54 2 rfl rfl hF54_0 0 rfl (by decide) k_1_46 d_1_4_57 ?_
                                          have hP9 := hP54.sub (ws' := [(a0, .inr (12, rg 10 g0)), (a4, .inl (ca 0, 20, .inl g4)), (a5, .inr (0, rg 3 x54_0)), (a8, .inl (ca 0, 3000, .inl x54_1))]) [0, 1, 2, 3] rfl
                                          have hD9 := hD54.sub (ws' := [(a0, .inr (12, rg 10 g0)), (a4, .inl (ca 0, 20, .inl g4)), (a5, .inr (0, rg 3 x54_0)), (a8, .inl (ca 0, 3000, .inl x54_1))]) [0, 1, 2, 3] (by decide) rfl
                                          refine W.widen (k := 0) (n := 0) (Nat.le_of_ble_eq_true rfl) (Nat.le_of_ble_eq_true rfl) ?_
                                          exact W.iret (v := 17) hx hb hr (fun t ht hW => ⟨⟨17, (x54_0, x54_1), rfl, ⟨⟨fun z => absurd z c1, fun _ z => absurd z c2, fun _ _ => eqn c55 c52 (by decide)⟩, hM54_0.mono (by decide), hF54_0.sub [] rfl, hw54_2.sub [] rfl⟩, by rw [ht]; exact hP9, va_K.moved hW.alike hK, hD9⟩, hS54.F ht⟩) hS54.2.2 d_1_4_60
                                        · refine lv_aload_n hx hb d_1_4_34 rfl (lv_at hl 1 rfl) ?_
                                          refine gget hx hb hts inW_12 hown hK hP54 0 rfl rfl hp0 1 rfl (by decide) k_2_127 d_1_4_35 ?_
                                          refine lv_aload_n hx hb d_1_4_38 rfl (lv_at hl 1 rfl) ?_
                                          refine gget hx hb hts inW_12 hown hK hP54 0 rfl rfl hp0 0 rfl (by decide) k_2_128 d_1_4_39 ?_
                                          refine lv_iload_n hx hb d_1_4_42 rfl (lv_at hl 0 rfl) ?_
                                          refine galdX hx hb hK hP54 1 0 rfl rfl (vinC (by decide)) d_1_4_43 (fun y56 => ?_)
                                          have hFc57 := va_free (wc := [(a5, .inr (0, rg 3 x54_0)), (a8, .inl (ca 0, 3000, .inl x54_1))]) hD54 hS54 hA [2, 3] rfl
                                          refine va_callv (va_runV (As := [.int y56]) (rest := []) ⟨hx, hb, hml, hown, hts⟩ (c_ByteRow_put_17 l D ca ad av H54.size a5 a8 x54_0 x54_1 y56 (hF54_0.sub [0, 1] rfl) (hw54_2.sub [] rfl)) (cwV 1 hts (gdV k_2_170 k_2_171 k_2_172 k_1_2 k_2_173) rfl rfl rfl (by decide +kernel) ⟨Nat.le_of_ble_eq_true rfl, Nat.le_of_ble_eq_true rfl⟩) (gPV hP54 hD54 hK hS54 hA hX [2, 3] (by decide) rfl a5 [.int y56] 2 (ci := 0) (r := (RX0, TX0, 3)) rfl rfl) rfl rfl hl.1 rfl (lv_room (Nat.le_of_ble_eq_true rfl)) d_1_4_44 ⟨Nat.le_of_ble_eq_true rfl, Nat.le_of_ble_eq_true rfl⟩) hS54 (fun q _ h => hFc57 q h) hFc57 (fun u57 t57 H57 locs57 ht57 hvm57 hw57 hB57 hz57 hk57 hS57 => ?_)
                                          obtain ⟨x57_0, x57_1⟩ := u57
                                          try dsimp only at hw57 hB57
                                          obtain ⟨hw57_0, hw57_1, hw57_2⟩ := hw57
                                          obtain ⟨hP57, hD57⟩ := gJoin (wr := [(a0, .inr (12, rg 10 g0)), (a4, .inl (ca 0, 20, .inl g4))]) (w1 := [(a5, .inr (0, rg 3 x57_0)), (a8, .inl (ca 0, 3000, .inl x57_1))]) hP54 hD54 [2, 3] [0, 1] rfl rfl (by decide) (by decide) hk57 hFc57 ht57 hB57
                                          have hF57_0 : gF x57_0 [(1, .int 18), (0, .ref a8)] := gF.upd hF54_0 hw57_0 hw57_1 rfl
                                          have hM57_0 := gM.tr hM54_0 hw57_0
                                          have hP57 : va_P D cls [(a0, .inr (12, rg 10 g0)), (a4, .inl (ca 0, 20, .inl g4)), (a5, .inr (0, rg 3 x57_0)), (a8, .inl (ca 0, 3000, .inl x57_1))] H57 := hP57
                                          have hD57 : va_D A [(a0, .inr (12, rg 10 g0)), (a4, .inl (ca 0, 20, .inl g4)), (a5, .inr (0, rg 3 x57_0)), (a8, .inl (ca 0, 3000, .inl x57_1))] := hD57
                                          refine W.widen (k := 0) (n := 0) (Nat.le_of_ble_eq_true rfl) (Nat.le_of_ble_eq_true rfl) ?_
                                          refine lv_iinc (v := 18) (lv' := [(2, .int 18), (0, .ref a0), (1, .int v0)]) hx hb d_1_4_47 hl (k := 0) rfl (by decide) (by decide) rfl (fun ls hl => ?_)
                                          refine lv_goto (tgt := 29) hx hb d_1_4_50 (by decide) ?_
                                          refine lv_iload_n hx hb d_1_4_29 rfl (lv_at hl 0 rfl) ?_
                                          refine lv_iload_n hx hb d_1_4_30 rfl (lv_at hl 2 rfl) ?_
                                          refine lv_icmp_ge (tgt := 53) hx hb d_1_4_31 (by decide) (fun c58 => ?_) (fun c58 => ?_)
                                          · refine lv_aload_n hx hb d_1_4_53 rfl (lv_at hl 1 rfl) ?_
                                            refine gget hx hb hts inW_12 hown hK hP57 0 rfl rfl hp0 1 rfl (by decide) k_2_127 d_1_4_54 ?_
                                            refine gget hx hb hts inW_0 hown hK hP57 2 rfl rfl hF57_0 0 rfl (by decide) k_1_46 d_1_4_57 ?_
                                            have hP9 := hP57.sub (ws' := [(a0, .inr (12, rg 10 g0)), (a4, .inl (ca 0, 20, .inl g4)), (a5, .inr (0, rg 3 x57_0)), (a8, .inl (ca 0, 3000, .inl x57_1))]) [0, 1, 2, 3] rfl
                                            have hD9 := hD57.sub (ws' := [(a0, .inr (12, rg 10 g0)), (a4, .inl (ca 0, 20, .inl g4)), (a5, .inr (0, rg 3 x57_0)), (a8, .inl (ca 0, 3000, .inl x57_1))]) [0, 1, 2, 3] (by decide) rfl
                                            refine W.widen (k := 0) (n := 0) (Nat.le_of_ble_eq_true rfl) (Nat.le_of_ble_eq_true rfl) ?_
                                            exact W.iret (v := 18) hx hb hr (fun t ht hW => ⟨⟨18, (x57_0, x57_1), rfl, ⟨⟨fun z => absurd z c1, fun _ z => absurd z c2, fun _ _ => eqn c58 c55 (by decide)⟩, hM57_0.mono (by decide), hF57_0.sub [] rfl, hw57_2.sub [] rfl⟩, by rw [ht]; exact hP9, va_K.moved hW.alike hK, hD9⟩, hS57.F ht⟩) hS57.2.2 d_1_4_60
                                          · refine lv_aload_n hx hb d_1_4_34 rfl (lv_at hl 1 rfl) ?_
                                            refine gget hx hb hts inW_12 hown hK hP57 0 rfl rfl hp0 1 rfl (by decide) k_2_127 d_1_4_35 ?_
                                            refine lv_aload_n hx hb d_1_4_38 rfl (lv_at hl 1 rfl) ?_
                                            refine gget hx hb hts inW_12 hown hK hP57 0 rfl rfl hp0 0 rfl (by decide) k_2_128 d_1_4_39 ?_
                                            refine lv_iload_n hx hb d_1_4_42 rfl (lv_at hl 0 rfl) ?_
                                            refine galdX hx hb hK hP57 1 0 rfl rfl (vinC (by decide)) d_1_4_43 (fun y59 => ?_)
                                            have hFc60 := va_free (wc := [(a5, .inr (0, rg 3 x57_0)), (a8, .inl (ca 0, 3000, .inl x57_1))]) hD57 hS57 hA [2, 3] rfl
                                            refine va_callv (va_runV (As := [.int y59]) (rest := []) ⟨hx, hb, hml, hown, hts⟩ (c_ByteRow_put_18 l D ca ad av H57.size a5 a8 x57_0 x57_1 y59 (hF57_0.sub [0, 1] rfl) (hw57_2.sub [] rfl)) (cwV 1 hts (gdV k_2_170 k_2_171 k_2_172 k_1_2 k_2_173) rfl rfl rfl (by decide +kernel) ⟨Nat.le_of_ble_eq_true rfl, Nat.le_of_ble_eq_true rfl⟩) (gPV hP57 hD57 hK hS57 hA hX [2, 3] (by decide) rfl a5 [.int y59] 2 (ci := 0) (r := (RX0, TX0, 3)) rfl rfl) rfl rfl hl.1 rfl (lv_room (Nat.le_of_ble_eq_true rfl)) d_1_4_44 ⟨Nat.le_of_ble_eq_true rfl, Nat.le_of_ble_eq_true rfl⟩) hS57 (fun q _ h => hFc60 q h) hFc60 (fun u60 t60 H60 locs60 ht60 hvm60 hw60 hB60 hz60 hk60 hS60 => ?_)
                                            obtain ⟨x60_0, x60_1⟩ := u60
                                            try dsimp only at hw60 hB60
                                            obtain ⟨hw60_0, hw60_1, hw60_2⟩ := hw60
                                            obtain ⟨hP60, hD60⟩ := gJoin (wr := [(a0, .inr (12, rg 10 g0)), (a4, .inl (ca 0, 20, .inl g4))]) (w1 := [(a5, .inr (0, rg 3 x60_0)), (a8, .inl (ca 0, 3000, .inl x60_1))]) hP57 hD57 [2, 3] [0, 1] rfl rfl (by decide) (by decide) hk60 hFc60 ht60 hB60
                                            have hF60_0 : gF x60_0 [(1, .int 19), (0, .ref a8)] := gF.upd hF57_0 hw60_0 hw60_1 rfl
                                            have hM60_0 := gM.tr hM57_0 hw60_0
                                            have hP60 : va_P D cls [(a0, .inr (12, rg 10 g0)), (a4, .inl (ca 0, 20, .inl g4)), (a5, .inr (0, rg 3 x60_0)), (a8, .inl (ca 0, 3000, .inl x60_1))] H60 := hP60
                                            have hD60 : va_D A [(a0, .inr (12, rg 10 g0)), (a4, .inl (ca 0, 20, .inl g4)), (a5, .inr (0, rg 3 x60_0)), (a8, .inl (ca 0, 3000, .inl x60_1))] := hD60
                                            refine W.widen (k := 0) (n := 0) (Nat.le_of_ble_eq_true rfl) (Nat.le_of_ble_eq_true rfl) ?_
                                            refine lv_iinc (v := 19) (lv' := [(2, .int 19), (0, .ref a0), (1, .int v0)]) hx hb d_1_4_47 hl (k := 0) rfl (by decide) (by decide) rfl (fun ls hl => ?_)
                                            refine lv_goto (tgt := 29) hx hb d_1_4_50 (by decide) ?_
                                            refine lv_iload_n hx hb d_1_4_29 rfl (lv_at hl 0 rfl) ?_
                                            refine lv_iload_n hx hb d_1_4_30 rfl (lv_at hl 2 rfl) ?_
                                            refine lv_icmp_ge (tgt := 53) hx hb d_1_4_31 (by decide) (fun c61 => ?_) (fun c61 => ?_)
                                            · refine lv_aload_n hx hb d_1_4_53 rfl (lv_at hl 1 rfl) ?_
                                              refine gget hx hb hts inW_12 hown hK hP60 0 rfl rfl hp0 1 rfl (by decide) k_2_127 d_1_4_54 ?_
                                              refine gget hx hb hts inW_0 hown hK hP60 2 rfl rfl hF60_0 0 rfl (by decide) k_1_46 d_1_4_57 ?_
                                              have hP9 := hP60.sub (ws' := [(a0, .inr (12, rg 10 g0)), (a4, .inl (ca 0, 20, .inl g4)), (a5, .inr (0, rg 3 x60_0)), (a8, .inl (ca 0, 3000, .inl x60_1))]) [0, 1, 2, 3] rfl
                                              have hD9 := hD60.sub (ws' := [(a0, .inr (12, rg 10 g0)), (a4, .inl (ca 0, 20, .inl g4)), (a5, .inr (0, rg 3 x60_0)), (a8, .inl (ca 0, 3000, .inl x60_1))]) [0, 1, 2, 3] (by decide) rfl
                                              refine W.widen (k := 0) (n := 0) (Nat.le_of_ble_eq_true rfl) (Nat.le_of_ble_eq_true rfl) ?_
                                              exact W.iret (v := 19) hx hb hr (fun t ht hW => ⟨⟨19, (x60_0, x60_1), rfl, ⟨⟨fun z => absurd z c1, fun _ z => absurd z c2, fun _ _ => eqn c61 c58 (by decide)⟩, hM60_0.mono (by decide), hF60_0.sub [] rfl, hw60_2.sub [] rfl⟩, by rw [ht]; exact hP9, va_K.moved hW.alike hK, hD9⟩, hS60.F ht⟩) hS60.2.2 d_1_4_60
                                            · refine lv_aload_n hx hb d_1_4_34 rfl (lv_at hl 1 rfl) ?_
                                              refine gget hx hb hts inW_12 hown hK hP60 0 rfl rfl hp0 1 rfl (by decide) k_2_127 d_1_4_35 ?_
                                              refine lv_aload_n hx hb d_1_4_38 rfl (lv_at hl 1 rfl) ?_
                                              refine gget hx hb hts inW_12 hown hK hP60 0 rfl rfl hp0 0 rfl (by decide) k_2_128 d_1_4_39 ?_
                                              refine lv_iload_n hx hb d_1_4_42 rfl (lv_at hl 0 rfl) ?_
                                              refine galdX hx hb hK hP60 1 0 rfl rfl (vinC (by decide)) d_1_4_43 (fun y62 => ?_)
                                              have hFc63 := va_free (wc := [(a5, .inr (0, rg 3 x60_0)), (a8, .inl (ca 0, 3000, .inl x60_1))]) hD60 hS60 hA [2, 3] rfl
                                              refine va_callv (va_runV (As := [.int y62]) (rest := []) ⟨hx, hb, hml, hown, hts⟩ (c_ByteRow_put_19 l D ca ad av H60.size a5 a8 x60_0 x60_1 y62 (hF60_0.sub [0, 1] rfl) (hw60_2.sub [] rfl)) (cwV 1 hts (gdV k_2_170 k_2_171 k_2_172 k_1_2 k_2_173) rfl rfl rfl (by decide +kernel) ⟨Nat.le_of_ble_eq_true rfl, Nat.le_of_ble_eq_true rfl⟩) (gPV hP60 hD60 hK hS60 hA hX [2, 3] (by decide) rfl a5 [.int y62] 2 (ci := 0) (r := (RX0, TX0, 3)) rfl rfl) rfl rfl hl.1 rfl (lv_room (Nat.le_of_ble_eq_true rfl)) d_1_4_44 ⟨Nat.le_of_ble_eq_true rfl, Nat.le_of_ble_eq_true rfl⟩) hS60 (fun q _ h => hFc63 q h) hFc63 (fun u63 t63 H63 locs63 ht63 hvm63 hw63 hB63 hz63 hk63 hS63 => ?_)
                                              obtain ⟨x63_0, x63_1⟩ := u63
                                              try dsimp only at hw63 hB63
                                              obtain ⟨hw63_0, hw63_1, hw63_2⟩ := hw63
                                              obtain ⟨hP63, hD63⟩ := gJoin (wr := [(a0, .inr (12, rg 10 g0)), (a4, .inl (ca 0, 20, .inl g4))]) (w1 := [(a5, .inr (0, rg 3 x63_0)), (a8, .inl (ca 0, 3000, .inl x63_1))]) hP60 hD60 [2, 3] [0, 1] rfl rfl (by decide) (by decide) hk63 hFc63 ht63 hB63
                                              have hF63_0 : gF x63_0 [(1, .int 20), (0, .ref a8)] := gF.upd hF60_0 hw63_0 hw63_1 rfl
                                              have hM63_0 := gM.tr hM60_0 hw63_0
                                              have hP63 : va_P D cls [(a0, .inr (12, rg 10 g0)), (a4, .inl (ca 0, 20, .inl g4)), (a5, .inr (0, rg 3 x63_0)), (a8, .inl (ca 0, 3000, .inl x63_1))] H63 := hP63
                                              have hD63 : va_D A [(a0, .inr (12, rg 10 g0)), (a4, .inl (ca 0, 20, .inl g4)), (a5, .inr (0, rg 3 x63_0)), (a8, .inl (ca 0, 3000, .inl x63_1))] := hD63
                                              refine W.widen (k := 0) (n := 0) (Nat.le_of_ble_eq_true rfl) (Nat.le_of_ble_eq_true rfl) ?_
                                              refine lv_iinc (v := 20) (lv' := [(2, .int 20), (0, .ref a0), (1, .int v0)]) hx hb d_1_4_47 hl (k := 0) rfl (by decide) (by decide) rfl (fun ls hl => ?_)
                                              refine lv_goto (tgt := 29) hx hb d_1_4_50 (by decide) ?_
                                              refine lv_iload_n hx hb d_1_4_29 rfl (lv_at hl 0 rfl) ?_
                                              refine lv_iload_n hx hb d_1_4_30 rfl (lv_at hl 2 rfl) ?_
                                              refine lv_icmp_ge (tgt := 53) hx hb d_1_4_31 (by decide) (fun _ => ?_) (fun c => absurd (Int32.not_lt.mp c2) c)
                                              refine lv_aload_n hx hb d_1_4_53 rfl (lv_at hl 1 rfl) ?_
                                              refine gget hx hb hts inW_12 hown hK hP63 0 rfl rfl hp0 1 rfl (by decide) k_2_127 d_1_4_54 ?_
                                              refine gget hx hb hts inW_0 hown hK hP63 2 rfl rfl hF63_0 0 rfl (by decide) k_1_46 d_1_4_57 ?_
                                              have hP9 := hP63.sub (ws' := [(a0, .inr (12, rg 10 g0)), (a4, .inl (ca 0, 20, .inl g4)), (a5, .inr (0, rg 3 x63_0)), (a8, .inl (ca 0, 3000, .inl x63_1))]) [0, 1, 2, 3] rfl
                                              have hD9 := hD63.sub (ws' := [(a0, .inr (12, rg 10 g0)), (a4, .inl (ca 0, 20, .inl g4)), (a5, .inr (0, rg 3 x63_0)), (a8, .inl (ca 0, 3000, .inl x63_1))]) [0, 1, 2, 3] (by decide) rfl
                                              refine W.widen (k := 0) (n := 0) (Nat.le_of_ble_eq_true rfl) (Nat.le_of_ble_eq_true rfl) ?_
                                              exact W.iret (v := 20) hx hb hr (fun t ht hW => ⟨⟨20, (x63_0, x63_1), rfl, ⟨⟨fun z => absurd z c1, fun _ z => absurd z c2, fun _ _ => eqn (Int32.not_lt.mp c2) c61 (by decide)⟩, hM63_0.mono (by decide), hF63_0.sub [] rfl, hw63_2.sub [] rfl⟩, by rw [ht]; exact hP9, va_K.moved hW.alike hK, hD9⟩, hS63.F ht⟩) hS63.2.2 d_1_4_60
