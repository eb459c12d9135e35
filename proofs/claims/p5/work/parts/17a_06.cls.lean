noncomputable def f_Long_bitCount (K : zK) (l0 : Int) (F : zF) (B : zB) : zO := some (zand ((((zland (((zland (l0 - (zland (zlushr l0 1) 6148914691236517205)) 3689348814741910323) + (zland (zlushr (l0 - (zland (zlushr l0 1) 6148914691236517205)) 2) 3689348814741910323)) + (zlushr ((zland (l0 - (zland (zlushr l0 1) 6148914691236517205)) 3689348814741910323) + (zland (zlushr (l0 - (zland (zlushr l0 1) 6148914691236517205)) 2) 3689348814741910323)) 4)) 1085102592571150095) + (zlushr (zland (((zland (l0 - (zland (zlushr l0 1) 6148914691236517205)) 3689348814741910323) + (zland (zlushr (l0 - (zland (zlushr l0 1) 6148914691236517205)) 2) 3689348814741910323)) + (zlushr ((zland (l0 - (zland (zlushr l0 1) 6148914691236517205)) 3689348814741910323) + (zland (zlushr (l0 - (zland (zlushr l0 1) 6148914691236517205)) 2) 3689348814741910323)) 4)) 1085102592571150095) 8)) + (zlushr ((zland (((zland (l0 - (zland (zlushr l0 1) 6148914691236517205)) 3689348814741910323) + (zland (zlushr (l0 - (zland (zlushr l0 1) 6148914691236517205)) 2) 3689348814741910323)) + (zlushr ((zland (l0 - (zland (zlushr l0 1) 6148914691236517205)) 3689348814741910323) + (zland (zlushr (l0 - (zland (zlushr l0 1) 6148914691236517205)) 2) 3689348814741910323)) 4)) 1085102592571150095) + (zlushr (zland (((zland (l0 - (zland (zlushr l0 1) 6148914691236517205)) 3689348814741910323) + (zland (zlushr (l0 - (zland (zlushr l0 1) 6148914691236517205)) 2) 3689348814741910323)) + (zlushr ((zland (l0 - (zland (zlushr l0 1) 6148914691236517205)) 3689348814741910323) + (zland (zlushr (l0 - (zland (zlushr l0 1) 6148914691236517205)) 2) 3689348814741910323)) 4)) 1085102592571150095) 8)) 16)) + (zlushr (((zland (((zland (l0 - (zland (zlushr l0 1) 6148914691236517205)) 3689348814741910323) + (zland (zlushr (l0 - (zland (zlushr l0 1) 6148914691236517205)) 2) 3689348814741910323)) + (zlushr ((zland (l0 - (zland (zlushr l0 1) 6148914691236517205)) 3689348814741910323) + (zland (zlushr (l0 - (zland (zlushr l0 1) 6148914691236517205)) 2) 3689348814741910323)) 4)) 1085102592571150095) + (zlushr (zland (((zland (l0 - (zland (zlushr l0 1) 6148914691236517205)) 3689348814741910323) + (zland (zlushr (l0 - (zland (zlushr l0 1) 6148914691236517205)) 2) 3689348814741910323)) + (zlushr ((zland (l0 - (zland (zlushr l0 1) 6148914691236517205)) 3689348814741910323) + (zland (zlushr (l0 - (zland (zlushr l0 1) 6148914691236517205)) 2) 3689348814741910323)) 4)) 1085102592571150095) 8)) + (zlushr ((zland (((zland (l0 - (zland (zlushr l0 1) 6148914691236517205)) 3689348814741910323) + (zland (zlushr (l0 - (zland (zlushr l0 1) 6148914691236517205)) 2) 3689348814741910323)) + (zlushr ((zland (l0 - (zland (zlushr l0 1) 6148914691236517205)) 3689348814741910323) + (zland (zlushr (l0 - (zland (zlushr l0 1) 6148914691236517205)) 2) 3689348814741910323)) 4)) 1085102592571150095) + (zlushr (zland (((zland (l0 - (zland (zlushr l0 1) 6148914691236517205)) 3689348814741910323) + (zland (zlushr (l0 - (zland (zlushr l0 1) 6148914691236517205)) 2) 3689348814741910323)) + (zlushr ((zland (l0 - (zland (zlushr l0 1) 6148914691236517205)) 3689348814741910323) + (zland (zlushr (l0 - (zland (zlushr l0 1) 6148914691236517205)) 2) 3689348814741910323)) 4)) 1085102592571150095) 8)) 16)) 32)) 127, F, B)
set_option maxHeartbeats 4000000 in
set_option maxRecDepth 100000 in
theorem c_Long_bitCount {l : Launch} {D : va_G} {ca : Nat → ClassId} {ad : Nat → Int → Nat → Nat} {L : List Nat} {aS vS : Nat → Nat} {sz : Nat} {K : zK}  {l0 : Int} {F F9 : zF} {B B9 : zB} {r : Int} (hf : f_Long_bitCount K l0 F B = some (r, F9, B9)) : Met l ({ cls := "java/lang/Long", name := "bitCount", desc := "(J)I" } : Jvm.MethodName) (Cond.code ({ cls := "java/lang/Long", name := "bitCount", desc := "(J)I" } : Jvm.MethodName) prog_19_method_50_code 2 (Option.some Jvm.ClassFile.FieldType.int) :: wAll) ({ frames := 0, cells := 0, slots := 0, locals := 0 } : Room) (va_Pc [.long (lI l0)] (zPre D ca ad lnC K.2 L aS vS F B sz)) (Q_Long_bitCount K D ca ad L r F9 B9 (zA L sz)) 0 0 (zA L sz) := by
  refine zMet (Qc := Q_Long_bitCount K D ca ad L r F9 B9) (lv := [(0, .long (lI l0))]) (by decide) (Nat.le_of_ble_eq_true rfl) rfl (fun A p e s m below meth c ls X hZ hS hl => ?_)
  obtain ⟨hx, hb, hr, hml, hown, hts, hlk, hK, hA, hL, hX⟩ := id X
  replace hf : (some (zand ((((zland (((zland (l0 - (zland (zlushr l0 1) 6148914691236517205)) 3689348814741910323) + (zland (zlushr (l0 - (zland (zlushr l0 1) 6148914691236517205)) 2) 3689348814741910323)) + (zlushr ((zland (l0 - (zland (zlushr l0 1) 6148914691236517205)) 3689348814741910323) + (zland (zlushr (l0 - (zland (zlushr l0 1) 6148914691236517205)) 2) 3689348814741910323)) 4)) 1085102592571150095) + (zlushr (zland (((zland (l0 - (zland (zlushr l0 1) 6148914691236517205)) 3689348814741910323) + (zland (zlushr (l0 - (zland (zlushr l0 1) 6148914691236517205)) 2) 3689348814741910323)) + (zlushr ((zland (l0 - (zland (zlushr l0 1) 6148914691236517205)) 3689348814741910323) + (zland (zlushr (l0 - (zland (zlushr l0 1) 6148914691236517205)) 2) 3689348814741910323)) 4)) 1085102592571150095) 8)) + (zlushr ((zland (((zland (l0 - (zland (zlushr l0 1) 6148914691236517205)) 3689348814741910323) + (zland (zlushr (l0 - (zland (zlushr l0 1) 6148914691236517205)) 2) 3689348814741910323)) + (zlushr ((zland (l0 - (zland (zlushr l0 1) 6148914691236517205)) 3689348814741910323) + (zland (zlushr (l0 - (zland (zlushr l0 1) 6148914691236517205)) 2) 3689348814741910323)) 4)) 1085102592571150095) + (zlushr (zland (((zland (l0 - (zland (zlushr l0 1) 6148914691236517205)) 3689348814741910323) + (zland (zlushr (l0 - (zland (zlushr l0 1) 6148914691236517205)) 2) 3689348814741910323)) + (zlushr ((zland (l0 - (zland (zlushr l0 1) 6148914691236517205)) 3689348814741910323) + (zland (zlushr (l0 - (zland (zlushr l0 1) 6148914691236517205)) 2) 3689348814741910323)) 4)) 1085102592571150095) 8)) 16)) + (zlushr (((zland (((zland (l0 - (zland (zlushr l0 1) 6148914691236517205)) 3689348814741910323) + (zland (zlushr (l0 - (zland (zlushr l0 1) 6148914691236517205)) 2) 3689348814741910323)) + (zlushr ((zland (l0 - (zland (zlushr l0 1) 6148914691236517205)) 3689348814741910323) + (zland (zlushr (l0 - (zland (zlushr l0 1) 6148914691236517205)) 2) 3689348814741910323)) 4)) 1085102592571150095) + (zlushr (zland (((zland (l0 - (zland (zlushr l0 1) 6148914691236517205)) 3689348814741910323) + (zland (zlushr (l0 - (zland (zlushr l0 1) 6148914691236517205)) 2) 3689348814741910323)) + (zlushr ((zland (l0 - (zland (zlushr l0 1) 6148914691236517205)) 3689348814741910323) + (zland (zlushr (l0 - (zland (zlushr l0 1) 6148914691236517205)) 2) 3689348814741910323)) 4)) 1085102592571150095) 8)) + (zlushr ((zland (((zland (l0 - (zland (zlushr l0 1) 6148914691236517205)) 3689348814741910323) + (zland (zlushr (l0 - (zland (zlushr l0 1) 6148914691236517205)) 2) 3689348814741910323)) + (zlushr ((zland (l0 - (zland (zlushr l0 1) 6148914691236517205)) 3689348814741910323) + (zland (zlushr (l0 - (zland (zlushr l0 1) 6148914691236517205)) 2) 3689348814741910323)) 4)) 1085102592571150095) + (zlushr (zland (((zland (l0 - (zland (zlushr l0 1) 6148914691236517205)) 3689348814741910323) + (zland (zlushr (l0 - (zland (zlushr l0 1) 6148914691236517205)) 2) 3689348814741910323)) + (zlushr ((zland (l0 - (zland (zlushr l0 1) 6148914691236517205)) 3689348814741910323) + (zland (zlushr (l0 - (zland (zlushr l0 1) 6148914691236517205)) 2) 3689348814741910323)) 4)) 1085102592571150095) 8)) 16)) 32)) 127, F, B)) = some (r, F9, B9) := hf
  refine lv_lload_n hx hb d_19_50_0 rfl (lv_at hl 0 rfl) ?_
  refine lv_lload_n hx hb d_19_50_1 rfl (lv_at hl 0 rfl) ?_
  refine lv_iconst (v := iI 1) hx hb d_19_50_2 rfl ?_
  refine zlushr_r hx hb d_19_50_3 ?_
  refine lv_ldc2 hx hb hown (hts _ k_4_16) d_19_50_4 ?_
  refine W.eq (g2 := F0 m 7 ls [.long (lI 6148914691236517205), .long (lI (zlushr l0 1)), .long (lI l0)]) rfl ?_
  refine zland_r hx hb d_19_50_7 ?_
  refine zlsub hx hb d_19_50_8 ?_
  refine lv_lstore_n (lv' := [(0, .long (lI (l0 - (zland (zlushr l0 1) 6148914691236517205))))]) hx hb d_19_50_9 rfl hl (by decide) rfl (fun ls hl => ?_)
  refine lv_lload_n hx hb d_19_50_10 rfl (lv_at hl 0 rfl) ?_
  refine lv_ldc2 hx hb hown (hts _ k_4_17) d_19_50_11 ?_
  refine W.eq (g2 := F0 m 14 ls [.long (lI 3689348814741910323), .long (lI (l0 - (zland (zlushr l0 1) 6148914691236517205)))]) rfl ?_
  refine zland_r hx hb d_19_50_14 ?_
  refine lv_lload_n hx hb d_19_50_15 rfl (lv_at hl 0 rfl) ?_
  refine lv_iconst (v := iI 2) hx hb d_19_50_16 rfl ?_
  refine zlushr_r hx hb d_19_50_17 ?_
  refine lv_ldc2 hx hb hown (hts _ k_4_17) d_19_50_18 ?_
  refine W.eq (g2 := F0 m 21 ls [.long (lI 3689348814741910323), .long (lI (zlushr (l0 - (zland (zlushr l0 1) 6148914691236517205)) 2)), .long (lI (zland (l0 - (zland (zlushr l0 1) 6148914691236517205)) 3689348814741910323))]) rfl ?_
  refine zland_r hx hb d_19_50_21 ?_
  refine zladd hx hb d_19_50_22 ?_
  refine lv_lstore_n (lv' := [(0, .long (lI ((zland (l0 - (zland (zlushr l0 1) 6148914691236517205)) 3689348814741910323) + (zland (zlushr (l0 - (zland (zlushr l0 1) 6148914691236517205)) 2) 3689348814741910323))))]) hx hb d_19_50_23 rfl hl (by decide) rfl (fun ls hl => ?_)
  refine lv_lload_n hx hb d_19_50_24 rfl (lv_at hl 0 rfl) ?_
  refine lv_lload_n hx hb d_19_50_25 rfl (lv_at hl 0 rfl) ?_
  refine lv_iconst (v := iI 4) hx hb d_19_50_26 rfl ?_
  refine zlushr_r hx hb d_19_50_27 ?_
  refine zladd hx hb d_19_50_28 ?_
  refine lv_ldc2 hx hb hown (hts _ k_4_18) d_19_50_29 ?_
  refine W.eq (g2 := F0 m 32 ls [.long (lI 1085102592571150095), .long (lI (((zland (l0 - (zland (zlushr l0 1) 6148914691236517205)) 3689348814741910323) + (zland (zlushr (l0 - (zland (zlushr l0 1) 6148914691236517205)) 2) 3689348814741910323)) + (zlushr ((zland (l0 - (zland (zlushr l0 1) 6148914691236517205)) 3689348814741910323) + (zland (zlushr (l0 - (zland (zlushr l0 1) 6148914691236517205)) 2) 3689348814741910323)) 4)))]) rfl ?_
  refine zland_r hx hb d_19_50_32 ?_
  refine lv_lstore_n (lv' := [(0, .long (lI (zland (((zland (l0 - (zland (zlushr l0 1) 6148914691236517205)) 3689348814741910323) + (zland (zlushr (l0 - (zland (zlushr l0 1) 6148914691236517205)) 2) 3689348814741910323)) + (zlushr ((zland (l0 - (zland (zlushr l0 1) 6148914691236517205)) 3689348814741910323) + (zland (zlushr (l0 - (zland (zlushr l0 1) 6148914691236517205)) 2) 3689348814741910323)) 4)) 1085102592571150095)))]) hx hb d_19_50_33 rfl hl (by decide) rfl (fun ls hl => ?_)
  refine lv_lload_n hx hb d_19_50_34 rfl (lv_at hl 0 rfl) ?_
  refine lv_lload_n hx hb d_19_50_35 rfl (lv_at hl 0 rfl) ?_
  refine lv_bipush (v := iI 8) hx hb d_19_50_36 (by decide) ?_
  refine zlushr_r hx hb d_19_50_38 ?_
  refine zladd hx hb d_19_50_39 ?_
  refine lv_lstore_n (lv' := [(0, .long (lI ((zland (((zland (l0 - (zland (zlushr l0 1) 6148914691236517205)) 3689348814741910323) + (zland (zlushr (l0 - (zland (zlushr l0 1) 6148914691236517205)) 2) 3689348814741910323)) + (zlushr ((zland (l0 - (zland (zlushr l0 1) 6148914691236517205)) 3689348814741910323) + (zland (zlushr (l0 - (zland (zlushr l0 1) 6148914691236517205)) 2) 3689348814741910323)) 4)) 1085102592571150095) + (zlushr (zland (((zland (l0 - (zland (zlushr l0 1) 6148914691236517205)) 3689348814741910323) + (zland (zlushr (l0 - (zland (zlushr l0 1) 6148914691236517205)) 2) 3689348814741910323)) + (zlushr ((zland (l0 - (zland (zlushr l0 1) 6148914691236517205)) 3689348814741910323) + (zland (zlushr (l0 - (zland (zlushr l0 1) 6148914691236517205)) 2) 3689348814741910323)) 4)) 1085102592571150095) 8))))]) hx hb d_19_50_40 rfl hl (by decide) rfl (fun ls hl => ?_)
  refine lv_lload_n hx hb d_19_50_41 rfl (lv_at hl 0 rfl) ?_
  refine lv_lload_n hx hb d_19_50_42 rfl (lv_at hl 0 rfl) ?_
  refine lv_bipush (v := iI 16) hx hb d_19_50_43 (by decide) ?_
  refine zlushr_r hx hb d_19_50_45 ?_
  refine zladd hx hb d_19_50_46 ?_
  refine lv_lstore_n (lv' := [(0, .long (lI (((zland (((zland (l0 - (zland (zlushr l0 1) 6148914691236517205)) 3689348814741910323) + (zland (zlushr (l0 - (zland (zlushr l0 1) 6148914691236517205)) 2) 3689348814741910323)) + (zlushr ((zland (l0 - (zland (zlushr l0 1) 6148914691236517205)) 3689348814741910323) + (zland (zlushr (l0 - (zland (zlushr l0 1) 6148914691236517205)) 2) 3689348814741910323)) 4)) 1085102592571150095) + (zlushr (zland (((zland (l0 - (zland (zlushr l0 1) 6148914691236517205)) 3689348814741910323) + (zland (zlushr (l0 - (zland (zlushr l0 1) 6148914691236517205)) 2) 3689348814741910323)) + (zlushr ((zland (l0 - (zland (zlushr l0 1) 6148914691236517205)) 3689348814741910323) + (zland (zlushr (l0 - (zland (zlushr l0 1) 6148914691236517205)) 2) 3689348814741910323)) 4)) 1085102592571150095) 8)) + (zlushr ((zland (((zland (l0 - (zland (zlushr l0 1) 6148914691236517205)) 3689348814741910323) + (zland (zlushr (l0 - (zland (zlushr l0 1) 6148914691236517205)) 2) 3689348814741910323)) + (zlushr ((zland (l0 - (zland (zlushr l0 1) 6148914691236517205)) 3689348814741910323) + (zland (zlushr (l0 - (zland (zlushr l0 1) 6148914691236517205)) 2) 3689348814741910323)) 4)) 1085102592571150095) + (zlushr (zland (((zland (l0 - (zland (zlushr l0 1) 6148914691236517205)) 3689348814741910323) + (zland (zlushr (l0 - (zland (zlushr l0 1) 6148914691236517205)) 2) 3689348814741910323)) + (zlushr ((zland (l0 - (zland (zlushr l0 1) 6148914691236517205)) 3689348814741910323) + (zland (zlushr (l0 - (zland (zlushr l0 1) 6148914691236517205)) 2) 3689348814741910323)) 4)) 1085102592571150095) 8)) 16))))]) hx hb d_19_50_47 rfl hl (by decide) rfl (fun ls hl => ?_)
  refine lv_lload_n hx hb d_19_50_48 rfl (lv_at hl 0 rfl) ?_
  refine lv_lload_n hx hb d_19_50_49 rfl (lv_at hl 0 rfl) ?_
  refine lv_bipush (v := iI 32) hx hb d_19_50_50 (by decide) ?_
  refine zlushr_r hx hb d_19_50_52 ?_
  refine zladd hx hb d_19_50_53 ?_
  refine lv_lstore_n (lv' := [(0, .long (lI ((((zland (((zland (l0 - (zland (zlushr l0 1) 6148914691236517205)) 3689348814741910323) + (zland (zlushr (l0 - (zland (zlushr l0 1) 6148914691236517205)) 2) 3689348814741910323)) + (zlushr ((zland (l0 - (zland (zlushr l0 1) 6148914691236517205)) 3689348814741910323) + (zland (zlushr (l0 - (zland (zlushr l0 1) 6148914691236517205)) 2) 3689348814741910323)) 4)) 1085102592571150095) + (zlushr (zland (((zland (l0 - (zland (zlushr l0 1) 6148914691236517205)) 3689348814741910323) + (zland (zlushr (l0 - (zland (zlushr l0 1) 6148914691236517205)) 2) 3689348814741910323)) + (zlushr ((zland (l0 - (zland (zlushr l0 1) 6148914691236517205)) 3689348814741910323) + (zland (zlushr (l0 - (zland (zlushr l0 1) 6148914691236517205)) 2) 3689348814741910323)) 4)) 1085102592571150095) 8)) + (zlushr ((zland (((zland (l0 - (zland (zlushr l0 1) 6148914691236517205)) 3689348814741910323) + (zland (zlushr (l0 - (zland (zlushr l0 1) 6148914691236517205)) 2) 3689348814741910323)) + (zlushr ((zland (l0 - (zland (zlushr l0 1) 6148914691236517205)) 3689348814741910323) + (zland (zlushr (l0 - (zland (zlushr l0 1) 6148914691236517205)) 2) 3689348814741910323)) 4)) 1085102592571150095) + (zlushr (zland (((zland (l0 - (zland (zlushr l0 1) 6148914691236517205)) 3689348814741910323) + (zland (zlushr (l0 - (zland (zlushr l0 1) 6148914691236517205)) 2) 3689348814741910323)) + (zlushr ((zland (l0 - (zland (zlushr l0 1) 6148914691236517205)) 3689348814741910323) + (zland (zlushr (l0 - (zland (zlushr l0 1) 6148914691236517205)) 2) 3689348814741910323)) 4)) 1085102592571150095) 8)) 16)) + (zlushr (((zland (((zland (l0 - (zland (zlushr l0 1) 6148914691236517205)) 3689348814741910323) + (zland (zlushr (l0 - (zland (zlushr l0 1) 6148914691236517205)) 2) 3689348814741910323)) + (zlushr ((zland (l0 - (zland (zlushr l0 1) 6148914691236517205)) 3689348814741910323) + (zland (zlushr (l0 - (zland (zlushr l0 1) 6148914691236517205)) 2) 3689348814741910323)) 4)) 1085102592571150095) + (zlushr (zland (((zland (l0 - (zland (zlushr l0 1) 6148914691236517205)) 3689348814741910323) + (zland (zlushr (l0 - (zland (zlushr l0 1) 6148914691236517205)) 2) 3689348814741910323)) + (zlushr ((zland (l0 - (zland (zlushr l0 1) 6148914691236517205)) 3689348814741910323) + (zland (zlushr (l0 - (zland (zlushr l0 1) 6148914691236517205)) 2) 3689348814741910323)) 4)) 1085102592571150095) 8)) + (zlushr ((zland (((zland (l0 - (zland (zlushr l0 1) 6148914691236517205)) 3689348814741910323) + (zland (zlushr (l0 - (zland (zlushr l0 1) 6148914691236517205)) 2) 3689348814741910323)) + (zlushr ((zland (l0 - (zland (zlushr l0 1) 6148914691236517205)) 3689348814741910323) + (zland (zlushr (l0 - (zland (zlushr l0 1) 6148914691236517205)) 2) 3689348814741910323)) 4)) 1085102592571150095) + (zlushr (zland (((zland (l0 - (zland (zlushr l0 1) 6148914691236517205)) 3689348814741910323) + (zland (zlushr (l0 - (zland (zlushr l0 1) 6148914691236517205)) 2) 3689348814741910323)) + (zlushr ((zland (l0 - (zland (zlushr l0 1) 6148914691236517205)) 3689348814741910323) + (zland (zlushr (l0 - (zland (zlushr l0 1) 6148914691236517205)) 2) 3689348814741910323)) 4)) 1085102592571150095) 8)) 16)) 32))))]) hx hb d_19_50_54 rfl hl (by decide) rfl (fun ls hl => ?_)
  refine lv_lload_n hx hb d_19_50_55 rfl (lv_at hl 0 rfl) ?_
  refine zl2iw hx hb d_19_50_56 ?_
  refine lv_bipush (v := iI 127) hx hb d_19_50_57 (by decide) ?_
  refine zand_r hx hb d_19_50_59 ?_
  cases hf
  exact W.iret hx hb hr (fun t ht hW => ⟨⟨_, (), rfl, rfl, by rw [ht]; exact hZ, va_K.moved hW.alike hK⟩, hS.F ht⟩) hS.2.2 d_19_50_60 hlk

noncomputable abbrev Q_Parser_takeLoud (K : zK) (D : va_G) (ca : Nat → ClassId) (ad : Nat → Int → Nat → Nat) (L : List Nat) (r : Int) (F : zF) (B : zB) (A : Nat → Prop) : Array Value → State → Outcome → State → Prop := va_Qi (S := Unit) (fun p _ => p = iI r) (fun _ => zPo D ca ad lnC K.2 L F B A) A
noncomputable def f_Parser_takeLoud_28 (K : zK) (l0 : Int) (l1 : Int) (s0 : Int) (F : zF) (B : zB) : zO := if r32 s0 then (if s0 = (-1) then if 0 ≤ l0 ∧ l0 < K.2 3 then zbind (f_Parser_refuse K l0 2 F B) (fun r14 F14 B14 => if (r14 = 0 ∨ r14 = 1) then some (r14, F14, B14) else none) else none else if 0 ≤ l0 ∧ l0 < K.2 3 then if 0 ≤ l1 ∧ l1 < 3000 then if 0 ≤ (F 3 l0 11) ∧ (F 3 l0 11) < K.2 10 then zbind (f_Tokens_advance K (F 3 l0 11) F (zup4 B 3 l0 2 l1 s0)) (fun r12 F12 B12 => some (1, F12, B12)) else none else none else none) else none
set_option maxHeartbeats 4000000 in
set_option maxRecDepth 100000 in
theorem b_Parser_takeLoud_28 {D : va_G} {ca : Nat → ClassId} {ad : Nat → Int → Nat → Nat} {L : List Nat} {aS vS : Nat → Nat} {A : Nat → Prop} {p : Program} {l : Launch} {e : Env} {s : State} {m : MethodId} {args : Array Value} {below : List Frame} {meth : Method} {c : Code} {K : zK} {r : Int} {F9 : zF} {B9 : zB} (X : zX D ca L aS vS A p s m args meth c prog_5_method_28_code 3 (Option.some Jvm.ClassFile.FieldType.boolean) "StaveHouse$Parser") {l0 : Int} {l1 : Int} {s0 : Int} {F : zF} {B : zB} {H : Heap} {locs : List Loc} {ls : Array Slot} (hf : f_Parser_takeLoud_28 K l0 l1 s0 F B = some (r, F9, B9)) (hZ : zH D ca ad lnC K.2 L F B A H) (hS : va_S A s.heap H locs) (hl : lv_has ls 3 [(0, .ref (ad 3 l0 0)), (1, .int (iI l1))]) : W p l e ({ frames := 1, cells := 0, slots := 0, locals := 23 } : Room) s m args below meth c H locs 0 0 (MQ below (Q_Parser_takeLoud K D ca ad L r F9 B9 A) args s 0 0 A) (F0 m 28 ls [.int (iI s0)]) := by
  obtain ⟨hx, hb, hr, hml, hown, hts, hlk, hK, hA, hL, hX⟩ := id X
  replace hf : (if r32 s0 then (if s0 = (-1) then if 0 ≤ l0 ∧ l0 < K.2 3 then zbind (f_Parser_refuse K l0 2 F B) (fun r14 F14 B14 => if (r14 = 0 ∨ r14 = 1) then some (r14, F14, B14) else none) else none else if 0 ≤ l0 ∧ l0 < K.2 3 then if 0 ≤ l1 ∧ l1 < 3000 then if 0 ≤ (F 3 l0 11) ∧ (F 3 l0 11) < K.2 10 then zbind (f_Tokens_advance K (F 3 l0 11) F (zup4 B 3 l0 2 l1 s0)) (fun r12 F12 B12 => some (1, F12, B12)) else none else none else none) else none) = some (r, F9, B9) := hf
  refine lv_istore_n (lv' := [(2, .int (iI s0)), (0, .ref (ad 3 l0 0)), (1, .int (iI l1))]) hx hb d_5_28_28 rfl hl (by decide) rfl (fun ls hl => ?_)
  refine lv_iload_n hx hb d_5_28_29 rfl (lv_at hl 0 rfl) ?_
  refine lv_iconst (v := iI (-1)) hx hb d_5_28_30 rfl ?_
  obtain ⟨g6, hf⟩ := gif hf
  refine zne (tgt := 40) hx hb g6 (by decide) d_5_28_31 (by decide) (fun h7 => ?_) (fun h7 => ?_)
  · replace hf := gneg hf h7
    refine lv_aload_n hx hb d_5_28_40 rfl (lv_at hl 1 rfl) ?_
    obtain ⟨g8, hf⟩ := gif hf
    refine zget (ci := 3) (C := RX3) (T := TX3) (v := .ref (ad 3 l0 (2 + 1))) (k := 2) hx hb hts inW_3 hown hK hZ g8.1 g8.2 rfl (by decide) k_1_110 rfl d_5_28_41 ?_
    refine lv_iload_n hx hb d_5_28_44 rfl (lv_at hl 2 rfl) ?_
    refine lv_iload_n hx hb d_5_28_45 rfl (lv_at hl 0 rfl) ?_
    obtain ⟨g9, hf⟩ := gif hf
    refine zast (ci := 3) (k := 2) hx hb hK rfl hZ hS g8.1 g8.2 rfl (Nat.le_of_ble_eq_true rfl) g9.1 g9.2 d_5_28_46 (fun H10 locs10 hZ10 hS10 => ?_)
    refine lv_aload_n hx hb d_5_28_47 rfl (lv_at hl 1 rfl) ?_
    refine zget (ci := 3) (C := RX3) (T := TX3) (v := va_rf (zrf ad 10 (F 3 l0 11))) (k := 11) hx hb hts inW_3 hown hK hZ10 g8.1 g8.2 rfl (by decide) k_1_128 rfl d_5_28_48 ?_
    obtain ⟨g11, hf⟩ := gif hf
    refine W.eq (g2 := F0 m 51 ls [.ref (ad 10 (F 3 l0 11) 0)]) (by rw [zrf_pos (ad := ad) (t := 10) g11.1]; try rfl) ?_
    obtain ⟨r12, F12, B12, hc12, hf⟩ := gbind hf
    refine va_callv (va_runV (As := []) (rest := []) ⟨hx, hb, hml, hown, hts⟩ (c_Tokens_advance (l := l) hc12) (cwV 0 hts (gdV k_3_180 k_3_152 k_3_153 k_1_5 k_3_154) rfl rfl rfl (by decide +kernel) ⟨Nat.le_of_ble_eq_true rfl, Nat.le_of_ble_eq_true rfl⟩) (zPV X hZ10 hS10 (ci := 10) g11.1 g11.2 (r := (RX10, TX10, 9)) rfl []) rfl rfl hl.1 rfl (lv_room (Nat.le_of_ble_eq_true rfl)) d_5_28_51 ⟨Nat.le_of_ble_eq_true rfl, Nat.le_of_ble_eq_true rfl⟩) hS10 (fun q _ h => zAin X hS10 q h) (zAin X hS10) (fun u12 t12 H12 locs12 ht12 hv12 hw12 hB12 hz12 hk12 hS12 => ?_)
    have hZ12 := zBack X ht12 hB12
    refine lv_iconst (v := iI 1) hx hb d_5_28_54 rfl ?_
    cases hf
    exact W.zret hx hb hr rfl (fun t ht hW => ⟨⟨_, (), rfl, rfl, by rw [ht]; exact hZ12, va_K.moved hW.alike hK⟩, hS12.F ht⟩) hS12.2.2 d_5_28_55 hlk
  · replace hf := gpos hf h7
    refine lv_aload_n hx hb d_5_28_34 rfl (lv_at hl 1 rfl) ?_
    refine lv_iconst (v := iI 2) hx hb d_5_28_35 rfl ?_
    obtain ⟨g13, hf⟩ := gif hf
    obtain ⟨r14, F14, B14, hc14, hf⟩ := gbind hf
    refine va_calli (va_runV (As := [.int (iI 2)]) (rest := []) ⟨hx, hb, hml, hown, hts⟩ (c_Parser_refuse (l := l) hc14) (cwV 1 hts (gdV k_3_196 k_3_198 ks_7 k_1_4 k_3_199) rfl rfl rfl (by decide +kernel) ⟨Nat.le_of_ble_eq_true rfl, Nat.le_of_ble_eq_true rfl⟩) (zPV X hZ hS (ci := 3) g13.1 g13.2 (r := (RX3, TX3, 22)) rfl [.int (iI 2)]) rfl rfl hl.1 rfl (lv_room (Nat.le_of_ble_eq_true rfl)) d_5_28_36 ⟨Nat.le_of_ble_eq_true rfl, Nat.le_of_ble_eq_true rfl⟩) hS (fun q _ h => zAin X hS q h) (zAin X hS) (fun p14 u14 t14 H14 locs14 ht14 hv14 hw14 hB14 hz14 hk14 hS14 => ?_)
    have hZ14 := zBack X ht14 hB14
    subst hw14
    obtain ⟨g15, hf⟩ := gif hf
    cases hf
    exact W.zret hx hb hr (zbool g15) (fun t ht hW => ⟨⟨_, (), rfl, rfl, by rw [ht]; exact hZ14, va_K.moved hW.alike hK⟩, hS14.F ht⟩) hS14.2.2 d_5_28_39 hlk

noncomputable def f_Parser_takeLoud (K : zK) (l0 : Int) (l1 : Int) (F : zF) (B : zB) : zO := if 0 ≤ l0 ∧ l0 < K.2 3 then if 0 ≤ (F 3 l0 11) ∧ (F 3 l0 11) < K.2 10 then if r32 (F 10 (F 3 l0 11) 0) then (if (F 10 (F 3 l0 11) 0) = 4 then zbind (f_Parser_indexOf K 1 (F 10 (F 3 l0 11) 2) F B) (fun r5 F5 B5 => f_Parser_takeLoud_28 K l0 l1 r5 F5 B5) else f_Parser_takeLoud_28 K l0 l1 (-1) F B) else none else none else none
set_option maxHeartbeats 4000000 in
set_option maxRecDepth 100000 in
theorem c_Parser_takeLoud {l : Launch} {D : va_G} {ca : Nat → ClassId} {ad : Nat → Int → Nat → Nat} {L : List Nat} {aS vS : Nat → Nat} {sz : Nat} {K : zK}  {l0 : Int} {l1 : Int} {F F9 : zF} {B B9 : zB} {r : Int} (hf : f_Parser_takeLoud K l0 l1 F B = some (r, F9, B9)) : Met l ({ cls := "StaveHouse$Parser", name := "takeLoud", desc := "(I)Z" } : Jvm.MethodName) (Cond.code ({ cls := "StaveHouse$Parser", name := "takeLoud", desc := "(I)Z" } : Jvm.MethodName) prog_5_method_28_code 3 (Option.some Jvm.ClassFile.FieldType.boolean) :: wAll) ({ frames := 1, cells := 0, slots := 0, locals := 23 } : Room) (va_Pc [.ref (ad 3 l0 0), .int (iI l1)] (zPre D ca ad lnC K.2 L aS vS F B sz)) (Q_Parser_takeLoud K D ca ad L r F9 B9 (zA L sz)) 0 0 (zA L sz) := by
  refine zMet (Qc := Q_Parser_takeLoud K D ca ad L r F9 B9) (lv := [(0, .ref (ad 3 l0 0)), (1, .int (iI l1))]) (by decide) (Nat.le_of_ble_eq_true rfl) rfl (fun A p e s m below meth c ls X hZ hS hl => ?_)
  obtain ⟨hx, hb, hr, hml, hown, hts, hlk, hK, hA, hL, hX⟩ := id X
  replace hf : (if 0 ≤ l0 ∧ l0 < K.2 3 then if 0 ≤ (F 3 l0 11) ∧ (F 3 l0 11) < K.2 10 then if r32 (F 10 (F 3 l0 11) 0) then (if (F 10 (F 3 l0 11) 0) = 4 then zbind (f_Parser_indexOf K 1 (F 10 (F 3 l0 11) 2) F B) (fun r5 F5 B5 => f_Parser_takeLoud_28 K l0 l1 r5 F5 B5) else f_Parser_takeLoud_28 K l0 l1 (-1) F B) else none else none else none) = some (r, F9, B9) := hf
  refine lv_aload_n hx hb d_5_28_0 rfl (lv_at hl 0 rfl) ?_
  obtain ⟨g1, hf⟩ := gif hf
  refine zget (ci := 3) (C := RX3) (T := TX3) (v := va_rf (zrf ad 10 (F 3 l0 11))) (k := 11) hx hb hts inW_3 hown hK hZ g1.1 g1.2 rfl (by decide) k_1_128 rfl d_5_28_1 ?_
  obtain ⟨g2, hf⟩ := gif hf
  refine zunrf g2.1 ?_
  refine zget (ci := 10) (C := RX10) (T := TX10) (v := .int (iI (F 10 (F 3 l0 11) 0))) (k := 0) hx hb hts inW_10 hown hK hZ g2.1 g2.2 rfl (by decide) k_1_72 rfl d_5_28_4 ?_
  refine lv_iconst (v := iI 4) hx hb d_5_28_7 rfl ?_
  obtain ⟨g3, hf⟩ := gif hf
  refine zne (tgt := 27) hx hb g3 (by decide) d_5_28_8 (by decide) (fun h4 => ?_) (fun h4 => ?_)
  · replace hf := gneg hf h4
    refine lv_iconst (v := iI (-1)) hx hb d_5_28_27 rfl ?_
    exact b_Parser_takeLoud_28 X hf hZ hS (lv_sub hl [0, 1] rfl)
  · replace hf := gpos hf h4
    refine va_gets hx hb (hX.2.2.2.2.2.2 1 _ rfl).1 hS hown (hts _ k_3_190) (fun _ h => h) d_5_28_11 ?_
    refine W.eq (g2 := F0 m 14 ls [.ref (vS (1000 + 1))]) rfl ?_
    refine lv_aload_n hx hb d_5_28_14 rfl (lv_at hl 0 rfl) ?_
    refine zget (ci := 3) (C := RX3) (T := TX3) (v := va_rf (zrf ad 10 (F 3 l0 11))) (k := 11) hx hb hts inW_3 hown hK hZ g1.1 g1.2 rfl (by decide) k_1_128 rfl d_5_28_15 ?_
    refine zunrf g2.1 ?_
    refine zget (ci := 10) (C := RX10) (T := TX10) (v := .long (lI (F 10 (F 3 l0 11) 2))) (k := 2) hx hb hts inW_10 hown hK hZ g2.1 g2.2 rfl (by decide) k_1_77 rfl d_5_28_18 ?_
    obtain ⟨r5, F5, B5, hc5, hf⟩ := gbind hf
    refine va_calli (va_runS (As := [.ref (vS (1000 + 1)), .long (lI (F 10 (F 3 l0 11) 2))]) (rest := []) ⟨hx, hb, hml, hown, hts⟩ (c_Parser_indexOf (l := l) hc5) (va_cwS 2 hts (gdS k_3_187 k_3_188 k_1_4 k_3_189) rfl rfl rfl (by decide +kernel) ⟨Nat.le_of_ble_eq_true rfl, Nat.le_of_ble_eq_true rfl⟩) (zPS X hZ hS [.ref (vS (1000 + 1)), .long (lI (F 10 (F 3 l0 11) 2))]) rfl rfl hl.1 rfl (lv_room (Nat.le_of_ble_eq_true rfl)) d_5_28_21 ⟨Nat.le_of_ble_eq_true rfl, Nat.le_of_ble_eq_true rfl⟩) hS (fun q _ h => zAin X hS q h) (zAin X hS) (fun p5 u5 t5 H5 locs5 ht5 hv5 hw5 hB5 hz5 hk5 hS5 => ?_)
    have hZ5 := zBack X ht5 hB5
    subst hw5
    refine lv_goto (tgt := 28) hx hb d_5_28_24 (by decide) ?_
    exact b_Parser_takeLoud_28 X hf hZ5 hS5 (lv_sub hl [0, 1] rfl)

noncomputable abbrev Q_Math_floorDiv (K : zK) (D : va_G) (ca : Nat → ClassId) (ad : Nat → Int → Nat → Nat) (L : List Nat) (r : Int) (F : zF) (B : zB) (A : Nat → Prop) : Array Value → State → Outcome → State → Prop := va_Qi (S := Unit) (fun p _ => p = iI r) (fun _ => zPo D ca ad lnC K.2 L F B A) A
noncomputable def f_Math_floorDiv_21 (K : zK) (l2 : Int) (F : zF) (B : zB) : zO := some (l2, F, B)
set_option maxHeartbeats 4000000 in
set_option maxRecDepth 100000 in
theorem b_Math_floorDiv_21 {D : va_G} {ca : Nat → ClassId} {ad : Nat → Int → Nat → Nat} {L : List Nat} {aS vS : Nat → Nat} {A : Nat → Prop} {p : Program} {l : Launch} {e : Env} {s : State} {m : MethodId} {args : Array Value} {below : List Frame} {meth : Method} {c : Code} {K : zK} {r : Int} {F9 : zF} {B9 : zB} (X : zX D ca L aS vS A p s m args meth c prog_20_method_47_code 3 (Option.some Jvm.ClassFile.FieldType.int) "java/lang/Math") {l2 : Int} {F : zF} {B : zB} {H : Heap} {locs : List Loc} {ls : Array Slot} (hf : f_Math_floorDiv_21 K l2 F B = some (r, F9, B9)) (hZ : zH D ca ad lnC K.2 L F B A H) (hS : va_S A s.heap H locs) (hl : lv_has ls 3 [(2, .int (iI l2))]) : W p l e ({ frames := 0, cells := 0, slots := 0, locals := 0 } : Room) s m args below meth c H locs 0 0 (MQ below (Q_Math_floorDiv K D ca ad L r F9 B9 A) args s 0 0 A) (F0 m 21 ls []) := by
  obtain ⟨hx, hb, hr, hml, hown, hts, hlk, hK, hA, hL, hX⟩ := id X
  replace hf : (some (l2, F, B)) = some (r, F9, B9) := hf
  refine lv_iload_n hx hb d_20_47_21 rfl (lv_at hl 0 rfl) ?_
  cases hf
  exact W.iret hx hb hr (fun t ht hW => ⟨⟨_, (), rfl, rfl, by rw [ht]; exact hZ, va_K.moved hW.alike hK⟩, hS.F ht⟩) hS.2.2 d_20_47_22 hlk

noncomputable def f_Math_floorDiv (K : zK) (l0 : Int) (l1 : Int) (F : zF) (B : zB) : zO := if ¬ iI l1 = 0 then if r32 (zxor l0 l1) then (if 0 ≤ (zxor l0 l1) then f_Math_floorDiv_21 K (zdv l0 l1) F B else if r32 ((zdv l0 l1) * l1) then if r32 l0 then (if ((zdv l0 l1) * l1) = l0 then f_Math_floorDiv_21 K (zdv l0 l1) F B else some ((zdv l0 l1) - 1, F, B)) else none else none) else none else none
set_option maxHeartbeats 4000000 in
set_option maxRecDepth 100000 in
theorem c_Math_floorDiv {l : Launch} {D : va_G} {ca : Nat → ClassId} {ad : Nat → Int → Nat → Nat} {L : List Nat} {aS vS : Nat → Nat} {sz : Nat} {K : zK}  {l0 : Int} {l1 : Int} {F F9 : zF} {B B9 : zB} {r : Int} (hf : f_Math_floorDiv K l0 l1 F B = some (r, F9, B9)) : Met l ({ cls := "java/lang/Math", name := "floorDiv", desc := "(II)I" } : Jvm.MethodName) (Cond.code ({ cls := "java/lang/Math", name := "floorDiv", desc := "(II)I" } : Jvm.MethodName) prog_20_method_47_code 3 (Option.some Jvm.ClassFile.FieldType.int) :: wAll) ({ frames := 0, cells := 0, slots := 0, locals := 0 } : Room) (va_Pc [.int (iI l0), .int (iI l1)] (zPre D ca ad lnC K.2 L aS vS F B sz)) (Q_Math_floorDiv K D ca ad L r F9 B9 (zA L sz)) 0 0 (zA L sz) := by
  refine zMetF (Qc := Q_Math_floorDiv K D ca ad L r F9 B9) (lv := [(0, .int (iI l0)), (1, .int (iI l1))]) (by decide +kernel) (Nat.le_of_ble_eq_true rfl) rfl (fun A p e s m below meth c ls X hZ hS hl => ?_)
  obtain ⟨hx, hb, hr, hml, hown, hts, hlk, hK, hA, hL, hX⟩ := id X
  replace hf : (if ¬ iI l1 = 0 then if r32 (zxor l0 l1) then (if 0 ≤ (zxor l0 l1) then f_Math_floorDiv_21 K (zdv l0 l1) F B else if r32 ((zdv l0 l1) * l1) then if r32 l0 then (if ((zdv l0 l1) * l1) = l0 then f_Math_floorDiv_21 K (zdv l0 l1) F B else some ((zdv l0 l1) - 1, F, B)) else none else none) else none else none) = some (r, F9, B9) := hf
  refine lv_iload_n hx hb d_20_47_0 rfl (lv_at hl 0 rfl) ?_
  refine lv_iload_n hx hb d_20_47_1 rfl (lv_at hl 1 rfl) ?_
  obtain ⟨g1, hf⟩ := gif hf
  refine zdv_r hx hb g1 d_20_47_2 ?_
  refine lv_istore_n (lv' := [(2, .int (iI (zdv l0 l1))), (0, .int (iI l0)), (1, .int (iI l1))]) hx hb d_20_47_3 rfl hl (by decide) rfl (fun ls hl => ?_)
  refine lv_iload_n hx hb d_20_47_4 rfl (lv_at hl 1 rfl) ?_
  refine lv_iload_n hx hb d_20_47_5 rfl (lv_at hl 2 rfl) ?_
  refine zxor_r hx hb d_20_47_6 ?_
  obtain ⟨g2, hf⟩ := gif hf
  refine z0ge (tgt := 21) hx hb g2 d_20_47_7 (by decide) (fun h3 => ?_) (fun h3 => ?_)
  · replace hf := gpos hf h3
    exact b_Math_floorDiv_21 X hf hZ hS (lv_sub hl [0] rfl)
  · replace hf := gneg hf h3
    refine lv_iload_n hx hb d_20_47_10 rfl (lv_at hl 0 rfl) ?_
    refine lv_iload_n hx hb d_20_47_11 rfl (lv_at hl 2 rfl) ?_
    refine zmul hx hb d_20_47_12 ?_
    refine lv_iload_n hx hb d_20_47_13 rfl (lv_at hl 1 rfl) ?_
    obtain ⟨g4, hf⟩ := gif hf
    obtain ⟨g5, hf⟩ := gif hf
    refine zeq (tgt := 21) hx hb g4 g5 d_20_47_14 (by decide) (fun h6 => ?_) (fun h6 => ?_)
    · replace hf := gpos hf h6
      exact b_Math_floorDiv_21 X hf hZ hS (lv_sub hl [0] rfl)
    · replace hf := gneg hf h6
      refine lv_iload_n hx hb d_20_47_17 rfl (lv_at hl 0 rfl) ?_
      refine lv_iconst (v := iI 1) hx hb d_20_47_18 rfl ?_
      refine zsub hx hb d_20_47_19 ?_
      cases hf
      exact W.iret hx hb hr (fun t ht hW => ⟨⟨_, (), rfl, rfl, by rw [ht]; exact hZ, va_K.moved hW.alike hK⟩, hS.F ht⟩) hS.2.2 d_20_47_20 hlk

noncomputable abbrev Q_Math_floorMod (K : zK) (D : va_G) (ca : Nat → ClassId) (ad : Nat → Int → Nat → Nat) (L : List Nat) (r : Int) (F : zF) (B : zB) (A : Nat → Prop) : Array Value → State → Outcome → State → Prop := va_Qi (S := Unit) (fun p _ => p = iI r) (fun _ => zPo D ca ad lnC K.2 L F B A) A
noncomputable def f_Math_floorMod_18 (K : zK) (l2 : Int) (F : zF) (B : zB) : zO := some (l2, F, B)
set_option maxHeartbeats 4000000 in
set_option maxRecDepth 100000 in
theorem b_Math_floorMod_18 {D : va_G} {ca : Nat → ClassId} {ad : Nat → Int → Nat → Nat} {L : List Nat} {aS vS : Nat → Nat} {A : Nat → Prop} {p : Program} {l : Launch} {e : Env} {s : State} {m : MethodId} {args : Array Value} {below : List Frame} {meth : Method} {c : Code} {K : zK} {r : Int} {F9 : zF} {B9 : zB} (X : zX D ca L aS vS A p s m args meth c prog_20_method_50_code 3 (Option.some Jvm.ClassFile.FieldType.int) "java/lang/Math") {l2 : Int} {F : zF} {B : zB} {H : Heap} {locs : List Loc} {ls : Array Slot} (hf : f_Math_floorMod_18 K l2 F B = some (r, F9, B9)) (hZ : zH D ca ad lnC K.2 L F B A H) (hS : va_S A s.heap H locs) (hl : lv_has ls 3 [(2, .int (iI l2))]) : W p l e ({ frames := 0, cells := 0, slots := 0, locals := 0 } : Room) s m args below meth c H locs 0 0 (MQ below (Q_Math_floorMod K D ca ad L r F9 B9 A) args s 0 0 A) (F0 m 18 ls []) := by
  obtain ⟨hx, hb, hr, hml, hown, hts, hlk, hK, hA, hL, hX⟩ := id X
  replace hf : (some (l2, F, B)) = some (r, F9, B9) := hf
  refine lv_iload_n hx hb d_20_50_18 rfl (lv_at hl 0 rfl) ?_
  cases hf
  exact W.iret hx hb hr (fun t ht hW => ⟨⟨_, (), rfl, rfl, by rw [ht]; exact hZ, va_K.moved hW.alike hK⟩, hS.F ht⟩) hS.2.2 d_20_50_19 hlk

noncomputable def f_Math_floorMod (K : zK) (l0 : Int) (l1 : Int) (F : zF) (B : zB) : zO := if ¬ iI l1 = 0 then if r32 (zxor l0 l1) then (if 0 ≤ (zxor l0 l1) then f_Math_floorMod_18 K (zrm l0 l1) F B else if r32 (zrm l0 l1) then (if (zrm l0 l1) = 0 then f_Math_floorMod_18 K (zrm l0 l1) F B else some ((zrm l0 l1) + l1, F, B)) else none) else none else none
set_option maxHeartbeats 4000000 in
set_option maxRecDepth 100000 in
theorem c_Math_floorMod {l : Launch} {D : va_G} {ca : Nat → ClassId} {ad : Nat → Int → Nat → Nat} {L : List Nat} {aS vS : Nat → Nat} {sz : Nat} {K : zK}  {l0 : Int} {l1 : Int} {F F9 : zF} {B B9 : zB} {r : Int} (hf : f_Math_floorMod K l0 l1 F B = some (r, F9, B9)) : Met l ({ cls := "java/lang/Math", name := "floorMod", desc := "(II)I" } : Jvm.MethodName) (Cond.code ({ cls := "java/lang/Math", name := "floorMod", desc := "(II)I" } : Jvm.MethodName) prog_20_method_50_code 3 (Option.some Jvm.ClassFile.FieldType.int) :: wAll) ({ frames := 0, cells := 0, slots := 0, locals := 0 } : Room) (va_Pc [.int (iI l0), .int (iI l1)] (zPre D ca ad lnC K.2 L aS vS F B sz)) (Q_Math_floorMod K D ca ad L r F9 B9 (zA L sz)) 0 0 (zA L sz) := by
  refine zMetF (Qc := Q_Math_floorMod K D ca ad L r F9 B9) (lv := [(0, .int (iI l0)), (1, .int (iI l1))]) (by decide +kernel) (Nat.le_of_ble_eq_true rfl) rfl (fun A p e s m below meth c ls X hZ hS hl => ?_)
  obtain ⟨hx, hb, hr, hml, hown, hts, hlk, hK, hA, hL, hX⟩ := id X
  replace hf : (if ¬ iI l1 = 0 then if r32 (zxor l0 l1) then (if 0 ≤ (zxor l0 l1) then f_Math_floorMod_18 K (zrm l0 l1) F B else if r32 (zrm l0 l1) then (if (zrm l0 l1) = 0 then f_Math_floorMod_18 K (zrm l0 l1) F B else some ((zrm l0 l1) + l1, F, B)) else none) else none else none) = some (r, F9, B9) := hf
  refine lv_iload_n hx hb d_20_50_0 rfl (lv_at hl 0 rfl) ?_
  refine lv_iload_n hx hb d_20_50_1 rfl (lv_at hl 1 rfl) ?_
  obtain ⟨g1, hf⟩ := gif hf
  refine zrm_r hx hb g1 d_20_50_2 ?_
  refine lv_istore_n (lv' := [(2, .int (iI (zrm l0 l1))), (0, .int (iI l0)), (1, .int (iI l1))]) hx hb d_20_50_3 rfl hl (by decide) rfl (fun ls hl => ?_)
  refine lv_iload_n hx hb d_20_50_4 rfl (lv_at hl 1 rfl) ?_
  refine lv_iload_n hx hb d_20_50_5 rfl (lv_at hl 2 rfl) ?_
  refine zxor_r hx hb d_20_50_6 ?_
  obtain ⟨g2, hf⟩ := gif hf
  refine z0ge (tgt := 18) hx hb g2 d_20_50_7 (by decide) (fun h3 => ?_) (fun h3 => ?_)
  · replace hf := gpos hf h3
    exact b_Math_floorMod_18 X hf hZ hS (lv_sub hl [0] rfl)
  · replace hf := gneg hf h3
    refine lv_iload_n hx hb d_20_50_10 rfl (lv_at hl 0 rfl) ?_
    obtain ⟨g4, hf⟩ := gif hf
    refine z0eq (tgt := 18) hx hb g4 d_20_50_11 (by decide) (fun h5 => ?_) (fun h5 => ?_)
    · replace hf := gpos hf h5
      exact b_Math_floorMod_18 X hf hZ hS (lv_sub hl [0] rfl)
    · replace hf := gneg hf h5
      refine lv_iload_n hx hb d_20_50_14 rfl (lv_at hl 0 rfl) ?_
      refine lv_iload_n hx hb d_20_50_15 rfl (lv_at hl 2 rfl) ?_
      refine zadd hx hb d_20_50_16 ?_
      cases hf
      exact W.iret hx hb hr (fun t ht hW => ⟨⟨_, (), rfl, rfl, by rw [ht]; exact hZ, va_K.moved hW.alike hK⟩, hS.F ht⟩) hS.2.2 d_20_50_17 hlk


