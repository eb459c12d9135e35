section
/-! ===== a message, both sides ===== -/
theorem HD_x {o : Int} {F F' : zF} {B B' : zB} {Fm Fm' : zF} {Bm Bm' : zB} (h : HD o F B Fm Bm) (f : ∀ k, 12 ≤ k → k ≤ 14 → F' 8 o k = F 8 o k) (b : ∀ x, B' 8 o 0 x = B 8 o 0 x) (g : ∀ k, 91 ≤ k → k ≤ 93 → Fm' 14 0 k = Fm 14 0 k) (d : ∀ x, Bm' 14 0 74 x = Bm 14 0 74 x) : HD o F' B' Fm' Bm' := by
  unfold HD at *
  rw [f 12 (by first | decide | omega) (by first | decide | omega), f 13 (by first | decide | omega) (by first | decide | omega), f 14 (by first | decide | omega) (by first | decide | omega), g 91 (by first | decide | omega) (by first | decide | omega), g 92 (by first | decide | omega) (by first | decide | omega), g 93 (by first | decide | omega) (by first | decide | omega)]
  simp only [b, d]
  exact h
theorem L_238 {Km m : Nat} {tr first st data e t from' ov : Int} {F : zF} {B : zB} (g : F 14 0 17 = 0) : f_M_track0_238 (f_M_track0_21 Km (m + 1)) Km data from' t first ov st tr e F B = zbind (f_M_event_2 Km tr first st data e t from' F B) (fun r59 F59 B59 => f_M_track0_21 Km (m + 1) first ov st t tr F59 B59) := by
  unfold f_M_track0_238 f_M_track0_263
  rw [L_good g, zb_s, if_pos (by decide), if_neg (by decide)]
/-- a sound begun -/
theorem P_bs {K : zK} {Km m : Nat} {o first tr to tick st ov a from' data e : Int} {q : zF × zB × zF × zB} {F : zF} {B : zB} {Fm : zF} {Bm : zB} {f : Int → zF → zB → zO} {Q : Int → zF → zB → Int → zF → zB → Prop} (ho : 0 ≤ o ∧ o < K.2 8) (tq : TQ q) (h : TG o q first tr to tick st ov a F B Fm Bm) (ht : 0 ≤ tr ∧ tr ≤ 7) (hst : 144 ≤ st ∧ st < 160) (hd : 0 ≤ data ∧ data < 128) (he : 0 < e ∧ e < 128) (hk : 0 ≤ tick ∧ tick ≤ 402921619456) (hf : 0 ≤ from' ∧ from' ≤ 3000) (hG : ∀ F B Fm Bm a', a ≤ a' → TG o q first tr to tick st ov a' F B Fm Bm → zP (f 0 F B) (f_M_track0_21 Km (m + 1) first ov st tick tr Fm Bm) Q) (hX : ∀ F B Fm Bm t, TX o q first tr tick F B Fm Bm → zP (f 0 F B) (f_M_track0_266 Km first t tr Fm Bm) Q) : zP (zbind (f_SoundFile_beginSound K o data e from' F B) f) (zbind (f_M_event_2_42 Km (zrm st 16) tr first st data e tick from' Fm Bm) (fun r59 F59 B59 => f_M_track0_21 Km (m + 1) first ov st tick tr F59 B59)) Q := by
  obtain ⟨w, ⟨sn, nu, hd'⟩, g, g6, hto, ⟨s8, s9, s10, s11⟩, sst, sov⟩ := h
  have hc : 0 ≤ zrm st 16 ∧ zrm st 16 < 16 := by rw [zrm_e (by first | decide | omega) (by unfold r32; omega) (by first | decide | omega) (by decide)]; omega
  have rz : r32 (zrm st 16) := by unfold r32; omega
  have sn' := sn
  obtain ⟨⟨h11, h12, h13, h14⟩, _⟩ := sn'
  unfold f_SoundFile_beginSound f_M_event_2_42 f_M_event_2_237
  rw [if_pos ho, if_pos (show r32 (F 8 o 2) by unfold r32; omega), if_pos (show r32 st by unfold r32; omega), if_neg (show ¬ st < 144 by omega), if_neg (show ¬ 160 ≤ st by omega), if_pos (show r32 e by unfold r32; omega), if_neg (show ¬ e ≤ 0 by omega), if_pos (show r32 (Fm 14 0 94) by unfold r32; omega)]
  by_cases z : F 8 o 2 < 400
  · rw [if_pos z, s8, if_pos (show r32 tr by unfold r32; omega), if_pos (show 0 ≤ F 8 o 2 ∧ F 8 o 2 < 400 by omega), s9, if_pos rz, if_pos (show r32 data by unfold r32; omega), if_pos (show r32 e by unfold r32; omega), zb_s, s10, if_neg (show ¬ Fm 14 0 94 = 400 by omega), if_pos (show 0 ≤ Fm 14 0 94 ∧ Fm 14 0 94 < 400 by omega), zb_s, ← h11]
    have sb := SND_b (n := F 8 o 2) (c := zrm st 16) (d := data) (e := e) sn rfl z ht hc hd (by first | decide | omega) hk
    refine hG (zup3 F 8 o 2 (F 8 o 2 + 1)) (bsB o (F 8 o 2) tr (zrm st 16) data e tick B) (zup3 Fm 14 0 94 (F 8 o 2 + 1)) (bsM (F 8 o 2) tr (zrm st 16) data e tick Bm) a (by first | decide | omega) ⟨?_, ⟨sb, ?_, ?_⟩, ?_, ?_, ?_, ?_, sst, sov⟩
    · exact OW_x w (by rw [zup3_v, if_neg (by first | decide | omega)]) (fun c y k n => by rw [zup3_v, if_neg (by first | decide | omega)]) (fun c y k x n => bsB_v (by first | decide | omega)) (fun c y k n => by rw [zup3_v, if_neg (by first | decide | omega)]) (fun c y k x n => bsM_v (by first | decide | omega))
    · exact NUM_f nu (fun x => bsB_v (by first | decide | omega)) (fun x => bsM_v (by first | decide | omega))
    · exact HD_x hd' (fun k k0 k1 => by rw [zup3_v, if_neg (by first | decide | omega)]) (fun x => bsB_v (by first | decide | omega)) (fun k k0 k1 => by rw [zup3_v, if_neg (by first | decide | omega)]) (fun x => bsM_v (by first | decide | omega))
    · exact RG_f g (by rw [zup3_v, if_neg (by first | decide | omega)]) (by rw [zup3_v, if_neg (by first | decide | omega)]) (by rw [zup3_v, if_neg (by first | decide | omega)]) (by rw [zup3_v, if_neg (by first | decide | omega)]) (by rw [zup3_v, if_neg (by first | decide | omega)]) (by rw [zup3_v, if_neg (by first | decide | omega)]) (by rw [zup3_v, if_neg (by first | decide | omega)])
    · rw [zup3_v, if_neg (by first | decide | omega)]; exact g6
    · rw [zup3_v, if_neg (by first | decide | omega)]; exact hto
    · rw [zup3_v, if_neg (by first | decide | omega), zup3_v, if_neg (by first | decide | omega), zup3_v, if_neg (by first | decide | omega), zup3_v, if_neg (by first | decide | omega)]
      exact ⟨s8, s9, s10, s11⟩
  · have n3 := (RO_w tq w).2.1
    have gx := RX_n (c := 3) (z := from') g g6 (by first | decide | omega) (by first | decide | omega) hf
    rw [if_neg z, C_ref ho g.1, zb_s, zb_s, if_pos (show r32 e by unfold r32; omega), if_pos (show Fm 14 0 94 = 400 by omega), L_fb g.2.1, zb_s, zb_s, L_21X gx]
    have tf : tkF o F (zup3 F 8 o 7 (3 + 16 * from')) := fun c y k n => by rw [zup3_v, if_neg (by first | decide | omega)]
    have tg : tkG Fm (zup3 (zup3 Fm 14 0 17 3) 14 0 18 from') := fun c y k n => by rw [zup3_v, if_neg (by first | decide | omega), zup3_v, if_neg (by first | decide | omega)]
    refine hX _ _ _ _ _ ⟨OW_t w tf tg, DT_t ⟨sn, nu, hd'⟩ (by first | decide | omega) tf tg, gx, ?_⟩
    rw [zup3_v, if_neg (by first | decide | omega), zup3_v, if_neg (by first | decide | omega)]
    have := g.2.2.2.2.2.1
    omega
/-- a sound ended -/
theorem P_en {K : zK} {Km m : Nat} {o first tr to tick st ov a data : Int} {q : zF × zB × zF × zB} {F : zF} {B : zB} {Fm : zF} {Bm : zB} {f : Int → zF → zB → zO} {Q : Int → zF → zB → Int → zF → zB → Prop} (ho : 0 ≤ o ∧ o < K.2 8) (hK : 500 ≤ K.1) (hKm : 500 ≤ Km) (h : TG o q first tr to tick st ov a F B Fm Bm) (hst : 128 ≤ st ∧ st < 160) (hd : 0 ≤ data ∧ data < 128) (hk : 0 ≤ tick ∧ tick ≤ 402921619456) (hG : ∀ F B Fm Bm a', a ≤ a' → TG o q first tr to tick st ov a' F B Fm Bm → zP (f 0 F B) (f_M_track0_21 Km (m + 1) first ov st tick tr Fm Bm) Q) : zP (zbind (f_SoundFile_loadMessage_114 K o data first F B) f) (zbind (f_M_event_2_158 Km (zrm st 16) first st data tick Fm Bm) (fun r59 F59 B59 => f_M_track0_21 Km (m + 1) first ov st tick tr F59 B59)) Q := by
  have h' := h
  obtain ⟨w, ⟨sn, nu, hd'⟩, g, g6, hto, ⟨s8, s9, s10, s11⟩, sst, sov⟩ := h'
  have sn' := sn
  obtain ⟨⟨h11, h12, h13, h14⟩, _⟩ := sn'
  unfold f_SoundFile_loadMessage_114 f_SoundFile_loadMessage_120 f_M_event_2_158 f_SoundFile_endSound
  rw [if_pos ho, if_pos (show r32 st by unfold r32; omega), if_neg (show ¬ 160 ≤ st by omega), zb_a2]
  refine P_bind (P_es (Km := Km) ho sn s9 (by first | decide | omega) hd ⟨s10, hk⟩ (F 8 o 2 - first).toNat K.1 Km first (by first | decide | omega) (by first | decide | omega) (by first | decide | omega) (by first | decide | omega)) (fun r F1 B1 r' G1 D1 y => ?_)
  obtain ⟨rfl, rfl, y⟩ := y
  rw [zb_s]
  rcases y with ⟨rfl, rfl⟩ | ⟨j, j0, rfl, rfl⟩
  · exact hG _ _ _ _ a (by first | decide | omega) h
  · refine hG _ _ _ _ a (by first | decide | omega) ⟨?_, ⟨SND_e sn j0 hk, ?_, ?_⟩, g, g6, hto, ⟨s8, s9, s10, s11⟩, sst, sov⟩
    · exact OW_x w rfl (fun _ _ _ _ => rfl) (fun c y k x n => by rw [zup4_v, if_neg (by first | decide | omega)]) (fun _ _ _ _ => rfl) (fun c y k x n => by rw [zup4_v, if_neg (by first | decide | omega)])
    · exact NUM_f nu (fun x => by rw [zup4_v, if_neg (by first | decide | omega)]) (fun x => by rw [zup4_v, if_neg (by first | decide | omega)])
    · unfold HD at *
      simp only [zup4_v]
      simp
      omega
theorem P_ms {K : zK} {Km m : Nat} {o first tr to tick st ov a from' data : Int} {q : zF × zB × zF × zB} {F : zF} {B : zB} {Fm : zF} {Bm : zB} {f : Int → zF → zB → zO} {Q : Int → zF → zB → Int → zF → zB → Prop} (h0 : 2 ≤ K.2 0) (ho : 0 ≤ o ∧ o < K.2 8) (hK : 500 ≤ K.1) (hKm : 500 ≤ Km) (tq : TQ q) (h : TG o q first tr to tick st ov a F B Fm Bm) (ht : 0 ≤ tr ∧ tr ≤ 7) (hst : 128 ≤ st ∧ st < 240) (hd : 0 ≤ data ∧ data < 128) (hk : 0 ≤ tick ∧ tick ≤ 402921619456) (hf : 0 ≤ from' ∧ from' ≤ 3000) (hG : ∀ F B Fm Bm a', a ≤ a' → TG o q first tr to tick st ov a' F B Fm Bm → zP (f 0 F B) (f_M_track0_21 Km (m + 1) first ov st tick tr Fm Bm) Q) (hX : ∀ F B Fm Bm t, TX o q first tr tick F B Fm Bm → zP (f 0 F B) (f_M_track0_266 Km first t tr Fm Bm) Q) : zP (zbind (f_SoundFile_loadMessage K o data from' first F B) f) (f_M_track0_212 (f_M_track0_21 Km (m + 1)) Km from' tick first ov st tr data Fm Bm) Q := by
  have h' := h
  obtain ⟨w, ⟨sn, nu, hd'⟩, g, g6, hto, ⟨s8, s9, s10, s11⟩, sst, sov⟩ := h'
  have d := st_d hst
  have rd : r32 (st / 16) := by unfold r32; omega
  have rs : r32 st := by unfold r32; omega
  unfold f_SoundFile_loadMessage f_M_track0_212 f_M_track0_234
  rw [if_pos ho, s9, d, if_pos rd, if_pos rs]
  by_cases z : 192 ≤ st ∧ st < 224
  · rw [if_neg (show ¬ st < 192 by omega), if_neg (show ¬ 224 ≤ st by omega), L_238 g.2.1]
    unfold f_SoundFile_loadMessage_23 f_SoundFile_loadMessage_62 f_M_event_2
    rw [if_pos ho, g.1, if_pos (show r32 0 by decide), if_pos (show (0 : Int) = 0 from rfl), if_pos rd, if_pos rs, if_neg (show ¬ st < 192 by omega)]
    by_cases z1 : st / 16 = 12
    · obtain ⟨n1, _, n3, _⟩ := nu tr ht.1 (by first | decide | omega)
      have n3' := n3 rfl
      unfold f_M_event_2_237
      rw [if_pos z1, if_pos z1, s8, if_pos (show 0 ≤ tr ∧ tr < 8 by omega), if_pos (show r32 (B 8 o 3 tr) by unfold r32; omega), if_neg (show ¬ 208 ≤ st by omega), if_pos (show 0 ≤ tr ∧ tr < 8 by omega), n3', if_pos (show r32 (B 8 o 3 tr) by unfold r32; omega)]
      by_cases y : B 8 o 3 tr = -1
      · rw [if_pos y, if_neg (by first | decide | omega), zb_s, zb_s]
        have rm : zrm data 4 = data % 4 := zrm_e (by first | decide | omega) (by unfold r32; omega) (by first | decide | omega) (by decide)
        refine hG _ _ _ _ a (by first | decide | omega) ⟨?_, ⟨?_, fun k k0 k1 => ?_, ?_⟩, g, g6, hto, ⟨s8, s9, s10, s11⟩, sst, sov⟩
        · exact OW_x w rfl (fun _ _ _ _ => rfl) (fun c y k x n => by rw [zup4_v, if_neg (by first | decide | omega)]) (fun _ _ _ _ => rfl) (fun c y k x n => by rw [zup4_v, if_neg (by first | decide | omega)])
        · exact SND_f sn (by first | decide | omega) rfl rfl (fun k x _ _ => by rw [zup4_v, if_neg (by first | decide | omega)]) (fun k x _ _ => by rw [zup4_v, if_neg (by first | decide | omega)])
        · rw [rm, zup4_v, zup4_v]
          by_cases v : k = tr
          · rw [if_pos (by first | decide | omega), if_pos (by first | decide | omega)]
            exact ⟨(by first | decide | omega), fun _ => (by first | decide | omega), fun _ => rfl, fun _ => (by first | decide | omega)⟩
          · rw [if_neg (by first | decide | omega), if_neg (by first | decide | omega)]
            exact nu k k0 k1
        · unfold HD at *
          simp only [zup4_v]
          simp
          omega
      · rw [if_neg y, if_pos (by first | decide | omega), zb_s, zb_s]
        exact hG _ _ _ _ a (by first | decide | omega) h
    · have e : f_M_event_2_42 Km (zrm st 16) tr first st data 0 tick from' Fm Bm = some (0, Fm, Bm) := by
        unfold f_M_event_2_42 f_M_event_2_158 f_M_event_2_237
        rw [if_pos rs, if_neg (show ¬ st < 144 by omega), if_pos (show 160 ≤ st by omega), if_pos rs, if_pos (show 160 ≤ st by omega)]
      rw [if_neg z1, if_pos (show st / 16 = 13 by omega), if_neg z1, zb_s, if_pos (show 208 ≤ st by omega), e, zb_s]
      exact hG _ _ _ _ a (by first | decide | omega) h
  · rw [if_neg (show ¬ st / 16 = 12 by omega), if_neg (show ¬ st / 16 = 13 by omega)]
    have key : zP (zbind (zbind (f_SoundFile_takeData K o F B) (fun r5 F5 B5 => if r32 (F5 8 o 7) then (if (F5 8 o 7) = 0 then (if st / 16 = 9 then if r32 r5 then (if r5 ≤ 0 then f_SoundFile_loadMessage_100 K (st / 16) o data first F5 B5 else zbind (f_SoundFile_beginSound K o data r5 from' F5 B5) (fun r11 F11 B11 => f_SoundFile_loadMessage_120 K F11 B11)) else none else f_SoundFile_loadMessage_100 K (st / 16) o data first F5 B5) else some (0, F5, B5)) else none)) f) (zbind (f_M_below Km Fm Bm) (fun r60 F60 B60 => f_M_track0_238 (f_M_track0_21 Km (m + 1)) Km data from' tick first ov st tr r60 F60 B60)) Q := by
      rw [zb_a2]
      refine P_bind (P_data (Km := Km) h0 ho g.2.2.1.2.2.1 (RO_w tq w) (Or.inl ⟨g, g6⟩)) (fun r F1 B1 r' G1 D1 y => ?_)
      obtain ⟨rfl, rfl, y3, y4, y5, y6, y7, y8⟩ := y
      have w1 := OW_t w y3 y4
      have dt1 := DT_t (tick' := tick) ⟨sn, nu, hd'⟩ (by first | decide | omega) y3 y4
      rcases y7 with ⟨g1, g16⟩ | ⟨x, x6⟩
      · obtain ⟨_, rfl, rl⟩ := y8 g1.2.1
        have tg : TG o q first tr to tick st ov (a + 1) F1 B1 G1 D1 := ⟨w1, dt1, g1, g16, by rw [y4 14 0 90 (by first | decide | omega)]; exact hto, by rw [y3 8 o 8 (by first | decide | omega), y3 8 o 9 (by first | decide | omega), y3 8 o 10 (by first | decide | omega), y3 8 o 11 (by first | decide | omega)]; exact ⟨s8, s9, s10, s11⟩, sst, sov⟩
        rw [g1.1, if_pos (show r32 0 by decide), if_pos (show (0 : Int) = 0 from rfl), L_238 g1.2.1, if_pos (show r32 r' by unfold r32; omega)]
        have e2 : f_M_event_2 Km tr first st data r' tick from' G1 D1 = f_M_event_2_42 Km (zrm st 16) tr first st data r' tick from' G1 D1 := by
          unfold f_M_event_2
          rw [if_pos rs]
          by_cases v : st < 192
          · rw [if_pos v]
          · rw [if_neg v, if_pos (by first | decide | omega)]
        rw [e2]
        have hG1 : ∀ F B Fm Bm a', a + 1 ≤ a' → TG o q first tr to tick st ov a' F B Fm Bm → zP (f 0 F B) (f_M_track0_21 Km (m + 1) first ov st tick tr Fm Bm) Q := fun F B Fm Bm a' l t => hG F B Fm Bm a' (by first | decide | omega) t
        by_cases v : (144 ≤ st ∧ st < 160) ∧ 0 < r'
        · rw [if_pos (show st / 16 = 9 by omega), if_neg (show ¬ r' ≤ 0 by omega)]
          unfold f_SoundFile_loadMessage_120
          rw [zb_a2]
          exact P_bs ho tq tg ht v.1 hd ⟨v.2, rl⟩ hk hf hG1 hX
        · have e100 : (if st / 16 = 9 then (if r' ≤ 0 then f_SoundFile_loadMessage_100 K (st / 16) o data first F1 B1 else zbind (f_SoundFile_beginSound K o data r' from' F1 B1) (fun r11 F11 B11 => f_SoundFile_loadMessage_120 K F11 B11)) else f_SoundFile_loadMessage_100 K (st / 16) o data first F1 B1) = f_SoundFile_loadMessage_100 K (st / 16) o data first F1 B1 := by
            by_cases u : st / 16 = 9
            · rw [if_pos u, if_pos (by first | decide | omega)]
            · rw [if_neg u]
          rw [e100]
          have e158 : f_M_event_2_42 Km (zrm st 16) tr first st data r' tick from' G1 D1 = f_M_event_2_158 Km (zrm st 16) first st data tick G1 D1 := by
            unfold f_M_event_2_42
            rw [if_pos rs]
            by_cases u : st < 144
            · rw [if_pos u]
            · rw [if_neg u]
              by_cases u1 : 160 ≤ st
              · rw [if_pos u1]
              · rw [if_neg u1, if_pos (show r32 r' by unfold r32; omega), if_pos (by first | decide | omega)]
          rw [e158]
          unfold f_SoundFile_loadMessage_100
          rw [if_pos rd]
          by_cases u : st < 160
          · have e8 : (if st / 16 = 8 then f_SoundFile_loadMessage_114 K o data first F1 B1 else (if st / 16 = 9 then f_SoundFile_loadMessage_114 K o data first F1 B1 else f_SoundFile_loadMessage_120 K F1 B1)) = f_SoundFile_loadMessage_114 K o data first F1 B1 := by
              by_cases u1 : st / 16 = 8
              · rw [if_pos u1]
              · rw [if_neg u1, if_pos (by first | decide | omega)]
            rw [e8]
            exact P_en ho hK hKm tg ⟨hst.1, u⟩ hd hk hG1
          · unfold f_SoundFile_loadMessage_120 f_M_event_2_158 f_M_event_2_237
            rw [if_neg (show ¬ st / 16 = 8 by omega), if_neg (show ¬ st / 16 = 9 by omega), zb_s, if_pos rs, if_pos (show 160 ≤ st by omega), zb_s]
            exact hG1 _ _ _ _ (a + 1) (by first | decide | omega) tg
      · have x7' := x7_n x
        unfold f_M_track0_238 f_M_track0_263
        rw [if_pos x7'.1, if_neg x7'.2, zb_s, L_goodX x, zb_s, if_pos (by decide), if_pos rfl, L_21X x]
        exact hX F1 B1 G1 D1 tick ⟨w1, dt1, x, x6⟩
    by_cases z1 : st < 192
    · rw [if_pos z1]; exact key
    · rw [if_neg z1, if_pos (show 224 ≤ st by omega)]; exact key
end
