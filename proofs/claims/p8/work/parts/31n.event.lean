section
/-! ===== an event of a track, both sides ===== -/
theorem DT_x {o first tr tick tick' : Int} {F F' : zF} {B : zB} {Fm : zF} {Bm : zB} (h : DT o first tr tick F B Fm Bm) (ht : tick ≤ tick') (f : ∀ k, k = 2 ∨ (12 ≤ k ∧ k ≤ 14) → F' 8 o k = F 8 o k) : DT o first tr tick' F' B Fm Bm :=
  ⟨SND_f h.1 ht (f 2 (by first | decide | omega)) rfl (fun _ _ _ _ => rfl) (fun _ _ _ _ => rfl), h.2.1, HD_x h.2.2 (fun k k0 k1 => f k (by first | decide | omega)) (fun _ => rfl) (fun _ _ _ => rfl) (fun _ => rfl)⟩
/-- the state of a message set anew: nothing else is touched -/
theorem TG_s {o first tr to tick tick' st st' ov a : Int} {q : zF × zB × zF × zB} {F : zF} {B : zB} {Fm : zF} {Bm : zB} (h : TG o q first tr to tick st ov a F B Fm Bm) (hs : st' = 0 ∨ (128 ≤ st' ∧ st' < 240)) (e : tick' = tick) : TG o q first tr to tick' st' ov a (zup3 F 8 o 9 st') B Fm Bm := by
  subst e
  obtain ⟨w, dt, g, g6, hto, ⟨s8, s9, s10, s11⟩, sst, sov⟩ := h
  refine ⟨OW_x w (by rw [zup3_v, if_neg (by first | decide | omega)]) (fun c y k n => by rw [zup3_v, if_neg (by first | decide | omega)]) (fun _ _ _ _ _ => rfl) (fun _ _ _ _ => rfl) (fun _ _ _ _ _ => rfl), DT_x dt (by first | decide | omega) (fun k n => by rw [zup3_v, if_neg (by first | decide | omega)]), RG_f g (by rw [zup3_v, if_neg (by first | decide | omega)]) (by rw [zup3_v, if_neg (by first | decide | omega)]) (by rw [zup3_v, if_neg (by first | decide | omega)]) rfl rfl rfl rfl, by rw [zup3_v, if_neg (by first | decide | omega)]; exact g6, hto, ⟨by rw [zup3_v, if_neg (by first | decide | omega)]; exact s8, by rw [zup3_v, if_pos (by first | decide | omega)], by rw [zup3_v, if_neg (by first | decide | omega)]; exact s10, by rw [zup3_v, if_neg (by first | decide | omega)]; exact s11⟩, hs, sov⟩
/-- bytes were taken: the track goes on -/
theorem TG_t {o first tr to tick st ov a a' : Int} {q : zF × zB × zF × zB} {F F' : zF} {B : zB} {Fm Fm' : zF} {Bm : zB} (h : TG o q first tr to tick st ov a F B Fm Bm) (f : tkF o F F') (g : tkG Fm Fm') (r : RG o a' F' Fm') (r6 : 0 ≤ F' 8 o 6) : TG o q first tr to tick st ov a' F' B Fm' Bm := by
  obtain ⟨w, dt, _, _, hto, ⟨s8, s9, s10, s11⟩, sst, sov⟩ := h
  exact ⟨OW_t w f g, DT_t dt (by first | decide | omega) f g, r, r6, by rw [g 14 0 90 (by first | decide | omega)]; exact hto, ⟨by rw [f 8 o 8 (by first | decide | omega)]; exact s8, by rw [f 8 o 9 (by first | decide | omega)]; exact s9, by rw [f 8 o 10 (by first | decide | omega)]; exact s10, by rw [f 8 o 11 (by first | decide | omega)]; exact s11⟩, sst, sov⟩
theorem TX_t {o first tr to tick st ov a : Int} {q : zF × zB × zF × zB} {F F' : zF} {B : zB} {Fm Fm' : zF} {Bm : zB} (h : TG o q first tr to tick st ov a F B Fm Bm) (f : tkF o F F') (g : tkG Fm Fm') (r : RX o F' Fm') (r6 : F' 8 o 6 ≤ F' 0 0 1) : TX o q first tr tick F' B Fm' Bm := by
  obtain ⟨w, dt, _⟩ := h
  exact ⟨OW_t w f g, DT_t dt (by first | decide | omega) f g, r, r6⟩
theorem TX_t2 {o first tr tick : Int} {q : zF × zB × zF × zB} {F F' : zF} {B : zB} {Fm Fm' : zF} {Bm : zB} (h : TX o q first tr tick F B Fm Bm) (f : tkF o F F') (g : tkG Fm Fm') (r : RX o F' Fm') (r6 : F' 8 o 6 ≤ F' 0 0 1) : TX o q first tr tick F' B Fm' Bm := by
  obtain ⟨w, dt, _⟩ := h
  exact ⟨OW_t w f g, DT_t dt (by first | decide | omega) f g, r, r6⟩
section
variable {K : zK} {Km m : Nat} {o first tr to tick st a : Int} {q : zF × zB × zF × zB} {F : zF} {B : zB} {Fm : zF} {Bm : zB} {f : Int → zF → zB → zO} {Q : Int → zF → zB → Int → zF → zB → Prop}
theorem P_eM (h0 : 2 ≤ K.2 0) (ho : 0 ≤ o ∧ o < K.2 8) (hK : 500 ≤ K.1) (hKm : 4000 ≤ Km) (tq : TQ q) (h : TG o q first tr to tick st 0 a F B Fm Bm) (hG : ∀ F B Fm Bm st' ov' a', a ≤ a' → TG o q first tr to tick st' ov' a' F B Fm Bm → zP (f 0 F B) (f_M_track0_21 Km (m + 1) first ov' st' tick tr Fm Bm) Q) (hX : ∀ F B Fm Bm t, TX o q first tr tick F B Fm Bm → zP (f 0 F B) (f_M_track0_266 Km first t tr Fm Bm) Q) : zP (zbind (zbind (f_SoundFile_loadMeta K o (zup3 F 8 o 9 0) B) (fun r17 F17 B17 => f_SoundFile_loadEvent_141 K F17 B17)) f) (zbind (f_M_meta Km Fm Bm) (fun r26 F26 B26 => f_M_track0_263 (f_M_track0_21 Km (m + 1)) Km 0 r26 tick first tr F26 B26)) Q := by
  have h1 := TG_s h (st' := 0) (Or.inl rfl) rfl
  obtain ⟨w, ⟨sn, nu, hd⟩, g, g6, hto, ⟨s8, s9, s10, s11⟩, sst, sov⟩ := h1
  rw [zb_a2]
  refine P_bind (P_mt (Km := Km) h0 ho (by first | decide | omega) hKm (RO_w tq w) g g6 hd) (fun r F1 B1 r' G1 D1 y => ?_)
  obtain ⟨y1, y2, y3, y4, y5, y6, y7⟩ := y
  unfold f_SoundFile_loadEvent_141 f_M_track0_263
  rw [zb_s]
  have w1 : OW o q F1 B1 G1 D1 := OW_x w (y1 8 o 4 (by first | decide | omega)) (fun c y k n => y1 c y k (by first | decide | omega)) (fun c y k x n => y2 c y k x (by first | decide | omega)) (fun c y k n => y3 c y k (by first | decide | omega)) (fun c y k x n => y4 c y k x (by first | decide | omega))
  have dt1 : DT o first tr tick F1 B1 G1 D1 := ⟨SND_f sn (by first | decide | omega) (y1 8 o 2 (by first | decide | omega)) (y3 14 0 94 (by first | decide | omega)) (fun k x k0 k1 => y2 8 o k x (by first | decide | omega)) (fun k x k0 k1 => y4 14 0 k x (by first | decide | omega)), NUM_f nu (fun x => y2 8 o 3 x (by first | decide | omega)) (fun x => y4 14 0 88 x (by first | decide | omega)), y5⟩
  rcases y7 with ⟨a', l, rg, r6, r11⟩ | ⟨x, x6⟩
  · exact hG _ _ _ _ 0 r' a' (by first | decide | omega) ⟨w1, dt1, rg, r6, by rw [y3 14 0 90 (by first | decide | omega)]; exact hto, ⟨by rw [y1 8 o 8 (by first | decide | omega)]; exact s8, by rw [y1 8 o 9 (by first | decide | omega)]; exact s9, by rw [y1 8 o 10 (by first | decide | omega)]; exact s10, r11⟩, Or.inl rfl, y6⟩
  · rw [L_21X x]
    exact hX _ _ _ _ _ ⟨w1, dt1, x, x6⟩
theorem SK_sys {rec' : Int → Int → Int → Int → Int → zF → zB → zO} {n l2 l6 l5 l1 : Int} (hn : 0 ≤ n ∧ n < 268435456) : SKW Km n (fun m k F B => f_M_track0_121 rec' Km m k n l2 l6 l5 l1 F B) (fun F B => f_M_track0_146 rec' Km l2 l6 l5 l1 F B) := by
  refine ⟨fun m k F B k0 k1 g => ?_, fun m k F B k0 k1 k2 => ?_, fun m k F B k0 k1 g => ?_⟩
  · show f_M_track0_121 rec' Km (m + 1) k n l2 l6 l5 l1 F B = _
    rw [f_M_track0_121, if_pos (by unfold r32; omega), if_pos (by unfold r32; omega), if_neg (by first | decide | omega), L_good g, zb_s, if_pos (by decide), if_neg (by decide)]
  · show f_M_track0_121 rec' Km (m + 1) k n l2 l6 l5 l1 F B = _
    rw [f_M_track0_121, if_pos (by unfold r32; omega), if_pos (by unfold r32; omega), if_pos (by first | decide | omega)]
  · show f_M_track0_121 rec' Km (m + 1) k n l2 l6 l5 l1 F B = _
    rw [f_M_track0_121, if_pos (by unfold r32; omega), if_pos (by unfold r32; omega)]
    by_cases z : n ≤ k
    · rw [if_pos z]
    · have e : f_M_good Km F B = some (0, F, B) := by
        unfold f_M_good f_M_good_12
        rw [g, if_pos (by decide), if_neg (by decide), if_pos (by decide)]
      rw [if_neg z, e, zb_s, if_pos (by decide), if_pos rfl]
theorem P_eS (h0 : 2 ≤ K.2 0) (ho : 0 ≤ o ∧ o < K.2 8) (hK : 500 ≤ K.1) (hKm : 4000 ≤ Km) (tq : TQ q) (h : TG o q first tr to tick st 0 a F B Fm Bm) (hG : ∀ F B Fm Bm st' ov' a', a ≤ a' → TG o q first tr to tick st' ov' a' F B Fm Bm → zP (f 0 F B) (f_M_track0_21 Km (m + 1) first ov' st' tick tr Fm Bm) Q) (hX : ∀ F B Fm Bm t, TX o q first tr tick F B Fm Bm → zP (f 0 F B) (f_M_track0_266 Km first t tr Fm Bm) Q) : zP (zbind (f_SoundFile_loadEvent_65 K o F B) f) (f_M_track0_112 (f_M_track0_21 Km (m + 1)) Km tick first 0 tr Fm Bm) Q := by
  have h1 := TG_s h (st' := 0) (Or.inl rfl) rfl
  have h1' := h1
  obtain ⟨w, dt, g, g6, hto, ⟨s8, s9, s10, s11⟩, sst, sov⟩ := h1'
  unfold f_SoundFile_loadEvent_65 f_M_track0_112
  rw [if_pos ho, zb_a2]
  refine P_bind (P_dlt (Km := Km) h0 ho (by first | decide | omega) (by first | decide | omega) g.2.2.1.2.2.1 (RO_w tq w) (Or.inl ⟨g, g6⟩)) (fun n F2 B2 n' G2 D2 u => ?_)
  obtain ⟨rfl, rfl, u3, u4, u5, u6, u7⟩ := u
  rw [if_pos (show r32 n by unfold r32; omega), zb_a2]
  unfold f_SoundFile_loadEvent_141
  rcases u7 with ⟨a1, lt1, g1, g16, rfl, gg⟩ | ⟨x, x6⟩
  · have h2 := TG_t h1 u3 u4 g1 g16
    obtain ⟨F3, G3, e1, e2, s3, s4, s5⟩ := P_skp (K := K) (Bm := D2) (SK_sys (Km := Km) (rec' := f_M_track0_21 Km (m + 1)) (n := n') (l2 := tick) (l6 := first) (l5 := 0) (l1 := tr) u6) (m := Km) (by first | decide | omega) ho (by first | decide | omega) (RO_w tq h2.1) g1 g16
    have e2' : f_M_track0_121 (f_M_track0_21 Km (m + 1)) Km Km 0 n' tick first 0 tr G2 D2 = f_M_track0_146 (f_M_track0_21 Km (m + 1)) Km tick first 0 tr G3 D2 := e2
    rw [e1, e2', zb_s, zb_s]
    unfold f_M_track0_146 f_M_track0_263
    rcases s5 with ⟨rg, r6, rl⟩ | ⟨x, x6⟩
    · exact hG _ _ _ _ 0 0 (a1 + n') (by first | decide | omega) (TG_t h2 s3 s4 rg r6)
    · rw [L_21X x]
      exact hX _ _ _ _ _ (TX_t h2 s3 s4 x x6)
  · rw [C_skipX ho (by first | decide | omega) x, zb_s, zb_s]
    obtain ⟨p, ep⟩ : ∃ p, Km = p + 1 := ⟨Km - 1, (by first | decide | omega)⟩
    have e146 : f_M_track0_146 (f_M_track0_21 Km (m + 1)) Km tick first 0 tr G2 D2 = f_M_track0_266 Km first tick tr G2 D2 := by
      unfold f_M_track0_146 f_M_track0_263
      exact L_21X x
    have e : ∀ j, f_M_track0_121 (f_M_track0_21 Km (m + 1)) Km (j + 1) 0 n' tick first 0 tr G2 D2 = f_M_track0_266 Km first tick tr G2 D2 := fun j => by
      rw [f_M_track0_121, if_pos (by decide), if_pos (by unfold r32; omega)]
      by_cases z : n' ≤ 0
      · rw [if_pos z, e146]
      · rw [if_neg z, L_goodX x, zb_s, if_pos (by decide), if_pos rfl, e146]
    have e' := e p
    rw [← ep] at e'
    rw [e']
    exact hX _ _ _ _ _ (TX_t h1 u3 u4 x x6)
theorem P_eR {from' : Int} (ho : 0 ≤ o ∧ o < K.2 8) (hf : 0 ≤ from' ∧ from' ≤ 3000) (tq : TQ q) (h : TG o q first tr to tick st 0 a F B Fm Bm) (hX : ∀ F B Fm Bm t, TX o q first tr tick F B Fm Bm → zP (f 0 F B) (f_M_track0_266 Km first t tr Fm Bm) Q) : zP (zbind (f_SoundFile_loadEvent_103 K from' o F B) f) (f_M_track0_173 (f_M_track0_21 Km (m + 1)) Km from' tick first 0 st tr Fm Bm) Q := by
  have g := h.2.2.1
  have n3 := (RO_w tq h.1).2.1
  have gx := RX_n (c := 1) (z := from') g h.2.2.2.1 (by first | decide | omega) (by first | decide | omega) hf
  unfold f_SoundFile_loadEvent_103 f_M_track0_173 f_SoundFile_loadEvent_141 f_M_track0_263
  rw [if_pos ho, C_ref ho g.1, zb_s, zb_s, L_fb g.2.1, zb_s, L_21X gx]
  refine hX _ _ _ _ _ (TX_t h (fun c y k n => by rw [zup3_v, if_neg (by first | decide | omega)]) (fun c y k n => by rw [zup3_v, if_neg (by first | decide | omega), zup3_v, if_neg (by first | decide | omega)]) gx ?_)
  rw [zup3_v, if_neg (by first | decide | omega), zup3_v, if_neg (by first | decide | omega)]
  have := g.2.2.2.2.2.1
  omega
theorem P_eN {from' b : Int} (h0 : 2 ≤ K.2 0) (ho : 0 ≤ o ∧ o < K.2 8) (hK : 500 ≤ K.1) (hKm : 4000 ≤ Km) (hf : 0 ≤ from' ∧ from' ≤ 3000) (ht : 0 ≤ tr ∧ tr ≤ 7) (hk : 0 ≤ tick ∧ tick ≤ 402921619456) (hb : (128 ≤ b ∧ b < 240) ∨ (0 ≤ b ∧ b < 128 ∧ ¬ st = 0)) (tq : TQ q) (h : TG o q first tr to tick st 0 a F B Fm Bm) (hG : ∀ F B Fm Bm st' ov' a', a ≤ a' → TG o q first tr to tick st' ov' a' F B Fm Bm → zP (f 0 F B) (f_M_track0_21 Km (m + 1) first ov' st' tick tr Fm Bm) Q) (hX : ∀ F B Fm Bm t, TX o q first tr tick F B Fm Bm → zP (f 0 F B) (f_M_track0_266 Km first t tr Fm Bm) Q) : zP (zbind (f_SoundFile_loadEvent_112 K b from' o first F B) f) (f_M_track0_183 (f_M_track0_21 Km (m + 1)) Km b from' tick first 0 st tr Fm Bm) Q := by
  have rb : r32 b := by unfold r32; omega
  unfold f_SoundFile_loadEvent_112 f_M_track0_183 f_M_track0_195 f_SoundFile_loadEvent_133 f_SoundFile_loadEvent_141
  rw [if_pos rb, if_pos rb]
  by_cases z : b < 128
  · rw [if_pos z, if_pos z, if_pos rb, if_neg (show ¬ 128 ≤ b by omega), if_pos ho, zb_a2]
    exact P_ms h0 ho hK (by first | decide | omega) tq h ht (by have := h.2.2.2.2.2.2.1; omega) (by first | decide | omega) hk hf (fun F B Fm Bm a' l t => hG F B Fm Bm st 0 a' l t) hX
  · rw [if_neg z, if_neg z, if_pos rb, if_pos (show 128 ≤ b by omega), if_pos ho, zb_a2]
    have h1 := TG_s h (st' := b) (Or.inr (by first | decide | omega)) rfl
    have h1' := h1
    obtain ⟨w, dt, g, g6, hto, ⟨s8, s9, s10, s11⟩, sst, sov⟩ := h1'
    refine P_bind (P_data (Km := Km) h0 ho g.2.2.1.2.2.1 (RO_w tq w) (Or.inl ⟨g, g6⟩)) (fun r F1 B1 r' G1 D1 y => ?_)
    obtain ⟨rfl, rfl, y3, y4, y5, y6, y7, y8⟩ := y
    rw [if_pos ho, zb_a2]
    rcases y7 with ⟨g1, g16⟩ | ⟨x, x6⟩
    · obtain ⟨_, rfl, rl⟩ := y8 g1.2.1
      exact P_ms h0 ho hK (by first | decide | omega) tq (TG_t h1 y3 y4 g1 g16) ht (by first | decide | omega) (by first | decide | omega) hk hf (fun F B Fm Bm a' l t => hG F B Fm Bm b 0 a' (by first | decide | omega) t) hX
    · exact P_msX h0 ho tq (TX_t h1 y3 y4 x x6) (by rw [y3 8 o 9 (by first | decide | omega)]; exact s9) (by first | decide | omega) hX
end
end
