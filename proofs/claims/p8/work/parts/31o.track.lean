section
/-! ===== a track whole, both sides ===== -/
section
variable {K : zK} {Km m : Nat} {o first tr to tick st a : Int} {q : zF × zB × zF × zB} {F : zF} {B : zB} {Fm : zF} {Bm : zB} {f : Int → zF → zB → zO} {Q : Int → zF → zB → Int → zF → zB → Prop}
theorem P_evF (h0 : 2 ≤ K.2 0) (ho : 0 ≤ o ∧ o < K.2 8) (hK : 500 ≤ K.1) (hKm : 4000 ≤ Km) (ht : 0 ≤ tr ∧ tr ≤ 7) (hk : 0 ≤ tick ∧ tick + 268435456 ≤ 402921619456) (tq : TQ q) (h : TG o q first tr to tick st 0 a F B Fm Bm) (hto : a < to ∧ to ≤ 1099511627776) (hG : ∀ F B Fm Bm tick' st' ov' a', a + 2 ≤ a' → tick ≤ tick' → tick' ≤ tick + 268435456 → TG o q first tr to tick' st' ov' a' F B Fm Bm → zP (f 0 F B) (f_M_track0_21 Km (m + 1) first ov' st' tick' tr Fm Bm) Q) (hX : ∀ F B Fm Bm t tick', TX o q first tr tick' F B Fm Bm → zP (f 0 F B) (f_M_track0_266 Km first t tr Fm Bm) Q) : zP (zbind (f_SoundFile_loadEvent K o first F B) f) (f_M_track0_21 Km (m + 1 + 1) first 0 st tick tr Fm Bm) Q := by
  have h' := h
  obtain ⟨w, dt, g, g6, hto', ⟨s8, s9, s10, s11⟩, sst, sov⟩ := h'
  have ga := g.2.2.1
  rw [f_M_track0_21, L_good g.2.1, zb_s, if_pos (show r32 1 by decide), if_neg (show ¬ (1 : Int) = 0 by decide), if_pos (show r32 0 by decide), if_pos (show (0 : Int) = 0 from rfl), ga.2.1, hto', if_pos (show r32 a by unfold r32; omega), if_pos (show r64 a by unfold r64; omega), if_pos (show r64 to by unfold r64; omega), if_neg (fun x => by have := zcmp_o.mp x; omega)]
  unfold f_SoundFile_loadEvent
  rw [if_pos ho, zb_a2]
  refine P_bind (P_dlt (Km := Km) h0 ho (by first | decide | omega) (by first | decide | omega) (by first | decide | omega) (RO_w tq w) (Or.inl ⟨g, g6⟩)) (fun n F2 B2 n' G2 D2 u => ?_)
  obtain ⟨rfl, rfl, u3, u4, u5, u6, u7⟩ := u
  rw [if_pos (show r32 n by unfold r32; omega), if_pos (show r32 n' by unfold r32; omega), s10, zb_a2]
  have w2 := OW_t w u3 u4
  have dt2 := DT_t (tick' := tick) dt (by first | decide | omega) u3 u4
  have w3 : OW o q (zup3 F2 8 o 10 (tick + n)) B2 G2 D2 := OW_x w2 (by rw [zup3_v, if_neg (by first | decide | omega)]) (fun c y k z => by rw [zup3_v, if_neg (by first | decide | omega)]) (fun _ _ _ _ _ => rfl) (fun _ _ _ _ => rfl) (fun _ _ _ _ _ => rfl)
  have dt3 : DT o first tr (tick + n) (zup3 F2 8 o 10 (tick + n)) B2 G2 D2 := DT_x dt2 (by first | decide | omega) (fun k z => by rw [zup3_v, if_neg (by first | decide | omega)])
  rcases u7 with ⟨a1, lt1, g1, g16, rfl, gg⟩ | ⟨x, x6⟩
  · have g3 : RG o a1 (zup3 F2 8 o 10 (tick + n')) G2 := RG_f g1 (by rw [zup3_v, if_neg (by first | decide | omega)]) (by rw [zup3_v, if_neg (by first | decide | omega)]) (by rw [zup3_v, if_neg (by first | decide | omega)]) rfl rfl rfl rfl
    have g36 : 0 ≤ (zup3 F2 8 o 10 (tick + n')) 8 o 6 := by rw [zup3_v, if_neg (by first | decide | omega)]; exact g16
    have h3 : TG o q first tr to (tick + n') st 0 a1 (zup3 F2 8 o 10 (tick + n')) B2 G2 D2 := ⟨w3, dt3, g3, g36, by rw [u4 14 0 90 (by first | decide | omega)]; exact hto', ⟨by rw [zup3_v, if_neg (by first | decide | omega), u3 8 o 8 (by first | decide | omega)]; exact s8, by rw [zup3_v, if_neg (by first | decide | omega), u3 8 o 9 (by first | decide | omega)]; exact s9, by rw [zup3_v, if_pos (by first | decide | omega)], by rw [zup3_v, if_neg (by first | decide | omega), u3 8 o 11 (by first | decide | omega)]; exact s11⟩, sst, sov⟩
    refine P_bind (P_tk (Km := Km) h0 ho (RO_w tq w3) (Or.inl ⟨g3, g36⟩)) (fun b F5 B5 b' G5 D5 y => ?_)
    obtain ⟨rfl, rfl, y3, y4, y5, y6, y7, y8⟩ := y
    have g1a := g1.2.2.1
    rcases y7 with ⟨g5, g56⟩ | ⟨x, x6⟩
    · obtain ⟨_, rfl, _⟩ := y8 g5.2.1
      have h5 := TG_t h3 y3 y4 g5 g56
      have hG5 : ∀ F B Fm Bm st' ov' a', a1 + 1 ≤ a' → TG o q first tr to (tick + n') st' ov' a' F B Fm Bm → zP (f 0 F B) (f_M_track0_21 Km (m + 1) first ov' st' (tick + n') tr Fm Bm) Q := fun F B Fm Bm st' ov' a' l t => hG F B Fm Bm (tick + n') st' ov' a' (by first | decide | omega) (by first | decide | omega) (by first | decide | omega) t
      have hX5 : ∀ F B Fm Bm t, TX o q first tr (tick + n') F B Fm Bm → zP (f 0 F B) (f_M_track0_266 Km first t tr Fm Bm) Q := fun F B Fm Bm t z => hX F B Fm Bm t (tick + n') z
      have e9 : F5 8 o 9 = st := h5.2.2.2.2.2.1.2.1
      rw [L_good g5.2.1, zb_s, g5.1, if_pos (show r32 0 by decide), if_pos (show (0 : Int) = 0 from rfl), if_pos (show r32 b' by unfold r32; omega), if_pos (show r32 1 by decide), if_neg (show ¬ (1 : Int) = 0 by decide), if_pos (show r32 b' by unfold r32; omega), e9, g1a.1, g1a.2.1]
      by_cases z1 : b' = 255
      · rw [if_pos z1, if_pos z1]
        exact P_eM h0 ho hK hKm tq h5 hG5 hX5
      · rw [if_neg z1, if_neg z1]
        by_cases z2 : b' = 240
        · rw [if_pos z2, if_pos z2]
          exact P_eS h0 ho hK hKm tq h5 hG5 hX5
        · rw [if_neg z2, if_neg z2]
          by_cases z3 : b' = 247
          · rw [if_pos z3, if_pos z3]
            exact P_eS h0 ho hK hKm tq h5 hG5 hX5
          · rw [if_neg z3, if_neg z3]
            by_cases z4 : 240 ≤ b'
            · rw [if_pos z4, if_pos z4]
              exact P_eR ho (by first | decide | omega) tq h5 hX5
            · rw [if_neg z4, if_neg z4]
              by_cases z5 : 128 ≤ b'
              · rw [if_pos z5, if_pos z5]
                exact P_eN h0 ho hK hKm (by first | decide | omega) ht (by first | decide | omega) (Or.inl (by first | decide | omega)) tq h5 hG5 hX5
              · rw [if_neg z5, if_neg z5, if_pos (show r32 st by unfold r32; omega), if_pos (show r32 st by unfold r32; omega)]
                by_cases z6 : st = 0
                · rw [if_pos z6, if_pos z6]
                  exact P_eR ho (by first | decide | omega) tq h5 hX5
                · rw [if_neg z6, if_neg z6]
                  exact P_eN h0 ho hK hKm (by first | decide | omega) ht (by first | decide | omega) (Or.inr (by first | decide | omega)) tq h5 hG5 hX5
    · have x7 := x7_n x
      rw [if_pos x7.1, if_neg x7.2, zb_s, L_goodX x, zb_s, if_pos (show r32 0 by decide), if_pos (show (0 : Int) = 0 from rfl)]
      exact hX _ _ _ _ _ _ (TX_t h3 y3 y4 x x6)
  · have x3 : RX o (zup3 F2 8 o 10 (tick + n)) G2 := RX_f x (by rw [zup3_v, if_neg (by first | decide | omega)]) (by rw [zup3_v, if_neg (by first | decide | omega)]) (by rw [zup3_v, if_neg (by first | decide | omega)]) rfl rfl rfl
    have x36 : (zup3 F2 8 o 10 (tick + n)) 8 o 6 ≤ (zup3 F2 8 o 10 (tick + n)) 0 0 1 := by rw [zup3_v, if_neg (by first | decide | omega), zup3_v, if_neg (by first | decide | omega)]; exact x6
    refine P_bind (P_tk (Km := Km) (a := 0) h0 ho (RO_w tq w3) (Or.inr ⟨x3, x36⟩)) (fun b F5 B5 b' G5 D5 y => ?_)
    obtain ⟨rfl, rfl, y3, y4, y5, y6, y7, y8⟩ := y
    rcases y7 with ⟨g5, g56⟩ | ⟨x5, x56⟩
    · have := (y8 g5.2.1).1
      have := x3.2.1
      omega
    · have x7 := x7_n x5
      rw [if_pos x7.1, if_neg x7.2, zb_s, L_goodX x5, zb_s, if_pos (show r32 0 by decide), if_pos (show (0 : Int) = 0 from rfl)]
      exact hX _ _ _ _ _ _ (TX_t2 ⟨w3, dt3, x3, x36⟩ y3 y4 x5 x56)
end
/-- the numbers told between tracks -/
def NUMb (o tr : Int) (B : zB) (Bm : zB) : Prop := ∀ k, 0 ≤ k → k < 8 → (-1 ≤ B 8 o 3 k ∧ B 8 o 3 k ≤ 3) ∧ (k < tr → Bm 14 0 88 k = if 0 ≤ B 8 o 3 k then B 8 o 3 k else 0) ∧ (tr ≤ k → B 8 o 3 k = -1)
/-- the sounds, the heads and the numbers between tracks -/
def DB (o tr : Int) (F : zF) (B : zB) (Fm : zF) (Bm : zB) : Prop := SND o (F 8 o 2) tr 0 F B Fm Bm ∧ NUMb o tr B Bm ∧ HD o F B Fm Bm
theorem P_cl {K : zK} {Km : Nat} {o first tr tick : Int} {q : zF × zB × zF × zB} {F : zF} {Fm : zF} (ho : 0 ≤ o ∧ o < K.2 8) (ht : 0 ≤ tr ∧ tr ≤ 7) (hk : F 8 o 10 = tick ∧ 0 ≤ tick ∧ tick ≤ 402921619456) : ∀ (d m1 m2 : Nat) (i : Int) (B : zB) (Bm : zB), i + d = F 8 o 2 → first ≤ i → d < m1 → d < m2 → OW o q F B Fm Bm → DT o first tr tick F B Fm Bm → (∀ j, first ≤ j → j < i → 0 ≤ Bm 14 0 87 j) → zP (f_SoundFile_loadTrack_69 K m1 i o F B) (f_M_track0_270 Km m2 i tick tr Fm Bm) (fun _ F' B' _ Fm' Bm' => F' = F ∧ Fm' = Fm ∧ OW o q F B' Fm Bm' ∧ DB o (tr + 1) F B' Fm Bm') := by
  intro d
  induction d with
  | zero =>
    intro m1 m2 i B Bm e hf l1 l2 w dt hj
    obtain ⟨p, rfl⟩ : ∃ p, m1 = p + 1 := ⟨m1 - 1, (by first | decide | omega)⟩
    obtain ⟨r, rfl⟩ : ∃ p, m2 = p + 1 := ⟨m2 - 1, (by first | decide | omega)⟩
    obtain ⟨sn, nu, hd⟩ := dt
    obtain ⟨⟨h11, h12, h13, h14⟩, h2, h3, h4, h5, h6⟩ := sn
    have n3 := nu tr ht.1 (by first | decide | omega)
    have n3' := n3.2.2.1 rfl
    rw [f_SoundFile_loadTrack_69, f_M_track0_270, if_pos ho, if_pos (show r32 i by unfold r32; omega), if_pos (show r32 (F 8 o 2) by unfold r32; omega), if_pos (show F 8 o 2 ≤ i by omega), if_pos (show r32 i by unfold r32; omega), if_pos (show r32 (Fm 14 0 94) by unfold r32; omega), if_pos (show Fm 14 0 94 ≤ i by omega), if_pos (show 0 ≤ tr ∧ tr < 8 by omega), if_pos (show r32 (Bm 14 0 88 tr) by unfold r32; omega)]
    unfold f_M_track0_321
    have sn' : ∀ D : zB, (∀ k x, 82 ≤ k → k ≤ 87 → D 14 0 k x = Bm 14 0 k x) → SND o (F 8 o 2) (tr + 1) 0 F B Fm D := fun D hD => by
      refine SND_f (F := F) (B := B) (Fm := Fm) (Bm := Bm) (tick := 0) ⟨(by first | decide | omega), h2, h3, fun j j0 j1 => ?_, fun j j0 j1 => (by first | decide | omega), h6⟩ (by first | decide | omega) rfl rfl (fun _ _ _ _ => rfl) hD
      by_cases z : j < first
      · have := h4 j j0 z; omega
      · have := h5 j (by first | decide | omega) j1
        have := hj j (by first | decide | omega) (by first | decide | omega)
        omega
    by_cases z : 0 ≤ Bm 14 0 88 tr
    · rw [if_pos z]
      refine P_some ⟨rfl, rfl, w, sn' Bm (fun _ _ _ _ => rfl), fun k k0 k1 => ?_, hd⟩
      obtain ⟨a1, a2, a3, a4⟩ := nu k k0 k1
      refine ⟨a1, fun l => ?_, fun l => a4 (by first | decide | omega)⟩
      by_cases y : k = tr
      · subst y
        rw [if_pos (by first | decide | omega)]; exact n3'
      · exact a2 (by first | decide | omega)
    · rw [if_neg z]
      refine P_some ⟨rfl, rfl, OW_x w rfl (fun _ _ _ _ => rfl) (fun _ _ _ _ _ => rfl) (fun _ _ _ _ => rfl) (fun c y k x n => by rw [zup4_v, if_neg (by first | decide | omega)]), sn' _ (fun k x k0 k1 => by rw [zup4_v, if_neg (by first | decide | omega)]), fun k k0 k1 => ?_, HD_x hd (fun _ _ _ => rfl) (fun _ => rfl) (fun _ _ _ => rfl) (fun x => by rw [zup4_v, if_neg (by first | decide | omega)])⟩
      obtain ⟨a1, a2, a3, a4⟩ := nu k k0 k1
      refine ⟨a1, fun l => ?_, fun l => a4 (by first | decide | omega)⟩
      rw [zup4_v]
      by_cases y : k = tr
      · subst y
        rw [if_pos (by first | decide | omega), if_neg (by first | decide | omega)]
      · rw [if_neg (by first | decide | omega)]
        exact a2 (by first | decide | omega)
  | succ d ih =>
    intro m1 m2 i B Bm e hf l1 l2 w dt hj
    obtain ⟨p, rfl⟩ : ∃ p, m1 = p + 1 := ⟨m1 - 1, (by first | decide | omega)⟩
    obtain ⟨r, rfl⟩ : ∃ p, m2 = p + 1 := ⟨m2 - 1, (by first | decide | omega)⟩
    have dt' := dt
    obtain ⟨sn, nu, hd⟩ := dt'
    have sn' := sn
    obtain ⟨⟨h11, h12, h13, h14⟩, h2, h3, h4, h5, h6⟩ := sn'
    obtain ⟨_, _, _, _, _, a6⟩ := h2 i (by first | decide | omega) (by first | decide | omega)
    obtain ⟨_, _, _, _, _, b6⟩ := h3 i (by first | decide | omega) (by first | decide | omega)
    rw [f_SoundFile_loadTrack_69, f_M_track0_270, if_pos ho, if_pos (show r32 i by unfold r32; omega), if_pos (show r32 (F 8 o 2) by unfold r32; omega), if_neg (show ¬ F 8 o 2 ≤ i by omega), if_pos (show 0 ≤ i ∧ i < 400 by omega), a6, if_pos (show r64 (Bm 14 0 87 i) by unfold r64; omega), if_pos (show r32 i by unfold r32; omega), if_pos (show r32 (Fm 14 0 94) by unfold r32; omega), if_neg (show ¬ Fm 14 0 94 ≤ i by omega), if_pos (show 0 ≤ i ∧ i < 400 by omega), if_pos (show r64 (Bm 14 0 87 i) by unfold r64; omega)]
    unfold f_SoundFile_loadTrack_107 f_M_track0_299
    by_cases z : Bm 14 0 87 i = -1
    · rw [if_pos (zcmp_0.mpr z), if_neg (fun x => by have := zcmp_o.mp x; omega), hk.1]
      refine ih p r (i + 1) _ _ (by first | decide | omega) (by first | decide | omega) (by first | decide | omega) (by first | decide | omega) ?_ ⟨SND_e sn hf hk.2, ?_, ?_⟩ (fun j j0 j1 => ?_)
      · exact OW_x w rfl (fun _ _ _ _ => rfl) (fun c y k x n => by rw [zup4_v, if_neg (by first | decide | omega)]) (fun _ _ _ _ => rfl) (fun c y k x n => by rw [zup4_v, if_neg (by first | decide | omega)])
      · exact NUM_f nu (fun x => by rw [zup4_v, if_neg (by first | decide | omega)]) (fun x => by rw [zup4_v, if_neg (by first | decide | omega)])
      · exact HD_x hd (fun _ _ _ => rfl) (fun x => by rw [zup4_v, if_neg (by first | decide | omega)]) (fun _ _ _ => rfl) (fun x => by rw [zup4_v, if_neg (by first | decide | omega)])
      · rw [zup4_v]
        by_cases y : j = i
        · rw [if_pos (by first | decide | omega)]; exact hk.2.1
        · rw [if_neg (by first | decide | omega)]; exact hj j j0 (by first | decide | omega)
    · rw [if_neg (fun x => z (zcmp_0.mp x)), if_pos (zcmp_o.mpr (by first | decide | omega))]
      refine ih p r (i + 1) _ _ (by first | decide | omega) (by first | decide | omega) (by first | decide | omega) (by first | decide | omega) w dt (fun j j0 j1 => ?_)
      by_cases y : j = i
      · subst y; omega
      · exact hj j j0 (by first | decide | omega)
end
