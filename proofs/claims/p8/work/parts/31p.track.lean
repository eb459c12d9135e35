section
/-! ===== a track whole: its loop ===== -/
theorem C_clX {K : zK} {o : Int} {F : zF} (ho : 0 ≤ o ∧ o < K.2 8) (hc : 0 ≤ F 8 o 2 ∧ F 8 o 2 ≤ 400) : ∀ (d m : Nat) (i : Int) (B : zB), i + d = F 8 o 2 → 0 ≤ i → d < m → (∀ j, i ≤ j → j < F 8 o 2 → r64 (B 8 o 225 j)) → ∃ B', f_SoundFile_loadTrack_69 K m i o F B = some (0, F, B') ∧ (∀ c y k x, ¬ (c = 8 ∧ y = o) → B' c y k x = B c y k x) := by
  intro d
  induction d with
  | zero =>
    intro m i B e i0 hm hr
    obtain ⟨p, rfl⟩ : ∃ p, m = p + 1 := ⟨m - 1, (by first | decide | omega)⟩
    refine ⟨B, ?_, fun _ _ _ _ _ => rfl⟩
    rw [f_SoundFile_loadTrack_69, if_pos ho, if_pos (show r32 i by unfold r32; omega), if_pos (show r32 (F 8 o 2) by unfold r32; omega), if_pos (show F 8 o 2 ≤ i by omega)]
  | succ d ih =>
    intro m i B e i0 hm hr
    obtain ⟨p, rfl⟩ : ∃ p, m = p + 1 := ⟨m - 1, (by first | decide | omega)⟩
    rw [f_SoundFile_loadTrack_69, if_pos ho, if_pos (show r32 i by unfold r32; omega), if_pos (show r32 (F 8 o 2) by unfold r32; omega), if_neg (show ¬ F 8 o 2 ≤ i by omega), if_pos (show 0 ≤ i ∧ i < 400 by omega), if_pos (hr i (by first | decide | omega) (by first | decide | omega))]
    unfold f_SoundFile_loadTrack_107
    by_cases z : zcmp (B 8 o 225 i) (-1) = 0
    · rw [if_pos z]
      obtain ⟨B', e1, e2⟩ := ih p (i + 1) (zup4 B 8 o 225 i (F 8 o 10)) (by first | decide | omega) (by first | decide | omega) (by first | decide | omega) (fun j j0 j1 => by rw [zup4_v, if_neg (by first | decide | omega)]; exact hr j (by first | decide | omega) j1)
      exact ⟨B', e1, fun c y k x n => by rw [e2 c y k x n, zup4_v, if_neg (by first | decide | omega)]⟩
    · rw [if_neg z]
      exact ih p (i + 1) B (by first | decide | omega) (by first | decide | omega) (by first | decide | omega) (fun j j0 j1 => hr j (by first | decide | omega) j1)
theorem L_clX {Km : Nat} {tr t : Int} {Fm : zF} (ht : 0 ≤ tr ∧ tr ≤ 7) (hc : 0 ≤ Fm 14 0 94 ∧ Fm 14 0 94 ≤ 400) : ∀ (d m : Nat) (i : Int) (B : zB), i + d = Fm 14 0 94 → 0 ≤ i → d < m → r32 (B 14 0 88 tr) → (∀ j, i ≤ j → j < Fm 14 0 94 → r64 (B 14 0 87 j)) → ∃ B', f_M_track0_270 Km m i t tr Fm B = some (0, Fm, B') ∧ (∀ c y k x, ¬ (c = 14 ∧ y = 0 ∧ (k = 87 ∨ k = 88)) → B' c y k x = B c y k x) := by
  intro d
  induction d with
  | zero =>
    intro m i B e i0 hm h8 hr
    obtain ⟨p, rfl⟩ : ∃ p, m = p + 1 := ⟨m - 1, (by first | decide | omega)⟩
    rw [f_M_track0_270, if_pos (show r32 i by unfold r32; omega), if_pos (show r32 (Fm 14 0 94) by unfold r32; omega), if_pos (show Fm 14 0 94 ≤ i by omega), if_pos (show 0 ≤ tr ∧ tr < 8 by omega), if_pos h8]
    unfold f_M_track0_321
    by_cases z : 0 ≤ B 14 0 88 tr
    · rw [if_pos z]; exact ⟨B, rfl, fun _ _ _ _ _ => rfl⟩
    · rw [if_neg z]; exact ⟨_, rfl, fun c y k x n => by rw [zup4_v, if_neg (by first | decide | omega)]⟩
  | succ d ih =>
    intro m i B e i0 hm h8 hr
    obtain ⟨p, rfl⟩ : ∃ p, m = p + 1 := ⟨m - 1, (by first | decide | omega)⟩
    rw [f_M_track0_270, if_pos (show r32 i by unfold r32; omega), if_pos (show r32 (Fm 14 0 94) by unfold r32; omega), if_neg (show ¬ Fm 14 0 94 ≤ i by omega), if_pos (show 0 ≤ i ∧ i < 400 by omega), if_pos (hr i (by first | decide | omega) (by first | decide | omega))]
    unfold f_M_track0_299
    by_cases z : 0 ≤ zcmp (B 14 0 87 i) 0
    · rw [if_pos z]
      exact ih p (i + 1) B (by first | decide | omega) (by first | decide | omega) (by first | decide | omega) h8 (fun j j0 j1 => hr j (by first | decide | omega) j1)
    · rw [if_neg z]
      obtain ⟨B', e1, e2⟩ := ih p (i + 1) (zup4 B 14 0 87 i t) (by first | decide | omega) (by first | decide | omega) (by first | decide | omega) (by rw [zup4_v, if_neg (by first | decide | omega)]; exact h8) (fun j j0 j1 => by rw [zup4_v, if_neg (by first | decide | omega)]; exact hr j (by first | decide | omega) j1)
      exact ⟨B', e1, fun c y k x n => by rw [e2 c y k x n, zup4_v, if_neg (by first | decide | omega)]⟩
/-- what a track leaves behind -/
def QT (o : Int) (q : zF × zB × zF × zB) (tr to : Int) : Int → zF → zB → Int → zF → zB → Prop := fun _ F B _ Fm Bm => OW o q F B Fm Bm ∧ ((∃ a, RG o a F Fm ∧ 0 ≤ F 8 o 6 ∧ Fm 14 0 90 = to ∧ F 8 o 8 = tr ∧ DB o (tr + 1) F B Fm Bm) ∨ (RX o F Fm ∧ F 8 o 6 ≤ F 0 0 1))
theorem P_clX {K : zK} {Km : Nat} {o first tr to tick t : Int} {q : zF × zB × zF × zB} {F : zF} {B : zB} {Fm : zF} {Bm : zB} (ho : 0 ≤ o ∧ o < K.2 8) (hK : 500 ≤ K.1) (hKm : 500 ≤ Km) (ht : 0 ≤ tr ∧ tr ≤ 7) (h : TX o q first tr tick F B Fm Bm) : zP (f_SoundFile_loadTrack_66 K first o F B) (f_M_track0_266 Km first t tr Fm Bm) (QT o q tr to) := by
  obtain ⟨w, ⟨sn, nu, hd⟩, x, x6⟩ := h
  obtain ⟨⟨h11, h12, h13, h14⟩, h2, h3, h4, h5, h6⟩ := sn
  have n3 := nu tr ht.1 (by first | decide | omega)
  have n3' := n3.2.2.1 rfl
  obtain ⟨B', e1, e2⟩ := C_clX (F := F) ho (by first | decide | omega) (F 8 o 2 - first).toNat K.1 first B (by first | decide | omega) (by first | decide | omega) (by first | decide | omega) (fun j j0 j1 => by
    obtain ⟨_, _, _, _, _, a6⟩ := h2 j (by first | decide | omega) j1
    obtain ⟨_, _, _, _, _, b6⟩ := h3 j (by first | decide | omega) j1
    unfold r64; omega)
  obtain ⟨D', e3, e4⟩ := L_clX (Km := Km) (t := t) (Fm := Fm) ht (by first | decide | omega) (F 8 o 2 - first).toNat Km first Bm (by first | decide | omega) (by first | decide | omega) (by first | decide | omega) (by unfold r32; omega) (fun j j0 j1 => by
    obtain ⟨_, _, _, _, _, b6⟩ := h3 j (by first | decide | omega) (by first | decide | omega)
    unfold r64; omega)
  exact ⟨0, F, B', 0, Fm, D', e1, e3, OW_x w rfl (fun _ _ _ _ => rfl) e2 (fun _ _ _ _ => rfl) (fun c y k x n => e4 c y k x (by first | decide | omega)), Or.inr ⟨x, x6⟩⟩
theorem P_clG {K : zK} {Km : Nat} {o first tr to tick st ov a : Int} {q : zF × zB × zF × zB} {F : zF} {B : zB} {Fm : zF} {Bm : zB} (ho : 0 ≤ o ∧ o < K.2 8) (hK : 500 ≤ K.1) (hKm : 500 ≤ Km) (ht : 0 ≤ tr ∧ tr ≤ 7) (hk : 0 ≤ tick ∧ tick ≤ 402921619456) (h : TG o q first tr to tick st ov a F B Fm Bm) : zP (f_SoundFile_loadTrack_66 K first o F B) (f_M_track0_266 Km first tick tr Fm Bm) (QT o q tr to) := by
  obtain ⟨w, dt, g, g6, hto, ⟨s8, s9, s10, s11⟩, sst, sov⟩ := h
  have s1 := dt.1.1
  obtain ⟨r, F', B', r', Fm', Bm', e1, e2, rfl, rfl, y3, y4⟩ := P_cl (Km := Km) (q := q) (F := F) (Fm := Fm) ho ht ⟨s10, hk⟩ (F 8 o 2 - first).toNat K.1 Km first B Bm (by first | decide | omega) (by first | decide | omega) (by first | decide | omega) (by first | decide | omega) w dt (fun j j0 j1 => (by first | decide | omega))
  exact ⟨r, _, B', r', _, Bm', e1, e2, y3, Or.inl ⟨a, g, g6, hto, s8, y4⟩⟩
theorem P_tl {K : zK} {Km : Nat} {o first tr to : Int} {q : zF × zB × zF × zB} (h0 : 2 ≤ K.2 0) (ho : 0 ≤ o ∧ o < K.2 8) (hK : 500 ≤ K.1) (hKm : 4000 ≤ Km) (ht : 0 ≤ tr ∧ tr ≤ 7) (hto : 0 ≤ to ∧ to ≤ 1099511627776) (tq : TQ q) : ∀ (d m1 m2 : Nat) (n tick st ov a : Int) (F : zF) (B : zB) (Fm : zF) (Bm : zB), 3000 ≤ a + d → d + 1 < m1 → d + 1 < m2 → 0 ≤ n → 2 * n ≤ a → 0 ≤ tick → tick ≤ 268435456 * n → TG o q first tr to tick st ov a F B Fm Bm → zP (f_SoundFile_loadTrack_23 K m1 n first o to F B) (f_M_track0_21 Km m2 first ov st tick tr Fm Bm) (QT o q tr to) := by
  intro d
  induction d with
  | zero =>
    intro m1 m2 n tick st ov a F B Fm Bm hd l1 l2 n0 na t0 tn h
    obtain ⟨p, rfl⟩ : ∃ p, m1 = p + 1 + 1 := ⟨m1 - 2, (by first | decide | omega)⟩
    obtain ⟨r, rfl⟩ : ∃ p, m2 = p + 1 + 1 := ⟨m2 - 2, (by first | decide | omega)⟩
    have g := h.2.2.1
    have ga := g.2.2.1
    have hto' := h.2.2.2.2.1
    have s11 := h.2.2.2.2.2.1.2.2.2
    have sov := h.2.2.2.2.2.2.2
    have hx : zP (f_SoundFile_loadTrack_66 K first o F B) (f_M_track0_266 Km first tick tr Fm Bm) (QT o q tr to) := P_clG ho hK (by first | decide | omega) ht (by first | decide | omega) h
    rw [f_SoundFile_loadTrack_23, if_pos (show r32 n by unfold r32; omega), if_neg (show ¬ 3000 ≤ n by omega), if_pos ho, g.1, if_pos (show r32 0 by decide), if_pos (show (0 : Int) = 0 from rfl), ga.1, if_pos (show r32 a by unfold r32; omega), if_pos (show r64 a by unfold r64; omega), if_pos (show r64 to by unfold r64; omega), s11, if_pos (show r32 ov by unfold r32; omega)]
    by_cases z : to ≤ a
    · rw [if_pos (zcmp_o.mpr z), f_M_track0_21, L_good g.2.1, zb_s, if_pos (show r32 1 by decide), if_neg (show ¬ (1 : Int) = 0 by decide), if_pos (show r32 ov by unfold r32; omega), ga.2.1, hto', if_pos (show r32 a by unfold r32; omega), if_pos (show r64 a by unfold r64; omega), if_pos (show r64 to by unfold r64; omega), if_pos (zcmp_o.mpr z)]
      by_cases y : ov = 0
      · rw [if_pos y]; exact hx
      · rw [if_neg y]; exact hx
    · rw [if_neg (fun x => z (zcmp_o.mp x))]
      by_cases y : ov = 0
      · subst y
        rw [if_pos rfl]
        refine P_evF h0 ho hK hKm ht (by first | decide | omega) tq h (by first | decide | omega) (fun F' B' Fm' Bm' tick' st' ov' a' l t1 t2 h' => ?_) (fun F' B' Fm' Bm' t tick' h' => ?_)
        · have := h'.2.2.1.2.2.1; omega
        · have x7 := x7_n h'.2.2.1
          show zP (f_SoundFile_loadTrack_23 K (p + 1) (n + 1) first o to F' B') _ _
          rw [f_SoundFile_loadTrack_23, if_pos (show r32 (n + 1) by unfold r32; omega), if_neg (show ¬ 3000 ≤ n + 1 by omega), if_pos ho, if_pos x7.1, if_neg x7.2]
          exact P_clX ho hK (by first | decide | omega) ht h'
      · rw [if_neg y, f_M_track0_21, L_good g.2.1, zb_s, if_pos (show r32 1 by decide), if_neg (show ¬ (1 : Int) = 0 by decide), if_pos (show r32 ov by unfold r32; omega), if_neg y]
        exact hx
  | succ d ih =>
    intro m1 m2 n tick st ov a F B Fm Bm hd l1 l2 n0 na t0 tn h
    obtain ⟨p, rfl⟩ : ∃ p, m1 = p + 1 + 1 := ⟨m1 - 2, (by first | decide | omega)⟩
    obtain ⟨r, rfl⟩ : ∃ p, m2 = p + 1 + 1 := ⟨m2 - 2, (by first | decide | omega)⟩
    have g := h.2.2.1
    have ga := g.2.2.1
    have hto' := h.2.2.2.2.1
    have s11 := h.2.2.2.2.2.1.2.2.2
    have sov := h.2.2.2.2.2.2.2
    have hx : zP (f_SoundFile_loadTrack_66 K first o F B) (f_M_track0_266 Km first tick tr Fm Bm) (QT o q tr to) := P_clG ho hK (by first | decide | omega) ht (by first | decide | omega) h
    rw [f_SoundFile_loadTrack_23, if_pos (show r32 n by unfold r32; omega), if_neg (show ¬ 3000 ≤ n by omega), if_pos ho, g.1, if_pos (show r32 0 by decide), if_pos (show (0 : Int) = 0 from rfl), ga.1, if_pos (show r32 a by unfold r32; omega), if_pos (show r64 a by unfold r64; omega), if_pos (show r64 to by unfold r64; omega), s11, if_pos (show r32 ov by unfold r32; omega)]
    by_cases z : to ≤ a
    · rw [if_pos (zcmp_o.mpr z), f_M_track0_21, L_good g.2.1, zb_s, if_pos (show r32 1 by decide), if_neg (show ¬ (1 : Int) = 0 by decide), if_pos (show r32 ov by unfold r32; omega), ga.2.1, hto', if_pos (show r32 a by unfold r32; omega), if_pos (show r64 a by unfold r64; omega), if_pos (show r64 to by unfold r64; omega), if_pos (zcmp_o.mpr z)]
      by_cases y : ov = 0
      · rw [if_pos y]; exact hx
      · rw [if_neg y]; exact hx
    · rw [if_neg (fun x => z (zcmp_o.mp x))]
      by_cases y : ov = 0
      · subst y
        rw [if_pos rfl]
        refine P_evF h0 ho hK hKm ht (by first | decide | omega) tq h (by first | decide | omega) (fun F' B' Fm' Bm' tick' st' ov' a' l t1 t2 h' => ?_) (fun F' B' Fm' Bm' t tick' h' => ?_)
        · exact ih (p + 1) (r + 1) (n + 1) tick' st' ov' a' F' B' Fm' Bm' (by first | decide | omega) (by first | decide | omega) (by first | decide | omega) (by first | decide | omega) (by first | decide | omega) (by first | decide | omega) (by first | decide | omega) h'
        · have x7 := x7_n h'.2.2.1
          show zP (f_SoundFile_loadTrack_23 K (p + 1) (n + 1) first o to F' B') _ _
          rw [f_SoundFile_loadTrack_23, if_pos (show r32 (n + 1) by unfold r32; omega), if_neg (show ¬ 3000 ≤ n + 1 by omega), if_pos ho, if_pos x7.1, if_neg x7.2]
          exact P_clX ho hK (by first | decide | omega) ht h'
      · rw [if_neg y, f_M_track0_21, L_good g.2.1, zb_s, if_pos (show r32 1 by decide), if_neg (show ¬ (1 : Int) = 0 by decide), if_pos (show r32 ov by unfold r32; omega), if_neg y]
        exact hx
/-- a whole track -/
theorem P_track {K : zK} {Km : Nat} {o tr to a : Int} {q : zF × zB × zF × zB} {F : zF} {B : zB} {Fm : zF} {Bm : zB} (h0 : 2 ≤ K.2 0) (ho : 0 ≤ o ∧ o < K.2 8) (hK : 4000 ≤ K.1) (hKm : 4000 ≤ Km) (ht : 0 ≤ tr ∧ tr ≤ 7) (hto : 0 ≤ to ∧ to ≤ 1099511627776) (tq : TQ q) (w : OW o q F B Fm Bm) (db : DB o tr F B Fm Bm) (g : RG o a F Fm) (g6 : 0 ≤ F 8 o 6) (e90 : Fm 14 0 90 = to) (e8 : F 8 o 8 = tr) : zP (f_SoundFile_loadTrack K o to F B) (f_M_track0 Km tr Fm Bm) (QT o q tr to) := by
  obtain ⟨sn, nu, hd⟩ := db
  have s1 := sn.1
  have ga := g.2.2.1
  unfold f_SoundFile_loadTrack f_M_track0
  rw [if_pos ho, if_pos (show 0 ≤ tr ∧ tr < 8 by omega), ← s1.1]
  refine P_tl (first := F 8 o 2) h0 ho (by first | decide | omega) hKm ht hto tq 3000 K.1 Km 0 0 0 0 a _ B Fm _ (by first | decide | omega) (by first | decide | omega) (by first | decide | omega) (by first | decide | omega) (by first | decide | omega) (by first | decide | omega) (by first | decide | omega) ?_
  have e9 : ∀ k, k ≠ 9 → k ≠ 10 → k ≠ 11 → (zup3 (zup3 (zup3 F 8 o 9 0) 8 o 10 0) 8 o 11 0) 8 o k = F 8 o k := fun k a b c => by rw [zup3_v, if_neg (by first | decide | omega), zup3_v, if_neg (by first | decide | omega), zup3_v, if_neg (by first | decide | omega)]
  refine ⟨?_, ⟨?_, fun k k0 k1 => ?_, ?_⟩, ?_, ?_, e90, ⟨?_, ?_, ?_, ?_⟩, Or.inl rfl, Or.inl rfl⟩
  · exact OW_x w (e9 4 (by decide) (by decide) (by decide)) (fun c y k n => by rw [zup3_v, if_neg (by first | decide | omega), zup3_v, if_neg (by first | decide | omega), zup3_v, if_neg (by first | decide | omega)]) (fun _ _ _ _ _ => rfl) (fun _ _ _ _ => rfl) (fun c y k x n => by rw [zup4_v, if_neg (by first | decide | omega)])
  · exact SND_f sn (by first | decide | omega) (e9 2 (by decide) (by decide) (by decide)) rfl (fun _ _ _ _ => rfl) (fun k x k0 k1 => by rw [zup4_v, if_neg (by first | decide | omega)])
  · obtain ⟨a1, a2, a3⟩ := nu k k0 k1
    rw [zup4_v]
    by_cases z : k = tr
    · subst z
      rw [if_pos (by first | decide | omega)]
      exact ⟨a1, fun _ => (by first | decide | omega), fun _ => (a3 (by first | decide | omega)).symm, fun _ => (by first | decide | omega)⟩
    · rw [if_neg (by first | decide | omega)]
      exact ⟨a1, a2, fun _ => (by first | decide | omega), fun l => a3 (by first | decide | omega)⟩
  · exact HD_x hd (fun k k0 k1 => e9 k (by first | decide | omega) (by first | decide | omega) (by first | decide | omega)) (fun _ => rfl) (fun _ _ _ => rfl) (fun x => by rw [zup4_v, if_neg (by first | decide | omega)])
  · exact RG_f g (e9 5 (by decide) (by decide) (by decide)) (e9 6 (by decide) (by decide) (by decide)) (e9 7 (by decide) (by decide) (by decide)) rfl rfl rfl rfl
  · rw [e9 6 (by decide) (by decide) (by decide)]; exact g6
  · rw [e9 8 (by decide) (by decide) (by decide)]; exact e8
  · rw [zup3_v, if_neg (by first | decide | omega), zup3_v, if_neg (by first | decide | omega), zup3_v, if_pos (by first | decide | omega)]
  · rw [zup3_v, if_neg (by first | decide | omega), zup3_v, if_pos (by first | decide | omega)]
  · rw [zup3_v, if_pos (by first | decide | omega)]
end
