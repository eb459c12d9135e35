section
/-! ===== a voice's track, and all of them ===== -/
theorem P_vt {K : zK} {Km : Nat} {q : zF × zB × zF × zB} {s p w c v n : Int} {F : zF} {B : zB} {Fm : zF} {Bm : zB} (h0 : 2 ≤ K.2 0) (hK : 4100 ≤ K.1) (hKm : 4100 ≤ Km) (hs : 0 ≤ s ∧ s < K.2 5) (hw : 0 ≤ w ∧ w < 3) (hv : 0 ≤ v ∧ v < 4) (hp : 0 ≤ p ∧ p < K.2 4) (hP : PFD s w c q.1 q.2.1 q.2.2.1 q.2.2.2) (hr : rwS s q.1) (hN : NZ (q.1 4 p 0)) (e10 : q.2.2.2 13 w 10 v = q.1 4 p 0) (e11 : q.2.2.2 13 w 11 v = ltr 9 (q.1 4 p 0)) (e9 : q.1 4 p 2 = q.2.2.2 13 w 9 v) (hB : 16384 * n + 376832 + 65536 * ce (q.2.2.2 13 w 62) v (2 * c).toNat ≤ 330000000) (hce : 0 ≤ ce (q.2.2.2 13 w 62) v (2 * c).toNat) (h : WB q n F B Fm Bm) : zP (f_Performance_writeVoice K s p v 1 F B) (f_M_voiceTrack Km w v Fm Bm) (WE2 q n (16384 * n + 65536 * ce (q.2.2.2 13 w 62) v (2 * c).toNat + 958752)) := by
  have hc := hP.1
  have n0 := h.1.2.2
  have l8 := ltr_8 hN.1
  unfold f_Performance_writeVoice f_M_voiceTrack
  refine P_bind (P_trk (Km := Km) (q := q) (n := n) h0 (by omega) (by omega) (by omega) h) (fun r F1 B1 r' G1 D1 w1 => ?_)
  obtain ⟨⟨e1, e2⟩, w1⟩ := w1
  rw [e1, e2]
  have fw : F1 4 p 0 = q.1 4 p 0 := w1.2.2.1 4 p 0 (by omega)
  have ec : f_Performance_writeVoice_12 K K.1 0 0 (n + 8) s p v 1 F1 B1 = f_Performance_writeVoice_43 K (ltr 9 (q.1 4 p 0)) (n + 8) s p v 1 F1 B1 := C_cnt hp fw hN.1 (ltr 9 (q.1 4 p 0)).toNat 0 K.1 (by omega) (by omega)
  rw [ec]
  unfold f_Performance_writeVoice_43 f_Performance_putMeta
  rw [if_pos (by omega)]
  simp only [zb_a2]
  refine P_put h0 w1 (by omega) rfl (fun F2 B2 G2 D2 w2 => ?_)
  refine P_put h0 w2 (by omega) rfl (fun F3 B3 G3 D3 w3 => ?_)
  refine P_put h0 w3 (by omega) rfl (fun F4 B4 G4 D4 w4 => ?_)
  rw [if_pos hw, if_pos hv]
  refine P_put h0 w4 (by omega) (by rw [w4.2.2.2.2.2 13 w 11 v (by omega), e11]) (fun F5 B5 G5 D5 w5 => ?_)
  rw [zb_s, w5.2.2.2.2.2 13 w 10 v (by omega), e10]
  have ew : f_M_word Km (q.1 4 p 0) G5 D5 = f_M_word_3 Km (Km - (8 - ltr 9 (q.1 4 p 0)).toNat) (8 * ltr 9 (q.1 4 p 0) - 8) (q.1 4 p 0) G5 D5 := L_wsk hN.1 (8 - ltr 9 (q.1 4 p 0)).toNat 8 Km (by omega) (by decide) (by omega)
  rw [ew]
  obtain ⟨k, ek⟩ : ∃ k : Nat, ltr 9 (q.1 4 p 0) = k := ⟨(ltr 9 (q.1 4 p 0)).toNat, by omega⟩
  rw [ek] at l8 ⊢
  refine P_let2 h0 hp rfl hN k _ _ _ F5 B5 G5 D5 (by omega) (by omega) (by omega) (by omega) w5 (fun m F6 B6 G6 D6 hm w6 => ?_)
  obtain ⟨a, rfl⟩ : ∃ a, m = a + 1 := ⟨m - 1, by omega⟩
  rw [f_Performance_writeVoice_56, if_pos (by decide), if_pos (by decide), if_pos (by omega)]
  refine P_put h0 w6 (by omega) rfl (fun F7 B7 G7 D7 w7 => ?_)
  refine P_put h0 w7 (by omega) rfl (fun F8 B8 G8 D8 w8 => ?_)
  rw [if_pos hp]
  refine P_put h0 w8 (by omega) (by rw [w8.2.2.1 4 p 2 (by omega), w8.2.2.2.2.2 13 w 9 v (by omega), e9]) (fun F9 B9 G9 D9 w9 => ?_)
  rw [if_pos hs]
  unfold f_Performance_writeStrokes
  have st := P_st (K := K) (Km := Km) (q := q) (s := s) (w := w) (c := c) (v := v) (x := n + 8) (n0 := n + 8 + 1 + 1 + 1 + 1 + (k : Int) + 1 + 1 + 1) h0 (by omega) (by omega) hs hw hv hP hr (by omega) (by omega) (2 * c).toNat 0 K.1 Km _ 0 0 (-1) F9 B9 G9 D9 (by omega) (by omega) (by omega) (by omega) (Or.inl ⟨rfl, rfl, rfl⟩) (fun y y0 y1 => (PFD_s hP (t := y) (by omega) y1).elim fun _ t => t.elim fun _ t => t.elim fun _ t => t.2.1.1) (Int.le_refl _) (by show _ ≤ _ + 65536 * 0 + 0 + 16384 * 0; omega) w9
  obtain ⟨r, F10, B10, r', G10, D10, x1, x2, n', x3, x4, x5⟩ := st
  refine ⟨r, F10, B10, r', G10, D10, x1, x2, n', by omega, by omega, x5⟩
/-- what the voices' tracks stand on -/
def VN (p V : Int) (F : zF) (B : zB) (w : Int) (Bm : zB) : Prop := ∀ u, 0 ≤ u → u < V → NZ (F 4 (B 6 p 0 u) 0) ∧ Bm 13 w 11 u = ltr 9 (F 4 (B 6 p 0 u) 0)
theorem ce_0 (g : Int → Int) (v : Int) (m : Nat) : 0 ≤ ce g v m := by
  have := ce_m g v m 0
  rw [Nat.zero_add] at this
  exact this
/-- all written -/
def WF (q : zF × zB × zF × zB) : Int → zF → zB → Int → zF → zB → Prop := fun _ F B r' Fm Bm => ∃ n, n ≤ 20480 ∧ r' = n ∧ WB q n F B Fm Bm
theorem P_vts {K : zK} {Km : Nat} {q : zF × zB × zF × zB} {s p w c V : Int} (h0 : 2 ≤ K.2 0) (hK : 4100 ≤ K.1) (hKm : 4100 ≤ Km) (hs : 0 ≤ s ∧ s < K.2 5) (hk : PK K V p w q.1 q.2.1 q.2.2.1 q.2.2.2) (hP : PFD s w c q.1 q.2.1 q.2.2.1 q.2.2.2) (hr : rwS s q.1) (hN : VN p V q.1 q.2.1 w q.2.2.2) : ∀ (d u m1 m2 : Nat) (n : Int) (F : zF) (B : zB) (Fm : zF) (Bm : zB), (u : Int) + d = V → d < m1 → d < m2 → 16384 * n ≤ 1638400 + 65536 * cu (q.2.2.2 13 w 62) u (2 * c).toNat + 958752 * u → WB q n F B Fm Bm → zP (f_Performance_write_44 K m1 u s p 1 F B) (f_M_file_291 Km m2 u w Fm Bm) (WF q) := by
  have hc := hP.1
  obtain ⟨⟨hp, hw, hV, eV, eVm⟩, _, hv⟩ := hk
  intro d
  induction d with
  | zero =>
    intro u m1 m2 n F B Fm Bm eu l1 l2 nb h
    obtain ⟨a, rfl⟩ : ∃ a, m1 = a + 1 := ⟨m1 - 1, by omega⟩
    obtain ⟨b, rfl⟩ : ∃ b, m2 = b + 1 := ⟨m2 - 1, by omega⟩
    have f1 : F 6 p 1 = V := by rw [h.2.2.1 6 p 1 (by omega)]; exact eV
    have g1 : Fm 13 w 1 = V := by rw [h.2.2.2.2.1 13 w 1 (by omega)]; exact eVm
    have cb := cu_b (q.2.2.2 13 w 62) u (2 * c).toNat
    rw [f_Performance_write_44, f_M_file_291, f1, g1, if_pos hp, if_pos (by unfold r32; omega), if_pos (by unfold r32; omega), if_pos (by omega), if_pos hw, if_pos (by unfold r32; omega), if_pos (by unfold r32; omega), if_pos (by omega)]
    exact P_some ⟨n, by omega, h.1.2.1, h⟩
  | succ d ih =>
    intro u m1 m2 n F B Fm Bm eu l1 l2 nb h
    obtain ⟨a, rfl⟩ : ∃ a, m1 = a + 1 := ⟨m1 - 1, by omega⟩
    obtain ⟨b, rfl⟩ : ∃ b, m2 = b + 1 := ⟨m2 - 1, by omega⟩
    have f1 : F 6 p 1 = V := by rw [h.2.2.1 6 p 1 (by omega)]; exact eV
    have g1 : Fm 13 w 1 = V := by rw [h.2.2.2.2.1 13 w 1 (by omega)]; exact eVm
    have b6 : B 6 p 0 u = q.2.1 6 p 0 u := h.2.2.2.1 6 p 0 u (by omega)
    have cb := cu_b (q.2.2.2 13 w 62) ((u : Int) + 1) (2 * c).toNat
    have cs := cu_s (q.2.2.2 13 w 62) u (2 * c).toNat
    obtain ⟨⟨v1, v2, v3, v4⟩, _⟩ := hv u (by omega) (by omega)
    obtain ⟨nz, e11⟩ := hN u (by omega) (by omega)
    rw [f_Performance_write_44, f_M_file_291, f1, g1, b6, if_pos hp, if_pos (show r32 (u : Int) by unfold r32; omega), if_pos (show r32 V by unfold r32; omega), if_neg (show ¬ V ≤ (u : Int) by omega), if_pos (show 0 ≤ (u : Int) ∧ (u : Int) < 4 by omega), if_pos v1, if_pos hs, if_pos hw, if_pos (show r32 (u : Int) by unfold r32; omega), if_pos (show r32 V by unfold r32; omega), if_neg (show ¬ V ≤ (u : Int) by omega)]
    refine P_bind (P_vt (Km := Km) (q := q) (n := n) h0 hK hKm hs hw (by omega) v1 hP hr nz v2.symm e11 v4.1.1 (by omega) (ce_0 _ _ _) h) (fun r F1 B1 r' G1 D1 w1 => ?_)
    obtain ⟨n', x1, x2, x3⟩ := w1
    rw [show (u : Int) + 1 = ((u + 1 : Nat) : Int) by omega] at cs ⊢
    exact ih (u + 1) a b n' F1 B1 G1 D1 (by omega) (by omega) (by omega) (by omega) x3
end
