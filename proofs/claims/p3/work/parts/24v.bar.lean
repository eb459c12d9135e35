section
/-! ===== the walk: bar lines, loudness ===== -/
theorem P_barI {K : zK} {Km : Nat} {N q v w bar x i : Int} {B0 Bm0 : zB} {D : Nat} {o : oT_CW} {oM oM' : oT_W} {F : zF} {B : zB} {Fm : zF} {Bm : zB} (hG : ∀ F B, oM.2.2.1 i F B = fb_M_goSign oM' Km i F B) (hx : 0 ≤ x ∧ x < 3000) (hi : 0 ≤ i ∧ i < N) (hT : WT N B0 Bm0 B Bm) (hC : WC K Km N q v w bar B Fm Bm) (hS : WS q v w bar D F B Fm Bm) (hD : D ≤ 64) (k0 : B0 3 0 0 x = 1) (hp : B0 3 0 1 x = Bm0 14 0 8 i) (hs : sgAt Bm0 i 124) : zP (fb_Walker_goItem o K 0 x D F B) (fb_M_go oM Km i Fm Bm) (fun _ F' B' _ Fm' Bm' => WO q v w bar D F B Fm Bm F' B' Fm' Bm') := by
  have hS' := hS
  obtain ⟨hK, hKm, h11, h3, h4, v0, w0, ⟨N0, N1, hTK⟩, hV, hI, r4, r5, hB, fB, nn, dd, b0⟩ := hC
  obtain ⟨⟨a1, a2, a3, a4⟩, ⟨b1, b2, b3, b4⟩, _, _, ⟨e1, e2, e3⟩, _, _, _, _, ⟨l1, l2, l3, l4⟩, _⟩ := hS
  have m7 : Bm 14 0 7 i = 5 := by rw [hT.2.1 7 i (by decide)]; exact hs.1
  have m9 : Bm 14 0 9 i = 124 := by rw [hT.2.1 9 i (by decide)]; exact hs.2
  have pl := (hTK i hi.1 (by omega)).2.2.2.2.2.2.2.2.2.1
  have q1 : Fm 13 w 4 * WW = bar * Fm 13 w 5 := by
    have := hB.2.2.2
    have e : 100 * (Fm 13 w 4 * WW) = 100 * (bar * Fm 13 w 5) := by
      calc 100 * (Fm 13 w 4 * WW) = 100 * Fm 13 w 4 * WW := by ac_rfl
        _ = 100 * bar * Fm 13 w 5 := this
        _ = 100 * (bar * Fm 13 w 5) := by ac_rfl
    omega
  have m0 : 0 ≤ F 11 0 11 % bar := Int.emod_nonneg _ (by omega)
  have m1 : F 11 0 11 % bar < bar := Int.emod_lt_of_pos _ b0
  have ok : zP (some (0, F, B)) (some (0, Fm, Bm)) (fun _ F' B' _ Fm' Bm' => WO q v w bar D F B Fm Bm F' B' Fm' Bm') := zP_s ⟨WFR_r, Or.inl ⟨hS', WKP_r⟩⟩
  rw [L_goS (by omega) m7 (by rw [m9]; decide) (by rw [m9]; decide), hG, fb_M_goSign, if_pos (by omega), m9, if_pos (by decide), if_neg (by decide), if_pos rfl, ← e1, fb_Walker_goItem, if_pos ⟨Int.le_refl _, h11⟩, a1, if_pos ⟨Int.le_refl _, h3⟩, if_pos hx, hT.1, k0, if_pos (by decide), if_neg (by decide), if_pos rfl]
  have rb : r32 (F 11 0 5) := by unfold r32; omega
  rw [if_pos rb]
  by_cases c : F 11 0 5 = 0
  case neg =>
    rw [if_neg c, if_pos rb, if_neg c, f_Walker_goItem_285, f_M_goSign_182, zb_s]
    exact ok
  have rz : r64 (F 11 0 11 % bar) := by unfold r64; omega
  have rbar : r64 bar := by unfold r64; omega
  rw [if_pos c, if_pos rb, if_pos c, b3, if_pos rbar, if_neg (by have := zcmp_m (a := bar) (b := 0); omega), if_pos (lI_n0 b0 rbar), zlrm_e l3 (by omega) b0 (by omega), if_pos rz, b2, if_pos w0, if_pos r4, if_pos r5, l1, l2, L_multR (FR_r l3) q1 (by omega) (by omega) (by omega) (by omega) b0 (by omega), zb_s]
  by_cases z : F 11 0 11 % bar = 0
  · rw [if_pos (zcmp_0.mpr z), if_pos z, if_pos (by decide), if_neg (by decide), f_Walker_goItem_285, f_M_goSign_182, zb_s]
    exact ok
  · rw [if_neg (fun y => z (zcmp_0.mp y)), if_neg z, if_pos (by decide), if_pos rfl, C_wref h11 a3, zb_s, L_failAt a4 (by omega), zb_s, f_Walker_goItem_285, f_M_goSign_182, zb_s, hT.1, hp, ← hT.2.1 8 i (by decide)]
    exact zP_s ⟨WFR_at (fun _ _ _ _ => rfl), Or.inr (WE_at hS' hD (by decide) (by decide) pl (fun _ _ => rfl))⟩
theorem P_loudI {K : zK} {Km : Nat} {N q v w bar x i : Int} {B0 Bm0 : zB} {D : Nat} {o : oT_CW} {oM oM' : oT_W} {F : zF} {B : zB} {Fm : zF} {Bm : zB} (hMW : MW Bm0) (hG : ∀ F B, oM.2.2.1 i F B = fb_M_goSign oM' Km i F B) (hx : 0 ≤ x ∧ x < 3000) (hi : 0 ≤ i ∧ i < N) (hT : WT N B0 Bm0 B Bm) (hC : WC K Km N q v w bar B Fm Bm) (hS : WS q v w bar D F B Fm Bm) (k0 : B0 3 0 0 x = 2) (hs : sgAt Bm0 i 33) (hl : B0 3 0 2 x = fiL wL (Bm0 14 0 11 (i + 1)) 0 ∧ 0 ≤ B0 3 0 2 x) : zP (fb_Walker_goItem o K 0 x D F B) (fb_M_go oM Km i Fm Bm) (fun _ F' B' _ Fm' Bm' => WO q v w bar D F B Fm Bm F' B' Fm' Bm') := by
  have hS' := hS
  obtain ⟨hK, hKm, h11, h3, h4, v0, w0, ⟨N0, N1, hTK⟩, hV, hI, r4, r5, hB, fB, nn, dd, b0⟩ := hC
  obtain ⟨⟨a1, a2, a3, a4⟩, _, _, _, s5, s6, s7, s8, s9, _, s11, s12, _⟩ := hS
  have m7 : Bm 14 0 7 i = 5 := by rw [hT.2.1 7 i (by decide)]; exact hs.1
  have m9 : Bm 14 0 9 i = 33 := by rw [hT.2.1 9 i (by decide)]; exact hs.2
  obtain ⟨hl1, hl2⟩ := hl
  have fb : Bm0 14 0 11 (i + 1) ∈ wL ∧ fiL wL (Bm0 14 0 11 (i + 1)) 0 ≤ 7 := by
    rcases fiL_r (w := Bm0 14 0 11 (i + 1)) (L := wL) (k := 0) (by decide) with ⟨p, _⟩ | ⟨p1, p2, p3⟩
    · omega
    · have : (wL.length : Int) = 8 := by decide
      exact ⟨p3, by omega⟩
  rw [L_goS (by omega) m7 (by rw [m9]; decide) (by rw [m9]; decide), hG, fb_M_goSign, if_pos (by omega), m9, if_pos (by decide), if_pos rfl, if_pos (by omega), hT.2.1 11 _ (by decide), L_fL (by omega) (MW_t hMW hT) (wL_r fb.1), zb_s, f_M_goSign_182, zb_s, fb_Walker_goItem, if_pos ⟨Int.le_refl _, h11⟩, a1, if_pos ⟨Int.le_refl _, h3⟩, if_pos hx, hT.1, k0, if_pos (by decide), if_neg (by decide), if_neg (by decide), if_pos rfl, f_Walker_goItem_285, hT.1, hl1]
  rw [hl1] at hl2
  generalize fiL wL (Bm0 14 0 11 (i + 1)) 0 = d at fb hl2 ⊢
  have fn : ∀ c y k, ¬ (c = 11 ∧ y = 0 ∧ k = 4) → zup3 F 11 0 4 d c y k = F c y k := fun c y k n => by rw [zup3_v, if_neg n]
  have gn : ∀ c y k, ¬ (c = 14 ∧ y = 0 ∧ k = 40) → zup3 Fm 14 0 40 d c y k = Fm c y k := fun c y k n => by rw [zup3_v, if_neg n]
  refine zP_s ⟨WFR_mk (fun c y k n => fn c y k (by omega)) (fun c y k n => gn c y k (by omega)) (fun _ _ _ _ _ => rfl) (fun _ _ _ _ _ => rfl), Or.inl ⟨?_, ?_⟩⟩
  · refine WS_mk hS' (fun c y k n => fn c y k (by omega)) (fun c y k n => gn c y k (by omega)) (fun _ _ _ _ _ => rfl) (fun _ _ _ _ _ => rfl) ?_ ?_ ?_ ?_ ?_ ?_ s11 ?_
    · rw [zup3_v, if_pos (by decide), zup3_v, if_pos (by decide)]; omega
    · rw [fn 11 0 5 (by decide), gn 14 0 41 (by decide)]; exact s5
    · rw [fn 11 0 6 (by decide), gn 14 0 48 (by decide)]; exact s6
    · rw [fn 11 0 7 (by decide), fn 11 0 3 (by decide), gn 14 0 50 (by decide)]; exact s7
    · rw [fn 11 0 6 (by decide), fn 11 0 7 (by decide), fn 11 0 8 (by decide), gn 14 0 49 (by decide)]; exact s8
    · rw [fn 11 0 6 (by decide), fn 11 0 9 (by decide), fn 11 0 10 (by decide)]; exact s9
    · rw [fn 11 0 18 (by decide), gn 14 0 45 (by decide)]; exact s12
  · exact ⟨⟨fn _ _ _ (by decide), fn _ _ _ (by decide), fn _ _ _ (by decide), fn _ _ _ (by decide), fn _ _ _ (by decide)⟩, fun _ _ _ => rfl, fun _ _ _ => ⟨rfl, rfl, rfl, rfl, rfl, rfl⟩, fun _ _ _ => ⟨rfl, rfl⟩, fun _ => ⟨fn _ _ _ (by decide), fn _ _ _ (by decide), gn _ _ _ (by decide)⟩, by rw [fn 4 q 6 (by omega)]; exact Int.le_refl _⟩
end
