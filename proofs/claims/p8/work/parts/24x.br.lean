section
/-! ===== the walk: a bracket ===== -/
theorem P_br {K : zK} {Km : Nat} {N nl q v w bar x i : Int} {B0 Bm0 : zB} {D m : Nat} {o : oT_CW} {oM : oT_W} {R : zB → zB → Int → Int → Prop} {F : zF} {B : zB} {Fm : zF} {Bm : zB} (hL : LSim K Km N nl q v w bar B0 Bm0 (D + 1) o.1 oM.1 R) (hx : 0 ≤ x ∧ x < 3000) (hi : 0 ≤ i ∧ i < N) (hT : WT N B0 Bm0 B Bm) (hnl : Fm 14 0 27 = nl) (hC : WC K Km N q v w bar B Fm Bm) (hS : WS q v w bar D F B Fm Bm) (hD : D < 64) (hg : F 11 0 7 < F 11 0 3) (hp : B0 3 0 1 x = Bm0 14 0 8 i) (hs : sgAt Bm0 i 91) (n1 : nmAt Bm0 (i + 1) (B0 3 0 2 x) 2 9) (n2 : nmAt Bm0 (i + 3) (B0 3 0 3 x) 1 9) (hb : i + 4 < Bm0 14 0 30 i ∧ Bm0 14 0 30 i ≤ 3000) (hl : LRf R B0 Bm0 m (B0 3 0 4 x) (i + 5) (Bm0 14 0 30 i)) : zP (fb_Walker_goBracket o K 0 x D F B) (fb_M_goSign oM Km i Fm Bm) (fun _ F' B' _ Fm' Bm' => WO q v w bar D F B Fm Bm F' B' Fm' Bm') := by
  have hC' := hC
  have hS' := hS
  obtain ⟨hK, hKm, h11, h3, h4, v0, w0, ⟨N0, N1, hTK⟩, _⟩ := hC
  obtain ⟨⟨a1, a2, a3, a4⟩, _, ⟨c1, c2, c3⟩, s4, s5, ⟨f1, f2, f3⟩, ⟨g1, g2, g3⟩, hh, hk, _, hm, ⟨z1, z2, z3, z4⟩, _⟩ := hS
  have m9 : Bm 14 0 9 i = 91 := by rw [hT.2.1 9 i (by decide)]; exact hs.2
  have p1 : Bm 14 0 9 (i + 1) = B0 3 0 2 x := by rw [hT.2.1 9 _ (by decide)]; exact n1.2.1
  have p2 : Bm 14 0 9 (i + 3) = B0 3 0 3 x := by rw [hT.2.1 9 _ (by decide)]; exact n2.2.1
  have p3 : Bm 14 0 30 i = Bm0 14 0 30 i := hT.2.2.1 30 i (by decide) (by decide) hi.2
  have p4 : B 3 0 1 x = Bm 14 0 8 i := by rw [hT.1, hT.2.1 8 i (by decide)]; exact hp
  have n1' := n1.2.2
  have n2' := n2.2.2
  clear n1 n2 hs hp
  generalize hM1 : zup4 (zup4 Bm 14 0 46 (Fm 14 0 48) (B0 3 0 2 x)) 14 0 47 (Fm 14 0 48) (B0 3 0 3 x) = M1
  have mn : ∀ c y k t, ¬ (c = 14 ∧ y = 0 ∧ (k = 46 ∨ k = 47) ∧ t = F 11 0 6) → M1 c y k t = Bm c y k t := fun c y k t n => by rw [← hM1, zup4_v, if_neg (by first | decide | omega), zup4_v, if_neg (by first | decide | omega)]
  have ma : M1 14 0 46 (F 11 0 6) = B0 3 0 2 x := by rw [← hM1, zup4_v, if_neg (by first | decide | omega), zup4_v, if_pos (by first | decide | omega)]
  have mc : M1 14 0 47 (F 11 0 6) = B0 3 0 3 x := by rw [← hM1, zup4_v, if_pos (by first | decide | omega)]
  obtain ⟨tp1, tp2⟩ := TPL_s hk f2 n1' n2' (fun k u t => ⟨mn 14 0 46 k (by first | decide | omega), mn 14 0 47 k (by first | decide | omega)⟩) ma mc
  have key2 : ∀ X Y : zF, (∀ c y k, ¬ (c = 11 ∧ y = 0 ∧ (k = 6 ∨ k = 7 ∨ k = 8 ∨ k = 9 ∨ k = 10)) → X c y k = F c y k) → (∀ c y k, ¬ (c = 14 ∧ y = 0 ∧ (k = 49 ∨ k = 50)) → Y c y k = Fm c y k) → X 11 0 6 = F 11 0 6 + 1 → TPL (F 11 0 6 + 1) (X 11 0 9) (X 11 0 10) M1 → X 11 0 7 = Y 14 0 50 ∧ 1 ≤ X 11 0 7 ∧ X 11 0 7 ≤ F 11 0 3 → X 11 0 8 = Bm 14 0 8 (Y 14 0 49) ∧ 0 ≤ Y 14 0 49 ∧ Y 14 0 49 ≤ 3000 ∧ 0 ≤ X 11 0 8 ∧ X 11 0 8 ≤ 3000 → (0 < F 11 0 6 → X 11 0 7 = F 11 0 7 ∧ X 11 0 8 = F 11 0 8 ∧ Y 14 0 49 = Fm 14 0 49) → zP (f_Walker_goBracket_95 o K (F 11 0 10) (F 11 0 9) 0 x D X B) (f_M_goSign_115 oM Km i Y Bm) (fun _ F' B' _ Fm' Bm' => WO q v w bar D F B Fm Bm F' B' Fm' Bm') := by
    intro X Y xn yn x6 tp x7 x8 xk
    unfold f_Walker_goBracket_95 f_M_goSign_115
    have y48 : Y 14 0 48 = Fm 14 0 48 := yn 14 0 48 (by first | decide | omega)
    rw [if_pos ⟨Int.le_refl _, h11⟩, xn 11 0 0 (by first | decide | omega), a1, if_pos ⟨Int.le_refl _, h3⟩, if_pos hx, if_pos (by first | decide | omega), y48, if_pos (by first | decide | omega), if_pos (by first | decide | omega), if_pos (by first | decide | omega), p1, show (zup4 Bm 14 0 46 (Fm 14 0 48) (B0 3 0 2 x)) 14 0 9 (i + 3) = B0 3 0 3 x by rw [zup4_v, if_neg (by first | decide | omega), p2], hM1, mn 14 0 30 i (by first | decide | omega), p3, hT.1]
    generalize hY1 : zup3 Y 14 0 48 (Fm 14 0 48 + 1) = Y1
    have y1n : ∀ c y k, ¬ (c = 14 ∧ y = 0 ∧ (k = 48 ∨ k = 49 ∨ k = 50)) → Y1 c y k = Fm c y k := fun c y k n => by rw [← hY1, zup3_v, if_neg (by first | decide | omega), yn c y k (by first | decide | omega)]
    have y1 : Y1 14 0 48 = F 11 0 6 + 1 := by rw [← hY1, zup3_v, if_pos (by first | decide | omega)]; omega
    have y49 : Y1 14 0 49 = Y 14 0 49 := by rw [← hY1, zup3_v, if_neg (by first | decide | omega)]
    have y50 : Y1 14 0 50 = Y 14 0 50 := by rw [← hY1, zup3_v, if_neg (by first | decide | omega)]
    have fr : WFR q v w F B Fm Bm X B Y1 M1 := WFR_mk (fun c y k n => xn c y k (by first | decide | omega)) (fun c y k n => y1n c y k (by first | decide | omega)) (fun _ _ _ _ _ => rfl) (fun c y k t n => mn c y k t (by first | decide | omega))
    have sX : WS q v w bar (D + 1) X B Y1 M1 := by
      refine WS_mk hS' (fun c y k n => xn c y k (by first | decide | omega)) (fun c y k n => y1n c y k (by first | decide | omega)) (fun _ _ _ _ _ => rfl) (fun c y k t n => mn c y k t (by first | decide | omega)) ?_ ?_ ?_ ?_ ?_ ?_ ?_ ?_
      · rw [xn 11 0 4 (by first | decide | omega), y1n 14 0 40 (by first | decide | omega)]; exact s4
      · rw [xn 11 0 5 (by first | decide | omega), y1n 14 0 41 (by first | decide | omega)]; omega
      · rw [x6, y1]; omega
      · rw [y50, xn 11 0 3 (by first | decide | omega)]; omega
      · intro _
        rw [y49, mn 14 0 8 _ (by first | decide | omega)]
        exact ⟨x7.2.1, x8⟩
      · rw [x6]; exact tp
      · intro k u t
        rw [mn 14 0 51 _ (by first | decide | omega)]
        have := hm k u t
        omega
      · rw [xn 11 0 18 (by first | decide | omega), y1n 14 0 45 (by first | decide | omega)]
        refine ⟨z1, z2, (by first | decide | omega), fun k u t => ?_⟩
        have := z4 k u t
        unfold CRk at this ⊢
        rw [mn 14 0 42 k (by first | decide | omega), mn 14 0 43 k (by first | decide | omega), mn 14 0 44 k (by first | decide | omega)]
        exact this
    refine zP_c (hL.1 m (B0 3 0 4 x) (i + 5) (Bm0 14 0 30 i) X B Y1 M1 hl (by first | decide | omega) hb.2 (WT_f hT fr) (by rw [fr.2.2.2.1 14 0 27 (by first | decide | omega)]; exact hnl) (WC_f hC' fr) sX) ?_
    intro r F2 B2 r' Fm2 Bm2 W
    rw [f_M_goSign_182]
    refine zP_s (WO_close hS' fr W (fun c y k n => by rw [zup3_v, if_neg (by first | decide | omega), zup3_v, if_neg (by first | decide | omega), zup3_v, if_neg (by first | decide | omega)]) (fun c y k n => by rw [zup3_v, if_neg (by first | decide | omega)]) (fun _ _ _ _ _ => rfl) (fun _ _ _ _ _ => rfl) ?_ (fun k u t => ⟨rfl, rfl, rfl, mn _ _ _ _ (by first | decide | omega), mn _ _ _ _ (by first | decide | omega), mn _ _ _ _ (by first | decide | omega)⟩) (fun k u t => ⟨mn _ _ _ _ (by first | decide | omega), mn _ _ _ _ (by first | decide | omega)⟩) (by rw [xn 11 0 18 (by first | decide | omega)]; exact Int.le_refl _) (by rw [x6]; omega) (fun u => by rw [y49]; exact xk u) (xn 4 q 6 (by first | decide | omega)))
    intro s kp
    obtain ⟨⟨k5, k6, k9, k10, k18⟩, kw, _⟩ := kp
    obtain ⟨_, _, _, _, ⟨t5, _⟩, ⟨t6, _⟩, _, _, _, _, t11, ⟨t12, _⟩, _⟩ := s
    refine ⟨⟨?_, ?_, ?_, ?_, ?_⟩, ⟨?_, ?_, ?_⟩, fun k u t => ⟨?_, ?_⟩⟩
    · rw [zup3_v, if_neg (by first | decide | omega), zup3_v, if_neg (by first | decide | omega), zup3_v, if_neg (by first | decide | omega), k5, xn 11 0 5 (by first | decide | omega)]
    · rw [zup3_v, if_neg (by first | decide | omega), zup3_v, if_neg (by first | decide | omega), zup3_v, if_pos (by first | decide | omega), k6, x6]; omega
    · rw [zup3_v, if_neg (by first | decide | omega), zup3_v, if_pos (by first | decide | omega)]
    · rw [zup3_v, if_pos (by first | decide | omega)]
    · rw [zup3_v, if_neg (by first | decide | omega), zup3_v, if_neg (by first | decide | omega), zup3_v, if_neg (by first | decide | omega), k18, xn 11 0 18 (by first | decide | omega)]
    · rw [zup3_v, if_neg (by first | decide | omega), ← t5, k5, xn 11 0 5 (by first | decide | omega)]; exact s5.1
    · rw [zup3_v, if_neg (by first | decide | omega), ← t12, k18, xn 11 0 18 (by first | decide | omega)]; exact z1
    · rw [zup3_v, if_pos (by first | decide | omega), ← t6, k6, x6]; omega
    · exact kw k u t
    · rw [← (t11 k u t).1, kw k u t]; exact (hm k u t).1
  have key : ∀ X Y : zF, (∀ c y k, ¬ (c = 11 ∧ y = 0 ∧ (k = 7 ∨ k = 8)) → X c y k = F c y k) → (∀ c y k, ¬ (c = 14 ∧ y = 0 ∧ (k = 49 ∨ k = 50)) → Y c y k = Fm c y k) → X 11 0 7 = Y 14 0 50 ∧ 1 ≤ X 11 0 7 ∧ X 11 0 7 ≤ F 11 0 3 → X 11 0 8 = Bm 14 0 8 (Y 14 0 49) ∧ 0 ≤ Y 14 0 49 ∧ Y 14 0 49 ≤ 3000 ∧ 0 ≤ X 11 0 8 ∧ X 11 0 8 ≤ 3000 → (0 < F 11 0 6 → X 11 0 7 = F 11 0 7 ∧ X 11 0 8 = F 11 0 8 ∧ Y 14 0 49 = Fm 14 0 49) → zP (f_Walker_goBracket_41 o K (F 11 0 10) (F 11 0 9) 0 x D X B) (f_M_goSign_115 oM Km i Y Bm) (fun _ F' B' _ Fm' Bm' => WO q v w bar D F B Fm Bm F' B' Fm' Bm') := by
    intro X Y xn yn x7 x8 xk
    have x6 := xn 11 0 6 (by first | decide | omega)
    have x9 := xn 11 0 9 (by first | decide | omega)
    have x10 := xn 11 0 10 (by first | decide | omega)
    have x0 := xn 11 0 0 (by first | decide | omega)
    unfold f_Walker_goBracket_41
    rw [if_pos ⟨Int.le_refl _, h11⟩, x6, if_pos (show r32 (F 11 0 6 + 1) by unfold r32; omega)]
    by_cases c : 2 < F 11 0 6 + 1
    · rw [if_pos c]
      have e7 : zup3 X 11 0 6 (F 11 0 6 + 1) 11 0 7 = X 11 0 7 := by rw [zup3_v, if_neg (by first | decide | omega)]
      have e8 : zup3 X 11 0 6 (F 11 0 6 + 1) 11 0 8 = X 11 0 8 := by rw [zup3_v, if_neg (by first | decide | omega)]
      have e9 : zup3 X 11 0 6 (F 11 0 6 + 1) 11 0 9 = F 11 0 9 := by rw [zup3_v, if_neg (by first | decide | omega), x9]
      have e10 : zup3 X 11 0 6 (F 11 0 6 + 1) 11 0 10 = F 11 0 10 := by rw [zup3_v, if_neg (by first | decide | omega), x10]
      exact key2 _ Y (fun c y k n => by rw [zup3_v, if_neg (by first | decide | omega), xn c y k (by first | decide | omega)]) yn (by rw [zup3_v, if_pos (by first | decide | omega)]) (by rw [e9, e10]; exact tp1 c) (by rw [e7]; exact x7) (by rw [e8]; exact x8) (by rw [e7, e8]; exact xk)
    · rw [if_neg c, x0, a1, if_pos ⟨Int.le_refl _, h3⟩, if_pos hx, x9, x10, hT.1, hT.1]
      generalize hZ : zup3 (zup3 (zup3 X 11 0 6 (F 11 0 6 + 1)) 11 0 9 (F 11 0 9 * B0 3 0 2 x)) 11 0 10 (F 11 0 10 * B0 3 0 3 x) = Z
      have e6 : Z 11 0 6 = F 11 0 6 + 1 := by rw [← hZ, zup3_v, if_neg (by first | decide | omega), zup3_v, if_neg (by first | decide | omega), zup3_v, if_pos (by first | decide | omega)]
      have e7 : Z 11 0 7 = X 11 0 7 := by rw [← hZ, zup3_v, if_neg (by first | decide | omega), zup3_v, if_neg (by first | decide | omega), zup3_v, if_neg (by first | decide | omega)]
      have e8 : Z 11 0 8 = X 11 0 8 := by rw [← hZ, zup3_v, if_neg (by first | decide | omega), zup3_v, if_neg (by first | decide | omega), zup3_v, if_neg (by first | decide | omega)]
      have e9 : Z 11 0 9 = F 11 0 9 * B0 3 0 2 x := by rw [← hZ, zup3_v, if_neg (by first | decide | omega), zup3_v, if_pos (by first | decide | omega)]
      have e10 : Z 11 0 10 = F 11 0 10 * B0 3 0 3 x := by rw [← hZ, zup3_v, if_pos (by first | decide | omega)]
      exact key2 Z Y (fun c y k n => by rw [← hZ, zup3_v, if_neg (by first | decide | omega), zup3_v, if_neg (by first | decide | omega), zup3_v, if_neg (by first | decide | omega), xn c y k (by first | decide | omega)]) yn e6 (by rw [e9, e10]; exact tp2 c) (by rw [e7]; exact x7) (by rw [e8]; exact x8) (by rw [e7, e8]; exact xk)
  unfold fb_Walker_goBracket fb_M_goSign
  rw [if_pos ⟨Int.le_refl _, h11⟩, if_pos (show r32 (F 11 0 6) by unfold r32; omega), if_pos (show 0 ≤ i ∧ i < 3001 by omega), m9, if_pos (show r32 91 by decide), if_neg (show ¬ (91 : Int) = 33 by decide), if_neg (show ¬ (91 : Int) = 124 by decide), ← f1, if_pos (show r32 (F 11 0 6) by unfold r32; omega)]
  by_cases c : F 11 0 6 = 0
  · rw [if_pos c, if_pos c, a1, if_pos ⟨Int.le_refl _, h3⟩, if_pos hx, p4]
    have e7 : zup3 (zup3 F 11 0 7 (F 11 0 7 + 1)) 11 0 8 (Bm 14 0 8 i) 11 0 7 = F 11 0 7 + 1 := by rw [zup3_v, if_neg (by first | decide | omega), zup3_v, if_pos (by first | decide | omega)]
    have e8 : zup3 (zup3 F 11 0 7 (F 11 0 7 + 1)) 11 0 8 (Bm 14 0 8 i) 11 0 8 = Bm 14 0 8 i := by rw [zup3_v, if_pos (by first | decide | omega)]
    have d49 : zup3 (zup3 Fm 14 0 49 i) 14 0 50 (Fm 14 0 50 + 1) 14 0 49 = i := by rw [zup3_v, if_neg (by first | decide | omega), zup3_v, if_pos (by first | decide | omega)]
    have d50 : zup3 (zup3 Fm 14 0 49 i) 14 0 50 (Fm 14 0 50 + 1) 14 0 50 = Fm 14 0 50 + 1 := by rw [zup3_v, if_pos (by first | decide | omega)]
    exact key _ _ (fun c y k n => by rw [zup3_v, if_neg (by first | decide | omega), zup3_v, if_neg (by first | decide | omega)]) (fun c y k n => by rw [zup3_v, if_neg (by first | decide | omega), zup3_v, if_neg (by first | decide | omega)]) (by rw [e7, d50]; omega) (by rw [e8, d49]; exact ⟨rfl, (by first | decide | omega), (by first | decide | omega), (hTK i hi.1 (by first | decide | omega)).2.2.2.2.2.2.2.2.2.1⟩) (fun u => (by first | decide | omega))
  · rw [if_neg c, if_neg c]
    have hh' := hh (by first | decide | omega)
    exact key F Fm (fun _ _ _ _ => rfl) (fun _ _ _ _ => rfl) ⟨g1, hh'.1, g3⟩ hh'.2 (fun _ => ⟨rfl, rfl, rfl⟩)
end
