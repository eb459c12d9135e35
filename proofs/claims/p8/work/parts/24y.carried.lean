section
/-! ===== the walk: moves and mirrors ===== -/
theorem P_car {K : zK} {Km : Nat} {N nl q v w bar x a sg mi s2 t : Int} {B0 Bm0 : zB} {D m : Nat} {o : oT_CW} {oM : oT_W} {R : zB → zB → Int → Int → Prop} {F : zF} {B : zB} {Fm : zF} {Bm : zB} (hL : LSim K Km N nl q v w bar B0 Bm0 (D + 1) o.1 oM.1 R) (hx : 0 ≤ x ∧ x < 3000) (ha : 0 ≤ a) (hT : WT N B0 Bm0 B Bm) (hnl : Fm 14 0 27 = nl) (hC : WC K Km N q v w bar B Fm Bm) (hS : WS q v w bar D F B Fm Bm) (hD : D < 64) (hk : (mi = 0 ∧ sg = 1 ∧ B0 3 0 2 x = s2 ∧ B0 3 0 3 x = t) ∨ (mi = 1 ∧ sg = -1 ∧ B0 3 0 2 x = 2 * s2 ∧ B0 3 0 3 x = 2 * t)) (hs : -200 ≤ B0 3 0 2 x ∧ B0 3 0 2 x ≤ 200) (ht : -500 ≤ B0 3 0 3 x ∧ B0 3 0 3 x ≤ 500) (hb : a < Bm0 14 0 30 a ∧ Bm0 14 0 30 a ≤ 3000) (hl : LRf R B0 Bm0 m (B0 3 0 4 x) (a + 1) (Bm0 14 0 30 a)) : zP (fb_Walker_goCarried o K 0 sg x D F B) (zbind (oM.1 (a + 1) (Bm 14 0 30 a) (zup3 Fm 14 0 45 (Fm 14 0 45 + 1)) (zup4 (zup4 (zup4 Bm 14 0 42 (Fm 14 0 45) mi) 14 0 43 (Fm 14 0 45) s2) 14 0 44 (Fm 14 0 45) t)) (fun _ F2 B2 => some (0, zup3 F2 14 0 45 (F2 14 0 45 - 1), B2))) (fun _ F' B' _ Fm' Bm' => WO q v w bar D F B Fm Bm F' B' Fm' Bm') := by
  have hC' := hC
  have hS' := hS
  obtain ⟨hK, hKm, h11, h3, h4, v0, w0, ⟨N0, N1, hTK⟩, _⟩ := hC
  obtain ⟨⟨a1, a2, a3, a4⟩, _, ⟨c1, c2, c3⟩, s4, s5, s6, s7, s8, s9, _, hm, ⟨z1, z2, z3, z4⟩, _⟩ := hS
  have aN : a < N := by
    rcases Int.lt_or_le a N with z | z
    · exact z
    · have := (hT.2.2.2 a z).1
      omega
  have p3 : Bm 14 0 30 a = Bm0 14 0 30 a := hT.2.2.1 30 a (by decide) (by decide) aN
  unfold fb_Walker_goCarried
  have e1 : (zup4 B 11 0 15 (F 11 0 18) sg) 3 0 2 x = B0 3 0 2 x := by rw [zup4_v, if_neg (by first | decide | omega), hT.1]
  have e2 : (zup4 (zup4 B 11 0 15 (F 11 0 18) sg) 11 0 16 (F 11 0 18) (B0 3 0 2 x)) 3 0 3 x = B0 3 0 3 x := by rw [zup4_v, if_neg (by first | decide | omega), zup4_v, if_neg (by first | decide | omega), hT.1]
  rw [if_pos ⟨Int.le_refl _, h11⟩, if_pos (show r32 (F 11 0 18) by unfold r32; omega), if_pos (show F 11 0 18 < 64 by omega), if_pos (by first | decide | omega), a1, if_pos ⟨Int.le_refl _, h3⟩, if_pos hx, e1, e2, p3, ← z1]
  generalize hB1 : zup4 (zup4 (zup4 B 11 0 15 (F 11 0 18) sg) 11 0 16 (F 11 0 18) (B0 3 0 2 x)) 11 0 17 (F 11 0 18) (B0 3 0 3 x) = B1
  generalize hM1 : zup4 (zup4 (zup4 Bm 14 0 42 (F 11 0 18) mi) 14 0 43 (F 11 0 18) s2) 14 0 44 (F 11 0 18) t = M1
  generalize hX : zup3 F 11 0 18 (F 11 0 18 + 1) = X
  generalize hY : zup3 Fm 14 0 45 (F 11 0 18 + 1) = Y
  have bn : ∀ c y k j, ¬ (c = 11 ∧ y = 0 ∧ (15 ≤ k ∧ k ≤ 17) ∧ j = F 11 0 18) → B1 c y k j = B c y k j := fun c y k j n => by rw [← hB1, zup4_v, if_neg (by first | decide | omega), zup4_v, if_neg (by first | decide | omega), zup4_v, if_neg (by first | decide | omega)]
  have mn : ∀ c y k j, ¬ (c = 14 ∧ y = 0 ∧ (42 ≤ k ∧ k ≤ 44) ∧ j = F 11 0 18) → M1 c y k j = Bm c y k j := fun c y k j n => by rw [← hM1, zup4_v, if_neg (by first | decide | omega), zup4_v, if_neg (by first | decide | omega), zup4_v, if_neg (by first | decide | omega)]
  have b15 : B1 11 0 15 (F 11 0 18) = sg := by rw [← hB1, zup4_v, if_neg (by first | decide | omega), zup4_v, if_neg (by first | decide | omega), zup4_v, if_pos (by first | decide | omega)]
  have b16 : B1 11 0 16 (F 11 0 18) = B0 3 0 2 x := by rw [← hB1, zup4_v, if_neg (by first | decide | omega), zup4_v, if_pos (by first | decide | omega)]
  have b17 : B1 11 0 17 (F 11 0 18) = B0 3 0 3 x := by rw [← hB1, zup4_v, if_pos (by first | decide | omega)]
  have m42 : M1 14 0 42 (F 11 0 18) = mi := by rw [← hM1, zup4_v, if_neg (by first | decide | omega), zup4_v, if_neg (by first | decide | omega), zup4_v, if_pos (by first | decide | omega)]
  have m43 : M1 14 0 43 (F 11 0 18) = s2 := by rw [← hM1, zup4_v, if_neg (by first | decide | omega), zup4_v, if_pos (by first | decide | omega)]
  have m44 : M1 14 0 44 (F 11 0 18) = t := by rw [← hM1, zup4_v, if_pos (by first | decide | omega)]
  have xn : ∀ c y k, ¬ (c = 11 ∧ y = 0 ∧ k = 18) → X c y k = F c y k := fun c y k n => by rw [← hX, zup3_v, if_neg n]
  have x18 : X 11 0 18 = F 11 0 18 + 1 := by rw [← hX, zup3_v, if_pos (by first | decide | omega)]
  have yn : ∀ c y k, ¬ (c = 14 ∧ y = 0 ∧ k = 45) → Y c y k = Fm c y k := fun c y k n => by rw [← hY, zup3_v, if_neg n]
  have y45 : Y 14 0 45 = F 11 0 18 + 1 := by rw [← hY, zup3_v, if_pos (by first | decide | omega)]
  rw [bn 3 0 4 x (by first | decide | omega), hT.1]
  have fr : WFR q v w F B Fm Bm X B1 Y M1 := WFR_mk (fun c y k n => xn c y k (by first | decide | omega)) (fun c y k n => yn c y k (by first | decide | omega)) (fun c y k j n => bn c y k j (by first | decide | omega)) (fun c y k j n => mn c y k j (by first | decide | omega))
  have sX : WS q v w bar (D + 1) X B1 Y M1 := by
    refine WS_mk hS' (fun c y k n => xn c y k (by first | decide | omega)) (fun c y k n => yn c y k (by first | decide | omega)) (fun c y k j n => bn c y k j (by first | decide | omega)) (fun c y k j n => mn c y k j (by first | decide | omega)) ?_ ?_ ?_ ?_ ?_ ?_ ?_ ?_
    · rw [xn 11 0 4 (by first | decide | omega), yn 14 0 40 (by first | decide | omega)]; exact s4
    · rw [xn 11 0 5 (by first | decide | omega), yn 14 0 41 (by first | decide | omega)]; omega
    · rw [xn 11 0 6 (by first | decide | omega), yn 14 0 48 (by first | decide | omega)]; omega
    · rw [xn 11 0 7 (by first | decide | omega), xn 11 0 3 (by first | decide | omega), yn 14 0 50 (by first | decide | omega)]; exact s7
    · rw [xn 11 0 6 (by first | decide | omega), xn 11 0 7 (by first | decide | omega), xn 11 0 8 (by first | decide | omega), yn 14 0 49 (by first | decide | omega), mn 14 0 8 _ (by first | decide | omega)]; exact s8
    · rw [xn 11 0 6 (by first | decide | omega), xn 11 0 9 (by first | decide | omega), xn 11 0 10 (by first | decide | omega)]
      exact TPL_c s9 (fun k _ _ => ⟨mn 14 0 46 k (by first | decide | omega), mn 14 0 47 k (by first | decide | omega)⟩)
    · intro k u t
      rw [mn 14 0 51 _ (by first | decide | omega), bn 11 0 14 k (by first | decide | omega)]
      have := hm k u t
      omega
    · rw [x18, y45]
      refine ⟨rfl, (by first | decide | omega), (by first | decide | omega), fun k u t => ?_⟩
      by_cases c : k = F 11 0 18
      · unfold CRk
        rw [c, b15, b16, b17, m42, m43, m44]
        refine ⟨?_, hs, ht⟩
        rcases hk with ⟨k1, k2, k3, k4⟩ | ⟨k1, k2, k3, k4⟩
        · exact Or.inl ⟨k1, k2, k3, k4⟩
        · exact Or.inr ⟨k1, k2, k3, k4⟩
      · have := z4 k u (by first | decide | omega)
        unfold CRk at this ⊢
        rw [bn 11 0 15 k (by first | decide | omega), bn 11 0 16 k (by first | decide | omega), bn 11 0 17 k (by first | decide | omega), mn 14 0 42 k (by first | decide | omega), mn 14 0 43 k (by first | decide | omega), mn 14 0 44 k (by first | decide | omega)]
        exact this
  refine zP_c (hL.1 m (B0 3 0 4 x) (a + 1) (Bm0 14 0 30 a) X B1 Y M1 hl (by first | decide | omega) hb.2 (WT_f hT fr) (by rw [fr.2.2.2.1 14 0 27 (by first | decide | omega)]; exact hnl) (WC_f hC' fr) sX) ?_
  intro r F2 B2 r' Fm2 Bm2 W
  refine zP_s (WO_close hS' fr W (fun c y k n => by rw [zup3_v, if_neg (by first | decide | omega)]) (fun c y k n => by rw [zup3_v, if_neg (by first | decide | omega)]) (fun _ _ _ _ _ => rfl) (fun _ _ _ _ _ => rfl) ?_ (fun k u t => ⟨bn _ _ _ _ (by first | decide | omega), bn _ _ _ _ (by first | decide | omega), bn _ _ _ _ (by first | decide | omega), mn _ _ _ _ (by first | decide | omega), mn _ _ _ _ (by first | decide | omega), mn _ _ _ _ (by first | decide | omega)⟩) (fun k u t => ⟨mn _ _ _ _ (by first | decide | omega), mn _ _ _ _ (by first | decide | omega)⟩) (by rw [x18]; omega) (by rw [xn 11 0 6 (by first | decide | omega)]; exact Int.le_refl _) (fun u => ⟨xn _ _ _ (by first | decide | omega), xn _ _ _ (by first | decide | omega), yn _ _ _ (by first | decide | omega)⟩) (xn 4 q 6 (by first | decide | omega)))
  intro s kp
  obtain ⟨⟨k5, k6, k9, k10, k18⟩, kw, _⟩ := kp
  obtain ⟨_, _, _, _, ⟨t5, _⟩, ⟨t6, _⟩, _, _, _, _, t11, ⟨t12, _⟩, _⟩ := s
  refine ⟨⟨?_, ?_, ?_, ?_, ?_⟩, ⟨?_, ?_, ?_⟩, fun k u t => ⟨?_, ?_⟩⟩
  · rw [zup3_v, if_neg (by first | decide | omega), k5, xn 11 0 5 (by first | decide | omega)]
  · rw [zup3_v, if_neg (by first | decide | omega), k6, xn 11 0 6 (by first | decide | omega)]
  · rw [zup3_v, if_neg (by first | decide | omega), k9, xn 11 0 9 (by first | decide | omega)]
  · rw [zup3_v, if_neg (by first | decide | omega), k10, xn 11 0 10 (by first | decide | omega)]
  · rw [zup3_v, if_pos (by first | decide | omega), k18, x18]; omega
  · rw [zup3_v, if_neg (by first | decide | omega), ← t5, k5, xn 11 0 5 (by first | decide | omega)]; exact s5.1
  · rw [zup3_v, if_pos (by first | decide | omega), ← t12, k18, x18]; omega
  · rw [zup3_v, if_neg (by first | decide | omega), ← t6, k6, xn 11 0 6 (by first | decide | omega)]; exact s6.1
  · rw [kw k u t, bn 11 0 14 k (by first | decide | omega)]
  · rw [← (t11 k u t).1, kw k u t, bn 11 0 14 k (by first | decide | omega)]; exact (hm k u t).1
theorem L_chg0 {K : Nat} {o : oT_W} {i : Int} {F : zF} {B : zB} (hi : 0 ≤ i ∧ i < 2997) (hw : B 14 0 11 i = 1836021349) (h45 : 0 ≤ F 14 0 45 ∧ F 14 0 45 < 100) (h1 : 0 ≤ B 14 0 9 (i + 1) ∧ B 14 0 9 (i + 1) ≤ 62) (h2 : 0 ≤ B 14 0 9 (i + 2) ∧ B 14 0 9 (i + 2) ≤ 62) : fb_M_goChange o K i F B = zbind (o.1 (i + 3 + 1) (B 14 0 30 (i + 3)) (zup3 F 14 0 45 (F 14 0 45 + 1)) (zup4 (zup4 (zup4 B 14 0 42 (F 14 0 45) 0) 14 0 43 (F 14 0 45) (B 14 0 9 (i + 2) - B 14 0 9 (i + 1))) 14 0 44 (F 14 0 45) (mvV B (i + 2) - mvV B (i + 1)))) (fun _ F2 B2 => some (0, zup3 F2 14 0 45 (F2 14 0 45 - 1), B2)) := by
  unfold fb_M_goChange f_M_goChange_18 f_M_goChange_36
  rw [if_pos (by first | decide | omega), hw, if_pos (by decide), if_neg (by decide), if_pos (by decide), if_pos rfl, if_pos h45, if_pos (Or.inl rfl), if_pos (by decide), if_pos rfl, if_pos (by first | decide | omega), if_pos (by first | decide | omega), show i + 1 + 1 = i + 2 by omega]
  have n1 : ∀ (x : Int) k j, ¬ k = 42 → zup4 B 14 0 42 (F 14 0 45) x 14 0 k j = B 14 0 k j := fun x k j n => by rw [zup4_v, if_neg (by first | decide | omega)]
  rw [n1 _ _ _ (by decide), n1 _ _ _ (by decide)]
  generalize hB1 : zup4 B 14 0 42 (F 14 0 45) 0 = B1 at n1 ⊢
  have e1 : ∀ k j, ¬ k = 42 → B1 14 0 k j = B 14 0 k j := fun k j n => by rw [← hB1, zup4_v, if_neg (by first | decide | omega)]
  unfold f_M_goChange_84
  rw [if_pos h45, if_pos (by decide), if_pos rfl, if_pos (by first | decide | omega), show i + 1 + 1 = i + 2 by omega]
  generalize hB2 : zup4 B1 14 0 43 (F 14 0 45) (B 14 0 9 (i + 2) - B 14 0 9 (i + 1)) = B2
  have e2 : ∀ k j, ¬ (k = 42 ∨ k = 43) → B2 14 0 k j = B 14 0 k j := fun k j n => by rw [← hB2, zup4_v, if_neg (by first | decide | omega), e1 k j (by first | decide | omega)]
  rw [e2 9 _ (by decide), e2 10 _ (by decide), L_tonP h2.1 h2.2, zb_s, if_pos (by first | decide | omega), e2 9 _ (by decide), e2 10 _ (by decide), L_tonP h1.1 h1.2, zb_s]
  unfold f_M_goChange_150
  rw [if_pos h45, if_pos (by first | decide | omega)]
  have e3 : ∀ x, zup4 B2 14 0 44 (F 14 0 45) x 14 0 30 (i + 3) = B 14 0 30 (i + 3) := fun x => by rw [zup4_v, if_neg (by first | decide | omega), e2 30 _ (by decide)]
  rw [e3]
  rfl
theorem L_chg1 {K : Nat} {o : oT_W} {i : Int} {F : zF} {B : zB} (hi : 0 ≤ i ∧ i < 2998) (hw : B 14 0 11 i = 120299659095922) (h45 : 0 ≤ F 14 0 45 ∧ F 14 0 45 < 100) (h1 : 0 ≤ B 14 0 9 (i + 1) ∧ B 14 0 9 (i + 1) ≤ 62) : fb_M_goChange o K i F B = zbind (o.1 (i + 2 + 1) (B 14 0 30 (i + 2)) (zup3 F 14 0 45 (F 14 0 45 + 1)) (zup4 (zup4 (zup4 B 14 0 42 (F 14 0 45) 1) 14 0 43 (F 14 0 45) (B 14 0 9 (i + 1))) 14 0 44 (F 14 0 45) (mvV B (i + 1)))) (fun _ F2 B2 => some (0, zup3 F2 14 0 45 (F2 14 0 45 - 1), B2)) := by
  unfold fb_M_goChange f_M_goChange_18 f_M_goChange_36
  rw [if_pos (by first | decide | omega), hw, if_pos (by decide), if_pos (by decide), if_pos (by decide), if_neg (by decide), if_pos h45, if_pos (Or.inr rfl), if_pos (by decide), if_neg (by decide), if_pos (by first | decide | omega)]
  have n1 : ∀ (x : Int) k j, ¬ k = 42 → zup4 B 14 0 42 (F 14 0 45) x 14 0 k j = B 14 0 k j := fun x k j n => by rw [zup4_v, if_neg (by first | decide | omega)]
  rw [n1 _ _ _ (by decide)]
  generalize hB1 : zup4 B 14 0 42 (F 14 0 45) 1 = B1 at n1 ⊢
  have e1 : ∀ k j, ¬ k = 42 → B1 14 0 k j = B 14 0 k j := fun k j n => by rw [← hB1, zup4_v, if_neg (by first | decide | omega)]
  unfold f_M_goChange_84
  rw [if_pos h45, if_pos (by decide), if_neg (by decide), if_pos (by first | decide | omega)]
  generalize hB2 : zup4 B1 14 0 43 (F 14 0 45) (B 14 0 9 (i + 1)) = B2
  have e2 : ∀ k j, ¬ (k = 42 ∨ k = 43) → B2 14 0 k j = B 14 0 k j := fun k j n => by rw [← hB2, zup4_v, if_neg (by first | decide | omega), e1 k j (by first | decide | omega)]
  rw [e2 9 _ (by decide), e2 10 _ (by decide), L_tonP h1.1 h1.2, zb_s]
  unfold f_M_goChange_150
  rw [if_pos h45, if_pos (by first | decide | omega)]
  have e3 : ∀ x, zup4 B2 14 0 44 (F 14 0 45) x 14 0 30 (i + 2) = B 14 0 30 (i + 2) := fun x => by rw [zup4_v, if_neg (by first | decide | omega), e2 30 _ (by decide)]
  rw [e3]
  rfl
end
