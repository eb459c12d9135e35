section
/-! ===== the walk: back, slow, use ===== -/
theorem WS_up {q v w bar : Int} {D : Nat} {F : zF} {B : zB} {Fm : zF} {Bm : zB} (hS : WS q v w bar D F B Fm Bm) : WS q v w bar (D + 1) F B Fm Bm := by
  have hS' := hS
  obtain ⟨_, _, _, s4, s5, s6, s7, s8, s9, _, hm, ⟨z1, z2, z3, z4⟩, _⟩ := hS
  exact WS_mk hS' (fun _ _ _ _ => rfl) (fun _ _ _ _ => rfl) (fun _ _ _ _ _ => rfl) (fun _ _ _ _ _ => rfl) s4 (by first | decide | omega) (by first | decide | omega) s7 s8 s9 (fun k u t => by have := hm k u t; omega) ⟨z1, z2, (by first | decide | omega), z4⟩
/-- a walk one deeper that changed nothing but by itself -/
theorem WO_same {q v w bar : Int} {D : Nat} {F F2 : zF} {B B2 : zB} {Fm Fm2 : zF} {Bm Bm2 : zB} (hS : WS q v w bar D F B Fm Bm) (W : WO q v w bar (D + 1) F B Fm Bm F2 B2 Fm2 Bm2) : WO q v w bar D F B Fm Bm F2 B2 Fm2 Bm2 := by
  refine WO_close hS WFR_r W (fun _ _ _ _ => rfl) (fun _ _ _ _ => rfl) (fun _ _ _ _ _ => rfl) (fun _ _ _ _ _ => rfl) ?_ (fun _ _ _ => ⟨rfl, rfl, rfl, rfl, rfl, rfl⟩) (fun _ _ _ => ⟨rfl, rfl⟩) (Int.le_refl _) (Int.le_refl _) (fun _ => ⟨rfl, rfl, rfl⟩) rfl
  intro s kp
  obtain ⟨⟨k5, k6, k9, k10, k18⟩, kw, _⟩ := kp
  obtain ⟨_, _, _, _, ⟨t5, _⟩, ⟨t6, _⟩, _, _, _, _, t11, ⟨t12, _⟩, _⟩ := s
  obtain ⟨_, _, _, _, ⟨s5, _⟩, ⟨s6, _⟩, _, _, _, _, s11, ⟨s12, _⟩, _⟩ := hS
  exact ⟨⟨k5, k6, k9, k10, k18⟩, ⟨by rw [← t5, k5, s5], by rw [← t12, k18, s12], by rw [← t6, k6, s6]⟩, fun k u t => ⟨kw k u t, by rw [← (t11 k u t).1, kw k u t]; exact (s11 k u t).1⟩⟩
theorem P_bk {K : zK} {Km : Nat} {N nl q v w bar x i : Int} {B0 Bm0 : zB} {D m : Nat} {o : oT_CW} {oM : oT_W} {R : zB → zB → Int → Int → Prop} {F : zF} {B : zB} {Fm : zF} {Bm : zB} (hL : LSim K Km N nl q v w bar B0 Bm0 (D + 1) o.1 oM.1 R) (hi : 0 ≤ i ∧ i < N) (hT : WT N B0 Bm0 B Bm) (hnl : Fm 14 0 27 = nl) (hC : WC K Km N q v w bar B Fm Bm) (hS : WS q v w bar D F B Fm Bm) (hD : D < 64) (hb : i + 1 < Bm0 14 0 30 (i + 1) ∧ Bm0 14 0 30 (i + 1) ≤ 3000) (hl : LRf R B0 Bm0 m x (i + 1 + 1) (Bm0 14 0 30 (i + 1))) : zP (fb_Walker_goBack o K 0 x D F B) (fb_M_goBack oM Km i Fm Bm) (fun _ F' B' _ Fm' Bm' => WO q v w bar D F B Fm Bm F' B' Fm' Bm') := by
  have hC' := hC
  have hS' := hS
  obtain ⟨hK, hKm, h11, h3, h4, v0, w0, ⟨N0, N1, hTK⟩, _⟩ := hC
  obtain ⟨⟨a1, a2, a3, a4⟩, _, ⟨c1, c2, c3⟩, s4, s5, s6, s7, s8, s9, _, hm, ⟨z1, z2, z3, z4⟩, ⟨o1, o2, o3, _⟩⟩ := hS
  have aN : i + 1 < N := by
    rcases Int.lt_or_le (i + 1) N with z | z
    · exact z
    · have := (hT.2.2.2 (i + 1) z).1
      omega
  have p3 : Bm 14 0 30 (i + 1) = Bm0 14 0 30 (i + 1) := hT.2.2.1 30 (i + 1) (by decide) (by decide) aN
  unfold fb_Walker_goBack fb_M_goBack
  rw [if_pos ⟨Int.le_refl _, h11⟩, a2, if_pos h4, if_pos (by first | decide | omega), p3, ← s5.1, ← o1, show i + 2 = i + 1 + 1 by omega]
  generalize hX : zup3 F 11 0 5 (F 11 0 5 + 1) = X
  generalize hY : zup3 Fm 14 0 41 (F 11 0 5 + 1) = Y
  have xn : ∀ c y k, ¬ (c = 11 ∧ y = 0 ∧ k = 5) → X c y k = F c y k := fun c y k n => by rw [← hX, zup3_v, if_neg n]
  have x5 : X 11 0 5 = F 11 0 5 + 1 := by rw [← hX, zup3_v, if_pos (by first | decide | omega)]
  have yn : ∀ c y k, ¬ (c = 14 ∧ y = 0 ∧ k = 41) → Y c y k = Fm c y k := fun c y k n => by rw [← hY, zup3_v, if_neg n]
  have y41 : Y 14 0 41 = F 11 0 5 + 1 := by rw [← hY, zup3_v, if_pos (by first | decide | omega)]
  have fr : WFR q v w F B Fm Bm X B Y Bm := WFR_mk (fun c y k n => xn c y k (by first | decide | omega)) (fun c y k n => yn c y k (by first | decide | omega)) (fun _ _ _ _ _ => rfl) (fun _ _ _ _ _ => rfl)
  have sX : WS q v w bar (D + 1) X B Y Bm := by
    refine WS_mk hS' (fun c y k n => xn c y k (by first | decide | omega)) (fun c y k n => yn c y k (by first | decide | omega)) (fun _ _ _ _ _ => rfl) (fun _ _ _ _ _ => rfl) ?_ ?_ ?_ ?_ ?_ ?_ ?_ ?_
    · rw [xn 11 0 4 (by first | decide | omega), yn 14 0 40 (by first | decide | omega)]; exact s4
    · rw [x5, y41]; omega
    · rw [xn 11 0 6 (by first | decide | omega), yn 14 0 48 (by first | decide | omega)]; omega
    · rw [xn 11 0 7 (by first | decide | omega), xn 11 0 3 (by first | decide | omega), yn 14 0 50 (by first | decide | omega)]; exact s7
    · rw [xn 11 0 6 (by first | decide | omega), xn 11 0 7 (by first | decide | omega), xn 11 0 8 (by first | decide | omega), yn 14 0 49 (by first | decide | omega)]; exact s8
    · rw [xn 11 0 6 (by first | decide | omega), xn 11 0 9 (by first | decide | omega), xn 11 0 10 (by first | decide | omega)]; exact s9
    · intro k u t
      have := hm k u t
      omega
    · rw [xn 11 0 18 (by first | decide | omega), yn 14 0 45 (by first | decide | omega)]
      exact ⟨z1, z2, (by first | decide | omega), z4⟩
  refine zP_c (hL.1 m x (i + 1 + 1) (Bm0 14 0 30 (i + 1)) X B Y Bm hl (by first | decide | omega) hb.2 (WT_f hT fr) (by rw [fr.2.2.2.1 14 0 27 (by first | decide | omega)]; exact hnl) (WC_f hC' fr) sX) ?_
  intro r F2 B2 r' Fm2 Bm2 W
  have q2 : F2 11 0 1 = q := by
    rcases W.2 with ⟨s, _⟩ | s
    · exact s.1.2.1
    · exact s.2.1
  have W3 : WO q v w bar D F B Fm Bm (zup3 F2 11 0 5 (F2 11 0 5 - 1)) B2 (zup3 Fm2 14 0 41 (Fm2 14 0 41 - 1)) Bm2 := by
    refine WO_close hS' fr W (fun c y k n => by rw [zup3_v, if_neg (by first | decide | omega)]) (fun c y k n => by rw [zup3_v, if_neg (by first | decide | omega)]) (fun _ _ _ _ _ => rfl) (fun _ _ _ _ _ => rfl) ?_ (fun _ _ _ => ⟨rfl, rfl, rfl, rfl, rfl, rfl⟩) (fun _ _ _ => ⟨rfl, rfl⟩) (by rw [xn 11 0 18 (by first | decide | omega)]; exact Int.le_refl _) (by rw [xn 11 0 6 (by first | decide | omega)]; exact Int.le_refl _) (fun u => ⟨xn _ _ _ (by first | decide | omega), xn _ _ _ (by first | decide | omega), yn _ _ _ (by first | decide | omega)⟩) (xn 4 q 6 (by first | decide | omega))
    intro s kp
    obtain ⟨⟨k5, k6, k9, k10, k18⟩, kw, _⟩ := kp
    obtain ⟨_, _, _, _, ⟨t5, _⟩, ⟨t6, _⟩, _, _, _, _, t11, ⟨t12, _⟩, _⟩ := s
    refine ⟨⟨?_, ?_, ?_, ?_, ?_⟩, ⟨?_, ?_, ?_⟩, fun k u t => ⟨?_, ?_⟩⟩
    · rw [zup3_v, if_pos (by first | decide | omega), k5, x5]; omega
    · rw [zup3_v, if_neg (by first | decide | omega), k6, xn 11 0 6 (by first | decide | omega)]
    · rw [zup3_v, if_neg (by first | decide | omega), k9, xn 11 0 9 (by first | decide | omega)]
    · rw [zup3_v, if_neg (by first | decide | omega), k10, xn 11 0 10 (by first | decide | omega)]
    · rw [zup3_v, if_neg (by first | decide | omega), k18, xn 11 0 18 (by first | decide | omega)]
    · rw [zup3_v, if_pos (by first | decide | omega), ← t5, k5, x5]; omega
    · rw [zup3_v, if_neg (by first | decide | omega), ← t12, k18, xn 11 0 18 (by first | decide | omega)]; exact z1
    · rw [zup3_v, if_neg (by first | decide | omega), ← t6, k6, xn 11 0 6 (by first | decide | omega)]; exact s6.1
    · exact kw k u t
    · rw [← (t11 k u t).1, kw k u t]; exact (hm k u t).1
  rw [q2, if_pos h4]
  have e36 : Fm2 14 0 36 = zup3 Fm2 14 0 41 (Fm2 14 0 41 - 1) 14 0 36 := by rw [zup3_v, if_neg (by first | decide | omega)]
  rw [e36]
  generalize zup3 F2 11 0 5 (F2 11 0 5 - 1) = Z at W3 ⊢
  generalize zup3 Fm2 14 0 41 (Fm2 14 0 41 - 1) = Zm at W3 ⊢
  obtain ⟨f, s⟩ := W3
  rcases s with ⟨s, k⟩ | s
  · obtain ⟨r1, G, C, r1', Gm, Cm, e, e', f', s', k'⟩ := P_turn (o := oM) (fr := F 4 q 6) (WC_f hC' f) s ⟨o2, k.2.2.2.2.2⟩
    rw [e, e', zb_s]
    exact zP_s ⟨WFR_t f f', Or.inl ⟨s', WKP_t k k'⟩⟩
  · obtain ⟨r1, G, C, r1', Gm, Cm, e, e', f', s'⟩ := P_turnE (o := oM) (fr := F 4 q 6) (WC_f hC' f) s ⟨o2, o3⟩
    rw [e, e', zb_s]
    exact zP_s ⟨WFR_t f f', Or.inr s'⟩
theorem L_goW {K : Nat} {o : oT_W} {i : Int} {F : zF} {B : zB} (hi : 0 ≤ i ∧ i < 3001) (h4 : B 14 0 7 i = 4) : (B 14 0 11 i = 125780002955636 → fb_M_go o K i F B = zbind (o.2.2.2.1 i F B) (fun _ F1 B1 => some (0, F1, B1))) ∧ (B 14 0 11 i = 7697253 → fb_M_go o K i F B = zbind (o.2.2.2.2.1 i F B) (fun _ F1 B1 => some (0, F1, B1))) ∧ (B 14 0 11 i = 1836021349 ∨ B 14 0 11 i = 120299659095922 → fb_M_go o K i F B = zbind (o.2.2.2.2.2.1 i F B) (fun _ F1 B1 => some (0, F1, B1))) ∧ (B 14 0 11 i = 1650549611 → fb_M_go o K i F B = zbind (o.2.2.2.2.2.2.1 i F B) (fun _ F1 B1 => some (0, F1, B1))) ∧ (B 14 0 11 i = 1936486263 → fb_M_go o K i F B = zbind (o.2.2.2.2.2.2.2 i F B) (fun _ F1 B1 => some (0, F1, B1))) := by
  unfold fb_M_go f_M_go_31 f_M_go_62 f_M_go_148
  simp only [f_M_go_182]
  rw [if_pos hi, h4, if_pos (by decide), if_neg (by decide), if_neg (by decide), if_pos hi, if_pos (by decide), if_pos rfl]
  refine ⟨fun h => ?_, fun h => ?_, fun h => ?_, fun h => ?_, fun h => ?_⟩
  · rw [h, if_pos (by decide), if_neg (by decide), if_pos hi, if_pos (by decide), if_neg (by decide), if_pos (by decide), if_pos (by decide)]
  · rw [h, if_pos (by decide), if_neg (by decide), if_pos hi, if_pos (by decide), if_neg (by decide), if_pos (by decide), if_neg (by decide), if_pos (by decide)]
  · rcases h with h | h
    · rw [h, if_pos (by decide), if_neg (by decide), if_pos hi, if_pos (by decide), if_neg (by decide), if_pos (by decide), if_neg (by decide), if_neg (by decide), if_pos (by decide)]
    · rw [h, if_pos (by decide), if_neg (by decide), if_pos hi, if_pos (by decide), if_neg (by decide), if_pos (by decide), if_neg (by decide), if_neg (by decide), if_neg (by decide), if_pos (by decide)]
  · rw [h, if_pos (by decide), if_neg (by decide), if_pos hi, if_pos (by decide), if_neg (by decide), if_pos (by decide), if_neg (by decide), if_neg (by decide), if_neg (by decide), if_neg (by decide), if_pos (by decide)]
  · rw [h, if_pos (by decide), if_neg (by decide), if_pos hi, if_pos (by decide), if_neg (by decide), if_pos (by decide), if_neg (by decide), if_neg (by decide), if_neg (by decide), if_neg (by decide), if_neg (by decide)]
end
