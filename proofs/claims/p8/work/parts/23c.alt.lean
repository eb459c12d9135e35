section
/-! ===== alternatives, on both sides ===== -/
def SAL (L : Int) (d n : Nat) (y a e lo hi pl ph : Int) (B Bm : zB) : Prop := ∀ Bx By, agB L lo hi pl ph (-1) B Bx → agM L a e Bm By → ALf (IRd L d) Bx By n y a e
def OKA (L : Int) (d : Nat) (N j x0 : Int) (k0 : Nat) (F : zF) (F' : zF) (B' : zB) (Fm' : zF) (Bm' : zB) : Prop := ∃ j' n, j + 2 ≤ j' ∧ PS N j' F' B' Fm' Bm' ∧ F' 3 0 18 = F 3 0 18 ∧ (F 3 0 14 ≤ F' 3 0 14 ∧ F' 3 0 14 - F 3 0 14 ≤ j' - j - 1) ∧ F 3 0 15 ≤ F' 3 0 15 ∧ SAL L (d - 1) n (B' 3 0 k0 x0) j j' (F 3 0 14) (F' 3 0 14) (F 3 0 15) (F' 3 0 15) B' Bm' ∧ 1 ≤ d
theorem agB_K {L lo hi pl ph x k0' : Int} {k0 : Nat} {x0 lo' pl' : Int} {B B' : zB} (h : fK k0 x0 lo' pl' B B') (h1 : hi ≤ lo') (h2 : ph ≤ pl') (h3 : x0 < lo) (h4 : k0 ≤ 7) : agB L lo hi pl ph x B B' := ⟨fun k y a b c _ => h 3 0 k y (fun z => by have := z.2.2.2; omega) (fun z => by have := z.2.2.1; omega) (fun z => by have := z.2.2.2; omega), fun k y a b c _ => h 3 0 k y (fun z => by have := z.2.2.1; omega) (fun z => by have := z.2.2.2.2; omega) (fun z => by have := z.2.2.1; omega), fun q _ _ => h 3 0 13 q (fun z => absurd z.2.2.1 (by decide)) (fun z => absurd z.2.2.2.1 (by decide)) (fun z => by have := z.2.2.1; omega)⟩
theorem L_103B {om : oT_P} {Km n : Nat} {Fm : zF} {Bm : zB} (hn : 0 < n) (hb : bad Fm) : f_M_itemOfWord_103 om Km n Fm Bm = some (0, Fm, Bm) := by
  obtain ⟨n, rfl⟩ : ∃ y, n = y + 1 := ⟨n - 1, (by first | decide | omega)⟩
  unfold f_M_itemOfWord_103 f_M_itemOfWord_389
  rw [L_goodB hb]
  simp only [zb_s, ir0, if_true]
theorem P_alt {L : Int} {d : Nat} {K : zK} {Km : Nat} {N x : Int} {o : oT_CP} {om : oT_P} (hx : 0 ≤ x ∧ x < 3000) (hBk : BlkSim L K Km N d o.1 om.1) : ∀ {q m m' : Nat} {i last j x0 : Int} {k0 : Nat} {F : zF} {B : zB} {Fm : zF} {Bm : zB}, N - j < q → q < m → q < m' → 0 ≤ i → i ≤ j → (last = -1 ∧ k0 = 3 ∧ x0 = x ∨ last = x0 ∧ k0 = 5) → 0 ≤ x0 → x0 < F 3 0 14 → F 3 0 14 + 1 ≤ j → EV K Km N B Bm → PS N j F B Fm Bm → F 3 0 18 + d = 8 → 1 ≤ F 3 0 18 → LT L F B Fm Bm → zP (f_Parser_takeAlternatives_35 o (f_Parser_takeAlternatives_11 o K m) K i last 0 x F B) (zbind (om.1 Fm Bm) (fun _ F2 B2 => f_M_itemOfWord_103 om Km m' F2 B2)) (fun r F' B' _ Fm' Bm' => fF F F' ∧ fG Fm Fm' ∧ fK k0 x0 (F 3 0 14) (F 3 0 15) B B' ∧ fH j Bm Bm' ∧ (r = 1 ∧ OKA L d N j x0 k0 F F' B' Fm' Bm' ∨ r = 0 ∧ ERR F' Fm')) := by
  intro q
  induction q with
  | zero =>
    intro m m' i last j x0 k0 F B Fm Bm hN _ _ _ _ _ _ _ _ _ hS
    have := hS.2.1.1
    omega
  | succ q ih =>
    intro m m' i last j x0 k0 F B Fm Bm hN hm hm' i0 i1 hl x00 x01 hit hE hS hd hdp hLT
    obtain ⟨m, rfl⟩ : ∃ y, m = y + 1 := ⟨m - 1, (by first | decide | omega)⟩
    obtain ⟨m', rfl⟩ : ∃ y, m' = y + 1 := ⟨m' - 1, (by first | decide | omega)⟩
    have hX := PS_CX hE hS
    have jj := hS.2.1.1
    have nn := hE.1.2.1
    have ep := hS.2.1.2.2.1
    have k3 := hE.2.2.2.1
    have hx14 : 0 ≤ F 3 0 14 ∧ F 3 0 14 < 3000 := by omega
    have hK2 : fK k0 x0 (F 3 0 14) (F 3 0 15) B (zup4 (newB B (F 3 0 14) 10 (F 10 0 1)) 3 0 k0 x0 (F 3 0 14)) := fK_c (newB_k fK_r (Int.le_refl _))
    have hcls : f_Parser_takeAlternatives_35 o (f_Parser_takeAlternatives_11 o K (m + 1)) K i last 0 x F B = zbind (o.1 0 (F 3 0 14) (zup3 F 3 0 14 (F 3 0 14 + 1)) (zup4 (newB B (F 3 0 14) 10 (F 10 0 1)) 3 0 k0 x0 (F 3 0 14))) (fun r22 F22 B22 => if r32 r22 then (if r22 = 0 then some (0, F22, B22) else f_Parser_takeAlternatives_11 o K (m + 1) (i + 1) (F 3 0 14) 0 x F22 B22) else none) := by
      unfold f_Parser_takeAlternatives_35 f_Parser_takeAlternatives_67
      rw [if_pos ⟨Int.le_refl _, k3⟩, C_newItem hX hx14]
      simp only [zb_s]
      rcases hl with ⟨rfl, rfl, rfl⟩ | ⟨rfl, rfl⟩
      · rw [if_pos (show r32 (-1) by decide), if_pos rfl, if_pos hx, if_pos ⟨Int.le_refl _, k3⟩]
      · rw [if_pos (show r32 last by omega), if_neg (show ¬ last = -1 by omega), if_pos (show 0 ≤ last ∧ last < 3000 by omega), if_pos ⟨Int.le_refl _, k3⟩]
    have k07 : k0 ≤ 7 := by omega
    have hS1 := PS_k (PS_u (k := 14) (v := F 3 0 14 + 1) hS (by decide)) hK2 (fJ_H (fr := 0) (j := j) fH_r (Int.le_refl _))
    have hE1 := EV_k hE hK2 (fJ_H (fr := 0) (j := j) fH_r (Int.le_refl _))
    have gF0 : fF F (zup3 F 3 0 14 (F 3 0 14 + 1)) := fF_u fF_r (by decide)
    have hLT1 := LT_k hLT gF0 fG_r hK2 k07 (fJ_H (fr := 0) (j := j) fH_r (Int.le_refl _))
    have a14 : (zup3 F 3 0 14 (F 3 0 14 + 1)) 3 0 14 = F 3 0 14 + 1 := by simp [zup3_v]
    have a15 : (zup3 F 3 0 14 (F 3 0 14 + 1)) 3 0 15 = F 3 0 15 := by simp [zup3_v]
    have a18 : (zup3 F 3 0 14 (F 3 0 14 + 1)) 3 0 18 = F 3 0 18 := by simp [zup3_v]
    have gy : ∀ k, (zup4 (newB B (F 3 0 14) 10 (F 10 0 1)) 3 0 k0 x0 (F 3 0 14)) 3 0 k (F 3 0 14) = (newB B (F 3 0 14) 10 (F 10 0 1)) 3 0 k (F 3 0 14) := fun k => by rw [zup4_v, if_neg (fun w => by have := w.2.2.2; omega)]
    obtain ⟨b0, b1, b2, b3, b4, b5, b6, b7⟩ := newB_at (B := B) (x := F 3 0 14) (s := 10) (p := F 10 0 1)
    rw [hcls]
    refine zP_c (hBk (x := F 3 0 14) (j := j) hx14.1 (by first | decide | omega) (by first | decide | omega) hE1 hS1 (by first | decide | omega) (PS_pw hS1 (by first | decide | omega)) hLT1 (by rw [gy]; exact b4)) (fun r F1 B1 r' Fm1 Bm1 hh => ?_)
    obtain ⟨g1, g2, g3, g4, g5⟩ := hh
    rw [a14, a15] at g3
    have gF : fF F F1 := fF_t gF0 g1
    have gK : fK k0 x0 (F 3 0 14) (F 3 0 15) B B1 := fK_t hK2 (fK_K g3 (by first | decide | omega) (Int.le_refl _) (Or.inr ⟨by decide, Int.le_refl _⟩))
    have hE2 := EV_B hE (fK_10 gK) (fun k hk => fH_k g4 k (by first | decide | omega))
    have hcell : ∀ {B2 : zB}, fK 5 (F 3 0 14) (F1 3 0 14) (F1 3 0 15) B1 B2 → F 3 0 14 < F1 3 0 14 → B2 3 0 k0 x0 = F 3 0 14 := by
      intro B2 hk2 hlt
      rw [hk2 3 0 k0 x0 (fun w => by have := w.2.2.2; omega) (fun w => by have := w.2.2.1; omega) (fun w => by have := w.2.2.2; omega), g3 3 0 k0 x0 (fun w => by have := w.2.2.2; omega) (fun w => by have := w.2.2.1; omega) (fun w => by have := w.2.2.2; omega), zup4_v, if_pos ⟨rfl, rfl, rfl, rfl⟩]
    rcases g5 with ⟨rfl, j1, n1, v1, v2, v3, v4, v5, v6, v7, v8⟩ | ⟨rfl, er⟩
    · rw [a14] at v5 v7
      rw [a15] at v6 v7
      rw [a18] at v4
      have jj1 := v2.2.1.1
      have hX2 := PS_CX hE2 v2
      have hM2 := PS_MX hE2 v2
      have hg2 := v2.2.2.2.1
      have s := sgm_r Bm1 j1 123
      have k10 := hE.2.2.2.2.1
      have c5 : B1 3 0 5 (F 3 0 14) = -1 := by rw [g3 3 0 5 (F 3 0 14) (fun w => by have := w.2.2.2; omega) (fun w => absurd w.2.2.1 (by decide)) (fun w => absurd w.2.2.1 (by decide)), gy]; exact b5
      rw [if_pos (show r32 1 by decide), if_neg (show ¬ (1 : Int) = 0 by decide)]
      rw [f_Parser_takeAlternatives_11, f_M_itemOfWord_103]
      rw [if_pos (show r32 (i + 1) by omega), L_good hg2]
      simp only [zb_s]
      rw [if_pos (show r32 1 by decide), if_neg (show ¬ (1 : Int) = 0 by decide), L_isSign hM2 (by decide)]
      simp only [zb_s]
      rw [if_pos (show r32 (sgm Bm1 j1 123) by omega)]
      -- the block, as later worlds see it
      have blk : ∀ {B2 Bm2 Bx By : zB} {hi ph e : Int}, fK 5 (F 3 0 14) (F1 3 0 14) (F1 3 0 15) B1 B2 → fH j1 Bm1 Bm2 → F1 3 0 14 ≤ hi → F1 3 0 15 ≤ ph → j1 ≤ e → agB L (F 3 0 14) hi (F 3 0 15) ph (-1) B2 Bx → agM L j e Bm2 By → BKf (IRd L (d - 1)) Bx By (F 3 0 14) j ∧ By 14 0 30 j + 1 = j1 ∧ Bx 3 0 5 (F 3 0 14) = B2 3 0 5 (F 3 0 14) := by
        intro B2 Bm2 Bx By hi ph e h1 h2 h3 h4 h5 ab am
        have e4 : B2 3 0 4 (F 3 0 14) = B1 3 0 4 (F 3 0 14) := h1 3 0 4 (F 3 0 14) (fun w => by have := w.2.2.2; omega) (fun w => absurd w.2.2.1 (by decide)) (fun w => absurd w.2.2.1 (by decide))
        have e30 : Bm2 14 0 30 j = j1 - 1 := by rw [h2 14 0 30 j (fun w => by have := w.2.2.2.2; omega)]; exact v3
        have sl : SLR L (d - 1) n1 (B2 3 0 4 (F 3 0 14)) (j + 1) (j1 - 1) (F 3 0 14 + 1) (F1 3 0 14) (F 3 0 15) (F1 3 0 15) B2 Bm2 := by
          rw [e4]
          exact SLR_t v7 (agB_K (k0' := 0) h1 (Int.le_refl _) (Int.le_refl _) (by first | decide | omega) (by decide)) (agM_f h2 (by first | decide | omega))
        refine ⟨BK_of (agB_m ab (Int.le_refl _) (Int.le_refl _) (Int.le_refl _) (Int.le_refl _) (Or.inr (Or.inl (by first | decide | omega)))) am sl e30 (by first | decide | omega) h3 (Int.le_refl _) h4 (Int.le_refl _) h5 v1 (by first | decide | omega) (by have h1 := hE.1.2.1; have h2 := v2.2.1.1.2; omega), ?_, ?_⟩
        · rw [am.1 30 j (by decide) (by decide) (Int.le_refl _) (by first | decide | omega), e30]; omega
        · exact ab.1 5 _ (by decide) (Int.le_refl _) (by first | decide | omega) (fun w => by have := w.2; omega)
      by_cases z : sgm Bm1 j1 123 = 0
      · have hend : (if 3000 ≤ i + 1 then f_Parser_takeAlternatives_87 o K F1 B1 else if r32 (F 3 0 14) then (if F 3 0 14 = -1 then f_Parser_takeAlternatives_35 o (f_Parser_takeAlternatives_11 o K m) K (i + 1) (F 3 0 14) 0 x F1 B1 else if 0 ≤ (0 : Int) ∧ (0 : Int) < K.2 3 then if 0 ≤ F1 3 0 11 ∧ F1 3 0 11 < K.2 10 then zbind (f_Tokens_isSign K (F1 3 0 11) 123 F1 B1) (fun r10 F10 B10 => if r32 r10 then (if r10 = 0 then f_Parser_takeAlternatives_87 o K F10 B10 else f_Parser_takeAlternatives_35 o (f_Parser_takeAlternatives_11 o K m) K (i + 1) (F 3 0 14) 0 x F10 B10) else none) else none else none) else none) = some (1, F1, B1) := by
          by_cases a : 3000 ≤ i + 1
          · rw [if_pos a]; rfl
          · rw [if_neg a, if_pos (show r32 (F 3 0 14) by omega), if_neg (show ¬ F 3 0 14 = -1 by omega), if_pos ⟨Int.le_refl _, k3⟩, v2.1, if_pos ⟨Int.le_refl _, k10⟩, C_isSign hX2 (by decide), PS_sg hE2 v2]
            simp only [zb_s]
            rw [z, if_pos (by decide), if_pos rfl]; rfl
        rw [hend, if_pos z]
        unfold f_M_itemOfWord_389
        refine zP_s ⟨gF, g2, gK, g4, Or.inl ⟨rfl, j1, 1, v1, v2, v4, (by first | decide | omega), (by first | decide | omega), ?_, v8⟩⟩
        rw [hcell fK_r (by first | decide | omega)]
        intro Bx By ab am
        obtain ⟨q1, q2, q3⟩ := blk fK_r fH_r (Int.le_refl _) (Int.le_refl _) (Int.le_refl _) ab am
        exact ⟨hx14, q1, Or.inl ⟨by rw [q3]; exact c5, q2⟩⟩
      · have z' := Decidable.not_not.mp (mt sgm_0.mpr z)
        have tk1 := hE2.1.2.2 j1 jj1.1 jj1.2
        have hj1N : j1 < N := by
          have : ¬ j1 = N := fun w => by have := tk1.2.2.2.1.mpr w; omega
          omega
        have hLT2 := LT_k hLT gF g2 gK k07 (fJ_H (fr := 0) g4 (Int.le_refl _))
        rw [if_neg z, if_neg (show ¬ 3000 ≤ i + 1 by omega), if_pos (show r32 (F 3 0 14) by omega), if_neg (show ¬ F 3 0 14 = -1 by omega), if_pos ⟨Int.le_refl _, k3⟩, v2.1, if_pos ⟨Int.le_refl _, k10⟩, C_isSign hX2 (by decide), PS_sg hE2 v2]
        simp only [zb_s]
        rw [if_pos (show r32 (sgm Bm1 j1 123) by omega), if_neg z]
        refine zP_m (ih (m := m) (m' := m') (i := i + 1) (last := F 3 0 14) (j := j1) (x0 := F 3 0 14) (k0 := 5) (by first | decide | omega) (by first | decide | omega) (by first | decide | omega) (by first | decide | omega) (by first | decide | omega) (Or.inr ⟨rfl, rfl⟩) hx14.1 (by first | decide | omega) (by first | decide | omega) hE2 v2 (by first | decide | omega) (by first | decide | omega) hLT2) (fun r F' B' r' Fm' Bm' hh => ?_)
        obtain ⟨w1, w2, w3, w4, w5⟩ := hh
        refine ⟨fF_t gF w1, fG_t g2 w2, fK_t gK (fK_K w3 (by first | decide | omega) (by first | decide | omega) (Or.inr ⟨by decide, Int.le_refl _⟩)), fH_t g4 (fH_m w4 (by first | decide | omega)), ?_⟩
        rcases w5 with ⟨rfl, j2, n, u1, u2, u3, u4, u5, u6, u7⟩ | er
        · refine Or.inl ⟨rfl, j2, n + 1, (by first | decide | omega), u2, (by first | decide | omega), (by first | decide | omega), (by first | decide | omega), ?_, v8⟩
          rw [hcell w3 (by first | decide | omega)]
          intro Bx By ab am
          obtain ⟨q1, q2, q3⟩ := blk w3 w4 (by first | decide | omega) (by first | decide | omega) (by first | decide | omega) ab am
          refine ⟨hx14, q1, Or.inr ⟨(by first | decide | omega), ?_⟩⟩
          rw [q2, q3]
          exact u6 Bx By (agB_m ab (by first | decide | omega) (Int.le_refl _) (by first | decide | omega) (Int.le_refl _) (Or.inl rfl)) (agM_m am (by first | decide | omega) (Int.le_refl _))
        · exact Or.inr er
    · rw [if_pos (show r32 0 by decide), if_pos rfl, L_103B (by first | decide | omega) er.2]
      exact zP_s ⟨gF, g2, gK, g4, Or.inr ⟨rfl, er⟩⟩
end
