section
/-! ===== repeats, on both sides ===== -/
theorem P_repeat {L : Int} {d : Nat} {K : zK} {Km : Nat} {N j x : Int} {o o' o'' : oT_CP} {om om' : oT_P} {F : zF} {B : zB} {Fm : zF} {Bm : zB} (hx : 0 ≤ x ∧ x < 3000) (hxi : x + 1 = F 3 0 14) (hij : F 3 0 14 ≤ j + 1) (hE : EV K Km N B Bm) (hS : PS N j F B Fm Bm) (hd : F 3 0 18 + d = 8) (hdp : 1 ≤ F 3 0 18) (hLT : LT L F B Fm Bm) (hF : fresh B Bm x j 4) (wd : wdAt Bm j 125780002955636) (ho : ∀ F B, om.2.2.2 F B = fb_M_itemOfWord om' Km F B) (hoc : ∀ l0 l1 F B, o.2.2.2.2.1 l0 l1 F B = fb_Parser_takeRepeat o' K l0 l1 F B) (hoa : ∀ l0 l1 F B, o'.2.2.2.2.2.1 l0 l1 F B = fb_Parser_takeAlternatives o'' K l0 l1 F B) (hBk : BlkSim L K Km N d o'.1 om'.1) (hBk2 : BlkSim L K Km N d o''.1 om'.1) (hBd : BlkBad om'.1) : zP (fb_Parser_takeItem o K 0 x F B) (fb_M_item om Km Fm Bm) (fun r F' B' _ Fm' Bm' => IPO L d N j x F B Fm Bm r F' B' Fm' Bm') := by
  have hM := PS_MX hE hS
  have h4 := wd.1
  have jj := hS.2.1.1
  have nn := hE.1.2.1
  have km := hE.2.2.2.2.2.2
  have k1 := hE.2.2.2.2.2.1
  have k3 := hE.2.2.2.1
  have k10 := hE.2.2.2.2.1
  have t : ∀ c, r64 c → f_M_isWord Km c Fm Bm = some (if 125780002955636 = c then 1 else 0, Fm, Bm) := fun c hc => L_wd hM wd hc
  have hS1 := PS_step hE hS (by first | decide | omega)
  have a14 : (advF F B) 3 0 14 = F 3 0 14 := advF_o (by decide)
  have a15 : (advF F B) 3 0 15 = F 3 0 15 := advF_o (by decide)
  have a18 : (advF F B) 3 0 18 = F 3 0 18 := advF_o (by decide)
  have gF : fF F (advF F B) := fF_a fF_r
  have gG : fG Fm (zup3 Fm 14 0 16 (j + 1)) := fG_u fG_r (by decide) (by decide)
  have hH0 : ∀ {Bm' : zB} {v : Int}, fH j Bm' (zup4 Bm' 14 0 31 j v) := fH_u fH_r (by decide) (by decide) (Int.le_refl _)
  rw [C_itemR (PS_CX hE hS) hx hF.1, L_itemW hM wd ho, hoc]
  unfold fb_M_itemOfWord f_M_itemOfWord_389 fb_Parser_takeRepeat f_Parser_takeRepeat_53 f_Parser_takeRepeat_58
  simp only [t 114 (by decide), t 125780002955636 (by decide), zb_s, zb_a, ir0, ir1, if_true, if_false, Int.reduceEq, hM.1]
  simp only [show ∀ {a b : zO}, (if (True ∨ False) then a else b) = a from fun {a b} => if_pos (Or.inl trivial), show ∀ {a b : zO}, (if (False ∨ True) then a else b) = a from fun {a b} => if_pos (Or.inr trivial), true_or, or_true, if_true]
  rw [if_pos ⟨Int.le_refl _, k3⟩]
  rcases P_num hE hS1 (lo := 2) (hi := 4) (by decide) (by decide) with ⟨n1, n2, n3, c1, m1, hS2⟩ | ⟨s, s', v, c1, m1, er⟩
  · rw [c1, m1]
    simp only [zb_s, zb_a, ir1, i10]
    have e19 : (advF (zup3 (advF F B) 3 0 19 (Bm 14 0 9 (j + 1))) B) 3 0 19 = Bm 14 0 9 (j + 1) := by rw [advF_o (by decide)]; simp [zup3_v]
    rw [if_pos hx, e19, zb_a]
    have hXA : fX [2] x (F 3 0 15) B (zup4 B 3 0 2 x (Bm 14 0 9 (j + 1))) := fX_u fX_r (Or.inl ⟨by decide, rfl⟩)
    have hB2 := fX_B (lo := x) hXA (by decide) (Int.le_refl _)
    have hE2 := EV_f hE hB2 (fH_r (fr := 0))
    have hS2' := PS_f hS2 hB2 (fH_r (fr := 0))
    have b14 : (advF (zup3 (advF F B) 3 0 19 (Bm 14 0 9 (j + 1))) B) 3 0 14 = F 3 0 14 := by rw [advF_o (by decide)]; simp [zup3_v]; exact a14
    have b15 : (advF (zup3 (advF F B) 3 0 19 (Bm 14 0 9 (j + 1))) B) 3 0 15 = F 3 0 15 := by rw [advF_o (by decide)]; simp [zup3_v]; exact a15
    have b18 : (advF (zup3 (advF F B) 3 0 19 (Bm 14 0 9 (j + 1))) B) 3 0 18 = F 3 0 18 := by rw [advF_o (by decide)]; simp [zup3_v]; exact a18
    have gF2 : fF F (advF (zup3 (advF F B) 3 0 19 (Bm 14 0 9 (j + 1))) B) := fF_a (fF_u gF (by decide))
    have gG2 : fG Fm (zup3 (zup3 Fm 14 0 16 (j + 1)) 14 0 16 (j + 1 + 1)) := fG_u gG (by decide) (by decide)
    have hLT2 := LT_k (fr := 0) (j := 0) hLT gF2 gG2 (fB_K hB2) (by decide) (fJ_H fH_r (Int.le_refl _))
    refine zP_c (hBk (x := x) (j := j + 1 + 1) hx.1 (by first | decide | omega) (by first | decide | omega) hE2 hS2' (by first | decide | omega) (PS_pw hS2' (by first | decide | omega)) hLT2 (by rw [fX_3 hXA (by decide) (by decide)]; exact hF.2.2.2.2.1)) (fun r F3 B3 r' Fm3 Bm3 hh => ?_)
    have hh0 := hh
    obtain ⟨g1, g2, g3, g4, g5⟩ := hh
    rw [b14, b15] at g3
    rcases g5 with ⟨rfl, j3, n, v1, v2, v3, v4, v5, v6, v7, v8⟩ | ⟨rfl, er⟩
    · rw [b14] at v5 v7
      rw [b15] at v6 v7
      rw [b18] at v4
      have hK3 : fK 4 x (F 3 0 14) (F 3 0 15) (zup4 B 3 0 2 x (Bm 14 0 9 (j + 1))) B3 := g3
      have hE3 := EV_B hE2 (fK_10 hK3) (fun k hk => fH_k g4 k (by first | decide | omega))
      have hX3 := PS_CX hE3 v2
      have hM3 := PS_MX hE3 v2
      have hg3 := v2.2.2.2.1
      have jj3 := v2.2.1.1
      have wr3 := wdm_r Bm3 j3 6384756
      have gk3 : ∀ k, k ≤ 7 → k ≠ 4 → B3 3 0 k x = (zup4 B 3 0 2 x (Bm 14 0 9 (j + 1))) 3 0 k x := fun k p q => hK3 3 0 k x (fun z => by have := z.2.2.2; omega) (fun z => by have := z.2.2.1; omega) (fun z => q z.2.2.1)
      simp only [ir1, i10, L_good hg3, zb_s]
      rw [v2.1, if_pos ⟨Int.le_refl _, k10⟩, C_isWord hX3 (by decide), PS_wd hE3 v2, L_isWord hM3 (by decide)]
      simp only [zb_s]
      rw [if_pos (show r32 (wdm Bm3 j3 6384756) by omega), if_pos (show r32 (wdm Bm3 j3 6384756) by omega)]
      by_cases z : wdm Bm3 j3 6384756 = 0
      · rw [if_pos z, if_pos z]
        simp only [zb_s]
        rw [if_pos (by decide), L_202 (by first | decide | omega)]
        refine zP_s (IPO_B (j := j) hh0 hE.1.2.1 (by first | decide | omega) hxi gF2 gG2 hB2 b14 b15 b18 (by rw [fX_3 hXA (by decide) (by decide)]; exact hF.2.2.2.2.2.1) ?_ (Or.inr rfl))
        intro j' n' Bx By h1 _ am bk _ h30 h31 gx w g0
        obtain ⟨p1, p0⟩ := IRn_at hF gx w (fun k hk => by rw [g0 k (by first | decide | omega) (by first | decide | omega), fX_3 hXA (by simp; omega) (by first | decide | omega)]) (R := IRd L (d - 1))
        have hj' : By 14 0 30 (j + 1 + 1) + 1 = j' := by
          rw [am.1 30 (j + 1 + 1) (by decide) (by decide) (by first | decide | omega) (by first | decide | omega), zup4_v, if_neg (fun q => absurd q.2.2.1 (by decide)), h30]
          omega
        refine ⟨p1, Or.inr (Or.inl ⟨p0, wdAt_c wd w, ?_, ?_, Or.inl ⟨?_, ?_⟩⟩)⟩
        · rw [gx 2 (by decide) (by decide), g0 2 (by decide) (by decide)]
          simp only [zup4_v]
          exact nmAt_c ⟨n1, by simp, by simpa using n2, by simpa using n3⟩ w
        · rw [show j + 2 = j + 1 + 1 by omega]; exact bk
        · rw [gx 3 (by decide) (by decide), g0 3 (by decide) (by decide), fX_3 hXA (by decide) (by decide)]; exact hF.2.2.2.1
        · rw [h31, show j + 2 = j + 1 + 1 by omega]; exact hj'
      · have z' := Decidable.not_not.mp (mt wdm_0.mpr z)
        have hS4 := PS_step hE3 v2 (by first | decide | omega)
        have hLT3 := LT_k hLT (fF_t gF2 g1) (fG_t gG2 g2) (fK_t (fK_K (fB_K hB2) (lo := x) (pl := F 3 0 15) (Int.le_refl _) (Int.le_refl _) (Or.inr ⟨by decide, Int.le_refl _⟩)) (fK_K hK3 (by first | decide | omega) (Int.le_refl _) (Or.inl ⟨rfl, rfl⟩))) (by decide) (fJ_H (fr := 0) (j := 0) g4 (by first | decide | omega))
        have hLT4 := LT_k (k0 := 0) (x0 := 0) (lo := 0) (pl := 0) (fr := 0) (j := 0) hLT3 (fF_a (B := B3) fF_r) (fG_u (k := 16) (v := j3 + 1) fG_r (by decide) (by decide)) fK_r (by decide) (fJ_H fH_r (Int.le_refl _))
        obtain ⟨kk, hkk⟩ : ∃ y, K.1 = y + 1 := ⟨K.1 - 1, (by first | decide | omega)⟩
        rw [if_neg z, if_neg z, hoa, hM3.1]
        unfold fb_Parser_takeAlternatives
        rw [if_pos ⟨Int.le_refl _, k3⟩, v2.1, if_pos ⟨Int.le_refl _, k10⟩, C_adv hX3]
        simp only [zb_s, zb_a]
        rw [hkk, f_Parser_takeAlternatives_11]
        rw [if_pos (show r32 0 by decide), if_neg (show ¬ (3000 : Int) ≤ 0 by decide), if_pos (show r32 (-1) by decide), if_pos rfl]
        rw [show ∀ X, zbind (om'.1 (zup3 Fm3 14 0 16 (j3 + 1)) Bm3) (fun _ F2 B2 => zbind (f_M_itemOfWord_103 om' Km Km F2 B2) X) = zbind (zbind (om'.1 (zup3 Fm3 14 0 16 (j3 + 1)) Bm3) (fun _ F2 B2 => f_M_itemOfWord_103 om' Km Km F2 B2)) X from fun X => zb_a.symm]
        refine zP_c (P_alt (x := x) (o := o'') (om := om') hx hBk2 (q := 3001 - 1) (m := kk) (m' := Km) (i := 0) (last := -1) (j := j3 + 1) (x0 := x) (k0 := 3) (by first | decide | omega) (by first | decide | omega) (by first | decide | omega) (by first | decide | omega) (by first | decide | omega) (Or.inl ⟨rfl, rfl, rfl⟩) hx.1 (by rw [advF_o (by decide)]; omega) (by rw [advF_o (by decide)]; omega) hE3 hS4 (by rw [advF_o (by decide)]; omega) (by rw [advF_o (by decide)]; omega) hLT4) (fun r F5 B5 r' Fm5 Bm5 hh => ?_)
        obtain ⟨y1, y2, y3, y4, y5⟩ := hh
        have d14 : (advF F3 B3) 3 0 14 = F3 3 0 14 := advF_o (by decide)
        have d15 : (advF F3 B3) 3 0 15 = F3 3 0 15 := advF_o (by decide)
        have d18 : (advF F3 B3) 3 0 18 = F3 3 0 18 := advF_o (by decide)
        rw [d14, d15] at y3
        have hr : r = 0 ∨ r = 1 := by
          rcases y5 with q | q
          · exact Or.inr q.1
          · exact Or.inl q.1
        have gB : fB x (F 3 0 15) B B5 := fun c i k y a b => by
          rw [y3 c i k y (fun q => a ⟨q.1, q.2.1, q.2.2.1, by have := q.2.2.2; omega⟩) (fun q => b ⟨q.1, q.2.1, q.2.2.1, q.2.2.2.1, by have := q.2.2.2.2; omega⟩) (fun q => a ⟨q.1, q.2.1, by have := q.2.2.1; omega, by have := q.2.2.2; omega⟩)]
          rw [hK3 c i k y (fun q => a ⟨q.1, q.2.1, q.2.2.1, by have := q.2.2.2; omega⟩) b (fun q => a ⟨q.1, q.2.1, by have := q.2.2.1; omega, by have := q.2.2.2; omega⟩)]
          exact hB2 c i k y a b
        have gFF := fF_t (fF_t gF2 g1) (fF_t (fF_a (B := B3) fF_r) y1)
        have gGG := fG_t (fG_t gG2 g2) (fG_t (fG_u fG_r (by decide) (by decide)) y2)
        have gHH : fH j Bm Bm5 := fH_t (fH_m g4 (by first | decide | omega)) (fH_m y4 (by first | decide | omega))
        have fin : (if r32 r then (if r = 0 then some (0, F5, B5) else some (1, F5, B5)) else none) = some (r, F5, B5) := by
          rcases hr with rfl | rfl
          · rw [ir0, i00]
          · rw [ir1, i10]
        rw [L_202 (by first | decide | omega), fin]
        simp only [zb_s]
        rw [if_pos hr]
        refine zP_s ⟨gFF, gGG, gB, fH_t gHH hH0, ?_⟩
        rcases y5 with ⟨rfl, j5, n5, u1, u2, u3, u4, u5, u6, u7⟩ | er
        · rw [d14] at u4 u6
          rw [d15] at u5 u6
          rw [d18] at u3
          have gk5 : ∀ k, k ≤ 7 → k ≠ 4 → k ≠ 3 → B5 3 0 k x = (zup4 B 3 0 2 x (Bm 14 0 9 (j + 1))) 3 0 k x := fun k p q q3 => by
            rw [y3 3 0 k x (fun w => by have := w.2.2.2; omega) (fun w => by have := w.2.2.1; omega) (fun w => q3 w.2.2.1)]; exact gk3 k p q
          have e4 : B5 3 0 4 x = B3 3 0 4 x := y3 3 0 4 x (fun w => by have := w.2.2.2; omega) (fun w => absurd w.2.2.1 (by decide)) (fun w => absurd w.2.2.1 (by decide))
          refine Or.inl ⟨rfl, Or.inl ⟨j5, (by first | decide | omega), PS_f (lo := 0) (pl := 0) u2 fB_r hH0, ?_, (by first | decide | omega), (by first | decide | omega), (by first | decide | omega), ?_, ?_⟩⟩
          · simp [zup4_v]; exact u2.2.2.1
          · rw [gk5 5 (by decide) (by decide) (by decide), fX_3 hXA (by decide) (by decide)]; exact hF.2.2.2.2.2.1
          · intro Bx By ab am
            rw [u2.2.2.1] at am
            have gx : ∀ k, k ≤ 7 → k ≠ 5 → Bx 3 0 k x = B5 3 0 k x := fun k p q => ab.1 k x p (Int.le_refl _) (by first | decide | omega) (fun w => q w.1)
            have w : ∀ k, 7 ≤ k → k ≤ 11 → By 14 0 k = Bm 14 0 k := fun k p q => by
              rw [am.2.1 k p q]
              funext y
              rw [zup4_v, if_neg (fun w => by have := w.2.2.1; omega), fH_k gHH k (by first | decide | omega)]
            have e30 : By 14 0 30 (j + 1 + 1) = j3 - 1 := by
              rw [am.1 30 (j + 1 + 1) (by decide) (by decide) (by first | decide | omega) (by first | decide | omega), zup4_v, if_neg (fun q => absurd q.2.2.1 (by decide)), y4 14 0 30 (j + 1 + 1) (fun q => by have := q.2.2.2.2; omega)]
              exact v3
            have e31 : By 14 0 31 j = j5 := by rw [am.1 31 j (by decide) (by decide) (Int.le_refl _) (by first | decide | omega)]; simp [zup4_v]
            have aM5 : agM L (j + 1) j5 Bm5 (zup4 Bm5 14 0 31 j j5) := ⟨fun k y p q a b => by rw [zup4_v, if_neg (fun w => by have := w.2.2.2; omega)], fun k p q => by funext y; rw [zup4_v, if_neg (fun w => by have := w.2.2.1; omega)], fun q p a => by rw [zup4_v, if_neg (fun w => absurd w.2.2.1 (by decide))]⟩
            have hs : SLR L (d - 1) n (B5 3 0 4 x) (j + 1 + 1 + 1) (j3 - 1) (F 3 0 14) (F3 3 0 14) (F 3 0 15) (F3 3 0 15) B5 (zup4 Bm5 14 0 31 j j5) := by
              rw [e4]
              exact SLR_t v7 (agB_K (k0' := 0) y3 (Int.le_refl _) (Int.le_refl _) (by first | decide | omega) (by decide)) (agM_t (agM_f y4 (by first | decide | omega)) (agM_m aM5 (by first | decide | omega) (by first | decide | omega)))
            have bk : BKf (IRd L (d - 1)) Bx By x (j + 1 + 1) := BK_of ab am hs (by rw [zup4_v, if_neg (fun q => absurd q.2.2.1 (by decide)), y4 14 0 30 (j + 1 + 1) (fun q => by have := q.2.2.2.2; omega)]; exact v3) (by first | decide | omega) (by first | decide | omega) (Int.le_refl _) (by first | decide | omega) (by first | decide | omega) (by first | decide | omega) (by first | decide | omega) (by first | decide | omega) (by have h1 := hE.1.2.1; have h2 := v2.2.1.1.2; omega)
            obtain ⟨p1, p0⟩ := IRn_at hF gx w (fun k hk => by rw [gk5 k (by first | decide | omega) (by first | decide | omega) (by first | decide | omega), fX_3 hXA (by simp; omega) (by first | decide | omega)]) (R := IRd L (d - 1))
            obtain ⟨d', rfl⟩ : ∃ y, d = y + 1 := ⟨d - 1, (by first | decide | omega)⟩
            refine Or.inr ⟨p1, Or.inr (Or.inl ⟨p0, wdAt_c wd w, ?_, ?_, Or.inr ⟨n5, ?_⟩⟩)⟩
            · rw [gx 2 (by decide) (by decide), gk5 2 (by decide) (by decide) (by decide)]
              simp only [zup4_v]
              exact nmAt_c ⟨n1, by simp, by simpa using n2, by simpa using n3⟩ w
            · rw [show j + 2 = j + 1 + 1 by omega]; exact bk
            · rw [gx 3 (by decide) (by decide), e31, show j + 2 = j + 1 + 1 by omega, e30, show j3 - 1 + 2 = j3 + 1 by omega]
              exact u6 Bx By (agB_m ab (by first | decide | omega) (Int.le_refl _) (by first | decide | omega) (Int.le_refl _) (Or.inr (Or.inl (by first | decide | omega)))) (agM_t (agM_m aM5 (by first | decide | omega) (Int.le_refl _)) (agM_m am (by first | decide | omega) (Int.le_refl _)))
        · exact Or.inr er
    · simp only [ir0, i00, zb_s]
      rw [L_goodB er.2]
      simp only [zb_s, ir0, if_true]
      rw [if_pos (by decide), L_202 (by first | decide | omega)]
      refine zP_s ⟨fF_t gF2 g1, fG_t gG2 g2, ?_, fH_t (fH_m g4 (by first | decide | omega)) hH0, Or.inr ⟨rfl, er⟩⟩
      intro c i k y a b
      rw [g3 c i k y (fun q => a ⟨q.1, q.2.1, q.2.2.1, by have := q.2.2.2; omega⟩) b (fun q => a ⟨q.1, q.2.1, by have := q.2.2.1; omega, by have := q.2.2.2; omega⟩)]
      exact hB2 c i k y a b
  · rw [c1, m1]
    simp only [zb_s, zb_a, ir0, i00]
    rw [hBd er.2]
    simp only [zb_s]
    rw [L_goodB er.2]
    simp only [zb_s, ir0, if_true]
    rw [if_pos (by decide), L_202 (by first | decide | omega)]
    exact zP_s ⟨fF_e gF, fG_e gG, fB_r, hH0, Or.inr ⟨rfl, er⟩⟩
end
