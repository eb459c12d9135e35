section
/-! ===== back, slow, mirror, move, on both sides ===== -/
theorem IRn_at {R : zB → zB → Int → Int → Prop} {B0 B' Bx Bm By : zB} {x j s : Int} (hF : fresh B0 Bm x j s) (gx : ∀ k, k ≤ 7 → k ≠ 5 → Bx 3 0 k x = B' 3 0 k x) (w : ∀ k, 7 ≤ k → k ≤ 11 → By 14 0 k = Bm 14 0 k) (g0 : ∀ k, k ≤ 1 → B' 3 0 k x = B0 3 0 k x) : Bx 3 0 1 x = By 14 0 8 j ∧ Bx 3 0 0 x = s := by
  rw [gx 1 (by decide) (by decide), gx 0 (by decide) (by decide), g0 1 (by decide), g0 0 (by decide), w 8 (by decide) (by decide)]
  exact ⟨hF.2.1, hF.1⟩
theorem wdAt_c {Bm By : zB} {j v : Int} (h : wdAt Bm j v) (w : ∀ k, 7 ≤ k → k ≤ 11 → By 14 0 k = Bm 14 0 k) : wdAt By j v := by
  unfold wdAt at *
  rw [w 7 (by decide) (by decide), w 11 (by decide) (by decide)]; exact h
theorem sgAt_c {Bm By : zB} {j v : Int} (h : sgAt Bm j v) (w : ∀ k, 7 ≤ k → k ≤ 11 → By 14 0 k = Bm 14 0 k) : sgAt By j v := by
  unfold sgAt at *
  rw [w 7 (by decide) (by decide), w 9 (by decide) (by decide)]; exact h
theorem nmAt_c {Bm By : zB} {j v lo hi : Int} (h : nmAt Bm j v lo hi) (w : ∀ k, 7 ≤ k → k ≤ 11 → By 14 0 k = Bm 14 0 k) : nmAt By j v lo hi := by
  unfold nmAt at *
  rw [w 7 (by decide) (by decide), w 9 (by decide) (by decide)]; exact h
theorem mvV_c {Bm By : zB} {j : Int} (w : ∀ k, 7 ≤ k → k ≤ 11 → By 14 0 k = Bm 14 0 k) : mvV By j = mvV Bm j := by
  unfold mvV
  rw [w 9 (by decide) (by decide), w 10 (by decide) (by decide)]
theorem BPO_r {L : Int} {d : Nat} {N j x r : Int} {F : zF} {B : zB} {Fm : zF} {Bm : zB} {F' : zF} {B' : zB} {Fm' : zF} {Bm' : zB} (h : BPO L d N j x F B Fm Bm r F' B' Fm' Bm') : r = 0 ∨ r = 1 := by
  rcases h.2.2.2.2 with z | z
  · exact Or.inr z.1
  · exact Or.inl z.1
theorem P_back {L : Int} {d : Nat} {K : zK} {Km : Nat} {N j x : Int} {o : oT_CP} {om om' : oT_P} {F : zF} {B : zB} {Fm : zF} {Bm : zB} (hx : 0 ≤ x ∧ x < 3000) (hxi : x + 1 = F 3 0 14) (hij : F 3 0 14 ≤ j + 1) (hE : EV K Km N B Bm) (hS : PS N j F B Fm Bm) (hd : F 3 0 18 + d = 8) (hdp : 1 ≤ F 3 0 18) (hLT : LT L F B Fm Bm) (hF : fresh B Bm x j 8) (wd : wdAt Bm j 1650549611) (ho : ∀ F B, om.2.2.2 F B = fb_M_itemOfWord om' Km F B) (hBk : BlkSim L K Km N d o.1 om'.1) : zP (fb_Parser_takeItem o K 0 x F B) (fb_M_item om Km Fm Bm) (fun r F' B' _ Fm' Bm' => IPO L d N j x F B Fm Bm r F' B' Fm' Bm') := by
  have hM := PS_MX hE hS
  have h4 := wd.1
  have jj := hS.2.1.1
  have nn := hE.1.2.1
  have t : ∀ c, r64 c → f_M_isWord Km c Fm Bm = some (if 1650549611 = c then 1 else 0, Fm, Bm) := fun c hc => L_wd hM wd hc
  have hS1 := PS_step hE hS (by first | decide | omega)
  have a14 : (advF F B) 3 0 14 = F 3 0 14 := advF_o (by decide)
  have a15 : (advF F B) 3 0 15 = F 3 0 15 := advF_o (by decide)
  have a18 : (advF F B) 3 0 18 = F 3 0 18 := advF_o (by decide)
  have gF : fF F (advF F B) := fF_a fF_r
  have gG : fG Fm (zup3 Fm 14 0 16 (j + 1)) := fG_u fG_r (by decide) (by decide)
  have hLT1 := LT_k (k0 := 0) (x0 := 0) (lo := 0) (pl := 0) (fr := 0) (j := 0) hLT gF gG fK_r (by decide) (fJ_H fH_r (Int.le_refl _))
  rw [C_itemB (PS_CX hE hS) hx hF.1, L_itemW hM wd ho]
  unfold fb_M_itemOfWord f_M_itemOfWord_389
  simp only [t 114 (by decide), t 125780002955636 (by decide), t 7697253 (by decide), t 1836021349 (by decide), t 120299659095922 (by decide), t 1650549611 (by decide), zb_s, zb_a, ir0, ir1, if_true, if_false, Int.reduceEq, hM.1]
  refine zP_c (hBk (x := x) (j := j + 1) hx.1 (by first | decide | omega) (by first | decide | omega) hE hS1 (by first | decide | omega) (PS_pw hS1 (by first | decide | omega)) hLT1 hF.2.2.2.2.1) (fun r F' B' r' Fm' Bm' hh => ?_)
  have hr := BPO_r hh
  rw [L_202 (by first | decide | omega), if_pos hr]
  refine zP_s (IPO_B hh hE.1.2.1 (by first | decide | omega) hxi gF gG fB_r a14 a15 a18 hF.2.2.2.2.2.1 ?_ hr)
  intro j' n Bx By _ _ _ bk _ _ _ gx w g0
  obtain ⟨p1, p0⟩ := IRn_at hF gx w (fun k hk => g0 k (by first | decide | omega) (by first | decide | omega)) (R := IRd L (d - 1))
  exact ⟨p1, Or.inr (Or.inr (Or.inr (Or.inr (Or.inl ⟨p0, wdAt_c wd w, bk⟩))))⟩
theorem P_slow {L : Int} {d : Nat} {K : zK} {Km : Nat} {N j x : Int} {o : oT_CP} {om om' : oT_P} {F : zF} {B : zB} {Fm : zF} {Bm : zB} (hx : 0 ≤ x ∧ x < 3000) (hxi : x + 1 = F 3 0 14) (hij : F 3 0 14 ≤ j + 1) (hE : EV K Km N B Bm) (hS : PS N j F B Fm Bm) (hd : F 3 0 18 + d = 8) (hdp : 1 ≤ F 3 0 18) (hLT : LT L F B Fm Bm) (hF : fresh B Bm x j 9) (wd : wdAt Bm j 1936486263) (ho : ∀ F B, om.2.2.2 F B = fb_M_itemOfWord om' Km F B) (hBk : BlkSim L K Km N d o.1 om'.1) (hBd : BlkBad om'.1) : zP (fb_Parser_takeItem o K 0 x F B) (fb_M_item om Km Fm Bm) (fun r F' B' _ Fm' Bm' => IPO L d N j x F B Fm Bm r F' B' Fm' Bm') := by
  have hM := PS_MX hE hS
  have h4 := wd.1
  have jj := hS.2.1.1
  have nn := hE.1.2.1
  have t : ∀ c, r64 c → f_M_isWord Km c Fm Bm = some (if 1936486263 = c then 1 else 0, Fm, Bm) := fun c hc => L_wd hM wd hc
  have hS1 := PS_step hE hS (by first | decide | omega)
  have a14 : (advF F B) 3 0 14 = F 3 0 14 := advF_o (by decide)
  have a15 : (advF F B) 3 0 15 = F 3 0 15 := advF_o (by decide)
  have a18 : (advF F B) 3 0 18 = F 3 0 18 := advF_o (by decide)
  have gF : fF F (advF F B) := fF_a fF_r
  have gG : fG Fm (zup3 Fm 14 0 16 (j + 1)) := fG_u fG_r (by decide) (by decide)
  rw [C_itemS (PS_CX hE hS) hx hF.1, L_itemW hM wd ho]
  unfold fb_M_itemOfWord f_M_itemOfWord_389
  simp only [t 114 (by decide), t 125780002955636 (by decide), t 7697253 (by decide), t 1836021349 (by decide), t 120299659095922 (by decide), t 1650549611 (by decide), t 1936486263 (by decide), zb_s, zb_a, ir0, ir1, if_true, if_false, Int.reduceEq, hM.1]
  refine P_frac hx hE hS1 (by decide) (by decide) ?_ ?_
  · intro F1 B1 Fm1 r1 q1 q2 q3 q4 q5 q6 q7 q8 q9
    rw [a14] at q7
    rw [a15] at q3 q8
    rw [a18] at q9
    simp only [ir1, i10]
    have hB1 := fX_B (lo := x) q3 (by decide) (Int.le_refl _)
    have gF1 := fF_t gF q1
    have gG1 := fG_t gG q2
    have hLT1 := LT_k (fr := 0) (j := 0) hLT gF1 gG1 (fB_K hB1) (by decide) (fJ_H fH_r (Int.le_refl _))
    refine zP_c (hBk (x := x) (j := j + 1 + 3) hx.1 (by first | decide | omega) (by first | decide | omega) (EV_f hE hB1 (fH_r (fr := 0))) q4 (by first | decide | omega) (PS_pw q4 (by first | decide | omega)) hLT1 (by rw [fX_3 q3 (by decide) (by decide)]; exact hF.2.2.2.2.1)) (fun r F' B' r' Fm' Bm' hh => ?_)
    have hr := BPO_r hh
    have fin := IPO_B (j := j) hh hE.1.2.1 (by first | decide | omega) hxi gF1 gG1 hB1 q7 q8 q9 (by rw [fX_3 q3 (by decide) (by decide)]; exact hF.2.2.2.2.2.1) (by
      intro j' n Bx By _ _ _ bk _ _ _ gx w g0
      obtain ⟨p1, p0⟩ := IRn_at hF gx w (fun k hk => by rw [g0 k (by first | decide | omega) (by first | decide | omega), fX_3 q3 (by simp; omega) (by first | decide | omega)]) (R := IRd L (d - 1))
      refine ⟨p1, Or.inr (Or.inr (Or.inr (Or.inr (Or.inr ⟨p0, wdAt_c wd w, ?_, ?_, ?_⟩))))⟩
      · rw [gx 2 (by decide) (by decide), g0 2 (by decide) (by decide)]; exact nmAt_c q5 w
      · rw [gx 3 (by decide) (by decide), g0 3 (by decide) (by decide)]
        rw [show j + 1 + 2 = j + 3 by omega] at q6
        exact nmAt_c q6 w
      · rw [show j + 4 = j + 1 + 3 by omega]; exact bk) hr
    rw [L_202 (by first | decide | omega)]
    rcases hr with rfl | rfl
    · simp only [ir0, i00]; exact zP_s fin
    · simp only [ir1, i10]; exact zP_s fin
  · intro F1 B1 Fm1 r1 q1 q2 q3 er
    rw [a15] at q3
    simp only [ir0, i00]
    rw [hBd er.2]
    simp only [zb_s]
    rw [L_202 (by first | decide | omega)]
    exact zP_s ⟨fF_t gF q1, fG_t gG q2, fX_B q3 (by decide) (Int.le_refl _), fH_u fH_r (by decide) (by decide) (Int.le_refl _), Or.inr ⟨rfl, er⟩⟩
end
