section
/-! ===== mirror and move, on both sides ===== -/
theorem L_252e {o : oT_P} {Km n : Nat} {l : Int} {Fm : zF} {Bm : zB} (hl : r32 l) : f_M_itemOfWord_252 o Km (n + 1) l l Fm Bm = zbind (o.1 Fm Bm) (fun _ F B => some (0, F, B)) := by
  unfold f_M_itemOfWord_252 f_M_itemOfWord_300 f_M_itemOfWord_389
  rw [if_pos hl, if_pos hl, if_pos (Int.le_refl _)]
theorem L_252p {o : oT_P} {Km n : Nat} {l m j : Int} {Fm : zF} {Bm : zB} (hl : r32 l) (hm : r32 m) (h : l < m) (hg : Fm 14 0 17 = 0) (hM : MX Fm Bm j) (h2 : Bm 14 0 7 j = 2) : f_M_itemOfWord_252 o Km (n + 1) l m Fm Bm = f_M_itemOfWord_252 o Km n (l + 1) m (zup3 Fm 14 0 16 (j + 1)) Bm := by
  have h16 := hM.1
  have h0 := hM.2.1
  rw [f_M_itemOfWord_252]
  rw [if_pos hl, if_pos hm, if_neg (by first | decide | omega), L_good hg]
  simp only [zb_s, ir1, if_false, Int.reduceEq]
  unfold f_M_itemOfWord_294
  rw [h16, if_pos (by first | decide | omega), if_pos (by first | decide | omega), if_pos h2]
theorem L_252w {o : oT_P} {Km n : Nat} {l m j : Int} {Fm : zF} {Bm : zB} (hl : r32 l) (hm : r32 m) (h : l < m) (hl2 : r32 (l + 1)) (hn : 0 < n) (hg : Fm 14 0 17 = 0) (hM : MX Fm Bm j) (h2 : ¬ Bm 14 0 7 j = 2) (hB : BlkBad o.1) : f_M_itemOfWord_252 o Km (n + 1) l m Fm Bm = some (0, errM Fm Bm (wr Bm j), Bm) := by
  have h16 := hM.1
  have h0 := hM.2.1
  have hk := hM.2.2.1
  obtain ⟨n, rfl⟩ : ∃ y, n = y + 1 := ⟨n - 1, (by first | decide | omega)⟩
  have hb : bad (errM Fm Bm (wr Bm j)) := by
    unfold bad errM wr
    simp only [zup3_v]
    simp
    split <;> omega
  rw [f_M_itemOfWord_252]
  rw [if_pos hl, if_pos hm, if_neg (by first | decide | omega), L_good hg]
  simp only [zb_s, ir1, if_false, Int.reduceEq]
  unfold f_M_itemOfWord_294
  rw [h16, if_pos (by first | decide | omega), if_pos (by first | decide | omega), if_neg h2, L_wrong hg hM]
  simp only [zb_s]
  rw [f_M_itemOfWord_252]
  unfold f_M_itemOfWord_300 f_M_itemOfWord_389
  rw [if_pos hl2, if_pos hm, hB hb, L_goodB hb]
  simp only [zb_s, ir0, if_true]
  split <;> first | rfl | (rw [hB hb]; rfl)
theorem P_mirror {L : Int} {d : Nat} {K : zK} {Km : Nat} {N j x : Int} {o o' : oT_CP} {om om' : oT_P} {F : zF} {B : zB} {Fm : zF} {Bm : zB} (hx : 0 ≤ x ∧ x < 3000) (hxi : x + 1 = F 3 0 14) (hij : F 3 0 14 ≤ j + 1) (hE : EV K Km N B Bm) (hS : PS N j F B Fm Bm) (hd : F 3 0 18 + d = 8) (hdp : 1 ≤ F 3 0 18) (hLT : LT L F B Fm Bm) (hF : fresh B Bm x j 7) (wd : wdAt Bm j 120299659095922) (ho : ∀ F B, om.2.2.2 F B = fb_M_itemOfWord om' Km F B) (hoc : ∀ l0 l1 F B, o.2.2.2.2.2.2.2 l0 l1 F B = fb_Parser_takeMirror o' K l0 l1 F B) (hBk : BlkSim L K Km N d o'.1 om'.1) (hBd : BlkBad om'.1) : zP (fb_Parser_takeItem o K 0 x F B) (fb_M_item om Km Fm Bm) (fun r F' B' _ Fm' Bm' => IPO L d N j x F B Fm Bm r F' B' Fm' Bm') := by
  have hM := PS_MX hE hS
  have h4 := wd.1
  have jj := hS.2.1.1
  have nn := hE.1.2.1
  have km := hE.2.2.2.2.2.2
  have k3 := hE.2.2.2.1
  have k10 := hE.2.2.2.2.1
  have t : ∀ c, r64 c → f_M_isWord Km c Fm Bm = some (if 120299659095922 = c then 1 else 0, Fm, Bm) := fun c hc => L_wd hM wd hc
  have hS1 := PS_step hE hS (by first | decide | omega)
  have hX1 := PS_CX hE hS1
  have hM1 := PS_MX hE hS1
  have hg1 := hS1.2.2.2.1
  have e11 := hS1.1
  have a14 : (advF F B) 3 0 14 = F 3 0 14 := advF_o (by decide)
  have a15 : (advF F B) 3 0 15 = F 3 0 15 := advF_o (by decide)
  have a18 : (advF F B) 3 0 18 = F 3 0 18 := advF_o (by decide)
  have gF : fF F (advF F B) := fF_a fF_r
  have gG : fG Fm (zup3 Fm 14 0 16 (j + 1)) := fG_u fG_r (by decide) (by decide)
  obtain ⟨kk, rfl⟩ : ∃ y, Km = y + 1 + 1 := ⟨Km - 2, (by first | decide | omega)⟩
  rw [C_itemI (PS_CX hE hS) hx hF.1, L_itemW hM wd ho]
  unfold fb_M_itemOfWord f_M_itemOfWord_224 f_M_itemOfWord_239
  simp only [t 114 (by decide), t 125780002955636 (by decide), t 7697253 (by decide), t 1836021349 (by decide), t 120299659095922 (by decide), zb_s, ir0, ir1, if_true, if_false, Int.reduceEq, hM.1]
  rw [hoc]
  unfold fb_Parser_takeMirror
  rw [if_pos ⟨(by first | decide | omega), k3⟩, e11, if_pos ⟨(by first | decide | omega), k10⟩, if_pos (by have := hX1.2.2.2.1; omega), hS1.2.1.2.1]
  by_cases k2 : Bm 14 0 7 (j + 1) = 2
  · obtain ⟨s3, s4⟩ := hS1.2.1.2.2.2.2.1 k2
    have tk := hE.1.2.2 (j + 1) hS1.2.1.1.1 hS1.2.1.1.2
    obtain ⟨_, v1, v2, v3, v4⟩ := tk.2.2.2.2.1 k2
    have hXA : fX [2, 3] x (F 3 0 15) B (zup4 B 3 0 2 x (2 * Bm 14 0 9 (j + 1))) := fX_u fX_r (Or.inl ⟨by decide, rfl⟩)
    have hXB : fX [2, 3] x (F 3 0 15) B (zup4 (zup4 B 3 0 2 x (2 * Bm 14 0 9 (j + 1))) 3 0 3 x (2 * (tnv (Bm 14 0 9 (j + 1)) + Bm 14 0 10 (j + 1)))) := fX_u hXA (Or.inl ⟨by decide, rfl⟩)
    have hB2 := fX_B (lo := x) hXB (by decide) (Int.le_refl _)
    have hE2 := EV_f hE hB2 (fH_r (fr := 0))
    have hS2 := PS_f hS1 hB2 (fH_r (fr := 0))
    have hS3 := PS_step hE2 hS2 (by first | decide | omega)
    rw [if_pos k2, if_pos hx, s3, C_nat v1 v2, L_252p (by decide) (by decide) (by first | decide | omega) hg1 hM1 k2, show (0 : Int) + 1 = 1 from rfl, L_252e (by decide)]
    simp only [zb_s]
    rw [e11, if_pos ⟨(by first | decide | omega), k10⟩, s4, C_adv (CX_b (CX_b hX1))]
    simp only [zb_s, zb_a]
    have gF1 : fF F (advF (advF F B) (zup4 (zup4 B 3 0 2 x (2 * Bm 14 0 9 (j + 1))) 3 0 3 x (2 * (tnv (Bm 14 0 9 (j + 1)) + Bm 14 0 10 (j + 1))))) := fF_a gF
    have gG1 : fG Fm (zup3 (zup3 Fm 14 0 16 (j + 1)) 14 0 16 (j + 1 + 1)) := fG_u gG (by decide) (by decide)
    have hLT1 := LT_k (fr := 0) (j := 0) hLT gF1 gG1 (fB_K hB2) (by decide) (fJ_H fH_r (Int.le_refl _))
    refine zP_c (hBk (x := x) (j := j + 1 + 1) hx.1 (by rw [advF_o (by decide)]; omega) (by rw [advF_o (by decide)]; omega) hE2 hS3 (by rw [advF_o (by decide)]; omega) (PS_pw hS3 (by rw [advF_o (by decide)]; omega)) hLT1 (by rw [fX_3 hXB (by decide) (by decide)]; exact hF.2.2.2.2.1)) (fun r F' B' r' Fm' Bm' hh => ?_)
    have hr := BPO_r hh
    rw [if_pos hr]
    simp only [zb_s]
    rw [if_pos hr, L_202 (by first | decide | omega)]
    refine zP_s (IPO_B (j := j) hh hE.1.2.1 (by first | decide | omega) hxi gF1 gG1 hB2 (by rw [advF_o (by decide)]; exact a14) (by rw [advF_o (by decide)]; exact a15) (by rw [advF_o (by decide)]; exact a18) (by rw [fX_3 hXB (by decide) (by decide)]; exact hF.2.2.2.2.2.1) ?_ hr)
    intro j' n Bx By _ _ _ bk _ _ _ gx w g0
    obtain ⟨p1, p0⟩ := IRn_at hF gx w (fun k hk => by rw [g0 k (by first | decide | omega) (by first | decide | omega), fX_3 hXB (by simp; omega) (by first | decide | omega)]) (R := IRd L (d - 1))
    refine ⟨p1, Or.inr (Or.inr (Or.inr (Or.inl ⟨p0, wdAt_c wd w, ?_, ?_, ?_, ?_⟩)))⟩
    · rw [w 7 (by decide) (by decide)]; exact k2
    · rw [gx 2 (by decide) (by decide), g0 2 (by decide) (by decide), w 9 (by decide) (by decide)]; simp [zup4_v]
    · rw [gx 3 (by decide) (by decide), g0 3 (by decide) (by decide), mvV_c w]; simp [zup4_v, mvV]
    · rw [show j + 2 = j + 1 + 1 by omega]; exact bk
  · have er := PS_err2 hE hS1
    rw [if_neg k2, C_refuse hX1, L_252w (by decide) (by decide) (by first | decide | omega) (by decide) (by first | decide | omega) hg1 hM1 k2 hBd]
    simp only [zb_s]
    rw [if_pos (by decide)]
    simp only [zb_s]
    rw [if_pos (by decide), L_202 (by first | decide | omega)]
    exact zP_s ⟨fF_e gF, fG_e gG, fB_r, fH_u fH_r (by decide) (by decide) (Int.le_refl _), Or.inr ⟨rfl, er⟩⟩
theorem P_move {L : Int} {d : Nat} {K : zK} {Km : Nat} {N j x : Int} {o o' : oT_CP} {om om' : oT_P} {F : zF} {B : zB} {Fm : zF} {Bm : zB} (hx : 0 ≤ x ∧ x < 3000) (hxi : x + 1 = F 3 0 14) (hij : F 3 0 14 ≤ j + 1) (hE : EV K Km N B Bm) (hS : PS N j F B Fm Bm) (hd : F 3 0 18 + d = 8) (hdp : 1 ≤ F 3 0 18) (hLT : LT L F B Fm Bm) (hF : fresh B Bm x j 6) (wd : wdAt Bm j 1836021349) (ho : ∀ F B, om.2.2.2 F B = fb_M_itemOfWord om' Km F B) (hoc : ∀ l0 l1 F B, o.2.2.2.2.2.2.1 l0 l1 F B = fb_Parser_takeMove o' K l0 l1 F B) (hBk : BlkSim L K Km N d o'.1 om'.1) (hBd : BlkBad om'.1) : zP (fb_Parser_takeItem o K 0 x F B) (fb_M_item om Km Fm Bm) (fun r F' B' _ Fm' Bm' => IPO L d N j x F B Fm Bm r F' B' Fm' Bm') := by
  have hM := PS_MX hE hS
  have h4 := wd.1
  have jj := hS.2.1.1
  have nn := hE.1.2.1
  have km := hE.2.2.2.2.2.2
  have k3 := hE.2.2.2.1
  have k10 := hE.2.2.2.2.1
  have t : ∀ c, r64 c → f_M_isWord Km c Fm Bm = some (if 1836021349 = c then 1 else 0, Fm, Bm) := fun c hc => L_wd hM wd hc
  have hS1 := PS_step hE hS (by first | decide | omega)
  have hX1 := PS_CX hE hS1
  have hM1 := PS_MX hE hS1
  have hg1 := hS1.2.2.2.1
  have e11 := hS1.1
  have a14 : (advF F B) 3 0 14 = F 3 0 14 := advF_o (by decide)
  have a15 : (advF F B) 3 0 15 = F 3 0 15 := advF_o (by decide)
  have a18 : (advF F B) 3 0 18 = F 3 0 18 := advF_o (by decide)
  have gF : fF F (advF F B) := fF_a fF_r
  have gG : fG Fm (zup3 Fm 14 0 16 (j + 1)) := fG_u fG_r (by decide) (by decide)
  obtain ⟨kk, rfl⟩ : ∃ y, Km = y + 1 + 1 + 1 := ⟨Km - 3, (by first | decide | omega)⟩
  rw [C_itemM (PS_CX hE hS) hx hF.1, L_itemW hM wd ho]
  unfold fb_M_itemOfWord f_M_itemOfWord_224 f_M_itemOfWord_239
  simp only [t 114 (by decide), t 125780002955636 (by decide), t 7697253 (by decide), t 1836021349 (by decide), zb_s, ir0, ir1, if_true, if_false, Int.reduceEq, hM.1]
  rw [hoc]
  unfold fb_Parser_takeMove
  rw [if_pos ⟨(by first | decide | omega), k3⟩, e11, if_pos ⟨(by first | decide | omega), k10⟩, if_pos (by have := hX1.2.2.2.1; omega), hS1.2.1.2.1]
  by_cases k2 : Bm 14 0 7 (j + 1) = 2
  · obtain ⟨s3, s4⟩ := hS1.2.1.2.2.2.2.1 k2
    have tk := hE.1.2.2 (j + 1) hS1.2.1.1.1 hS1.2.1.1.2
    obtain ⟨_, v1, v2, v3, v4⟩ := tk.2.2.2.2.1 k2
    have hS2 := PS_step hE hS1 (by first | decide | omega)
    have hX2 := PS_CX hE hS2
    have hM2 := PS_MX hE hS2
    have hg2 := hS2.2.2.2.1
    rw [if_pos k2, s3, C_nat v1 v2, L_252p (by decide) (by decide) (by first | decide | omega) hg1 hM1 k2]
    simp only [zb_s]
    rw [e11, if_pos ⟨(by first | decide | omega), k10⟩, s4, C_adv hX1]
    simp only [zb_s]
    rw [hS2.1, if_pos ⟨(by first | decide | omega), k10⟩, if_pos (by have := hX2.2.2.2.1; omega), hS2.2.1.2.1]
    by_cases k4 : Bm 14 0 7 (j + 1 + 1) = 2
    · obtain ⟨s5, s6⟩ := hS2.2.1.2.2.2.2.1 k4
      have tk2 := hE.1.2.2 (j + 1 + 1) hS2.2.1.1.1 hS2.2.1.1.2
      obtain ⟨_, w1, w2, w3, w4⟩ := tk2.2.2.2.2.1 k4
      have hXA : fX [2, 3] x (F 3 0 15) B (zup4 B 3 0 2 x (Bm 14 0 9 (j + 1 + 1) - Bm 14 0 9 (j + 1))) := fX_u fX_r (Or.inl ⟨by decide, rfl⟩)
      have hXB : fX [2, 3] x (F 3 0 15) B (zup4 (zup4 B 3 0 2 x (Bm 14 0 9 (j + 1 + 1) - Bm 14 0 9 (j + 1))) 3 0 3 x ((tnv (Bm 14 0 9 (j + 1 + 1)) + Bm 14 0 10 (j + 1 + 1)) - (tnv (Bm 14 0 9 (j + 1)) + Bm 14 0 10 (j + 1)))) := fX_u hXA (Or.inl ⟨by decide, rfl⟩)
      have hB2 := fX_B (lo := x) hXB (by decide) (Int.le_refl _)
      have hE2 := EV_f hE hB2 (fH_r (fr := 0))
      have hS2' := PS_f hS2 hB2 (fH_r (fr := 0))
      have hS3 := PS_step hE2 hS2' (by first | decide | omega)
      rw [if_pos k4, if_pos hx, s5, C_nat w1 w2, L_252p (by decide) (by decide) (by first | decide | omega) hg2 hM2 k4, show (0 : Int) + 1 + 1 = 2 from rfl, L_252e (by decide)]
      simp only [zb_s]
      rw [hS2.1, if_pos ⟨(by first | decide | omega), k10⟩, s6, C_adv (CX_b (CX_b hX2))]
      simp only [zb_s, zb_a]
      have gF1 : fF F (advF (advF (advF F B) B) (zup4 (zup4 B 3 0 2 x (Bm 14 0 9 (j + 1 + 1) - Bm 14 0 9 (j + 1))) 3 0 3 x ((tnv (Bm 14 0 9 (j + 1 + 1)) + Bm 14 0 10 (j + 1 + 1)) - (tnv (Bm 14 0 9 (j + 1)) + Bm 14 0 10 (j + 1))))) := fF_a (fF_a gF)
      have gG1 : fG Fm (zup3 (zup3 (zup3 Fm 14 0 16 (j + 1)) 14 0 16 (j + 1 + 1)) 14 0 16 (j + 1 + 1 + 1)) := fG_u (fG_u gG (by decide) (by decide)) (by decide) (by decide)
      have hLT1 := LT_k (fr := 0) (j := 0) hLT gF1 gG1 (fB_K hB2) (by decide) (fJ_H fH_r (Int.le_refl _))
      have b14 : (advF (advF (advF F B) B) (zup4 (zup4 B 3 0 2 x (Bm 14 0 9 (j + 1 + 1) - Bm 14 0 9 (j + 1))) 3 0 3 x ((tnv (Bm 14 0 9 (j + 1 + 1)) + Bm 14 0 10 (j + 1 + 1)) - (tnv (Bm 14 0 9 (j + 1)) + Bm 14 0 10 (j + 1))))) 3 0 14 = F 3 0 14 := by rw [advF_o (by decide), advF_o (by decide)]; exact a14
      have b15 : (advF (advF (advF F B) B) (zup4 (zup4 B 3 0 2 x (Bm 14 0 9 (j + 1 + 1) - Bm 14 0 9 (j + 1))) 3 0 3 x ((tnv (Bm 14 0 9 (j + 1 + 1)) + Bm 14 0 10 (j + 1 + 1)) - (tnv (Bm 14 0 9 (j + 1)) + Bm 14 0 10 (j + 1))))) 3 0 15 = F 3 0 15 := by rw [advF_o (by decide), advF_o (by decide)]; exact a15
      have b18 : (advF (advF (advF F B) B) (zup4 (zup4 B 3 0 2 x (Bm 14 0 9 (j + 1 + 1) - Bm 14 0 9 (j + 1))) 3 0 3 x ((tnv (Bm 14 0 9 (j + 1 + 1)) + Bm 14 0 10 (j + 1 + 1)) - (tnv (Bm 14 0 9 (j + 1)) + Bm 14 0 10 (j + 1))))) 3 0 18 = F 3 0 18 := by rw [advF_o (by decide), advF_o (by decide)]; exact a18
      refine zP_c (hBk (x := x) (j := j + 1 + 1 + 1) hx.1 (by first | decide | omega) (by first | decide | omega) hE2 hS3 (by first | decide | omega) (PS_pw hS3 (by first | decide | omega)) hLT1 (by rw [fX_3 hXB (by decide) (by decide)]; exact hF.2.2.2.2.1)) (fun r F' B' r' Fm' Bm' hh => ?_)
      have hr := BPO_r hh
      rw [if_pos hr]
      simp only [zb_s]
      rw [if_pos hr, L_202 (by first | decide | omega)]
      refine zP_s (IPO_B (j := j) hh hE.1.2.1 (by first | decide | omega) hxi gF1 gG1 hB2 b14 b15 b18 (by rw [fX_3 hXB (by decide) (by decide)]; exact hF.2.2.2.2.2.1) ?_ hr)
      intro j' n Bx By _ _ _ bk _ _ _ gx w g0
      obtain ⟨p1, p0⟩ := IRn_at hF gx w (fun k hk => by rw [g0 k (by first | decide | omega) (by first | decide | omega), fX_3 hXB (by simp; omega) (by first | decide | omega)]) (R := IRd L (d - 1))
      refine ⟨p1, Or.inr (Or.inr (Or.inl ⟨p0, wdAt_c wd w, ?_, ?_, ?_, ?_, ?_⟩))⟩
      · rw [w 7 (by decide) (by decide)]; exact k2
      · rw [w 7 (by decide) (by decide), show j + 2 = j + 1 + 1 by omega]; exact k4
      · rw [gx 2 (by decide) (by decide), g0 2 (by decide) (by decide), w 9 (by decide) (by decide), show j + 2 = j + 1 + 1 by omega]; simp [zup4_v]
      · rw [gx 3 (by decide) (by decide), g0 3 (by decide) (by decide), mvV_c w, mvV_c w, show j + 2 = j + 1 + 1 by omega]; simp [zup4_v, mvV]
      · rw [show j + 3 = j + 1 + 1 + 1 by omega]; exact bk
    · have er := PS_err2 hE hS2
      rw [if_neg k4, C_refuse hX2, L_252w (by decide) (by decide) (by first | decide | omega) (by decide) (by first | decide | omega) hg2 hM2 k4 hBd]
      simp only [zb_s]
      rw [if_pos (by decide)]
      simp only [zb_s]
      rw [if_pos (by decide), L_202 (by first | decide | omega)]
      exact zP_s ⟨fF_e (fF_a gF), fG_e (fG_u gG (by decide) (by decide)), fB_r, fH_u fH_r (by decide) (by decide) (Int.le_refl _), Or.inr ⟨rfl, er⟩⟩
  · have er := PS_err2 hE hS1
    rw [if_neg k2, C_refuse hX1, L_252w (by decide) (by decide) (by first | decide | omega) (by decide) (by first | decide | omega) hg1 hM1 k2 hBd]
    simp only [zb_s]
    rw [if_pos (by decide)]
    simp only [zb_s]
    rw [if_pos (by decide), L_202 (by first | decide | omega)]
    exact zP_s ⟨fF_e gF, fG_e gG, fB_r, fH_u fH_r (by decide) (by decide) (Int.le_refl _), Or.inr ⟨rfl, er⟩⟩
end
