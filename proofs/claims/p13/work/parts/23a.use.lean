section
section
/-! ===== uses and brackets, on both sides ===== -/
theorem nmF_r (k w : Int) : nmF k w = 0 ∨ nmF k w = 1 := by
  by_cases h : k = 4 ∧ nmC w
  · exact Or.inr (nmF_1 h)
  · exact Or.inl (nmF_0 h)
theorem PS_nm {K : zK} {Km : Nat} {N j : Int} {F : zF} {B : zB} {Fm : zF} {Bm : zB} (hE : EV K Km N B Bm) (h : PS N j F B Fm Bm) : nmF (F 10 0 0) (F 10 0 2) = nmF (Bm 14 0 7 j) (Bm 14 0 11 j) := by
  have tk := hE.1.2.2 j h.2.1.1.1 h.2.1.1.2
  have ek := h.2.1.2.1
  have ev := h.2.1.2.2.2.1
  by_cases a : Bm 14 0 7 j = 4
  · rw [ek, ev, (tk.2.2.2.2.2.2.1 a).1]
  · rw [nmF_0 (fun z => a (ek.symm.trans z.1)), nmF_0 (fun z => a z.1)]
theorem P_use {L : Int} {d : Nat} {K : zK} {Km : Nat} {N j x : Int} {o : oT_CP} {om om' : oT_P} {F : zF} {B : zB} {Fm : zF} {Bm : zB} (hx : 0 ≤ x ∧ x < 3000) (hxi : x + 1 = F 3 0 14) (hE : EV K Km N B Bm) (hS : PS N j F B Fm Bm) (hLT : LT L F B Fm Bm) (hF : fresh B Bm x j 5) (wd : wdAt Bm j 7697253) (ho : ∀ F B, om.2.2.2 F B = fb_M_itemOfWord om' Km F B) : zP (fb_Parser_takeItem o K 0 x F B) (fb_M_item om Km Fm Bm) (fun r F' B' _ Fm' Bm' => IPO L d N j x F B Fm Bm r F' B' Fm' Bm') := by
  have hM := PS_MX hE hS
  have h4 := wd.1
  have jj := hS.2.1.1
  have nn := hE.1.2.1
  have km := hE.2.2.2.2.2.2
  have k3 := hE.2.2.2.1
  have k10 := hE.2.2.2.2.1
  have t : ∀ c, r64 c → f_M_isWord Km c Fm Bm = some (if 7697253 = c then 1 else 0, Fm, Bm) := fun c hc => L_wd hM wd hc
  have hS1 := PS_step hE hS (by first | decide | omega)
  have hX1 := PS_CX hE hS1
  have hM1 := PS_MX hE hS1
  have hg1 := hS1.2.2.2.1
  have jj1 := hS1.2.1.1
  have ek := hS1.2.1.2.1
  have ev := hS1.2.1.2.2.2.1
  have tk := hE.1.2.2 (j + 1) jj1.1 jj1.2
  have gF : fF F (advF F B) := fF_a fF_r
  have gG : fG Fm (zup3 Fm 14 0 16 (j + 1)) := fG_u fG_r (by decide) (by decide)
  have e11 := hS1.1
  obtain ⟨l1, l2, l3, l4⟩ := hLT
  have nr := nmF_r (Bm 14 0 7 (j + 1)) (Bm 14 0 11 (j + 1))
  have a16 : (advF F B) 3 0 16 = L := (advF_o (by decide)).trans l1
  have b27 : (zup3 Fm 14 0 16 (j + 1)) 14 0 27 = L := by simp [zup3_v]; exact l2
  rw [C_itemU (PS_CX hE hS) hx hF.1, L_itemW hM wd ho]
  unfold fb_M_itemOfWord f_M_itemOfWord_389 f_Parser_takeUse
  simp only [t 114 (by decide), t 125780002955636 (by decide), t 7697253 (by decide), zb_s, ir0, ir1, if_true, if_false, Int.reduceEq, hM.1, L_isName km hM1 hE.2.1, C_isName hX1, PS_nm hE hS1]
  rw [if_pos ⟨(by first | decide | omega), k3⟩, if_pos (show r32 (nmF (Bm 14 0 7 (j + 1)) (Bm 14 0 11 (j + 1))) by omega), if_pos (show r32 (nmF (Bm 14 0 7 (j + 1)) (Bm 14 0 11 (j + 1))) by omega)]
  by_cases z : nmF (Bm 14 0 7 (j + 1)) (Bm 14 0 11 (j + 1)) = 0
  · have er := PS_err2 hE hS1
    rw [if_pos z, if_pos z, C_refuse hX1, L_wrong hg1 hM1]
    simp only [zb_s]
    rw [if_pos (by decide)]
    simp only [zb_s]
    rw [if_pos (by decide), L_202 (by first | decide | omega)]
    exact zP_s ⟨fF_e gF, fG_e gG, fB_r, fH_u fH_r (by decide) (by decide) (Int.le_refl _), Or.inr ⟨rfl, er⟩⟩
  · have k4 : Bm 14 0 7 (j + 1) = 4 := by
      by_cases q : Bm 14 0 7 (j + 1) = 4 ∧ nmC (Bm 14 0 11 (j + 1))
      · exact q.1
      · exact absurd (nmF_0 q) z
    have w4 := hM1.2.2.2.2 k4
    have e2 : (advF F B) 10 0 2 = Bm 14 0 11 (j + 1) := by rw [ev]; exact (tk.2.2.2.2.2.2.1 k4).1
    have ef : fdR (B 3 0 12) L (Bm 14 0 11 (j + 1)) 22 0 = fdR (Bm 14 0 25) L (Bm 14 0 11 (j + 1)) 22 0 := fdR_c (fun y p q => (l4 y p q).1)
    have ln := C_letNamed (w := Bm 14 0 11 (j + 1)) hX1 (by first | decide | omega) (fun y p q => (l4 y p (by first | decide | omega)).2.1) (by first | decide | omega)
    rw [a16, ef] at ln
    have mn := L_find (K := Km) (c := 14) (i := 0) (k := 25) (m := L) (w := Bm 14 0 11 (j + 1)) (F := zup3 Fm 14 0 16 (j + 1)) (B := Bm) km (by decide) (by rw [show (lnM 14 0 25 : Int) = 6 by decide]; omega) (by decide) (by decide) (by first | decide | omega) (fun y p q => by rw [← (l4 y p q).1]; exact (l4 y p q).2.1) (by first | decide | omega)
    have e16 : (zup3 Fm 14 0 16 (j + 1)) 14 0 16 = j + 1 := by simp [zup3_v]
    rw [if_neg z, if_neg z, e11, if_pos ⟨(by first | decide | omega), k10⟩, e2, e16, if_pos (show 0 ≤ j + 1 ∧ j + 1 < 3001 by omega), b27, mn]
    rcases fdR_r (row := Bm 14 0 25) (m := L) (w := Bm 14 0 11 (j + 1)) (f := 22) (k := 0) (by first | decide | omega) with n1 | ⟨n1, n2, n3⟩
    · have er := PS_err (s := 4) (s' := 4) hE hS1 (by rw [if_neg (by first | decide | omega)]) (by decide)
      rw [n1, if_pos (show (-1 : Int) < 0 by decide)] at ln
      rw [ln, n1]
      simp only [zb_s]
      rw [if_pos (show r32 (-1) by decide), if_pos trivial, if_pos (show r32 (-1) by decide), if_neg (show ¬ (0 : Int) ≤ -1 by decide), C_refuse hX1, L_fail hg1 (by rw [e16]; omega)]
      simp only [zb_s]
      rw [if_pos (by decide)]
      simp only [zb_s]
      rw [if_pos (by decide), L_202 (by first | decide | omega)]
      exact zP_s ⟨fF_e gF, fG_e gG, fB_r, fH_u fH_r (by decide) (by decide) (Int.le_refl _), Or.inr ⟨rfl, er⟩⟩
    · have nmn := fdR_n (row := Bm 14 0 25) (m := L) (w := Bm 14 0 11 (j + 1)) (f := 22) (k := 0) (Int.le_refl _)
      have rt := l4 _ n1 n2
      have hr13 := rt.2.2
      have hroot : 0 ≤ B 3 0 13 (fdR (Bm 14 0 25) L (Bm 14 0 11 (j + 1)) 22 0) ∧ B 3 0 13 (fdR (Bm 14 0 25) L (Bm 14 0 11 (j + 1)) 22 0) < 3000 := hr13
      rw [if_neg (show ¬ fdR (Bm 14 0 25) L (Bm 14 0 11 (j + 1)) 22 0 < 0 by omega)] at ln
      rw [ln]
      simp only [zb_s]
      rw [if_pos (show r32 (B 3 0 13 (fdR (Bm 14 0 25) L (Bm 14 0 11 (j + 1)) 22 0)) by omega), if_neg (show ¬ B 3 0 13 (fdR (Bm 14 0 25) L (Bm 14 0 11 (j + 1)) 22 0) = -1 by omega), if_pos (show r32 (fdR (Bm 14 0 25) L (Bm 14 0 11 (j + 1)) 22 0) by omega), if_pos n1, if_pos hx, e11, if_pos ⟨(by first | decide | omega), k10⟩, C_adv (CX_b hX1), advF_b, e16]
      simp only [zb_s]
      rw [if_pos (by decide), L_202 (by first | decide | omega)]
      have hX2 : fX [2] x (F 3 0 15) B (zup4 B 3 0 2 x (B 3 0 13 (fdR (Bm 14 0 25) L (Bm 14 0 11 (j + 1)) 22 0))) := fX_u fX_r (Or.inl ⟨by decide, rfl⟩)
      have hB2 := fX_B (lo := x) hX2 (by decide) (Int.le_refl _)
      refine zP_s (IPO_l (j' := j + 1 + 1) (by first | decide | omega) (by first | decide | omega) (fF_a gF) (fG_u gG (by decide) (by decide)) hX2 (PS_f (PS_step hE hS1 (by first | decide | omega)) hB2 (fH_r (fr := 0))) ?_ ?_ ?_ hF.2.2.2.2.2.1 ?_)
      · rw [advF_o (by decide), advF_o (by decide)]
      · rw [advF_o (by decide), advF_o (by decide)]
      · rw [advF_o (by decide), advF_o (by decide)]
      · intro Bx By gx w lr
        obtain ⟨p1, p0⟩ := IRn_at (R := IRd L d) hF gx w (fun k hk => by rw [fX_3 hX2 (by simp; omega) (by first | decide | omega)])
        refine ⟨p1, Or.inr (Or.inr (Or.inr ⟨p0, wdAt_c wd w, fdR (Bm 14 0 25) L (Bm 14 0 11 (j + 1)) 22 0, ⟨n1, n2⟩, ?_, ?_, ?_⟩))⟩
        · rw [(lr _ n1 n2).2, w 11 (by decide) (by decide)]; exact n3
        · rw [(lr _ n1 n2).1, gx 2 (by decide) (by decide)]; simp [zup4_v]
        · intro p q0 q1
          rw [(lr p q0 (by first | decide | omega)).2, w 11 (by decide) (by decide)]
          exact nmn p q0 q1
end
end
section
section
/-! ===== brackets, on both sides ===== -/
theorem P_tup {L : Int} {d : Nat} {K : zK} {Km : Nat} {N j x : Int} {o o' o'' : oT_CP} {om om' : oT_P} {F : zF} {B : zB} {Fm : zF} {Bm : zB} (hx : 0 ≤ x ∧ x < 3000) (hxi : x + 1 = F 3 0 14) (hij : F 3 0 14 ≤ j + 1) (hE : EV K Km N B Bm) (hS : PS N j F B Fm Bm) (hd : F 3 0 18 + d = 8) (hdp : 1 ≤ F 3 0 18) (hLT : LT L F B Fm Bm) (hF : fresh B Bm x j 3) (sg : sgAt Bm j 91) (hoc : ∀ l0 l1 F B, o.2.2.2.1 l0 l1 F B = fb_Parser_takeBracket o' K l0 l1 F B) (hoc2 : ∀ l0 l1 F B, o'.2.1 l0 l1 F B = fb_Parser_takeMusic o'' K l0 l1 F B) (hom : ∀ F B, om.2.2.1 F B = fb_M_tuplet om' Km F B) (hI : ∀ d', d = d' + 1 → ItemSim L K Km N d' o''.2.2.1 om'.2.1) (hB : ItemBad K Km N om'.2.1) : zP (fb_Parser_takeItem o K 0 x F B) (fb_M_item om Km Fm Bm) (fun r F' B' _ Fm' Bm' => IPO L d N j x F B Fm Bm r F' B' Fm' Bm') := by
  have hg := hS.2.2.2.1
  have hX := PS_CX hE hS
  have hM := PS_MX hE hS
  have h5 := sg.1
  have jj := hS.2.1.1
  have nn := hE.1.2.1
  have hdd := hS.2.2.2.2.2.1
  have k3 := hE.2.2.2.1
  have k1 := hE.2.2.2.2.2.1
  have km := hE.2.2.2.2.2.2
  have t : ∀ c, r32 c → f_M_isSign Km c Fm Bm = some (if 91 = c then 1 else 0, Fm, Bm) := fun c hc => L_sg hM sg hc
  have s91 : sgm Bm j 91 = 1 := by unfold sgm; rw [if_pos (show Bm 14 0 7 j = 5 ∧ Bm 14 0 9 j = 91 from sg)]
  have lpB : ∀ {F : zF} {B : zB}, bad F → f_M_tuplet_41 om' Km Km j F B = some (0, F, B) := by
    intro F B hb
    obtain ⟨m, rfl⟩ : ∃ y, Km = y + 1 := ⟨Km - 1, (by first | decide | omega)⟩
    unfold f_M_tuplet_41 f_M_tuplet_64
    rw [L_goodB hb]
    simp only [zb_s]
    rw [if_pos (by decide), if_pos trivial, L_closingB hb]
    rfl
  have hH0 : ∀ {Bm' : zB} {v : Int}, fH j Bm' (zup4 Bm' 14 0 31 j v) := fH_u fH_r (by decide) (by decide) (Int.le_refl _)
  rw [C_itemT hX hx hF.1, hoc]
  unfold fb_M_item
  rw [hM.1, if_pos (by first | decide | omega), if_pos (by first | decide | omega), if_neg (by first | decide | omega)]
  simp only [t 60 (by decide), t 124 (by decide), t 33 (by decide), t 91 (by decide), zb_s, ir0, ir1, if_true, if_false, Int.reduceEq]
  rw [hom]
  unfold fb_Parser_takeBracket fb_M_tuplet f_Parser_takeBracket_50 f_Parser_takeBracket_51
  simp only [show ∀ {a b : zO}, (if ((0 : Int) = 0 ∨ (0 : Int) = 1) then a else b) = a from fun {a b} => if_pos (Or.inl rfl), show ∀ {a b : zO}, (if ((1 : Int) = 0 ∨ (1 : Int) = 1) then a else b) = a from fun {a b} => if_pos (Or.inr rfl)]
  rw [if_pos ⟨(by first | decide | omega), k3⟩, C_takeOpening hX (by decide) hdd.2, L_opening hg hM (by decide) (by first | decide | omega), PS_sg hE hS, hM.1, s91, i10, i10]
  by_cases d8 : F 3 0 18 = 8
  · have er := PS_err (s := 3) (s' := 3) hE hS (by rw [if_neg (by first | decide | omega)]) (by decide)
    rw [if_pos d8, if_pos (by first | decide | omega)]
    simp only [zb_s, zb_a]
    rw [if_pos (by decide), if_pos trivial, if_pos (by decide), L_numberB er.2]
    simp only [zb_s]
    rw [L_needB er.2]
    simp only [zb_s]
    rw [L_numberB er.2]
    simp only [zb_s]
    rw [L_needB er.2]
    simp only [zb_s]
    rw [lpB er.2]
    simp only [zb_s]
    rw [if_pos (by decide), L_202 (by first | decide | omega)]
    exact zP_s ⟨fF_e fF_r, fG_e fG_r, fB_r, hH0, Or.inr ⟨rfl, er⟩⟩
  · rw [if_neg d8, if_neg (by first | decide | omega)]
    simp only [zb_s, zb_a]
    obtain ⟨d', rfl⟩ : ∃ y, d = y + 1 := ⟨d - 1, (by first | decide | omega)⟩
    have hS1 := PS_step hE (PS_d (d := F 3 0 18 + 1) hS (by first | decide | omega) (PS_pw hS hdp)) (by first | decide | omega)
    have e19 : Fm 14 0 19 = F 3 0 18 := hdd.1.symm
    rw [if_pos (show r32 1 by decide), if_neg (show ¬ (1 : Int) = 0 by decide), e19, zb_a]
    have a14 : (advF (zup3 F 3 0 18 (F 3 0 18 + 1)) B) 3 0 14 = F 3 0 14 := by rw [advF_o (by decide)]; simp [zup3_v]
    have a15 : (advF (zup3 F 3 0 18 (F 3 0 18 + 1)) B) 3 0 15 = F 3 0 15 := by rw [advF_o (by decide)]; simp [zup3_v]
    have a18 : (advF (zup3 F 3 0 18 (F 3 0 18 + 1)) B) 3 0 18 = F 3 0 18 + 1 := by rw [advF_o (by decide)]; simp [zup3_v]
    have gF : fF F (advF (zup3 F 3 0 18 (F 3 0 18 + 1)) B) := fF_a (fF_u fF_r (by decide))
    have gG : fG Fm (zup3 (zup3 Fm 14 0 19 (F 3 0 18 + 1)) 14 0 16 (j + 1)) := fG_u (fG_u fG_r (by decide) (by decide)) (by decide) (by decide)
    refine P_frac hx hE hS1 (by decide) (by decide) ?_ ?_
    · intro F1 B1 Fm1 r1 q1 q2 q3 q4 q5 q6 q7 q8 q9
      rw [a14] at q7
      rw [a15] at q3 q8
      rw [a18] at q9
      have hB1 := fX_B (lo := x) q3 (by decide) (Int.le_refl _)
      have hE1 := EV_f hE hB1 (fH_r (fr := 0))
      simp only [ir1, i10, zb_a]
      rcases P_sig hE1 q4 (c := 58) (by decide) with ⟨g58, c2, m2, hS2⟩ | ⟨c2, m2, er⟩
      · rw [c2, m2]
        simp only [zb_s, ir1, i10]
        rw [hoc2]
        unfold fb_Parser_takeMusic
        have gF2 : fF F (advF F1 B1) := fF_a (fF_t gF q1)
        have gG2 : fG Fm (zup3 Fm1 14 0 16 (j + 1 + 3 + 1)) := fG_u (fG_t gG q2) (by decide) (by decide)
        have hLT2 := LT_k (fr := 0) (j := 0) hLT gF2 gG2 (fB_K hB1) (by decide) (fJ_H fH_r (Int.le_refl _))
        have b14 : (advF F1 B1) 3 0 14 = F 3 0 14 := by rw [advF_o (by decide)]; exact q7
        have b15 : (advF F1 B1) 3 0 15 = F 3 0 15 := by rw [advF_o (by decide)]; exact q8
        have b18 : (advF F1 B1) 3 0 18 = F 3 0 18 + 1 := by rw [advF_o (by decide)]; exact q9
        simp only [zb_a]
        rw [← zb_a]
        refine zP_c (P_music (o := o'') (lp := fun n F B => f_M_tuplet_41 om' Km n j F B) (c := 93) (fr := j) (kc := fun r11 F11 B11 => if r32 r11 then (if r11 = 0 then some (0, F11, B11) else zbind (f_Parser_takeClosing K 0 93 F11 B11) (fun r14 F14 B14 => if r32 r14 then (if r14 = 0 then some (0, F14, B14) else some (1, F14, B14)) else none)) else none) (hI d' rfl) hB (Or.inr rfl) jj.1 ?_ ?_ ?_ (q := 3001) (m := K.1) (m' := Km) (i := 0) (last := -1) (par := x) (j := j + 1 + 3 + 1) (x0 := x) (k0 := 4) (by first | decide | omega) (by first | decide | omega) (by first | decide | omega) (by first | decide | omega) (by first | decide | omega) (by first | decide | omega) (Or.inl ⟨rfl, rfl, rfl⟩) hx.1 (by first | decide | omega) hx (by first | decide | omega) hE1 hS2 (by first | decide | omega) (by first | decide | omega) hLT2 (by rw [fX_3 q3 (by decide) (by decide)]; exact hF.2.2.2.2.1)) (fun r F' B' r' Fm' Bm' hh => ?_)
        · intro n F B
          rfl
        · intro F B
          rfl
        · intro F B hX
          show (if r32 1 then (if (1 : Int) = 0 then _ else zbind (f_Parser_takeClosing K 0 93 F B) _) else none) = _
          rw [if_pos (by decide), if_neg (by decide), C_takeClosing hX (by decide)]
          by_cases w : sgn F 93 = 0
          · rw [if_pos w]; rfl
          · rw [if_neg w]; rfl
        · obtain ⟨g1, g2, g3, g4, g5⟩ := hh
          rw [b14, b15] at g3
          have hr : r = 0 ∨ r = 1 := by
            rcases g5 with z | z
            · exact Or.inr z.1
            · exact Or.inl z.1
          have gB : fB x (F 3 0 15) B B' := fun c i k y a b => by
            rw [g3 c i k y (fun z => a ⟨z.1, z.2.1, z.2.2.1, by have := z.2.2.2; omega⟩) b (fun z => a ⟨z.1, z.2.1, by have := z.2.2.1; omega, by have := z.2.2.2; omega⟩)]
            exact hB1 c i k y a b
          rw [if_pos hr, L_202 (by first | decide | omega)]
          refine zP_s ⟨fF_t gF2 g1, fG_t gG2 g2, gB, fH_t (fJ_fH g4 (by first | decide | omega)) hH0, ?_⟩
          rcases g5 with ⟨rfl, j', n, v1, v2, v3, v4, v5, v6, v7⟩ | er
          · have gk : ∀ k, k ≤ 7 → k ≠ 4 → B' 3 0 k x = B1 3 0 k x := fun k p q => g3 3 0 k x (fun z => by have := z.2.2.2; omega) (fun z => by have := z.2.2.1; omega) (fun z => q z.2.2.1)
            refine Or.inl ⟨rfl, Or.inl ⟨j', (by first | decide | omega), PS_f (lo := 0) (pl := 0) v2 fB_r hH0, ?_, (by first | decide | omega), (by first | decide | omega), (by first | decide | omega), ?_, ?_⟩⟩
            · simp [zup4_v]; exact v2.2.2.1
            · rw [gk 5 (by decide) (by decide), fX_3 q3 (by decide) (by decide)]; exact hF.2.2.2.2.2.1
            · intro Bx By ab am
              rw [v2.2.2.1] at am
              rw [b14, b15] at v7
              have hs : SLR L d' n (B' 3 0 4 x) (j + 1 + 3 + 1) (j' - 1) (F 3 0 14) (F' 3 0 14) (F 3 0 15) (F' 3 0 15) B' (zup4 Bm' 14 0 31 j j') := SLR_t v7 agB_r ⟨fun k y p q a b => by rw [zup4_v, if_neg (fun z => by have := z.2.2.2; omega)], fun k p q => by funext y; rw [zup4_v, if_neg (fun z => by have := z.2.2.1; omega)], fun q p a => by rw [zup4_v, if_neg (fun z => absurd z.2.2.1 (by decide))]⟩
              have gx : ∀ k, k ≤ 7 → k ≠ 5 → Bx 3 0 k x = B' 3 0 k x := fun k p q => ab.1 k x p (Int.le_refl _) (by first | decide | omega) (fun z => q z.1)
              have w : ∀ k, 7 ≤ k → k ≤ 11 → By 14 0 k = Bm 14 0 k := fun k p q => by
                rw [am.2.1 k p q]
                funext y
                rw [zup4_v, if_neg (fun z => by have := z.2.2.1; omega), fJ_k g4 k (by first | decide | omega)]
              have e30 : By 14 0 30 j = j' - 1 := by rw [am.1 30 j (by decide) (by decide) (Int.le_refl _) (by first | decide | omega)]; simp [zup4_v]; exact v3
              obtain ⟨p1, p0⟩ := IRn_at (R := IRd L d') hF gx w (fun k hk => by rw [gk k (by first | decide | omega) (by first | decide | omega), fX_3 q3 (by simp; omega) (by first | decide | omega)])
              refine Or.inr ⟨p1, Or.inl ⟨p0, sgAt_c sg w, ?_, ?_, (by first | decide | omega), by have h1 := hE.1.2.1; have h2 := v2.2.1.1.2; omega, n, ?_⟩⟩
              · rw [gx 2 (by decide) (by decide), gk 2 (by decide) (by decide)]; exact nmAt_c q5 w
              · rw [gx 3 (by decide) (by decide), gk 3 (by decide) (by decide)]
                rw [show j + 1 + 2 = j + 3 by omega] at q6
                exact nmAt_c q6 w
              · rw [e30, gx 4 (by decide) (by decide), show j + 5 = j + 1 + 3 + 1 by omega]
                exact hs Bx By (agB_m ab (by first | decide | omega) (Int.le_refl _) (Int.le_refl _) (Int.le_refl _) (Or.inr (Or.inl (by first | decide | omega)))) (agM_m am (by first | decide | omega) (by first | decide | omega))
          · exact Or.inr er
      · rw [c2, m2]
        simp only [zb_s, ir0, i00]
        rw [lpB er.2]
        simp only [zb_s]
        rw [if_pos (by decide), if_pos (by decide), L_202 (by first | decide | omega)]
        exact zP_s ⟨fF_e (fF_t gF q1), fG_e (fG_t gG q2), hB1, hH0, Or.inr ⟨rfl, er⟩⟩
    · intro F1 B1 Fm1 r1 q1 q2 q3 er
      rw [a15] at q3
      simp only [ir0, i00, zb_s]
      rw [L_needB er.2]
      simp only [zb_s]
      rw [lpB er.2]
      simp only [zb_s]
      rw [if_pos (by decide), if_pos (by decide), L_202 (by first | decide | omega)]
      exact zP_s ⟨fF_t gF q1, fG_t gG q2, fX_B q3 (by decide) (Int.le_refl _), hH0, Or.inr ⟨rfl, er⟩⟩
end
end
section
section
/-! ===== alternatives, on both sides ===== -/
def SAL (L : Int) (d n : Nat) (y a e lo hi pl ph : Int) (B Bm : zB) : Prop := ∀ Bx By, agB L lo hi pl ph (-1) B Bx → agM L a e Bm By → ALf (IRd L d) Bx By n y a e
def OKA (L : Int) (d : Nat) (N j x0 : Int) (k0 : Nat) (F : zF) (F' : zF) (B' : zB) (Fm' : zF) (Bm' : zB) : Prop := ∃ j' n, j + 2 ≤ j' ∧ PS N j' F' B' Fm' Bm' ∧ F' 3 0 18 = F 3 0 18 ∧ (F 3 0 14 ≤ F' 3 0 14 ∧ F' 3 0 14 - F 3 0 14 ≤ j' - j - 1) ∧ F 3 0 15 ≤ F' 3 0 15 ∧ SAL L (d - 1) n (B' 3 0 k0 x0) j j' (F 3 0 14) (F' 3 0 14) (F 3 0 15) (F' 3 0 15) B' Bm' ∧ 1 ≤ d
theorem agB_K {L lo hi pl ph x k0' : Int} {k0 : Nat} {x0 lo' pl' : Int} {B B' : zB} (h : fK k0 x0 lo' pl' B B') (h1 : hi ≤ lo') (h2 : ph ≤ pl') (h3 : x0 < lo) (h4 : k0 ≤ 7) : agB L lo hi pl ph x B B' := ⟨fun k y a b c _ => h 3 0 k y (fun z => by have := z.2.2.2; omega) (fun z => by have := z.2.2.1; omega) (fun z => by have := z.2.2.2; omega), fun k y a b c _ => h 3 0 k y (fun z => by have := z.2.2.1; omega) (fun z => by have := z.2.2.2.2; omega) (fun z => by have := z.2.2.1; omega), fun q _ _ => h 3 0 13 q (fun z => absurd z.2.2.1 (by decide)) (fun z => absurd z.2.2.2.1 (by decide)) (fun z => by have := z.2.2.1; omega)⟩
theorem L_103B {om : oT_P} {Km n : Nat} {Fm : zF} {Bm : zB} (hn : 0 < n) (hb : bad Fm) : f_M_itemOfWord_103 om Km n Fm Bm = some (0, Fm, Bm) := by
  obtain ⟨n, rfl⟩ : ∃ y, n = y + 1 := ⟨n - 1, (by first | decide | omega)⟩
  unfold f_M_itemOfWord_103 f_M_itemOfWord_389
  rw [L_goodB hb]
  simp only [zb_s, ir0, if_true]
theorem P_alt {L : Int} {d : Nat} {K : zK} {Km : Nat} {N x : Int} {o : oT_CP} {om : oT_P} (hx : 0 ≤ x ∧ x < 3000) (hBk : BlkSim L K Km N d o.1 om.1) : ∀ {q m m' : Nat} {i last j x0 : Int} {k0 : Nat} {F : zF} {B : zB} {Fm : zF} {Bm : zB}, N - j < q → q < m → q < m' → 0 ≤ i → i ≤ j → (last = -1 ∧ k0 = 3 ∧ x0 = x ∨ last = x0 ∧ k0 = 5) → 0 ≤ x0 → x0 < F 3 0 14 → F 3 0 14 + 1 ≤ j → EV K Km N B Bm → PS N j F B Fm Bm → F 3 0 18 + d = 8 → 1 ≤ F 3 0 18 → LT L F B Fm Bm → zP (f_Parser_takeAlternatives_35 o (f_Parser_takeAlternatives_11 o K m) K i last 0 x F B) (zbind (om.1 Fm Bm) (fun _ F2 B2 => f_M_itemOfWord_103 om Km m' F2 B2)) (fun r F' B' _ Fm' Bm' => fF F F' ∧ fG Fm Fm' ∧ fK k0 x0 (F 3 0 14) (F 3 0 15) B B' ∧ fH j Bm Bm' ∧ (r = 1 ∧ OKA L d N j x0 k0 F F' B' Fm' Bm' ∨ r = 0 ∧ ERR F' Fm')) := by
  intro q
  induction q with
  | zero =>
    intro m m' i last j x0 k0 F B Fm Bm hN _ _ _ _ _ _ _ _ _ hS
    have := hS.2.1.1
    omega
  | succ q ih =>
    intro m m' i last j x0 k0 F B Fm Bm hN hm hm' i0 i1 hl x00 x01 hit hE hS hd hdp hLT
    obtain ⟨m, rfl⟩ : ∃ y, m = y + 1 := ⟨m - 1, (by first | decide | omega)⟩
    obtain ⟨m', rfl⟩ : ∃ y, m' = y + 1 := ⟨m' - 1, (by first | decide | omega)⟩
    have hX := PS_CX hE hS
    have jj := hS.2.1.1
    have nn := hE.1.2.1
    have ep := hS.2.1.2.2.1
    have k3 := hE.2.2.2.1
    have hx14 : 0 ≤ F 3 0 14 ∧ F 3 0 14 < 3000 := by omega
    have hK2 : fK k0 x0 (F 3 0 14) (F 3 0 15) B (zup4 (newB B (F 3 0 14) 10 (F 10 0 1)) 3 0 k0 x0 (F 3 0 14)) := fK_c (newB_k fK_r (Int.le_refl _))
    have hcls : f_Parser_takeAlternatives_35 o (f_Parser_takeAlternatives_11 o K (m + 1)) K i last 0 x F B = zbind (o.1 0 (F 3 0 14) (zup3 F 3 0 14 (F 3 0 14 + 1)) (zup4 (newB B (F 3 0 14) 10 (F 10 0 1)) 3 0 k0 x0 (F 3 0 14))) (fun r22 F22 B22 => if r32 r22 then (if r22 = 0 then some (0, F22, B22) else f_Parser_takeAlternatives_11 o K (m + 1) (i + 1) (F 3 0 14) 0 x F22 B22) else none) := by
      unfold f_Parser_takeAlternatives_35 f_Parser_takeAlternatives_67
      rw [if_pos ⟨Int.le_refl _, k3⟩, C_newItem hX hx14]
      simp only [zb_s]
      rcases hl with ⟨rfl, rfl, rfl⟩ | ⟨rfl, rfl⟩
      · rw [if_pos (show r32 (-1) by decide), if_pos rfl, if_pos hx, if_pos ⟨Int.le_refl _, k3⟩]
      · rw [if_pos (show r32 last by omega), if_neg (show ¬ last = -1 by omega), if_pos (show 0 ≤ last ∧ last < 3000 by omega), if_pos ⟨Int.le_refl _, k3⟩]
    have k07 : k0 ≤ 7 := by omega
    have hS1 := PS_k (PS_u (k := 14) (v := F 3 0 14 + 1) hS (by decide)) hK2 (fJ_H (fr := 0) (j := j) fH_r (Int.le_refl _))
    have hE1 := EV_k hE hK2 (fJ_H (fr := 0) (j := j) fH_r (Int.le_refl _))
    have gF0 : fF F (zup3 F 3 0 14 (F 3 0 14 + 1)) := fF_u fF_r (by decide)
    have hLT1 := LT_k hLT gF0 fG_r hK2 k07 (fJ_H (fr := 0) (j := j) fH_r (Int.le_refl _))
    have a14 : (zup3 F 3 0 14 (F 3 0 14 + 1)) 3 0 14 = F 3 0 14 + 1 := by simp [zup3_v]
    have a15 : (zup3 F 3 0 14 (F 3 0 14 + 1)) 3 0 15 = F 3 0 15 := by simp [zup3_v]
    have a18 : (zup3 F 3 0 14 (F 3 0 14 + 1)) 3 0 18 = F 3 0 18 := by simp [zup3_v]
    have gy : ∀ k, (zup4 (newB B (F 3 0 14) 10 (F 10 0 1)) 3 0 k0 x0 (F 3 0 14)) 3 0 k (F 3 0 14) = (newB B (F 3 0 14) 10 (F 10 0 1)) 3 0 k (F 3 0 14) := fun k => by rw [zup4_v, if_neg (fun w => by have := w.2.2.2; omega)]
    obtain ⟨b0, b1, b2, b3, b4, b5, b6, b7⟩ := newB_at (B := B) (x := F 3 0 14) (s := 10) (p := F 10 0 1)
    rw [hcls]
    refine zP_c (hBk (x := F 3 0 14) (j := j) hx14.1 (by first | decide | omega) (by first | decide | omega) hE1 hS1 (by first | decide | omega) (PS_pw hS1 (by first | decide | omega)) hLT1 (by rw [gy]; exact b4)) (fun r F1 B1 r' Fm1 Bm1 hh => ?_)
    obtain ⟨g1, g2, g3, g4, g5⟩ := hh
    rw [a14, a15] at g3
    have gF : fF F F1 := fF_t gF0 g1
    have gK : fK k0 x0 (F 3 0 14) (F 3 0 15) B B1 := fK_t hK2 (fK_K g3 (by first | decide | omega) (Int.le_refl _) (Or.inr ⟨by decide, Int.le_refl _⟩))
    have hE2 := EV_B hE (fK_10 gK) (fun k hk => fH_k g4 k (by first | decide | omega))
    have hcell : ∀ {B2 : zB}, fK 5 (F 3 0 14) (F1 3 0 14) (F1 3 0 15) B1 B2 → F 3 0 14 < F1 3 0 14 → B2 3 0 k0 x0 = F 3 0 14 := by
      intro B2 hk2 hlt
      rw [hk2 3 0 k0 x0 (fun w => by have := w.2.2.2; omega) (fun w => by have := w.2.2.1; omega) (fun w => by have := w.2.2.2; omega), g3 3 0 k0 x0 (fun w => by have := w.2.2.2; omega) (fun w => by have := w.2.2.1; omega) (fun w => by have := w.2.2.2; omega), zup4_v, if_pos ⟨rfl, rfl, rfl, rfl⟩]
    rcases g5 with ⟨rfl, j1, n1, v1, v2, v3, v4, v5, v6, v7, v8⟩ | ⟨rfl, er⟩
    · rw [a14] at v5 v7
      rw [a15] at v6 v7
      rw [a18] at v4
      have jj1 := v2.2.1.1
      have hX2 := PS_CX hE2 v2
      have hM2 := PS_MX hE2 v2
      have hg2 := v2.2.2.2.1
      have s := sgm_r Bm1 j1 123
      have k10 := hE.2.2.2.2.1
      have c5 : B1 3 0 5 (F 3 0 14) = -1 := by rw [g3 3 0 5 (F 3 0 14) (fun w => by have := w.2.2.2; omega) (fun w => absurd w.2.2.1 (by decide)) (fun w => absurd w.2.2.1 (by decide)), gy]; exact b5
      rw [if_pos (show r32 1 by decide), if_neg (show ¬ (1 : Int) = 0 by decide)]
      rw [f_Parser_takeAlternatives_11, f_M_itemOfWord_103]
      rw [if_pos (show r32 (i + 1) by omega), L_good hg2]
      simp only [zb_s]
      rw [if_pos (show r32 1 by decide), if_neg (show ¬ (1 : Int) = 0 by decide), L_isSign hM2 (by decide)]
      simp only [zb_s]
      rw [if_pos (show r32 (sgm Bm1 j1 123) by omega)]
      -- the block, as later worlds see it
      have blk : ∀ {B2 Bm2 Bx By : zB} {hi ph e : Int}, fK 5 (F 3 0 14) (F1 3 0 14) (F1 3 0 15) B1 B2 → fH j1 Bm1 Bm2 → F1 3 0 14 ≤ hi → F1 3 0 15 ≤ ph → j1 ≤ e → agB L (F 3 0 14) hi (F 3 0 15) ph (-1) B2 Bx → agM L j e Bm2 By → BKf (IRd L (d - 1)) Bx By (F 3 0 14) j ∧ By 14 0 30 j + 1 = j1 ∧ Bx 3 0 5 (F 3 0 14) = B2 3 0 5 (F 3 0 14) := by
        intro B2 Bm2 Bx By hi ph e h1 h2 h3 h4 h5 ab am
        have e4 : B2 3 0 4 (F 3 0 14) = B1 3 0 4 (F 3 0 14) := h1 3 0 4 (F 3 0 14) (fun w => by have := w.2.2.2; omega) (fun w => absurd w.2.2.1 (by decide)) (fun w => absurd w.2.2.1 (by decide))
        have e30 : Bm2 14 0 30 j = j1 - 1 := by rw [h2 14 0 30 j (fun w => by have := w.2.2.2.2; omega)]; exact v3
        have sl : SLR L (d - 1) n1 (B2 3 0 4 (F 3 0 14)) (j + 1) (j1 - 1) (F 3 0 14 + 1) (F1 3 0 14) (F 3 0 15) (F1 3 0 15) B2 Bm2 := by
          rw [e4]
          exact SLR_t v7 (agB_K (k0' := 0) h1 (Int.le_refl _) (Int.le_refl _) (by first | decide | omega) (by decide)) (agM_f h2 (by first | decide | omega))
        refine ⟨BK_of (agB_m ab (Int.le_refl _) (Int.le_refl _) (Int.le_refl _) (Int.le_refl _) (Or.inr (Or.inl (by first | decide | omega)))) am sl e30 (by first | decide | omega) h3 (Int.le_refl _) h4 (Int.le_refl _) h5 v1 (by first | decide | omega) (by have h1 := hE.1.2.1; have h2 := v2.2.1.1.2; omega), ?_, ?_⟩
        · rw [am.1 30 j (by decide) (by decide) (Int.le_refl _) (by first | decide | omega), e30]; omega
        · exact ab.1 5 _ (by decide) (Int.le_refl _) (by first | decide | omega) (fun w => by have := w.2; omega)
      by_cases z : sgm Bm1 j1 123 = 0
      · have hend : (if 3000 ≤ i + 1 then f_Parser_takeAlternatives_87 o K F1 B1 else if r32 (F 3 0 14) then (if F 3 0 14 = -1 then f_Parser_takeAlternatives_35 o (f_Parser_takeAlternatives_11 o K m) K (i + 1) (F 3 0 14) 0 x F1 B1 else if 0 ≤ (0 : Int) ∧ (0 : Int) < K.2 3 then if 0 ≤ F1 3 0 11 ∧ F1 3 0 11 < K.2 10 then zbind (f_Tokens_isSign K (F1 3 0 11) 123 F1 B1) (fun r10 F10 B10 => if r32 r10 then (if r10 = 0 then f_Parser_takeAlternatives_87 o K F10 B10 else f_Parser_takeAlternatives_35 o (f_Parser_takeAlternatives_11 o K m) K (i + 1) (F 3 0 14) 0 x F10 B10) else none) else none else none) else none) = some (1, F1, B1) := by
          by_cases a : 3000 ≤ i + 1
          · rw [if_pos a]; rfl
          · rw [if_neg a, if_pos (show r32 (F 3 0 14) by omega), if_neg (show ¬ F 3 0 14 = -1 by omega), if_pos ⟨Int.le_refl _, k3⟩, v2.1, if_pos ⟨Int.le_refl _, k10⟩, C_isSign hX2 (by decide), PS_sg hE2 v2]
            simp only [zb_s]
            rw [z, if_pos (by decide), if_pos rfl]; rfl
        rw [hend, if_pos z]
        unfold f_M_itemOfWord_389
        refine zP_s ⟨gF, g2, gK, g4, Or.inl ⟨rfl, j1, 1, v1, v2, v4, (by first | decide | omega), (by first | decide | omega), ?_, v8⟩⟩
        rw [hcell fK_r (by first | decide | omega)]
        intro Bx By ab am
        obtain ⟨q1, q2, q3⟩ := blk fK_r fH_r (Int.le_refl _) (Int.le_refl _) (Int.le_refl _) ab am
        exact ⟨hx14, q1, Or.inl ⟨by rw [q3]; exact c5, q2⟩⟩
      · have z' := Decidable.not_not.mp (mt sgm_0.mpr z)
        have tk1 := hE2.1.2.2 j1 jj1.1 jj1.2
        have hj1N : j1 < N := by
          have : ¬ j1 = N := fun w => by have := tk1.2.2.2.1.mpr w; omega
          omega
        have hLT2 := LT_k hLT gF g2 gK k07 (fJ_H (fr := 0) g4 (Int.le_refl _))
        rw [if_neg z, if_neg (show ¬ 3000 ≤ i + 1 by omega), if_pos (show r32 (F 3 0 14) by omega), if_neg (show ¬ F 3 0 14 = -1 by omega), if_pos ⟨Int.le_refl _, k3⟩, v2.1, if_pos ⟨Int.le_refl _, k10⟩, C_isSign hX2 (by decide), PS_sg hE2 v2]
        simp only [zb_s]
        rw [if_pos (show r32 (sgm Bm1 j1 123) by omega), if_neg z]
        refine zP_m (ih (m := m) (m' := m') (i := i + 1) (last := F 3 0 14) (j := j1) (x0 := F 3 0 14) (k0 := 5) (by first | decide | omega) (by first | decide | omega) (by first | decide | omega) (by first | decide | omega) (by first | decide | omega) (Or.inr ⟨rfl, rfl⟩) hx14.1 (by first | decide | omega) (by first | decide | omega) hE2 v2 (by first | decide | omega) (by first | decide | omega) hLT2) (fun r F' B' r' Fm' Bm' hh => ?_)
        obtain ⟨w1, w2, w3, w4, w5⟩ := hh
        refine ⟨fF_t gF w1, fG_t g2 w2, fK_t gK (fK_K w3 (by first | decide | omega) (by first | decide | omega) (Or.inr ⟨by decide, Int.le_refl _⟩)), fH_t g4 (fH_m w4 (by first | decide | omega)), ?_⟩
        rcases w5 with ⟨rfl, j2, n, u1, u2, u3, u4, u5, u6, u7⟩ | er
        · refine Or.inl ⟨rfl, j2, n + 1, (by first | decide | omega), u2, (by first | decide | omega), (by first | decide | omega), (by first | decide | omega), ?_, v8⟩
          rw [hcell w3 (by first | decide | omega)]
          intro Bx By ab am
          obtain ⟨q1, q2, q3⟩ := blk w3 w4 (by first | decide | omega) (by first | decide | omega) (by first | decide | omega) ab am
          refine ⟨hx14, q1, Or.inr ⟨(by first | decide | omega), ?_⟩⟩
          rw [q2, q3]
          exact u6 Bx By (agB_m ab (by first | decide | omega) (Int.le_refl _) (by first | decide | omega) (Int.le_refl _) (Or.inl rfl)) (agM_m am (by first | decide | omega) (Int.le_refl _))
        · exact Or.inr er
    · rw [if_pos (show r32 0 by decide), if_pos rfl, L_103B (by first | decide | omega) er.2]
      exact zP_s ⟨gF, g2, gK, g4, Or.inr ⟨rfl, er⟩⟩
end
end
section
section
/-! ===== repeats, on both sides ===== -/
theorem P_repeat {L : Int} {d : Nat} {K : zK} {Km : Nat} {N j x : Int} {o o' o'' : oT_CP} {om om' : oT_P} {F : zF} {B : zB} {Fm : zF} {Bm : zB} (hx : 0 ≤ x ∧ x < 3000) (hxi : x + 1 = F 3 0 14) (hij : F 3 0 14 ≤ j + 1) (hE : EV K Km N B Bm) (hS : PS N j F B Fm Bm) (hd : F 3 0 18 + d = 8) (hdp : 1 ≤ F 3 0 18) (hLT : LT L F B Fm Bm) (hF : fresh B Bm x j 4) (wd : wdAt Bm j 125780002955636) (ho : ∀ F B, om.2.2.2 F B = fb_M_itemOfWord om' Km F B) (hoc : ∀ l0 l1 F B, o.2.2.2.2.1 l0 l1 F B = fb_Parser_takeRepeat o' K l0 l1 F B) (hoa : ∀ l0 l1 F B, o'.2.2.2.2.2.1 l0 l1 F B = fb_Parser_takeAlternatives o'' K l0 l1 F B) (hBk : BlkSim L K Km N d o'.1 om'.1) (hBk2 : BlkSim L K Km N d o''.1 om'.1) (hBd : BlkBad om'.1) : zP (fb_Parser_takeItem o K 0 x F B) (fb_M_item om Km Fm Bm) (fun r F' B' _ Fm' Bm' => IPO L d N j x F B Fm Bm r F' B' Fm' Bm') := by
  have hM := PS_MX hE hS
  have h4 := wd.1
  have jj := hS.2.1.1
  have nn := hE.1.2.1
  have km := hE.2.2.2.2.2.2
  have k1 := hE.2.2.2.2.2.1
  have k3 := hE.2.2.2.1
  have k10 := hE.2.2.2.2.1
  have t : ∀ c, r64 c → f_M_isWord Km c Fm Bm = some (if 125780002955636 = c then 1 else 0, Fm, Bm) := fun c hc => L_wd hM wd hc
  have hS1 := PS_step hE hS (by first | decide | omega)
  have a14 : (advF F B) 3 0 14 = F 3 0 14 := advF_o (by decide)
  have a15 : (advF F B) 3 0 15 = F 3 0 15 := advF_o (by decide)
  have a18 : (advF F B) 3 0 18 = F 3 0 18 := advF_o (by decide)
  have gF : fF F (advF F B) := fF_a fF_r
  have gG : fG Fm (zup3 Fm 14 0 16 (j + 1)) := fG_u fG_r (by decide) (by decide)
  have hH0 : ∀ {Bm' : zB} {v : Int}, fH j Bm' (zup4 Bm' 14 0 31 j v) := fH_u fH_r (by decide) (by decide) (Int.le_refl _)
  rw [C_itemR (PS_CX hE hS) hx hF.1, L_itemW hM wd ho, hoc]
  unfold fb_M_itemOfWord f_M_itemOfWord_389 fb_Parser_takeRepeat f_Parser_takeRepeat_53 f_Parser_takeRepeat_58
  simp only [t 114 (by decide), t 125780002955636 (by decide), zb_s, zb_a, ir0, ir1, if_true, if_false, Int.reduceEq, hM.1]
  simp only [show ∀ {a b : zO}, (if (True ∨ False) then a else b) = a from fun {a b} => if_pos (Or.inl trivial), show ∀ {a b : zO}, (if (False ∨ True) then a else b) = a from fun {a b} => if_pos (Or.inr trivial), true_or, or_true, if_true]
  rw [if_pos ⟨Int.le_refl _, k3⟩]
  rcases P_num hE hS1 (lo := 2) (hi := 4) (by decide) (by decide) with ⟨n1, n2, n3, c1, m1, hS2⟩ | ⟨s, s', v, c1, m1, er⟩
  · rw [c1, m1]
    simp only [zb_s, zb_a, ir1, i10]
    have e19 : (advF (zup3 (advF F B) 3 0 19 (Bm 14 0 9 (j + 1))) B) 3 0 19 = Bm 14 0 9 (j + 1) := by rw [advF_o (by decide)]; simp [zup3_v]
    rw [if_pos hx, e19, zb_a]
    have hXA : fX [2] x (F 3 0 15) B (zup4 B 3 0 2 x (Bm 14 0 9 (j + 1))) := fX_u fX_r (Or.inl ⟨by decide, rfl⟩)
    have hB2 := fX_B (lo := x) hXA (by decide) (Int.le_refl _)
    have hE2 := EV_f hE hB2 (fH_r (fr := 0))
    have hS2' := PS_f hS2 hB2 (fH_r (fr := 0))
    have b14 : (advF (zup3 (advF F B) 3 0 19 (Bm 14 0 9 (j + 1))) B) 3 0 14 = F 3 0 14 := by rw [advF_o (by decide)]; simp [zup3_v]; exact a14
    have b15 : (advF (zup3 (advF F B) 3 0 19 (Bm 14 0 9 (j + 1))) B) 3 0 15 = F 3 0 15 := by rw [advF_o (by decide)]; simp [zup3_v]; exact a15
    have b18 : (advF (zup3 (advF F B) 3 0 19 (Bm 14 0 9 (j + 1))) B) 3 0 18 = F 3 0 18 := by rw [advF_o (by decide)]; simp [zup3_v]; exact a18
    have gF2 : fF F (advF (zup3 (advF F B) 3 0 19 (Bm 14 0 9 (j + 1))) B) := fF_a (fF_u gF (by decide))
    have gG2 : fG Fm (zup3 (zup3 Fm 14 0 16 (j + 1)) 14 0 16 (j + 1 + 1)) := fG_u gG (by decide) (by decide)
    have hLT2 := LT_k (fr := 0) (j := 0) hLT gF2 gG2 (fB_K hB2) (by decide) (fJ_H fH_r (Int.le_refl _))
    refine zP_c (hBk (x := x) (j := j + 1 + 1) hx.1 (by first | decide | omega) (by first | decide | omega) hE2 hS2' (by first | decide | omega) (PS_pw hS2' (by first | decide | omega)) hLT2 (by rw [fX_3 hXA (by decide) (by decide)]; exact hF.2.2.2.2.1)) (fun r F3 B3 r' Fm3 Bm3 hh => ?_)
    have hh0 := hh
    obtain ⟨g1, g2, g3, g4, g5⟩ := hh
    rw [b14, b15] at g3
    rcases g5 with ⟨rfl, j3, n, v1, v2, v3, v4, v5, v6, v7, v8⟩ | ⟨rfl, er⟩
    · rw [b14] at v5 v7
      rw [b15] at v6 v7
      rw [b18] at v4
      have hK3 : fK 4 x (F 3 0 14) (F 3 0 15) (zup4 B 3 0 2 x (Bm 14 0 9 (j + 1))) B3 := g3
      have hE3 := EV_B hE2 (fK_10 hK3) (fun k hk => fH_k g4 k (by first | decide | omega))
      have hX3 := PS_CX hE3 v2
      have hM3 := PS_MX hE3 v2
      have hg3 := v2.2.2.2.1
      have jj3 := v2.2.1.1
      have wr3 := wdm_r Bm3 j3 6384756
      have gk3 : ∀ k, k ≤ 7 → k ≠ 4 → B3 3 0 k x = (zup4 B 3 0 2 x (Bm 14 0 9 (j + 1))) 3 0 k x := fun k p q => hK3 3 0 k x (fun z => by have := z.2.2.2; omega) (fun z => by have := z.2.2.1; omega) (fun z => q z.2.2.1)
      simp only [ir1, i10, L_good hg3, zb_s]
      rw [v2.1, if_pos ⟨Int.le_refl _, k10⟩, C_isWord hX3 (by decide), PS_wd hE3 v2, L_isWord hM3 (by decide)]
      simp only [zb_s]
      rw [if_pos (show r32 (wdm Bm3 j3 6384756) by omega), if_pos (show r32 (wdm Bm3 j3 6384756) by omega)]
      by_cases z : wdm Bm3 j3 6384756 = 0
      · rw [if_pos z, if_pos z]
        simp only [zb_s]
        rw [if_pos (by decide), L_202 (by first | decide | omega)]
        refine zP_s (IPO_B (j := j) hh0 hE.1.2.1 (by first | decide | omega) hxi gF2 gG2 hB2 b14 b15 b18 (by rw [fX_3 hXA (by decide) (by decide)]; exact hF.2.2.2.2.2.1) ?_ (Or.inr rfl))
        intro j' n' Bx By h1 _ am bk _ h30 h31 gx w g0
        obtain ⟨p1, p0⟩ := IRn_at hF gx w (fun k hk => by rw [g0 k (by first | decide | omega) (by first | decide | omega), fX_3 hXA (by simp; omega) (by first | decide | omega)]) (R := IRd L (d - 1))
        have hj' : By 14 0 30 (j + 1 + 1) + 1 = j' := by
          rw [am.1 30 (j + 1 + 1) (by decide) (by decide) (by first | decide | omega) (by first | decide | omega), zup4_v, if_neg (fun q => absurd q.2.2.1 (by decide)), h30]
          omega
        refine ⟨p1, Or.inr (Or.inl ⟨p0, wdAt_c wd w, ?_, ?_, Or.inl ⟨?_, ?_⟩⟩)⟩
        · rw [gx 2 (by decide) (by decide), g0 2 (by decide) (by decide)]
          simp only [zup4_v]
          exact nmAt_c ⟨n1, by simp, by simpa using n2, by simpa using n3⟩ w
        · rw [show j + 2 = j + 1 + 1 by omega]; exact bk
        · rw [gx 3 (by decide) (by decide), g0 3 (by decide) (by decide), fX_3 hXA (by decide) (by decide)]; exact hF.2.2.2.1
        · rw [h31, show j + 2 = j + 1 + 1 by omega]; exact hj'
      · have z' := Decidable.not_not.mp (mt wdm_0.mpr z)
        have hS4 := PS_step hE3 v2 (by first | decide | omega)
        have hLT3 := LT_k hLT (fF_t gF2 g1) (fG_t gG2 g2) (fK_t (fK_K (fB_K hB2) (lo := x) (pl := F 3 0 15) (Int.le_refl _) (Int.le_refl _) (Or.inr ⟨by decide, Int.le_refl _⟩)) (fK_K hK3 (by first | decide | omega) (Int.le_refl _) (Or.inl ⟨rfl, rfl⟩))) (by decide) (fJ_H (fr := 0) (j := 0) g4 (by first | decide | omega))
        have hLT4 := LT_k (k0 := 0) (x0 := 0) (lo := 0) (pl := 0) (fr := 0) (j := 0) hLT3 (fF_a (B := B3) fF_r) (fG_u (k := 16) (v := j3 + 1) fG_r (by decide) (by decide)) fK_r (by decide) (fJ_H fH_r (Int.le_refl _))
        obtain ⟨kk, hkk⟩ : ∃ y, K.1 = y + 1 := ⟨K.1 - 1, (by first | decide | omega)⟩
        rw [if_neg z, if_neg z, hoa, hM3.1]
        unfold fb_Parser_takeAlternatives
        rw [if_pos ⟨Int.le_refl _, k3⟩, v2.1, if_pos ⟨Int.le_refl _, k10⟩, C_adv hX3]
        simp only [zb_s, zb_a]
        rw [hkk, f_Parser_takeAlternatives_11]
        rw [if_pos (show r32 0 by decide), if_neg (show ¬ (3000 : Int) ≤ 0 by decide), if_pos (show r32 (-1) by decide), if_pos rfl]
        rw [show ∀ X, zbind (om'.1 (zup3 Fm3 14 0 16 (j3 + 1)) Bm3) (fun _ F2 B2 => zbind (f_M_itemOfWord_103 om' Km Km F2 B2) X) = zbind (zbind (om'.1 (zup3 Fm3 14 0 16 (j3 + 1)) Bm3) (fun _ F2 B2 => f_M_itemOfWord_103 om' Km Km F2 B2)) X from fun X => zb_a.symm]
        refine zP_c (P_alt (x := x) (o := o'') (om := om') hx hBk2 (q := 3001 - 1) (m := kk) (m' := Km) (i := 0) (last := -1) (j := j3 + 1) (x0 := x) (k0 := 3) (by first | decide | omega) (by first | decide | omega) (by first | decide | omega) (by first | decide | omega) (by first | decide | omega) (Or.inl ⟨rfl, rfl, rfl⟩) hx.1 (by rw [advF_o (by decide)]; omega) (by rw [advF_o (by decide)]; omega) hE3 hS4 (by rw [advF_o (by decide)]; omega) (by rw [advF_o (by decide)]; omega) hLT4) (fun r F5 B5 r' Fm5 Bm5 hh => ?_)
        obtain ⟨y1, y2, y3, y4, y5⟩ := hh
        have d14 : (advF F3 B3) 3 0 14 = F3 3 0 14 := advF_o (by decide)
        have d15 : (advF F3 B3) 3 0 15 = F3 3 0 15 := advF_o (by decide)
        have d18 : (advF F3 B3) 3 0 18 = F3 3 0 18 := advF_o (by decide)
        rw [d14, d15] at y3
        have hr : r = 0 ∨ r = 1 := by
          rcases y5 with q | q
          · exact Or.inr q.1
          · exact Or.inl q.1
        have gB : fB x (F 3 0 15) B B5 := fun c i k y a b => by
          rw [y3 c i k y (fun q => a ⟨q.1, q.2.1, q.2.2.1, by have := q.2.2.2; omega⟩) (fun q => b ⟨q.1, q.2.1, q.2.2.1, q.2.2.2.1, by have := q.2.2.2.2; omega⟩) (fun q => a ⟨q.1, q.2.1, by have := q.2.2.1; omega, by have := q.2.2.2; omega⟩)]
          rw [hK3 c i k y (fun q => a ⟨q.1, q.2.1, q.2.2.1, by have := q.2.2.2; omega⟩) b (fun q => a ⟨q.1, q.2.1, by have := q.2.2.1; omega, by have := q.2.2.2; omega⟩)]
          exact hB2 c i k y a b
        have gFF := fF_t (fF_t gF2 g1) (fF_t (fF_a (B := B3) fF_r) y1)
        have gGG := fG_t (fG_t gG2 g2) (fG_t (fG_u fG_r (by decide) (by decide)) y2)
        have gHH : fH j Bm Bm5 := fH_t (fH_m g4 (by first | decide | omega)) (fH_m y4 (by first | decide | omega))
        have fin : (if r32 r then (if r = 0 then some (0, F5, B5) else some (1, F5, B5)) else none) = some (r, F5, B5) := by
          rcases hr with rfl | rfl
          · rw [ir0, i00]
          · rw [ir1, i10]
        rw [L_202 (by first | decide | omega), fin]
        simp only [zb_s]
        rw [if_pos hr]
        refine zP_s ⟨gFF, gGG, gB, fH_t gHH hH0, ?_⟩
        rcases y5 with ⟨rfl, j5, n5, u1, u2, u3, u4, u5, u6, u7⟩ | er
        · rw [d14] at u4 u6
          rw [d15] at u5 u6
          rw [d18] at u3
          have gk5 : ∀ k, k ≤ 7 → k ≠ 4 → k ≠ 3 → B5 3 0 k x = (zup4 B 3 0 2 x (Bm 14 0 9 (j + 1))) 3 0 k x := fun k p q q3 => by
            rw [y3 3 0 k x (fun w => by have := w.2.2.2; omega) (fun w => by have := w.2.2.1; omega) (fun w => q3 w.2.2.1)]; exact gk3 k p q
          have e4 : B5 3 0 4 x = B3 3 0 4 x := y3 3 0 4 x (fun w => by have := w.2.2.2; omega) (fun w => absurd w.2.2.1 (by decide)) (fun w => absurd w.2.2.1 (by decide))
          refine Or.inl ⟨rfl, Or.inl ⟨j5, (by first | decide | omega), PS_f (lo := 0) (pl := 0) u2 fB_r hH0, ?_, (by first | decide | omega), (by first | decide | omega), (by first | decide | omega), ?_, ?_⟩⟩
          · simp [zup4_v]; exact u2.2.2.1
          · rw [gk5 5 (by decide) (by decide) (by decide), fX_3 hXA (by decide) (by decide)]; exact hF.2.2.2.2.2.1
          · intro Bx By ab am
            rw [u2.2.2.1] at am
            have gx : ∀ k, k ≤ 7 → k ≠ 5 → Bx 3 0 k x = B5 3 0 k x := fun k p q => ab.1 k x p (Int.le_refl _) (by first | decide | omega) (fun w => q w.1)
            have w : ∀ k, 7 ≤ k → k ≤ 11 → By 14 0 k = Bm 14 0 k := fun k p q => by
              rw [am.2.1 k p q]
              funext y
              rw [zup4_v, if_neg (fun w => by have := w.2.2.1; omega), fH_k gHH k (by first | decide | omega)]
            have e30 : By 14 0 30 (j + 1 + 1) = j3 - 1 := by
              rw [am.1 30 (j + 1 + 1) (by decide) (by decide) (by first | decide | omega) (by first | decide | omega), zup4_v, if_neg (fun q => absurd q.2.2.1 (by decide)), y4 14 0 30 (j + 1 + 1) (fun q => by have := q.2.2.2.2; omega)]
              exact v3
            have e31 : By 14 0 31 j = j5 := by rw [am.1 31 j (by decide) (by decide) (Int.le_refl _) (by first | decide | omega)]; simp [zup4_v]
            have aM5 : agM L (j + 1) j5 Bm5 (zup4 Bm5 14 0 31 j j5) := ⟨fun k y p q a b => by rw [zup4_v, if_neg (fun w => by have := w.2.2.2; omega)], fun k p q => by funext y; rw [zup4_v, if_neg (fun w => by have := w.2.2.1; omega)], fun q p a => by rw [zup4_v, if_neg (fun w => absurd w.2.2.1 (by decide))]⟩
            have hs : SLR L (d - 1) n (B5 3 0 4 x) (j + 1 + 1 + 1) (j3 - 1) (F 3 0 14) (F3 3 0 14) (F 3 0 15) (F3 3 0 15) B5 (zup4 Bm5 14 0 31 j j5) := by
              rw [e4]
              exact SLR_t v7 (agB_K (k0' := 0) y3 (Int.le_refl _) (Int.le_refl _) (by first | decide | omega) (by decide)) (agM_t (agM_f y4 (by first | decide | omega)) (agM_m aM5 (by first | decide | omega) (by first | decide | omega)))
            have bk : BKf (IRd L (d - 1)) Bx By x (j + 1 + 1) := BK_of ab am hs (by rw [zup4_v, if_neg (fun q => absurd q.2.2.1 (by decide)), y4 14 0 30 (j + 1 + 1) (fun q => by have := q.2.2.2.2; omega)]; exact v3) (by first | decide | omega) (by first | decide | omega) (Int.le_refl _) (by first | decide | omega) (by first | decide | omega) (by first | decide | omega) (by first | decide | omega) (by first | decide | omega) (by have h1 := hE.1.2.1; have h2 := v2.2.1.1.2; omega)
            obtain ⟨p1, p0⟩ := IRn_at hF gx w (fun k hk => by rw [gk5 k (by first | decide | omega) (by first | decide | omega) (by first | decide | omega), fX_3 hXA (by simp; omega) (by first | decide | omega)]) (R := IRd L (d - 1))
            obtain ⟨d', rfl⟩ : ∃ y, d = y + 1 := ⟨d - 1, (by first | decide | omega)⟩
            refine Or.inr ⟨p1, Or.inr (Or.inl ⟨p0, wdAt_c wd w, ?_, ?_, Or.inr ⟨n5, ?_⟩⟩)⟩
            · rw [gx 2 (by decide) (by decide), gk5 2 (by decide) (by decide) (by decide)]
              simp only [zup4_v]
              exact nmAt_c ⟨n1, by simp, by simpa using n2, by simpa using n3⟩ w
            · rw [show j + 2 = j + 1 + 1 by omega]; exact bk
            · rw [gx 3 (by decide) (by decide), e31, show j + 2 = j + 1 + 1 by omega, e30, show j3 - 1 + 2 = j3 + 1 by omega]
              exact u6 Bx By (agB_m ab (by first | decide | omega) (Int.le_refl _) (by first | decide | omega) (Int.le_refl _) (Or.inr (Or.inl (by first | decide | omega)))) (agM_t (agM_m aM5 (by first | decide | omega) (Int.le_refl _)) (agM_m am (by first | decide | omega) (Int.le_refl _)))
        · exact Or.inr er
    · simp only [ir0, i00, zb_s]
      rw [L_goodB er.2]
      simp only [zb_s, ir0, if_true]
      rw [if_pos (by decide), L_202 (by first | decide | omega)]
      refine zP_s ⟨fF_t gF2 g1, fG_t gG2 g2, ?_, fH_t (fH_m g4 (by first | decide | omega)) hH0, Or.inr ⟨rfl, er⟩⟩
      intro c i k y a b
      rw [g3 c i k y (fun q => a ⟨q.1, q.2.1, q.2.2.1, by have := q.2.2.2; omega⟩) b (fun q => a ⟨q.1, q.2.1, by have := q.2.2.1; omega, by have := q.2.2.2; omega⟩)]
      exact hB2 c i k y a b
  · rw [c1, m1]
    simp only [zb_s, zb_a, ir0, i00]
    rw [hBd er.2]
    simp only [zb_s]
    rw [L_goodB er.2]
    simp only [zb_s, ir0, if_true]
    rw [if_pos (by decide), L_202 (by first | decide | omega)]
    exact zP_s ⟨fF_e gF, fG_e gG, fB_r, hH0, Or.inr ⟨rfl, er⟩⟩
end
end
section
section
/-! ===== every item, on both sides ===== -/
theorem IPO_r {L : Int} {d : Nat} {N j x r : Int} {F : zF} {B : zB} {Fm : zF} {Bm : zB} {F' : zF} {B' : zB} {Fm' : zF} {Bm' : zB} (h : IPO L d N j x F B Fm Bm r F' B' Fm' Bm') : r = 0 ∨ r = 1 := by
  rcases h.2.2.2.2 with z | z
  · exact Or.inr z.1
  · exact Or.inl z.1
theorem wB_n {v : Int} (h : fiL wB v 0 = -1) : ¬ v = 125780002955636 ∧ ¬ v = 7697253 ∧ ¬ v = 1836021349 ∧ ¬ v = 120299659095922 ∧ ¬ v = 1650549611 ∧ ¬ v = 1936486263 := by
  have m := fiL_n.mp h
  unfold wB at m
  simp only [List.mem_cons, List.not_mem_nil, or_false, not_or] at m
  exact m
theorem L_itemBad {K : zK} {Km : Nat} {N : Int} {om om' : oT_P} (ho : ∀ F B, om.2.2.2 F B = fb_M_itemOfWord om' Km F B) : ItemBad K Km N (fun F B => fb_M_item om Km F B) := by
  intro j F B Fm Bm hE hS hs
  have hg := hS.2.2.2.1
  have hM := PS_MX hE hS
  have jj := hS.2.1.1
  have nn := hE.1.2.1
  have ek := hS.2.1.2.1
  have ev := hS.2.1.2.2.2.1
  have tk := hE.1.2.2 j jj.1 jj.2
  have hkk := hM.2.2.1
  have e16 : (errM Fm Bm (wr Bm j)) 14 0 16 = j := by unfold errM; simp [zup3_v]; exact hM.1
  refine ⟨0, ?_⟩
  show fb_M_item om Km Fm Bm = _
  by_cases k4 : Bm 14 0 7 j = 4
  · have v4 : F 10 0 2 = Bm 14 0 11 j := by rw [ev]; exact (tk.2.2.2.2.2.2.1 k4).1
    have wd : wdAt Bm j (Bm 14 0 11 j) := ⟨k4, rfl⟩
    unfold isrt at hs
    rw [ek, if_pos k4, v4] at hs
    by_cases f : fiL wB (Bm 14 0 11 j) 0 = -1
    · rw [if_pos f] at hs
      have n114 : ¬ Bm 14 0 11 j = 114 := fun z => by rw [if_pos z] at hs; omega
      obtain ⟨n1, n2, n3, n4, n5, n6⟩ := wB_n f
      have t : ∀ c, r64 c → ¬ Bm 14 0 11 j = c → f_M_isWord Km c Fm Bm = some (0, Fm, Bm) := fun c hc n => by rw [L_wd hM wd hc, if_neg n]
      rw [L_itemW hM wd ho]
      unfold fb_M_itemOfWord f_M_itemOfWord_389
      simp only [t 114 (by decide) n114, t 125780002955636 (by decide) n1, t 7697253 (by decide) n2, t 1836021349 (by decide) n3, t 120299659095922 (by decide) n4, t 1650549611 (by decide) n5, t 1936486263 (by decide) n6, zb_s, ir0, if_true, L_wrong hg hM]
      rw [L_202 (by first | decide | omega), e16]
    · rw [if_neg f] at hs
      have := fiL_b (w := Bm 14 0 11 j) (L := wB)
      omega
  · have k2 : ¬ Bm 14 0 7 j = 2 := by
      intro z
      unfold isrt at hs
      rw [ek, if_neg k4, if_pos z] at hs
      omega
    have t : ∀ c, (c = 60 ∨ c = 124 ∨ c = 33 ∨ c = 91) → f_M_isSign Km c Fm Bm = some (0, Fm, Bm) := by
      intro c hc
      rw [L_isSign hM (by first | decide | omega)]
      rw [show sgm Bm j c = 0 from sgm_0.mpr (fun z => by
        have v5 : F 10 0 2 = Bm 14 0 9 j := by rw [ev]; exact (tk.2.2.2.2.2.2.2.1 z.1).1
        unfold isrt at hs
        rw [ek, if_neg k4, if_neg k2, if_pos z.1, v5, z.2] at hs
        rcases hc with rfl | rfl | rfl | rfl <;> simp at hs)]
    unfold fb_M_item
    rw [hM.1, if_pos (by first | decide | omega), if_pos (by first | decide | omega), if_neg k2]
    simp only [t 60 (by decide), t 124 (by decide), t 33 (by decide), t 91 (by decide), zb_s, ir0, if_true]
    rw [hM.1, if_pos (by first | decide | omega), if_pos (by first | decide | omega), if_neg k4, L_wrong hg hM]
    simp only [zb_s]
    rw [L_202 (by first | decide | omega), e16]
theorem blk_sim {L : Int} {d : Nat} {K : zK} {Km : Nat} {N : Int} {a b : Nat} (hI : ∀ d', d = d' + 1 → ItemSim L K Km N d' (gr_CP K a).2.2.1 (gr_P Km (b + 2)).2.1) : BlkSim L K Km N d (gr_CP K (a + 2)).1 (gr_P Km (b + 3)).1 :=
  P_block (o := gr_CP K (a + 1)) (o' := gr_CP K a) (om := gr_P Km (b + 2)) (fun _ _ _ _ => rfl) hI (L_itemBad (om := gr_P Km (b + 1)) (om' := gr_P Km b) (fun _ _ => rfl))
theorem blk_bad {Km : Nat} {b : Nat} (hK : 3002 ≤ Km) : BlkBad (gr_P Km (b + 1)).1 := L_blockB (om := gr_P Km b) hK
theorem item_step {L : Int} {K : zK} {Km : Nat} {N : Int} (hK : 3002 ≤ Km) {d g g' : Nat} (hg : 5 * d + 5 ≤ g) (hg' : 3 * d + 6 ≤ g') (hI : ∀ d', d = d' + 1 → ∀ {g g' : Nat}, 5 * d' + 5 ≤ g → 3 * d' + 6 ≤ g' → ItemSim L K Km N d' (gr_CP K g).2.2.1 (gr_P Km g').2.1) : ItemSim L K Km N d (gr_CP K g).2.2.1 (gr_P Km g').2.1 := by
  obtain ⟨a, rfl⟩ : ∃ a, g = a + 5 := ⟨g - 5, (by first | decide | omega)⟩
  obtain ⟨b, rfl⟩ : ∃ b, g' = b + 6 := ⟨g' - 6, (by first | decide | omega)⟩
  have b1 : BlkSim L K Km N d (gr_CP K (a + 4)).1 (gr_P Km (b + 4)).1 := blk_sim (a := a + 2) (b := b + 1) (fun d' h => hI d' h (by first | decide | omega) (by first | decide | omega))
  have b2 : BlkSim L K Km N d (gr_CP K (a + 3)).1 (gr_P Km (b + 4)).1 := blk_sim (a := a + 1) (b := b + 1) (fun d' h => hI d' h (by first | decide | omega) (by first | decide | omega))
  have b3 : BlkSim L K Km N d (gr_CP K (a + 2)).1 (gr_P Km (b + 4)).1 := blk_sim (a := a) (b := b + 1) (fun d' h => hI d' h (by first | decide | omega) (by first | decide | omega))
  have bd : BlkBad (gr_P Km (b + 4)).1 := blk_bad (b := b + 3) hK
  intro x j F B Fm Bm x0 x1 hxi hij hE hS hd hdp hLT hF hn
  have ho : ∀ F B, (gr_P Km (b + 5)).2.2.2 F B = fb_M_itemOfWord (gr_P Km (b + 4)) Km F B := fun _ _ => rfl
  show zP (fb_Parser_takeItem (gr_CP K (a + 4)) K 0 x F B) (fb_M_item (gr_P Km (b + 5)) Km Fm Bm) _
  have hx : 0 ≤ x ∧ x < 3000 := ⟨x0, x1⟩
  have hX := PS_CX hE hS
  have hM := PS_MX hE hS
  have jj := hS.2.1.1
  have nn := hE.1.2.1
  have ek := hS.2.1.2.1
  have ev := hS.2.1.2.2.2.1
  have tk := hE.1.2.2 j jj.1 jj.2
  by_cases k4 : Bm 14 0 7 j = 4
  · have v4 : F 10 0 2 = Bm 14 0 11 j := by rw [ev]; exact (tk.2.2.2.2.2.2.1 k4).1
    rw [ek, v4] at hF hn
    by_cases w1 : Bm 14 0 11 j = 125780002955636
    · rw [k4, w1, show isrt 4 125780002955636 = 4 by decide] at hF
      exact P_repeat hx hxi hij hE hS hd hdp hLT hF ⟨k4, w1⟩ ho (fun _ _ _ _ => rfl) (fun _ _ _ _ => rfl) (o' := gr_CP K (a + 3)) (o'' := gr_CP K (a + 2)) b2 b3 bd
    by_cases w2 : Bm 14 0 11 j = 7697253
    · rw [k4, w2, show isrt 4 7697253 = 5 by decide] at hF
      exact P_use hx hxi hE hS hLT hF ⟨k4, w2⟩ ho
    by_cases w3 : Bm 14 0 11 j = 1836021349
    · rw [k4, w3, show isrt 4 1836021349 = 6 by decide] at hF
      exact P_move hx hxi hij hE hS hd hdp hLT hF ⟨k4, w3⟩ ho (fun _ _ _ _ => rfl) (o' := gr_CP K (a + 3)) b2 bd
    by_cases w4 : Bm 14 0 11 j = 120299659095922
    · rw [k4, w4, show isrt 4 120299659095922 = 7 by decide] at hF
      exact P_mirror hx hxi hij hE hS hd hdp hLT hF ⟨k4, w4⟩ ho (fun _ _ _ _ => rfl) (o' := gr_CP K (a + 3)) b2 bd
    by_cases w5 : Bm 14 0 11 j = 1650549611
    · rw [k4, w5, show isrt 4 1650549611 = 8 by decide] at hF
      exact P_back hx hxi hij hE hS hd hdp hLT hF ⟨k4, w5⟩ ho b1
    by_cases w6 : Bm 14 0 11 j = 1936486263
    · rw [k4, w6, show isrt 4 1936486263 = 9 by decide] at hF
      exact P_slow hx hxi hij hE hS hd hdp hLT hF ⟨k4, w6⟩ ho b1 bd
    have f : fiL wB (Bm 14 0 11 j) 0 = -1 := by
      refine fiL_n.mpr ?_
      unfold wB
      simp only [List.mem_cons, List.not_mem_nil, or_false, not_or]
      exact ⟨w1, w2, w3, w4, w5, w6⟩
    by_cases w7 : Bm 14 0 11 j = 114
    · have wd : wdAt Bm j 114 := ⟨k4, w7⟩
      rw [k4, w7, show isrt 4 114 = 0 by decide] at hF
      have t : ∀ c, r64 c → f_M_isWord Km c Fm Bm = some (if 114 = c then 1 else 0, Fm, Bm) := fun c hc => L_wd hM wd hc
      rw [C_itemE hX hx hF.1, L_itemW hM wd ho]
      unfold fb_M_itemOfWord f_M_itemOfWord_389
      simp only [t 114 (by decide), zb_s, zb_a, ir1, if_true, if_false, Int.reduceEq, hM.1]
      rw [if_pos (show 0 ≤ j ∧ j < 3001 by omega), zb_a]
      simp only [zb_s]
      refine zP_cl (P_evR (o := gr_P Km (b + 5)) (L := L) (d := d) hx (by first | decide | omega) hE hS hF wd hdp) (fun r F' B' r' Fm' Bm' hh => ?_)
      rw [if_pos (IPO_r hh)]
      exact zP_s hh
    · exfalso
      apply hn
      unfold isrt
      rw [if_pos k4, if_pos f, if_neg w7]
  · by_cases k2 : Bm 14 0 7 j = 2
    · rw [ek, k2, show isrt 2 (F 10 0 2) = 0 by unfold isrt; rw [if_neg (by decide), if_pos rfl]] at hF
      rw [C_itemE hX hx hF.1]
      unfold fb_M_item
      rw [hM.1, if_pos (by first | decide | omega), if_pos (by first | decide | omega), if_pos k2]
      refine zP_cl (P_evP (o := gr_P Km (b + 5)) (L := L) (d := d) hx (by first | decide | omega) hE hS hF k2 hdp) (fun r F' B' r' Fm' Bm' hh => ?_)
      rw [if_pos (IPO_r hh)]
      exact zP_s hh
    · by_cases k5 : Bm 14 0 7 j = 5
      · have v5 : F 10 0 2 = Bm 14 0 9 j := by rw [ev]; exact (tk.2.2.2.2.2.2.2.1 k5).1
        rw [ek, k5, v5] at hF hn
        by_cases c1 : Bm 14 0 9 j = 60
        · have sg : sgAt Bm j 60 := ⟨k5, c1⟩
          rw [c1, show isrt 5 60 = 0 by decide] at hF
          have t : ∀ c, r32 c → f_M_isSign Km c Fm Bm = some (if 60 = c then 1 else 0, Fm, Bm) := fun c hc => L_sg hM sg hc
          rw [C_itemE hX hx hF.1]
          unfold fb_M_item
          rw [hM.1, if_pos (by first | decide | omega), if_pos (by first | decide | omega), if_neg k2]
          simp only [t 60 (by decide), zb_s, ir1, if_true, if_false, Int.reduceEq]
          refine zP_cl (P_evC (o := gr_P Km (b + 5)) (L := L) (d := d) hx (by first | decide | omega) hE hS hF sg hdp) (fun r F' B' r' Fm' Bm' hh => ?_)
          rw [if_pos (IPO_r hh)]
          exact zP_s hh
        by_cases c2 : Bm 14 0 9 j = 124
        · rw [c2, show isrt 5 124 = 1 by decide] at hF
          exact P_bar hx hxi hE hS hF ⟨k5, c2⟩
        by_cases c3 : Bm 14 0 9 j = 33
        · rw [c3, show isrt 5 33 = 2 by decide] at hF
          exact P_loud hx hxi hE hS hF ⟨k5, c3⟩
        by_cases c4 : Bm 14 0 9 j = 91
        · rw [c4, show isrt 5 91 = 3 by decide] at hF
          exact P_tup hx hxi hij hE hS hd hdp hLT hF ⟨k5, c4⟩ (o' := gr_CP K (a + 3)) (o'' := gr_CP K (a + 2)) (om' := gr_P Km (b + 4)) (fun _ _ _ _ => rfl) (fun _ _ _ _ => rfl) (fun _ _ => rfl) (fun d' h => hI d' h (by first | decide | omega) (by first | decide | omega)) (L_itemBad (om := gr_P Km (b + 3)) (om' := gr_P Km (b + 2)) (fun _ _ => rfl))
        exfalso
        apply hn
        unfold isrt
        rw [if_neg (by decide), if_neg (by decide), if_pos rfl, if_neg c1, if_neg c2, if_neg c3, if_neg c4]
      · exfalso
        apply hn
        unfold isrt
        rw [ek, if_neg k4, if_neg k2, if_neg k5]
theorem item_sim {L : Int} {K : zK} {Km : Nat} {N : Int} (hK : 3002 ≤ Km) : ∀ {d : Nat} {g g' : Nat}, 5 * d + 5 ≤ g → 3 * d + 6 ≤ g' → ItemSim L K Km N d (gr_CP K g).2.2.1 (gr_P Km g').2.1 := by
  intro d
  induction d with
  | zero =>
    intro g g' hg hg'
    exact item_step hK hg hg' (fun d' h => (by first | decide | omega))
  | succ d ih =>
    intro g g' hg hg'
    exact item_step hK hg hg' (fun d' h => by
      have : d' = d := by omega
      subst this
      intro g g' h1 h2
      exact ih h1 h2)
end
end
section
section
/-! ===== key, time, tempo, on both sides ===== -/
theorem PS_cg {N j : Int} {F F' : zF} {B : zB} {Fm Fm' : zF} {Bm : zB} (h : PS N j F B Fm Bm) (h10 : ∀ k, F' 10 0 k = F 10 0 k) (h3 : ∀ k, k = 11 ∨ k = 15 ∨ k = 18 ∨ k = 20 ∨ k = 21 → F' 3 0 k = F 3 0 k) (hm : ∀ k, k = 16 ∨ k = 17 ∨ k = 19 ∨ k = 20 ∨ k = 21 → Fm' 14 0 k = Fm 14 0 k) : PS N j F' B Fm' Bm := by
  unfold PS CUR at *
  rw [h3 11 (by decide), h3 15 (by decide), h3 18 (by decide), h3 20 (by decide), h3 21 (by decide), hm 16 (by decide), hm 17 (by decide), hm 19 (by decide), hm 20 (by decide), hm 21 (by decide)]
  simp only [h10]
  exact h
theorem ERR_cg {F F' Fm Fm' : zF} (h : ERR F Fm) (h3 : F' 3 0 21 = F 3 0 21) (h17 : Fm' 14 0 17 = Fm 14 0 17) (h18 : Fm' 14 0 18 = Fm 14 0 18) : ERR F' Fm' := by
  unfold ERR bad at *
  rw [h3, h17, h18]; exact h
/-- what the head of a text has told so far -/
def HP (K : zK) (p w : Int) (F Fm : zF) : Prop := (0 ≤ p ∧ p < K.2 6) ∧ (0 ≤ w ∧ w < 3) ∧ Fm 14 0 6 = w ∧ (F 6 p 2 = Fm 13 w 2 ∧ -7 ≤ F 6 p 2 ∧ F 6 p 2 ≤ 7) ∧ (F 6 p 3 = Fm 13 w 3 ∧ (F 6 p 3 = 0 ∨ F 6 p 3 = 1)) ∧ (F 6 p 4 = Fm 13 w 4 ∧ 1 ≤ F 6 p 4 ∧ F 6 p 4 ≤ 12) ∧ (F 6 p 5 = Fm 13 w 5 ∧ (F 6 p 5 = 2 ∨ F 6 p 5 = 4 ∨ F 6 p 5 = 8 ∨ F 6 p 5 = 16)) ∧ (F 6 p 6 = Fm 13 w 6 ∧ 20 ≤ F 6 p 6 ∧ F 6 p 6 ≤ 300) ∧ F 3 0 17 = Fm 14 0 22 + 2 * Fm 14 0 23 + 4 * Fm 14 0 24 ∧ (Fm 14 0 22 = 0 ∨ Fm 14 0 22 = 1) ∧ (Fm 14 0 23 = 0 ∨ Fm 14 0 23 = 1) ∧ (Fm 14 0 24 = 0 ∨ Fm 14 0 24 = 1)
def hF (p : Int) (F F' : zF) : Prop := ∀ c i k, ¬ (c = 10 ∧ i = 0) → ¬ (c = 3 ∧ i = 0 ∧ k ≠ 11) → ¬ (c = 6 ∧ i = p ∧ 2 ≤ k ∧ k ≤ 6) → F' c i k = F c i k
def hG (w : Int) (F F' : zF) : Prop := ∀ c i k, ¬ (c = 14 ∧ i = 0 ∧ 16 ≤ k ∧ k ≤ 27) → ¬ (c = 13 ∧ i = w ∧ 2 ≤ k ∧ k ≤ 6) → F' c i k = F c i k
theorem hF_t {p : Int} {F F' F'' : zF} (h : hF p F F') (h' : hF p F' F'') : hF p F F'' := fun c i k a b d => by rw [h' c i k a b d, h c i k a b d]
theorem hG_t {w : Int} {F F' F'' : zF} (h : hG w F F') (h' : hG w F' F'') : hG w F F'' := fun c i k a b => by rw [h' c i k a b, h c i k a b]
theorem hF_r {p : Int} {F : zF} : hF p F F := fun _ _ _ _ _ _ => rfl
theorem hG_r {w : Int} {F : zF} : hG w F F := fun _ _ _ _ _ => rfl
theorem hF_a {p : Int} {F F' : zF} {B : zB} (h : hF p F F') : hF p F (advF F' B) := fun c i k a b d => by rw [advF_o a]; exact h c i k a b d
theorem hF_u {p v : Int} {F F' : zF} {k : Nat} (h : hF p F F') (hk : k ≠ 11) : hF p F (zup3 F' 3 0 k v) := fun c i x a b d => by
  rw [zup3_v, if_neg (fun z => b ⟨z.1, z.2.1, by rw [z.2.2]; exact hk⟩)]; exact h c i x a b d
theorem hF_6 {p v : Int} {F F' : zF} {k : Nat} (h : hF p F F') (h2 : 2 ≤ k) (h6 : k ≤ 6) : hF p F (zup3 F' 6 p k v) := fun c i x a b d => by
  rw [zup3_v, if_neg (fun z => d ⟨z.1, z.2.1, by rw [z.2.2]; exact h2, by rw [z.2.2]; exact h6⟩)]; exact h c i x a b d
theorem hF_e {p s : Int} {F F' : zF} (h : hF p F F') : hF p F (refF F' s) := hF_u h (by decide)
theorem hF_f {p : Int} {F F' : zF} (h : fF F F') : hF p F F' := fun c i k a b _ => h c i k a (fun z => b ⟨z.1, z.2.1, by have := z.2.2; omega⟩)
theorem hG_u {w v : Int} {F F' : zF} {k : Nat} (h : hG w F F') (h1 : 16 ≤ k) (h2 : k ≤ 27) : hG w F (zup3 F' 14 0 k v) := fun c i x a b => by
  rw [zup3_v, if_neg (fun z => a ⟨z.1, z.2.1, by rw [z.2.2]; exact h1, by rw [z.2.2]; exact h2⟩)]; exact h c i x a b
theorem hG_3 {w v : Int} {F F' : zF} {k : Nat} (h : hG w F F') (h1 : 2 ≤ k) (h2 : k ≤ 6) : hG w F (zup3 F' 13 w k v) := fun c i x a b => by
  rw [zup3_v, if_neg (fun z => b ⟨z.1, z.2.1, by rw [z.2.2]; exact h1, by rw [z.2.2]; exact h2⟩)]; exact h c i x a b
theorem hG_e {w s : Int} {F F' : zF} {B : zB} (h : hG w F F') : hG w F (errM F' B s) := hG_u (hG_u h (by decide) (by decide)) (by decide) (by decide)
theorem hG_f {w : Int} {F F' : zF} (h : fG F F') : hG w F F' := fun c i k a _ => h c i k (fun z => a ⟨z.1, z.2.1, z.2.2.1, by have := z.2.2.2; omega⟩)
/-- a head is taken, or refused, alike -/
def HPO (K : zK) (N j p w dl : Int) (F : zF) (B : zB) (Fm : zF) (Bm : zB) (r : Int) (F' : zF) (B' : zB) (Fm' : zF) (Bm' : zB) : Prop := B' = B ∧ Bm' = Bm ∧ hF p F F' ∧ hG w Fm Fm' ∧ (r = 1 ∧ (∃ j', j < j' ∧ PS N j' F' B' Fm' Bm' ∧ HP K p w F' Fm' ∧ F' 3 0 14 = F 3 0 14 ∧ F' 3 0 16 = F 3 0 16 ∧ Fm' 14 0 27 = Fm 14 0 27 ∧ F' 3 0 18 = F 3 0 18 ∧ F' 3 0 15 = F 3 0 15 ∧ Fm' 14 0 22 + Fm' 14 0 23 + Fm' 14 0 24 = Fm 14 0 22 + Fm 14 0 23 + Fm 14 0 24 + dl) ∨ r = 0 ∧ ERR F' Fm')
theorem zor8 : ∀ a b c : Fin 2, (a.val = 0 → zor ((a.val : Int) + 2 * (b.val : Int) + 4 * (c.val : Int)) 1 = 1 + 2 * (b.val : Int) + 4 * (c.val : Int)) ∧ (b.val = 0 → zor ((a.val : Int) + 2 * (b.val : Int) + 4 * (c.val : Int)) 2 = (a.val : Int) + 2 + 4 * (c.val : Int)) ∧ (c.val = 0 → zor ((a.val : Int) + 2 * (b.val : Int) + 4 * (c.val : Int)) 4 = (a.val : Int) + 2 * (b.val : Int) + 4) ∧ (zand ((a.val : Int) + 2 * (b.val : Int) + 4 * (c.val : Int)) 1 = (a.val : Int)) ∧ (zand ((a.val : Int) + 2 * (b.val : Int) + 4 * (c.val : Int)) 2 = 2 * (b.val : Int)) ∧ (zand ((a.val : Int) + 2 * (b.val : Int) + 4 * (c.val : Int)) 4 = 4 * (c.val : Int)) := by decide +kernel
theorem zor8i {a b c : Int} (ha : a = 0 ∨ a = 1) (hb : b = 0 ∨ b = 1) (hc : c = 0 ∨ c = 1) : (a = 0 → zor (a + 2 * b + 4 * c) 1 = 1 + 2 * b + 4 * c) ∧ (b = 0 → zor (a + 2 * b + 4 * c) 2 = a + 2 + 4 * c) ∧ (c = 0 → zor (a + 2 * b + 4 * c) 4 = a + 2 * b + 4) ∧ zand (a + 2 * b + 4 * c) 1 = a ∧ zand (a + 2 * b + 4 * c) 2 = 2 * b ∧ zand (a + 2 * b + 4 * c) 4 = 4 * c := by
  have h := zor8 ⟨a.toNat, (by first | decide | omega)⟩ ⟨b.toNat, (by first | decide | omega)⟩ ⟨c.toNat, (by first | decide | omega)⟩
  have e : ∀ z : Int, (z = 0 ∨ z = 1) → ((z.toNat : Nat) : Int) = z := fun z hz => by omega
  simp only [e a ha, e b hb, e c hc] at h
  refine ⟨fun z => h.1 (by first | decide | omega), fun z => h.2.1 (by first | decide | omega), fun z => h.2.2.1 (by first | decide | omega), h.2.2.2⟩
/-- which head a word begins: 1 key, 2 time, 4 tempo -/
def hds (k v : Int) : Int := if k = 4 then (if v = 7038329 then 1 else if v = 1953066341 then 2 else if v = 499917877359 then 4 else 0) else 0
theorem C_headSort {K : zK} {F : zF} {B : zB} (h : CX K F B) : f_Parser_headSort K 0 F B = some (hds (F 10 0 0) (F 10 0 2), F, B) := by
  have w1 := C_isWord (c := 7038329) h (by decide)
  have w2 := C_isWord (c := 1953066341) h (by decide)
  have w3 := C_isWord (c := 499917877359) h (by decide)
  have r1 := wdn_r F 7038329
  have r2 := wdn_r F 1953066341
  have r3 := wdn_r F 499917877359
  obtain ⟨k3, k10, e11, hk, hv, hx, h5, hK⟩ := h
  unfold f_Parser_headSort f_Parser_headSort_48 hds
  rw [if_pos ⟨(by first | decide | omega), k3⟩, e11, if_pos ⟨(by first | decide | omega), k10⟩, w1]
  simp only [zb_s]
  rw [if_pos (by first | decide | omega)]
  by_cases a : F 10 0 0 = 4
  · rw [if_pos a]
    by_cases v1 : F 10 0 2 = 7038329
    · rw [if_neg (by rw [wdn_0]; exact fun z => z ⟨a, v1⟩), if_pos v1]
    · rw [if_pos (wdn_0.mpr (fun z => v1 z.2)), if_neg v1, e11, if_pos ⟨(by first | decide | omega), k10⟩, w2]
      simp only [zb_s]
      rw [if_pos (by first | decide | omega)]
      by_cases v2 : F 10 0 2 = 1953066341
      · rw [if_neg (by rw [wdn_0]; exact fun z => z ⟨a, v2⟩), if_pos v2]
      · rw [if_pos (wdn_0.mpr (fun z => v2 z.2)), if_neg v2, e11, if_pos ⟨(by first | decide | omega), k10⟩, w3]
        simp only [zb_s]
        rw [if_pos (by first | decide | omega)]
        by_cases v3 : F 10 0 2 = 499917877359
        · rw [if_neg (by rw [wdn_0]; exact fun z => z ⟨a, v3⟩), if_pos v3]
        · rw [if_pos (wdn_0.mpr (fun z => v3 z.2)), if_neg v3]
  · have n : ∀ c, wdn F c = 0 := fun c => wdn_0.mpr (fun z => a z.1)
    rw [if_neg a, if_pos (n _), e11, if_pos ⟨(by first | decide | omega), k10⟩, w2]
    simp only [zb_s]
    rw [if_pos (by first | decide | omega), if_pos (n _), e11, if_pos ⟨(by first | decide | omega), k10⟩, w3]
    simp only [zb_s]
    rw [if_pos (by first | decide | omega), if_pos (n _)]
theorem P_tempo {K : zK} {Km : Nat} {N j p w : Int} {F : zF} {B : zB} {Fm : zF} {Bm : zB} (hE : EV K Km N B Bm) (hS : PS N j F B Fm Bm) (hP : HP K p w F Fm) (wd : wdAt Bm j 499917877359) (h24 : Fm 14 0 24 = 0) : zP (f_Parser_takeHead K 0 p F B) (f_M_head Km Fm Bm) (fun r F' B' _ Fm' Bm' => HPO K N j p w 1 F B Fm Bm r F' B' Fm' Bm') := by
  have hX := PS_CX hE hS
  have hM := PS_MX hE hS
  have k3 := hE.2.2.2.1
  have k10 := hE.2.2.2.2.1
  have h4 := wd.1
  have ek := hS.2.1.2.1
  have tk := hE.1.2.2 j hS.2.1.1.1 hS.2.1.1.2
  have ev : F 10 0 2 = 499917877359 := by rw [hS.2.1.2.2.2.1, (tk.2.2.2.2.2.2.1 h4).1]; exact wd.2
  have hs : hds (F 10 0 0) (F 10 0 2) = 4 := by rw [ek, h4, ev]; decide
  have t : ∀ c, r64 c → f_M_isWord Km c Fm Bm = some (if 499917877359 = c then 1 else 0, Fm, Bm) := fun c hc => L_wd hM wd hc
  obtain ⟨p0, w0, h6, q2, q3, q4, q5, q6, q17, q22, q23, q24⟩ := hP
  have z8 := (zor8i q22 q23 q24).2.2.1 h24
  rw [← q17] at z8
  have hSu : PS N j (zup3 F 3 0 17 (zor (F 3 0 17) 4)) B (zup3 Fm 14 0 24 1) Bm := PS_cg (PS_u (k := 17) (v := zor (F 3 0 17) 4) hS (by decide)) (fun _ => rfl) (fun _ _ => rfl) (fun k hk => by rw [zup3_v, if_neg (fun z => by have := z.2.2; omega)])
  have hS1 := PS_step hE hSu (by first | decide | omega)
  unfold f_Parser_takeHead f_M_head f_M_head_113 f_M_head_152
  rw [if_pos ⟨(by first | decide | omega), k3⟩, C_headSort hX, hs]
  simp only [t 7038329 (by decide), t 1953066341 (by decide), t 499917877359 (by decide), zb_s, ir0, ir1, if_true, if_false, Int.reduceEq, h24, h6, hM.1]
  rw [hX.2.2.1, if_pos ⟨(by first | decide | omega), k10⟩, C_adv (CX_u hX (by decide)), if_pos w0]
  simp only [zb_s, if_false, Int.reduceEq]
  rw [if_pos (show r32 4 by decide)]
  rcases P_num hE hS1 (lo := 20) (hi := 300) (by decide) (by decide) with ⟨n1, n2, n3, c1, m1, hS2⟩ | ⟨s, s', v, c1, m1, er⟩
  · rw [c1, m1]
    simp only [zb_s, ir1, i10]
    rw [if_pos p0]
    have e19 : (advF (zup3 (advF (zup3 F 3 0 17 (zor (F 3 0 17) 4)) B) 3 0 19 (Bm 14 0 9 (j + 1))) B) 3 0 19 = Bm 14 0 9 (j + 1) := by rw [advF_o (by decide)]; simp [zup3_v]
    rw [e19]
    refine zP_s ⟨rfl, rfl, hF_6 (hF_a (hF_u (hF_a (hF_u hF_r (by decide))) (by decide))) (by decide) (by decide), hG_3 (hG_u (hG_u (hG_u hG_r (by decide) (by decide)) (by decide) (by decide)) (by decide) (by decide)) (by decide) (by decide), Or.inl ⟨rfl, j + 1 + 1, (by first | decide | omega), ?_, ?_, ?_, ?_, ?_, ?_, ?_, ?_⟩⟩
    · exact PS_cg hS2 (fun k => by simp [zup3_v]) (fun k _ => by simp [zup3_v]) (fun k _ => by simp [zup3_v])
    · refine ⟨p0, w0, ?_, ?_, ?_, ?_, ?_, ?_, ?_, ?_, ?_, ?_⟩ <;> simp [zup3_v, advF_o] <;> first | assumption | omega
    · simp [zup3_v, advF_o]
    · simp [zup3_v, advF_o]
    · simp [zup3_v, advF_o]
    · simp [zup3_v, advF_o]
    · simp [zup3_v, advF_o]
    · simp [zup3_v, advF_o] <;> omega
  · rw [c1, m1]
    simp only [zb_s, ir0, i00]
    refine zP_s ⟨rfl, rfl, hF_e (hF_a (hF_u hF_r (by decide))), hG_3 (hG_e (hG_u (hG_u hG_r (by decide) (by decide)) (by decide) (by decide))) (by decide) (by decide), Or.inr ⟨rfl, ERR_cg er rfl (by simp [zup3_v]) (by simp [zup3_v])⟩⟩
end
end
section
section
/-! ===== time and key, on both sides ===== -/
theorem P_nump {K : zK} {Km : Nat} {N j lo hi : Int} {F : zF} {B : zB} {Fm : zF} {Bm : zB} (hE : EV K Km N B Bm) (hS : PS N j F B Fm Bm) (hl : r32 lo) (hh : r32 hi) (h1 : 1 ≤ lo) (h2 : hi ≤ 32) : (Bm 14 0 7 j = 3 ∧ lo ≤ Bm 14 0 9 j ∧ Bm 14 0 9 j ≤ hi ∧ pw2 (Bm 14 0 9 j) ∧ f_Parser_takeNumber K 0 lo hi 1 F B = some (1, advF (zup3 F 3 0 19 (Bm 14 0 9 j)) B, B) ∧ f_M_number Km lo hi 1 Fm Bm = some (Bm 14 0 9 j, zup3 Fm 14 0 16 (j + 1), Bm) ∧ PS N (j + 1) (advF (zup3 F 3 0 19 (Bm 14 0 9 j)) B) B (zup3 Fm 14 0 16 (j + 1)) Bm) ∨ (∃ s s' v, f_Parser_takeNumber K 0 lo hi 1 F B = some (0, refF F s, B) ∧ f_M_number Km lo hi 1 Fm Bm = some (v, errM Fm Bm s', Bm) ∧ ERR (refF F s) (errM Fm Bm s')) := by
  have hg := hS.2.2.2.1
  have cn := C_takeNumber (lo := lo) (hi := hi) (pw := 1) (PS_CX hE hS) hl hh (Or.inr ⟨rfl, h1, h2⟩)
  have mn := L_number (K := Km) (lo := lo) (hi := hi) (pw := 1) hg (PS_MX hE hS) hl hh (Or.inr ⟨rfl, h1, h2⟩)
  by_cases k : Bm 14 0 7 j = 3
  · obtain ⟨e0, e2⟩ := nm_of hE hS k
    by_cases n : nOK (Bm 14 0 9 j) lo hi 1
    · left
      have c := cn.1 e0 (by rw [e2]; exact n)
      rw [e2] at c
      exact ⟨k, n.1, n.2.1, n.2.2.resolve_left (by decide), c, mn.1 k n, PS_step hE (PS_u (k := 19) hS (by decide)) (by first | decide | omega)⟩
    · right
      exact ⟨5, 5, _, cn.2.1 e0 (by rw [e2]; exact n), mn.2.1 k n, PS_err hE hS (by rw [if_neg (by first | decide | omega)]) (by decide)⟩
  · right
    have e0 := hS.2.1.2.1
    exact ⟨2, wr Bm j, 0, cn.2.2 (by rw [e0]; exact k), mn.2.2 k, PS_err2 hE hS⟩
theorem bad_cg {F F' : zF} (h : bad F) (e : F' 14 0 17 = F 14 0 17) : bad F' := by
  unfold bad at *
  rw [e]; exact h
theorem P_time {K : zK} {Km : Nat} {N j p w : Int} {F : zF} {B : zB} {Fm : zF} {Bm : zB} (hE : EV K Km N B Bm) (hS : PS N j F B Fm Bm) (hP : HP K p w F Fm) (wd : wdAt Bm j 1953066341) (h23 : Fm 14 0 23 = 0) : zP (f_Parser_takeHead K 0 p F B) (f_M_head Km Fm Bm) (fun r F' B' _ Fm' Bm' => HPO K N j p w 1 F B Fm Bm r F' B' Fm' Bm') := by
  have hX := PS_CX hE hS
  have hM := PS_MX hE hS
  have k3 := hE.2.2.2.1
  have k10 := hE.2.2.2.2.1
  have h4 := wd.1
  have ek := hS.2.1.2.1
  have tk := hE.1.2.2 j hS.2.1.1.1 hS.2.1.1.2
  have ev : F 10 0 2 = 1953066341 := by rw [hS.2.1.2.2.2.1, (tk.2.2.2.2.2.2.1 h4).1]; exact wd.2
  have hs : hds (F 10 0 0) (F 10 0 2) = 2 := by rw [ek, h4, ev]; decide
  have t : ∀ c, r64 c → f_M_isWord Km c Fm Bm = some (if 1953066341 = c then 1 else 0, Fm, Bm) := fun c hc => L_wd hM wd hc
  obtain ⟨p0, w0, h6, q2, q3, q4, q5, q6, q17, q22, q23, q24⟩ := hP
  have z8 := (zor8i q22 q23 q24).2.1 h23
  rw [← q17] at z8
  have hSu : PS N j (zup3 F 3 0 17 (zor (F 3 0 17) 2)) B (zup3 Fm 14 0 23 1) Bm := PS_cg (PS_u (k := 17) (v := zor (F 3 0 17) 2) hS (by decide)) (fun _ => rfl) (fun _ _ => rfl) (fun k hk => by rw [zup3_v, if_neg (fun z => by have := z.2.2; omega)])
  have hS1 := PS_step hE hSu (by first | decide | omega)
  unfold f_Parser_takeHead f_M_head f_M_head_38 f_M_head_152 f_Parser_takeTime f_Parser_takeTime_41
  rw [if_pos ⟨(by first | decide | omega), k3⟩, C_headSort hX, hs]
  simp only [t 7038329 (by decide), t 1953066341 (by decide), zb_s, ir0, ir1, if_true, if_false, Int.reduceEq, h23, h6, hM.1]
  rw [hX.2.2.1, if_pos ⟨(by first | decide | omega), k10⟩, C_adv (CX_u hX (by decide)), if_pos w0]
  simp only [zb_s, if_true, if_false, Int.reduceEq]
  rw [if_pos (show r32 2 by decide), if_pos ⟨Int.le_refl _, k3⟩]
  rcases P_num hE hS1 (lo := 1) (hi := 12) (by decide) (by decide) with ⟨n1, n2, n3, c1, m1, hS2⟩ | ⟨s, s', v, c1, m1, er⟩
  · rw [c1, m1]
    simp only [zb_s, ir1, i10]
    rw [if_pos p0]
    have e19 : (advF (zup3 (advF (zup3 F 3 0 17 (zor (F 3 0 17) 2)) B) 3 0 19 (Bm 14 0 9 (j + 1))) B) 3 0 19 = Bm 14 0 9 (j + 1) := by rw [advF_o (by decide)]; simp [zup3_v]
    rw [e19]
    have hS2' : PS N (j + 1 + 1) (zup3 (advF (zup3 (advF (zup3 F 3 0 17 (zor (F 3 0 17) 2)) B) 3 0 19 (Bm 14 0 9 (j + 1))) B) 6 p 4 (Bm 14 0 9 (j + 1))) B (zup3 (zup3 (zup3 (zup3 Fm 14 0 23 1) 14 0 16 (j + 1)) 14 0 16 (j + 1 + 1)) 13 w 4 (Bm 14 0 9 (j + 1))) Bm := PS_cg hS2 (fun k => by simp [zup3_v]) (fun k _ => by simp [zup3_v]) (fun k _ => by simp [zup3_v])
    have gF2 : hF p F (zup3 (advF (zup3 (advF (zup3 F 3 0 17 (zor (F 3 0 17) 2)) B) 3 0 19 (Bm 14 0 9 (j + 1))) B) 6 p 4 (Bm 14 0 9 (j + 1))) := hF_6 (hF_a (hF_u (hF_a (hF_u hF_r (by decide))) (by decide))) (by decide) (by decide)
    have gG2 : hG w Fm (zup3 (zup3 (zup3 (zup3 Fm 14 0 23 1) 14 0 16 (j + 1)) 14 0 16 (j + 1 + 1)) 13 w 4 (Bm 14 0 9 (j + 1))) := hG_3 (hG_u (hG_u (hG_u hG_r (by decide) (by decide)) (by decide) (by decide)) (by decide) (by decide)) (by decide) (by decide)
    rcases P_sig hE hS2' (c := 47) (by decide) with ⟨_, c2, m2, hS3⟩ | ⟨c2, m2, er⟩
    · rw [c2, m2]
      simp only [zb_s, ir1, i10]
      have e6 : (zup3 (zup3 (zup3 (zup3 (zup3 Fm 14 0 23 1) 14 0 16 (j + 1)) 14 0 16 (j + 1 + 1)) 13 w 4 (Bm 14 0 9 (j + 1))) 14 0 16 (j + 1 + 1 + 1)) 14 0 6 = w := by simp [zup3_v]; exact h6
      rw [e6, if_pos w0]
      rcases P_nump hE hS3 (lo := 2) (hi := 16) (by decide) (by decide) (by decide) (by decide) with ⟨u1, u2, u3, u4, c3, m3, hS4⟩ | ⟨s, s', v, c3, m3, er⟩
      · rw [c3, m3]
        simp only [zb_s, ir1, i10]
        have e19' : (advF (zup3 (advF (zup3 (advF (zup3 (advF (zup3 F 3 0 17 (zor (F 3 0 17) 2)) B) 3 0 19 (Bm 14 0 9 (j + 1))) B) 6 p 4 (Bm 14 0 9 (j + 1))) B) 3 0 19 (Bm 14 0 9 (j + 1 + 1 + 1))) B) 3 0 19 = Bm 14 0 9 (j + 1 + 1 + 1) := by rw [advF_o (by decide)]; simp [zup3_v]
        rw [e19']
        unfold pw2 at u4
        refine zP_s ⟨rfl, rfl, hF_6 (hF_a (hF_u (hF_a gF2) (by decide))) (by decide) (by decide), hG_3 (hG_u (hG_u gG2 (by decide) (by decide)) (by decide) (by decide)) (by decide) (by decide), Or.inl ⟨rfl, j + 1 + 1 + 1 + 1, (by first | decide | omega), ?_, ?_, ?_, ?_, ?_, ?_, ?_, ?_⟩⟩
        · exact PS_cg hS4 (fun k => by simp [zup3_v]) (fun k _ => by simp [zup3_v]) (fun k _ => by simp [zup3_v])
        · refine ⟨p0, w0, ?_, ?_, ?_, ?_, ?_, ?_, ?_, ?_, ?_, ?_⟩ <;> simp [zup3_v, advF_o] <;> first | assumption | omega
        · simp [zup3_v, advF_o]
        · simp [zup3_v, advF_o]
        · simp [zup3_v, advF_o]
        · simp [zup3_v, advF_o]
        · simp [zup3_v, advF_o]
        · simp [zup3_v, advF_o] <;> omega
      · rw [c3, m3]
        simp only [zb_s, ir0, i00]
        refine zP_s ⟨rfl, rfl, hF_e (hF_a gF2), hG_3 (hG_e (hG_u gG2 (by decide) (by decide))) (by decide) (by decide), Or.inr ⟨rfl, ERR_cg er rfl (by simp [zup3_v]) (by simp [zup3_v])⟩⟩
    · rw [c2, m2]
      simp only [zb_s, ir0, i00]
      have e6 : (errM (zup3 (zup3 (zup3 (zup3 Fm 14 0 23 1) 14 0 16 (j + 1)) 14 0 16 (j + 1 + 1)) 13 w 4 (Bm 14 0 9 (j + 1))) Bm (wr Bm (j + 1 + 1))) 14 0 6 = w := by unfold errM; simp [zup3_v]; exact h6
      rw [e6, if_pos w0, L_numberB er.2]
      simp only [zb_s]
      refine zP_s ⟨rfl, rfl, hF_e gF2, hG_3 (hG_e gG2) (by decide) (by decide), Or.inr ⟨rfl, ERR_cg er rfl (by simp [zup3_v]) (by simp [zup3_v])⟩⟩
  · rw [c1, m1]
    simp only [zb_s, ir0, i00]
    have er2 : bad (zup3 (errM (zup3 (zup3 Fm 14 0 23 1) 14 0 16 (j + 1)) Bm s') 13 w 4 v) := bad_cg er.2 (by simp [zup3_v])
    rw [L_needB er2]
    simp only [zb_s]
    have e6 : (zup3 (errM (zup3 (zup3 Fm 14 0 23 1) 14 0 16 (j + 1)) Bm s') 13 w 4 v) 14 0 6 = w := by unfold errM; simp [zup3_v]; exact h6
    rw [e6, if_pos w0, L_numberB er2]
    simp only [zb_s]
    rw [if_pos (by decide)]
    refine zP_s ⟨rfl, rfl, hF_e (hF_a (hF_u hF_r (by decide))), hG_3 (hG_3 (hG_e (hG_u (hG_u hG_r (by decide) (by decide)) (by decide) (by decide))) (by decide) (by decide)) (by decide) (by decide), Or.inr ⟨rfl, ERR_cg er rfl (by simp [zup3_v]) (by simp [zup3_v])⟩⟩
end
end
section
section
/-! ===== key, on both sides ===== -/
theorem PS_wn {K : zK} {Km : Nat} {N j c : Int} {F : zF} {B : zB} {Fm : zF} {Bm : zB} (hE : EV K Km N B Bm) (hS : PS N j F B Fm Bm) (hc : r64 c) : f_Tokens_isWord K 0 c F B = some (wdm Bm j c, F, B) ∧ f_M_isWord Km c Fm Bm = some (wdm Bm j c, Fm, Bm) := by
  rw [C_isWord (PS_CX hE hS) hc, L_isWord (PS_MX hE hS) hc, PS_wd hE hS]
  exact ⟨rfl, rfl⟩
theorem P_key21 {K : zK} {Km : Nat} {N j p w l : Int} {F : zF} {B : zB} {Fm : zF} {Bm : zB} (hE : EV K Km N B Bm) (hS : PS N j F B Fm Bm) (hP : HP K p w F Fm) (hl : l = 0 ∨ l = 1) : zP (f_Parser_takeKey_21 K l 0 p F B) (f_M_headKey_55 Km l Fm Bm) (fun r F' B' _ Fm' Bm' => HPO K N j p w 0 F B Fm Bm r F' B' Fm' Bm') := by
  have k3 := hE.2.2.2.1
  have k10 := hE.2.2.2.2.1
  obtain ⟨p0, w0, h6, q2, q3, q4, q5, q6, q17, q22, q23, q24⟩ := hP
  unfold f_Parser_takeKey_21 f_M_headKey_55
  rw [if_pos ⟨Int.le_refl _, k3⟩]
  rcases P_num hE hS (lo := 0) (hi := 7) (by decide) (by decide) with ⟨n1, n2, n3, c1, m1, hS1⟩ | ⟨s, s', v, c1, m1, er⟩
  · rw [c1, m1]
    simp only [zb_s, ir1, i10]
    have e19 : (advF (zup3 F 3 0 19 (Bm 14 0 9 j)) B) 3 0 19 = Bm 14 0 9 j := by rw [advF_o (by decide)]; simp [zup3_v]
    have e6 : (zup3 Fm 14 0 16 (j + 1)) 14 0 6 = w := by simp [zup3_v]; exact h6
    have main : ∀ v : Int, -7 ≤ v → v ≤ 7 → zP (f_Parser_takeKey_51 K 0 p p v (advF (zup3 F 3 0 19 (Bm 14 0 9 j)) B) B) (f_M_headKey_78 Km w v (zup3 Fm 14 0 16 (j + 1)) Bm) (fun r F' B' _ Fm' Bm' => HPO K N j p w 0 F B Fm Bm r F' B' Fm' Bm') := by
      intro v v1 v2
      have hS2 : PS N (j + 1) (zup3 (advF (zup3 F 3 0 19 (Bm 14 0 9 j)) B) 6 p 2 v) B (zup3 (zup3 Fm 14 0 16 (j + 1)) 13 w 2 v) Bm := PS_cg hS1 (fun k => by simp [zup3_v]) (fun k _ => by simp [zup3_v]) (fun k _ => by simp [zup3_v])
      have gF2 : hF p F (zup3 (advF (zup3 F 3 0 19 (Bm 14 0 9 j)) B) 6 p 2 v) := hF_6 (hF_a (hF_u hF_r (by decide))) (by decide) (by decide)
      have gG2 : hG w Fm (zup3 (zup3 Fm 14 0 16 (j + 1)) 13 w 2 v) := hG_3 (hG_u hG_r (by decide) (by decide)) (by decide) (by decide)
      have wm := PS_wn (c := 469920280434) hE hS2 (by decide)
      have r1 := wdm_r Bm (j + 1) 469920280434
      have e6' : (zup3 (zup3 Fm 14 0 16 (j + 1)) 13 w 2 v) 14 0 6 = w := by simp [zup3_v]; exact h6
      have hS3 : PS N (j + 1) (zup3 (zup3 (advF (zup3 F 3 0 19 (Bm 14 0 9 j)) B) 6 p 2 v) 6 p 3 (wdm Bm (j + 1) 469920280434)) B (zup3 (zup3 (zup3 Fm 14 0 16 (j + 1)) 13 w 2 v) 13 w 3 (wdm Bm (j + 1) 469920280434)) Bm := PS_cg hS2 (fun k => by simp [zup3_v]) (fun k _ => by simp [zup3_v]) (fun k _ => by simp [zup3_v])
      have gF3 := hF_6 (k := 3) (v := wdm Bm (j + 1) 469920280434) gF2 (by decide) (by decide)
      have gG3 := hG_3 (k := 3) (v := wdm Bm (j + 1) 469920280434) gG2 (by decide) (by decide)
      have wn := PS_wn (c := 469920280434) hE hS3 (by decide)
      have wj := PS_wn (c := 469785800562) hE hS3 (by decide)
      have r2 := wdm_r Bm (j + 1) 469785800562
      have hX3 := PS_CX hE hS3
      unfold f_Parser_takeKey_51 f_M_headKey_78 f_M_headKey_123 f_M_headKey_140
      rw [if_pos p0, if_pos ⟨Int.le_refl _, k3⟩, hS1.1, if_pos ⟨Int.le_refl _, k10⟩, wm.1, if_pos w0, L_good hS2.2.2.2.1]
      simp only [zb_s, ir1, i10]
      rw [e6', if_pos w0, wm.2]
      simp only [zb_s]
      rw [if_pos r1, wj.2]
      simp only [zb_s]
      rw [if_pos (show r32 (wdm Bm (j + 1) 469920280434) by omega), if_pos p0]
      -- the class's two branches put the same
      have key73 : (if wdm Bm (j + 1) 469920280434 = 0 then f_Parser_takeKey_73 K 0 p 0 (zup3 (advF (zup3 F 3 0 19 (Bm 14 0 9 j)) B) 6 p 2 v) B else f_Parser_takeKey_73 K 0 p 1 (zup3 (advF (zup3 F 3 0 19 (Bm 14 0 9 j)) B) 6 p 2 v) B) = f_Parser_takeKey_73 K 0 p (wdm Bm (j + 1) 469920280434) (zup3 (advF (zup3 F 3 0 19 (Bm 14 0 9 j)) B) 6 p 2 v) B := by
        rcases r1 with z | z
        · rw [if_pos z, z]
        · rw [if_neg (by first | decide | omega), z]
      rw [if_pos p0, key73]
      unfold f_Parser_takeKey_73 f_Parser_takeKey_108
      rw [if_pos p0, if_pos ⟨Int.le_refl _, k3⟩, hS2.1, if_pos ⟨Int.le_refl _, k10⟩, wn.1]
      simp only [zb_s]
      rw [if_pos (show r32 (wdm Bm (j + 1) 469920280434) by omega), if_pos (show r32 (wdm Bm (j + 1) 469785800562) by omega)]
      -- taken
      have ok : ¬ Bm 14 0 7 (j + 1) = 0 → zP (some (1, advF (zup3 (zup3 (advF (zup3 F 3 0 19 (Bm 14 0 9 j)) B) 6 p 2 v) 6 p 3 (wdm Bm (j + 1) 469920280434)) B, B)) (some (0, zup3 (zup3 (zup3 (zup3 Fm 14 0 16 (j + 1)) 13 w 2 v) 13 w 3 (wdm Bm (j + 1) 469920280434)) 14 0 16 (j + 1 + 1), Bm)) (fun r F' B' _ Fm' Bm' => HPO K N j p w 0 F B Fm Bm r F' B' Fm' Bm') := by
        intro h0
        refine zP_s ⟨rfl, rfl, hF_a gF3, hG_u gG3 (by decide) (by decide), Or.inl ⟨rfl, j + 1 + 1, (by first | decide | omega), PS_step hE hS3 h0, ?_, ?_, ?_, ?_, ?_, ?_, ?_⟩⟩
        · refine ⟨p0, w0, ?_, ?_, ?_, ?_, ?_, ?_, ?_, ?_, ?_, ?_⟩ <;> simp [zup3_v, advF_o] <;> first | assumption | omega
        · simp [zup3_v, advF_o]
        · simp [zup3_v, advF_o]
        · simp [zup3_v, advF_o]
        · simp [zup3_v, advF_o]
        · simp [zup3_v, advF_o]
        · simp [zup3_v, advF_o] <;> omega
      have e16 : (zup3 (zup3 (zup3 Fm 14 0 16 (j + 1)) 13 w 2 v) 13 w 3 (wdm Bm (j + 1) 469920280434)) 14 0 16 + 1 = j + 1 + 1 := by simp [zup3_v]
      by_cases z1 : wdm Bm (j + 1) 469920280434 = 0
      · rw [if_pos z1, hS3.1, if_pos ⟨Int.le_refl _, k10⟩, wj.1]
        simp only [zb_s]
        rw [if_pos (show r32 (wdm Bm (j + 1) 469785800562) by omega)]
        by_cases z2 : wdm Bm (j + 1) 469785800562 = 0
        · rw [if_pos z2, if_pos z2, wn.2]
          simp only [zb_s]
          rw [if_pos (show r32 (wdm Bm (j + 1) 469920280434) by omega), if_pos z1, C_refuse hX3, L_wrong hS3.2.2.2.1 (PS_MX hE hS3)]
          simp only [zb_s]
          rw [if_pos (by decide)]
          exact zP_s ⟨rfl, rfl, hF_e gF3, hG_e gG3, Or.inr ⟨rfl, PS_err2 hE hS3⟩⟩
        · have z' := Decidable.not_not.mp (mt wdm_0.mpr z2)
          rw [if_neg z2, if_neg z2, if_pos ⟨Int.le_refl _, k3⟩, hS3.1, if_pos ⟨Int.le_refl _, k10⟩, C_adv hX3, e16]
          simp only [zb_s]
          exact ok (by first | decide | omega)
      · have z' := Decidable.not_not.mp (mt wdm_0.mpr z1)
        have z2 : wdm Bm (j + 1) 469785800562 = 0 := wdm_0.mpr (fun q => by have := q.2; have := z'.2; omega)
        rw [if_neg z1, if_pos z2, wn.2, if_pos ⟨Int.le_refl _, k3⟩, hS3.1, if_pos ⟨Int.le_refl _, k10⟩, C_adv hX3]
        simp only [zb_s]
        rw [if_pos (show r32 (wdm Bm (j + 1) 469920280434) by omega), if_neg z1, e16]
        exact ok (by first | decide | omega)
    rw [e19, e6]
    rcases hl with rfl | rfl
    · rw [if_pos (show r32 0 by decide), if_pos rfl, if_pos p0, if_pos (show r32 0 by decide), if_pos rfl]
      exact main _ (by first | decide | omega) (by first | decide | omega)
    · rw [if_pos (show r32 1 by decide), if_neg (by decide), if_pos p0, if_pos (show r32 1 by decide), if_neg (by decide)]
      exact main _ (by first | decide | omega) (by first | decide | omega)
  · rw [c1, m1]
    simp only [zb_s, ir0, if_true]
    have e6 : (errM Fm Bm s') 14 0 6 = w := by unfold errM; simp [zup3_v]; exact h6
    have fin : ∀ u, f_M_headKey_78 Km w u (errM Fm Bm s') Bm = some (0, zup3 (errM Fm Bm s') 13 w 2 u, Bm) := by
      intro u
      unfold f_M_headKey_78
      rw [if_pos w0, L_goodB (bad_cg er.2 (by simp [zup3_v]))]
      simp only [zb_s, ir0, if_true]
    rw [e6, fin, fin]
    have es : ∀ u, zP (some (0, refF F s, B)) (some (0, zup3 (errM Fm Bm s') 13 w 2 u, Bm)) (fun r F' B' _ Fm' Bm' => HPO K N j p w 0 F B Fm Bm r F' B' Fm' Bm') := fun u => zP_s ⟨rfl, rfl, hF_e hF_r, hG_3 (hG_e hG_r) (by decide) (by decide), Or.inr ⟨rfl, ERR_cg er rfl (by simp [zup3_v]) (by simp [zup3_v])⟩⟩
    rcases hl with rfl | rfl
    · rw [if_pos (show r32 0 by decide), if_pos rfl]; exact es _
    · rw [if_pos (show r32 1 by decide), if_neg (by decide)]; exact es _
theorem HPO_t {K : zK} {N j j1 p w r dl : Int} {F F1 : zF} {B : zB} {Fm Fm1 : zF} {Bm : zB} {F' : zF} {B' : zB} {Fm' : zF} {Bm' : zB} (h : HPO K N j1 p w 0 F1 B Fm1 Bm r F' B' Fm' Bm') (hj : j ≤ j1) (gF : hF p F F1) (gG : hG w Fm Fm1) (e14 : F1 3 0 14 = F 3 0 14) (e16 : F1 3 0 16 = F 3 0 16) (e27 : Fm1 14 0 27 = Fm 14 0 27) (e18 : F1 3 0 18 = F 3 0 18) (e15 : F1 3 0 15 = F 3 0 15) (eS : Fm1 14 0 22 + Fm1 14 0 23 + Fm1 14 0 24 = Fm 14 0 22 + Fm 14 0 23 + Fm 14 0 24 + dl) : HPO K N j p w dl F B Fm Bm r F' B' Fm' Bm' := by
  obtain ⟨g1, g2, g3, g4, g5⟩ := h
  refine ⟨g1, g2, hF_t gF g3, hG_t gG g4, ?_⟩
  rcases g5 with ⟨r1, j', a1, a2, a3, a4, a5, a6, a7, a8, a9⟩ | er
  · exact Or.inl ⟨r1, j', (by first | decide | omega), a2, a3, (by first | decide | omega), (by first | decide | omega), (by first | decide | omega), (by first | decide | omega), (by first | decide | omega), (by first | decide | omega)⟩
  · exact Or.inr er
theorem P_key {K : zK} {Km : Nat} {N j p w : Int} {F : zF} {B : zB} {Fm : zF} {Bm : zB} (hE : EV K Km N B Bm) (hS : PS N j F B Fm Bm) (hP : HP K p w F Fm) (wd : wdAt Bm j 7038329) (h22 : Fm 14 0 22 = 0) : zP (f_Parser_takeHead K 0 p F B) (f_M_head Km Fm Bm) (fun r F' B' _ Fm' Bm' => HPO K N j p w 1 F B Fm Bm r F' B' Fm' Bm') := by
  have hX := PS_CX hE hS
  have hM := PS_MX hE hS
  have k3 := hE.2.2.2.1
  have k10 := hE.2.2.2.2.1
  have h4 := wd.1
  have ek := hS.2.1.2.1
  have tk := hE.1.2.2 j hS.2.1.1.1 hS.2.1.1.2
  have ev : F 10 0 2 = 7038329 := by rw [hS.2.1.2.2.2.1, (tk.2.2.2.2.2.2.1 h4).1]; exact wd.2
  have hs : hds (F 10 0 0) (F 10 0 2) = 1 := by rw [ek, h4, ev]; decide
  have t : ∀ c, r64 c → f_M_isWord Km c Fm Bm = some (if 7038329 = c then 1 else 0, Fm, Bm) := fun c hc => L_wd hM wd hc
  obtain ⟨p0, w0, h6, q2, q3, q4, q5, q6, q17, q22, q23, q24⟩ := hP
  have z8 := (zor8i q22 q23 q24).1 h22
  rw [← q17] at z8
  have hSu : PS N j (zup3 F 3 0 17 (zor (F 3 0 17) 1)) B (zup3 Fm 14 0 22 1) Bm := PS_cg (PS_u (k := 17) (v := zor (F 3 0 17) 1) hS (by decide)) (fun _ => rfl) (fun _ _ => rfl) (fun k hk => by rw [zup3_v, if_neg (fun z => by have := z.2.2; omega)])
  have hS1 := PS_step hE hSu (by first | decide | omega)
  have hX1 := PS_CX hE hS1
  have hM1 := PS_MX hE hS1
  have sr := sgm_r Bm (j + 1) 45
  have gF1 : hF p F (advF (zup3 F 3 0 17 (zor (F 3 0 17) 1)) B) := hF_a (hF_u hF_r (by decide))
  have gG1 : hG w Fm (zup3 (zup3 Fm 14 0 22 1) 14 0 16 (j + 1)) := hG_u (hG_u hG_r (by decide) (by decide)) (by decide) (by decide)
  have hP1 : HP K p w (advF (zup3 F 3 0 17 (zor (F 3 0 17) 1)) B) (zup3 (zup3 Fm 14 0 22 1) 14 0 16 (j + 1)) := by
    refine ⟨p0, w0, ?_, ?_, ?_, ?_, ?_, ?_, ?_, ?_, ?_, ?_⟩ <;> simp [zup3_v, advF_o] <;> first | assumption | omega
  unfold f_Parser_takeHead f_M_head f_M_headKey f_M_headKey_11 f_M_head_152 f_Parser_takeKey
  rw [if_pos ⟨(by first | decide | omega), k3⟩, C_headSort hX, hs]
  simp only [t 7038329 (by decide), zb_s, ir0, ir1, if_true, if_false, Int.reduceEq, h22, hM.1]
  rw [hX.2.2.1, if_pos ⟨(by first | decide | omega), k10⟩, C_adv (CX_u hX (by decide)), L_good hS1.2.2.2.1]
  simp only [zb_s, ir1, i10, if_true, if_false, Int.reduceEq]
  rw [if_pos ⟨Int.le_refl _, k3⟩, hS1.1, if_pos ⟨Int.le_refl _, k10⟩, C_isSign hX1 (by decide), PS_sg hE hS1, L_isSign hM1 (by decide)]
  simp only [zb_s]
  rw [if_pos (show r32 (sgm Bm (j + 1) 45) by omega), if_pos (show r32 (sgm Bm (j + 1) 45) by omega)]
  have hend : ∀ {x y : zO} {F1 : zF} {Fm1 : zF} {j1 : Int}, zP x y (fun r F' B' _ Fm' Bm' => HPO K N j1 p w 0 F1 B Fm1 Bm r F' B' Fm' Bm') → j ≤ j1 → hF p F F1 → hG w Fm Fm1 → F1 3 0 14 = F 3 0 14 → F1 3 0 16 = F 3 0 16 → Fm1 14 0 27 = Fm 14 0 27 → F1 3 0 18 = F 3 0 18 → F1 3 0 15 = F 3 0 15 → Fm1 14 0 22 + Fm1 14 0 23 + Fm1 14 0 24 = Fm 14 0 22 + Fm 14 0 23 + Fm 14 0 24 + 1 → zP (zbind x (fun r F B => if (r = 0 ∨ r = 1) then some (r, F, B) else none)) (zbind y (fun _ F B => some (0, F, B))) (fun r F' B' _ Fm' Bm' => HPO K N j p w 1 F B Fm Bm r F' B' Fm' Bm') := by
    intro x y F1 Fm1 j1 h a1 a2 a3 a4 a5 a6 a7 a8 a9
    refine zP_c h (fun r F' B' r' Fm' Bm' hh => ?_)
    have hr : r = 0 ∨ r = 1 := by
      rcases hh.2.2.2.2 with q | q
      · exact Or.inr q.1
      · exact Or.inl q.1
    rw [if_pos hr]
    exact zP_s (HPO_t hh a1 a2 a3 a4 a5 a6 a7 a8 a9)
  by_cases z : sgm Bm (j + 1) 45 = 0
  · rw [if_pos z, if_pos z, z]
    refine hend (P_key21 hE hS1 hP1 (Or.inl rfl)) (by first | decide | omega) gF1 gG1 ?_ ?_ ?_ ?_ ?_ ?_ <;> simp [zup3_v, advF_o] <;> omega
  · have z1 : sgm Bm (j + 1) 45 = 1 := by omega
    have z' := Decidable.not_not.mp (mt sgm_0.mpr z)
    have hS2 := PS_step hE hS1 (by first | decide | omega)
    have e16 : (zup3 (zup3 Fm 14 0 22 1) 14 0 16 (j + 1)) 14 0 16 + 1 = j + 1 + 1 := by simp [zup3_v]
    rw [if_neg z, if_neg z, hS1.1, if_pos ⟨Int.le_refl _, k10⟩, C_adv hX1, z1, e16]
    simp only [zb_s]
    have hP2 : HP K p w (advF (advF (zup3 F 3 0 17 (zor (F 3 0 17) 1)) B) B) (zup3 (zup3 (zup3 Fm 14 0 22 1) 14 0 16 (j + 1)) 14 0 16 (j + 1 + 1)) := by
      refine ⟨p0, w0, ?_, ?_, ?_, ?_, ?_, ?_, ?_, ?_, ?_, ?_⟩ <;> simp [zup3_v, advF_o] <;> first | assumption | omega
    refine hend (P_key21 hE hS2 hP2 (Or.inr rfl)) (by first | decide | omega) (hF_a gF1) (hG_u gG1 (by decide) (by decide)) ?_ ?_ ?_ ?_ ?_ ?_ <;> simp [zup3_v, advF_o] <;> omega
end
end
section
section
/-! ===== lets, on both sides ===== -/
theorem top_blk {L : Int} {K : zK} {Km : Nat} {N : Int} (hK : 3002 ≤ Km) : BlkSim L K Km N 8 (f_Parser_takeBlock K) (f_M_block Km) :=
  blk_sim (a := 58) (b := 37) (fun d' h => by
    have : d' = 7 := by omega
    subst this
    exact @item_sim L K Km N hK 7 58 39 (by decide) (by decide))
theorem top_bad {Km : Nat} (hK : 3002 ≤ Km) : BlkBad (f_M_block Km) := blk_bad (b := 39) hK
/-- the lets' blocks, as every later world that agrees sees them -/
def SLT (L hi ph e : Int) (B Bm : zB) : Prop := ∀ q, 0 ≤ q → q < L → ∀ Bx By, agB L 0 hi 0 ph (-1) B Bx → agM L 0 e Bm By → (∀ r, 0 ≤ r → r < L → By 14 0 26 r = Bm 14 0 26 r) → 0 ≤ By 14 0 26 q ∧ BKf (IRd q 7) Bx By (Bx 3 0 13 q) (By 14 0 26 q)
/-- the state of both parsers in the head of a text -/
def HI (K : zK) (Km : Nat) (N L j p w : Int) (F : zF) (B : zB) (Fm : zF) (Bm : zB) : Prop := EV K Km N B Bm ∧ PS N j F B Fm Bm ∧ HP K p w F Fm ∧ LT L F B Fm Bm ∧ F 3 0 14 ≤ j ∧ 0 ≤ F 3 0 14 ∧ F 3 0 18 = 0 ∧ SLT L (F 3 0 14) (F 3 0 15) j B Bm
def tB (B B' : zB) : Prop := ∀ c i k x, ¬ (c = 3 ∧ i = 0) → B' c i k x = B c i k x
def tM (B B' : zB) : Prop := ∀ c i k x, ¬ (c = 14 ∧ i = 0 ∧ 25 ≤ k ∧ k ≤ 34) → B' c i k x = B c i k x
theorem tB_t {B B' B'' : zB} (h : tB B B') (h' : tB B' B'') : tB B B'' := fun c i k x a => by rw [h' c i k x a, h c i k x a]
theorem tM_t {B B' B'' : zB} (h : tM B B') (h' : tM B' B'') : tM B B'' := fun c i k x a => by rw [h' c i k x a, h c i k x a]
theorem tB_r {B : zB} : tB B B := fun _ _ _ _ _ => rfl
theorem tM_r {B : zB} : tM B B := fun _ _ _ _ _ => rfl
theorem tB_K {k0 : Nat} {x0 lo pl : Int} {B B' : zB} (h : fK k0 x0 lo pl B B') : tB B B' := fun c i k x a => h c i k x (fun z => a ⟨z.1, z.2.1⟩) (fun z => a ⟨z.1, z.2.1⟩) (fun z => a ⟨z.1, z.2.1⟩)
theorem tM_H {fr : Int} {B B' : zB} (h : fH fr B B') : tM B B' := fun c i k x a => h c i k x (fun z => a ⟨z.1, z.2.1, by have := z.2.2.1; omega, by have := z.2.2.2.1; omega⟩)
theorem tB_u {B B' : zB} {k : Nat} {x v : Int} (h : tB B B') : tB B (zup4 B' 3 0 k x v) := fun c i y z a => by
  rw [zup4_v, if_neg (fun q => a ⟨q.1, q.2.1⟩)]; exact h c i y z a
theorem tM_u {B B' : zB} {k : Nat} {x v : Int} (h : tM B B') (h1 : 25 ≤ k) (h2 : k ≤ 34) : tM B (zup4 B' 14 0 k x v) := fun c i y z a => by
  rw [zup4_v, if_neg (fun q => a ⟨q.1, q.2.1, by rw [q.2.2.1]; exact h1, by rw [q.2.2.1]; exact h2⟩)]; exact h c i y z a
theorem EV_t {K : zK} {Km : Nat} {N : Int} {B B' Bm Bm' : zB} (h : EV K Km N B Bm) (hB : tB B B') (hm : tM Bm Bm') : EV K Km N B' Bm' := EV_B h (fun k => by funext x; exact hB 10 0 k x (fun z => absurd z.1 (by decide))) (fun k hk => by funext x; exact hm 14 0 k x (fun z => by have := z.2.2.1; omega))
theorem PS_t {N j : Int} {F : zF} {B B' : zB} {Fm : zF} {Bm Bm' : zB} (h : PS N j F B Fm Bm) (hB : tB B B') (hm : tM Bm Bm') : PS N j F B' Fm Bm' := PS_B h (fun k => by funext x; exact hB 10 0 k x (fun z => absurd z.1 (by decide))) (fun k hk => by funext x; exact hm 14 0 k x (fun z => by have := z.2.2.1; omega))
theorem agB_L {L L' lo hi pl ph x : Int} {B B' : zB} (h : agB L lo hi pl ph x B B') (hl : L' ≤ L) : agB L' lo hi pl ph x B B' := ⟨h.1, h.2.1, fun q a b => h.2.2 q a (by first | decide | omega)⟩
theorem agM_L {L L' i e : Int} {B B' : zB} (h : agM L i e B B') (hl : L' ≤ L) : agM L' i e B B' := ⟨h.1, h.2.1, fun q a b => h.2.2 q a (by first | decide | omega)⟩
/-- the lets' blocks stay as they are while the parsers go on -/
theorem SLT_t {L hi hi' ph ph' e e' : Int} {B Bm B' Bm' : zB} (h : SLT L hi ph e B Bm) (aB : agB L 0 hi 0 ph (-1) B B') (aM : agM L 0 e Bm Bm') (a26 : ∀ r, 0 ≤ r → r < L → Bm' 14 0 26 r = Bm 14 0 26 r) (h1 : hi ≤ hi') (h2 : ph ≤ ph') (h3 : e ≤ e') : SLT L hi' ph' e' B' Bm' := fun q q0 q1 Bx By ab am a => h q q0 q1 Bx By (agB_t aB (agB_m ab (Int.le_refl _) h1 (Int.le_refl _) h2 (Or.inl rfl))) (agM_t aM (agM_m am (Int.le_refl _) h3)) (fun r r0 r1 => by rw [a r r0 r1, a26 r r0 r1])
theorem HP_cg {K : zK} {p w : Int} {F F' Fm Fm' : zF} (h : HP K p w F Fm) (h6 : ∀ k, 2 ≤ k → k ≤ 6 → F' 6 p k = F 6 p k) (h17 : F' 3 0 17 = F 3 0 17) (hm : ∀ k, 2 ≤ k → k ≤ 6 → Fm' 13 w k = Fm 13 w k) (h14 : ∀ k, k = 6 ∨ k = 22 ∨ k = 23 ∨ k = 24 → Fm' 14 0 k = Fm 14 0 k) : HP K p w F' Fm' := by
  unfold HP at *
  rw [h6 2 (by decide) (by decide), h6 3 (by decide) (by decide), h6 4 (by decide) (by decide), h6 5 (by decide) (by decide), h6 6 (by decide) (by decide), h17, hm 2 (by decide) (by decide), hm 3 (by decide) (by decide), hm 4 (by decide) (by decide), hm 5 (by decide) (by decide), hm 6 (by decide) (by decide), h14 6 (by decide), h14 22 (by decide), h14 23 (by decide), h14 24 (by decide)]
  exact h
theorem HP_f {K : zK} {p w : Int} {F F' Fm Fm' : zF} (h : HP K p w F Fm) (hF : fF F F') (hG : fG Fm Fm') : HP K p w F' Fm' := HP_cg h (fun k _ _ => hF 6 p k (fun z => absurd z.1 (by decide)) (fun z => absurd z.1 (by decide))) (hF 3 0 17 (by decide) (by decide)) (fun k _ _ => hG 13 w k (fun z => absurd z.1 (by decide))) (fun k hk => hG 14 0 k (fun z => by have := z.2.2.2; omega))
theorem P_let {K : zK} {Km : Nat} {N L j p w : Int} {F : zF} {B : zB} {Fm : zF} {Bm : zB} (hH : HI K Km N L j p w F B Fm Bm) (wd : wdAt Bm j 7103860) (hL : L < 6) : zP (f_Parser_takeLet K 0 F B) (f_M_headLet Km Fm Bm) (fun r F' B' _ Fm' Bm' => hF p F F' ∧ hG w Fm Fm' ∧ tB B B' ∧ tM Bm Bm' ∧ (r = 1 ∧ (∃ j', j < j' ∧ HI K Km N (L + 1) j' p w F' B' Fm' Bm') ∧ (Fm' 14 0 22 = Fm 14 0 22 ∧ Fm' 14 0 23 = Fm 14 0 23 ∧ Fm' 14 0 24 = Fm 14 0 24) ∨ r = 0 ∧ ERR F' Fm')) := by
  obtain ⟨hE, hS, hP, hLT, hit, hi0, hdep, hSL⟩ := hH
  have hX := PS_CX hE hS
  have hM := PS_MX hE hS
  have k3 := hE.2.2.2.1
  have k10 := hE.2.2.2.2.1
  have km := hE.2.2.2.2.2.2
  have h4 := wd.1
  have jj := hS.2.1.1
  have nn := hE.1.2.1
  have ep := hS.2.1.2.2.1
  have tk0 := hE.1.2.2 j jj.1 jj.2
  have p15 := hS.2.2.2.2.2.2.2
  have hjN : j < N := by
    have : ¬ j = N := fun z => by have := tk0.2.2.2.1.mpr z; omega
    omega
  have hx14 : 0 ≤ F 3 0 14 ∧ F 3 0 14 < 3000 := by omega
  have hLT0 := hLT
  obtain ⟨l1, l2, l3, l4⟩ := hLT
  -- the root is made, the word let is passed
  have hK1 : fK 0 (F 3 0 14) (F 3 0 14) (F 3 0 15) B (newB B (F 3 0 14) 10 (F 10 0 1)) := newB_k fK_r (Int.le_refl _)
  have hE1 := EV_k hE hK1 (fJ_H (fr := 0) (j := j) fH_r (Int.le_refl _))
  have hS0 := PS_k (PS_u (k := 14) (v := F 3 0 14 + 1) hS (by decide)) hK1 (fJ_H (fr := 0) (j := j) fH_r (Int.le_refl _))
  have hS1 := PS_step hE1 hS0 (by first | decide | omega)
  have hX1 := PS_CX hE1 hS1
  have hM1 := PS_MX hE1 hS1
  have hg1 := hS1.2.2.2.1
  have jj1 := hS1.2.1.1
  have ev := hS1.2.1.2.2.2.1
  have tk := hE1.1.2.2 (j + 1) jj1.1 jj1.2
  have nr := nmF_r (Bm 14 0 7 (j + 1)) (Bm 14 0 11 (j + 1))
  have gF1 : fF F (advF (zup3 F 3 0 14 (F 3 0 14 + 1)) (newB B (F 3 0 14) 10 (F 10 0 1))) := fF_a (fF_u fF_r (by decide))
  have gG1 : fG Fm (zup3 Fm 14 0 16 (j + 1)) := fG_u fG_r (by decide) (by decide)
  have gB1 : tB B (newB B (F 3 0 14) 10 (F 10 0 1)) := tB_K hK1
  have hLT1 := LT_k hLT0 gF1 gG1 hK1 (by decide) (fJ_H (fr := 0) (j := j) fH_r (Int.le_refl _))
  have badL : ∀ {Fx : zF} {Bx : zB}, bad Fx → f_M_headLet_66 Km Fx Bx = some (0, Fx, Bx) := by
    intro Fx Bx hb
    unfold f_M_headLet_66
    rw [L_goodB hb]
    simp only [zb_s, ir0, if_true]
  unfold f_Parser_takeLet f_M_headLet f_Parser_takeLet_80
  rw [if_pos ⟨Int.le_refl _, k3⟩, C_newItem hX hx14, l2, if_pos (show r32 L by omega), if_neg (show ¬ L = 6 by omega), hM.1, L_isName km hM1 hE1.2.1]
  simp only [zb_s]
  rw [show (zup3 F 3 0 14 (F 3 0 14 + 1)) 3 0 11 = 0 from hS0.1, if_pos ⟨Int.le_refl _, k10⟩, C_adv (PS_CX hE1 hS0)]
  simp only [zb_s]
  rw [C_isName hX1, PS_nm hE1 hS1]
  simp only [zb_s]
  rw [if_pos (show r32 (nmF (Bm 14 0 7 (j + 1)) (Bm 14 0 11 (j + 1))) by omega), if_pos (show r32 (nmF (Bm 14 0 7 (j + 1)) (Bm 14 0 11 (j + 1))) by omega)]
  by_cases z : nmF (Bm 14 0 7 (j + 1)) (Bm 14 0 11 (j + 1)) = 0
  · have er := PS_err2 hE1 hS1
    rw [if_pos z, if_pos z, C_refuse hX1, L_wrong hg1 hM1]
    simp only [zb_s]
    rw [if_pos (by decide), badL er.2]
    exact zP_s ⟨hF_f (fF_e gF1), hG_f (fG_e gG1), gB1, tM_r, Or.inr ⟨rfl, er⟩⟩
  · have k4 : Bm 14 0 7 (j + 1) = 4 := by
      by_cases q : Bm 14 0 7 (j + 1) = 4 ∧ nmC (Bm 14 0 11 (j + 1))
      · exact q.1
      · exact absurd (nmF_0 q) z
    have w4 := hM1.2.2.2.2 k4
    have e2 : (advF (zup3 F 3 0 14 (F 3 0 14 + 1)) (newB B (F 3 0 14) 10 (F 10 0 1))) 10 0 2 = Bm 14 0 11 (j + 1) := by rw [ev]; exact (tk.2.2.2.2.2.2.1 k4).1
    obtain ⟨m1, m2, m3, m4⟩ := hLT1
    have ef : fdR ((newB B (F 3 0 14) 10 (F 10 0 1)) 3 0 12) L (Bm 14 0 11 (j + 1)) 22 0 = fdR (Bm 14 0 25) L (Bm 14 0 11 (j + 1)) 22 0 := fdR_c (fun y p q => (m4 y p q).1)
    have ln := C_letNamed (w := Bm 14 0 11 (j + 1)) hX1 (by first | decide | omega) (fun y p q => (m4 y p (by first | decide | omega)).2.1) (by first | decide | omega)
    rw [m1, ef] at ln
    have e27 : (zup3 Fm 14 0 16 (j + 1)) 14 0 27 = L := m2
    have e16 : (zup3 Fm 14 0 16 (j + 1)) 14 0 16 = j + 1 := by simp [zup3_v]
    have mn := L_find (K := Km) (c := 14) (i := 0) (k := 25) (m := L) (w := Bm 14 0 11 (j + 1)) (F := zup3 Fm 14 0 16 (j + 1)) (B := Bm) km (by decide) (by rw [show (lnM 14 0 25 : Int) = 6 by decide]; omega) (by decide) (by decide) (by first | decide | omega) (fun y p q => by rw [← (m4 y p q).1]; exact (m4 y p q).2.1) (by first | decide | omega)
    rw [if_neg z, if_neg z, hS1.1, if_pos ⟨Int.le_refl _, k10⟩, e2, e16, if_pos (show 0 ≤ j + 1 ∧ j + 1 < 3001 by omega), e27, mn]
    rcases fdR_r (row := Bm 14 0 25) (m := L) (w := Bm 14 0 11 (j + 1)) (f := 22) (k := 0) (by first | decide | omega) with n1 | ⟨n1, n2, n3⟩
    · rw [n1, if_pos (show (-1 : Int) < 0 by decide)] at ln
      have hS2 := PS_step hE1 hS1 (by first | decide | omega)
      rw [ln, n1]
      simp only [zb_s]
      rw [if_pos (show r32 (-1) by decide), if_pos trivial, if_pos (show r32 (-1) by decide), if_pos (show (-1 : Int) < 0 by decide), hS1.1, if_pos ⟨Int.le_refl _, k10⟩, C_adv hX1]
      simp only [zb_s]
      unfold f_M_headLet_66
      rw [L_good hg1]
      simp only [zb_s, ir1, i10]
      rw [e16, if_pos (show 0 ≤ j + 1 ∧ j + 1 < 3001 by omega), e27, if_pos (show 0 ≤ L ∧ L < 6 by omega)]
      -- the name is kept; the length is a quarter again
      have gM2 : tM Bm (zup4 Bm 14 0 25 L (Bm 14 0 11 (j + 1))) := tM_u tM_r (by decide) (by decide)
      have hE2 := EV_t hE1 tB_r gM2
      have hS2m := PS_t hS2 tB_r gM2
      rcases P_sig hE2 hS2m (c := 61) (by decide) with ⟨g61, c3, m3', hS3⟩ | ⟨c3, m3', er⟩
      · -- with the length set on the class's side before, on the reference's behind
        have c3' : f_Parser_takeSign K 0 61 (zup3 (advF (advF (zup3 F 3 0 14 (F 3 0 14 + 1)) (newB B (F 3 0 14) 10 (F 10 0 1))) (newB B (F 3 0 14) 10 (F 10 0 1))) 3 0 20 32) (newB B (F 3 0 14) 10 (F 10 0 1)) = some (1, advF (zup3 (advF (advF (zup3 F 3 0 14 (F 3 0 14 + 1)) (newB B (F 3 0 14) 10 (F 10 0 1))) (newB B (F 3 0 14) 10 (F 10 0 1))) 3 0 20 32) (newB B (F 3 0 14) 10 (F 10 0 1)), newB B (F 3 0 14) 10 (F 10 0 1)) := by
          rw [C_takeSign (CX_u (PS_CX hE1 hS2) (by decide)) (by decide)]
          have sg1 : sgn (zup3 (advF (advF (zup3 F 3 0 14 (F 3 0 14 + 1)) (newB B (F 3 0 14) 10 (F 10 0 1))) (newB B (F 3 0 14) 10 (F 10 0 1))) 3 0 20 32) 61 = sgm Bm (j + 1 + 1) 61 := by
            rw [← PS_sg hE1 hS2]
            unfold sgn
            simp [zup3_v]
          rw [sg1, if_neg (by
            unfold sgm
            have g61' : Bm 14 0 7 (j + 1 + 1) = 5 ∧ Bm 14 0 9 (j + 1 + 1) = 61 := by
              have := g61
              unfold sgAt at this
              simpa [zup4_v] using this
            rw [if_pos g61']
            decide)]
        rw [c3', m3']
        simp only [zb_s, ir1, i10]
        have e27' : (zup3 (zup3 (zup3 Fm 14 0 16 (j + 1)) 14 0 16 (j + 1 + 1)) 14 0 16 (j + 1 + 1 + 1)) 14 0 27 = L := by simp [zup3_v]; exact l2
        have e16' : (zup3 (zup3 (zup3 Fm 14 0 16 (j + 1)) 14 0 16 (j + 1 + 1)) 14 0 16 (j + 1 + 1 + 1)) 14 0 16 = j + 1 + 1 + 1 := by simp [zup3_v]
        rw [e27', if_pos (show 0 ≤ L ∧ L < 6 by omega), e16']
        have gM3 : tM (zup4 Bm 14 0 25 L (Bm 14 0 11 (j + 1))) (zup4 (zup4 Bm 14 0 25 L (Bm 14 0 11 (j + 1))) 14 0 26 L (j + 1 + 1 + 1)) := tM_u tM_r (by decide) (by decide)
        have hS3' := PS_step hE2 (PS_len (v := 32) (n := 4) (p := 0) hS2m (by decide) (Or.inr (Or.inr (Or.inl rfl))) (by decide)) (by rw [g61.1]; decide)
        have hS4 := PS_t (PS_cg (Fm' := zup3 (zup3 (zup3 (zup3 (zup3 Fm 14 0 16 (j + 1)) 14 0 16 (j + 1 + 1)) 14 0 16 (j + 1 + 1 + 1)) 14 0 20 4) 14 0 21 0) hS3' (fun _ => rfl) (fun _ _ => rfl) (fun k hk => by rcases hk with rfl | rfl | rfl | rfl | rfl <;> simp [zup3_v])) tB_r gM3
        have hE4 := EV_t hE2 tB_r gM3
        generalize hF4 : advF (zup3 (advF (advF (zup3 F 3 0 14 (F 3 0 14 + 1)) (newB B (F 3 0 14) 10 (F 10 0 1))) (newB B (F 3 0 14) 10 (F 10 0 1))) 3 0 20 32) (newB B (F 3 0 14) 10 (F 10 0 1)) = F4 at hS4 ⊢
        have a14 : F4 3 0 14 = F 3 0 14 + 1 := by rw [← hF4]; simp [zup3_v, advF_o]
        have a15 : F4 3 0 15 = F 3 0 15 := by rw [← hF4]; simp [zup3_v, advF_o]
        have a16 : F4 3 0 16 = L := by rw [← hF4]; simp [zup3_v, advF_o]; exact l1
        have a18 : F4 3 0 18 = 0 := by rw [← hF4]; simp [zup3_v, advF_o]; exact hdep
        have gF4 : fF F F4 := by rw [← hF4]; exact fF_a (fF_u (fF_a gF1) (by decide))
        generalize hFm4 : zup3 (zup3 (zup3 (zup3 (zup3 Fm 14 0 16 (j + 1)) 14 0 16 (j + 1 + 1)) 14 0 16 (j + 1 + 1 + 1)) 14 0 20 4) 14 0 21 0 = Fm4 at hS4 ⊢
        have gG4 : fG Fm Fm4 := by rw [← hFm4]; exact fG_u (fG_u (fG_u (fG_u gG1 (by decide) (by decide)) (by decide) (by decide)) (by decide) (by decide)) (by decide) (by decide)
        have b27 : Fm4 14 0 27 = L := by rw [← hFm4]; simp [zup3_v]; exact l2
        generalize hBm4 : zup4 (zup4 Bm 14 0 25 L (Bm 14 0 11 (j + 1))) 14 0 26 L (j + 1 + 1 + 1) = Bm4 at hS4 hE4 ⊢
        have gM4 : tM Bm Bm4 := by rw [← hBm4]; exact tM_u gM2 (by decide) (by decide)
        have c25 : ∀ q, q < L → Bm4 14 0 25 q = Bm 14 0 25 q := fun q hq => by rw [← hBm4]; simp [zup4_v]; omega
        have c26 : ∀ q, q < L → Bm4 14 0 26 q = Bm 14 0 26 q := fun q hq => by rw [← hBm4]; simp [zup4_v]; omega
        have c25L : Bm4 14 0 25 L = Bm 14 0 11 (j + 1) := by rw [← hBm4]; simp [zup4_v]
        have c26L : Bm4 14 0 26 L = j + 1 + 1 + 1 := by rw [← hBm4]; simp [zup4_v]
        have c30 : ∀ k, 30 ≤ k → Bm4 14 0 k = Bm 14 0 k := fun k hk => by
          rw [← hBm4]
          funext y
          rw [zup4_v, if_neg (fun q => by have := q.2.2.1; omega), zup4_v, if_neg (fun q => by have := q.2.2.1; omega)]
        have c7 : ∀ k, k ≤ 11 → Bm4 14 0 k = Bm 14 0 k := fun k hk => by funext y; exact gM4 14 0 k y (fun q => by have := q.2.2.1; omega)
        have hLT4 : LT L F4 (newB B (F 3 0 14) 10 (F 10 0 1)) Fm4 Bm4 := ⟨a16, b27, l3, fun q q0 q1 => by rw [c25 q q1]; exact m4 q q0 q1⟩
        have nb := newB_at (B := B) (x := F 3 0 14) (s := 10) (p := F 10 0 1)
        refine zP_c (top_blk km (x := F 3 0 14) (j := j + 1 + 1 + 1) hx14.1 (by first | decide | omega) (by first | decide | omega) hE4 hS4 (by rw [a18]; decide) (by rw [← hFm4, ← hF4, advF_o (by decide)]; simp [zup3_v]; exact ⟨by decide, Or.inr (Or.inr (Or.inl rfl))⟩) hLT4 nb.2.2.2.2.1) (fun r F' B' r' Fm' Bm' hh => ?_)
        obtain ⟨g1, g2, g3, g4, g5⟩ := hh
        rw [a14, a15] at g3
        have f16 : F' 3 0 16 = L := by rw [g1 3 0 16 (by decide) (by decide)]; exact a16
        have f27 : Fm' 14 0 27 = L := by rw [g2 14 0 27 (by decide)]; exact b27
        rcases g5 with ⟨rfl, j', n, v1, v2, v3, v4, v5, v6, v7, v8⟩ | ⟨rfl, er⟩
        · rw [a14] at v5 v7
          rw [a15] at v6 v7
          rw [if_pos (show r32 1 by decide), if_neg (show ¬ (1 : Int) = 0 by decide), f16, if_pos (show 0 ≤ L ∧ L < 6 by omega), f27]
          have gBB : tB B' (zup4 (zup4 B' 3 0 12 L (Bm 14 0 11 (j + 1))) 3 0 13 L (F 3 0 14)) := tB_u (tB_u tB_r)
          have hE5 := EV_t (EV_B hE4 (fK_10 g3) (fun k hk => fH_k g4 k (by first | decide | omega))) gBB (tM_r (B := Bm'))
          have rows : ∀ k y, k ≤ 11 → (zup4 (zup4 B' 3 0 12 L (Bm 14 0 11 (j + 1))) 3 0 13 L (F 3 0 14)) 3 0 k y = B' 3 0 k y := fun k y hk => by rw [zup4_v, if_neg (fun q => by have := q.2.2.1; omega), zup4_v, if_neg (fun q => by have := q.2.2.1; omega)]
          have r12 : ∀ q, q < L → (zup4 (zup4 B' 3 0 12 L (Bm 14 0 11 (j + 1))) 3 0 13 L (F 3 0 14)) 3 0 12 q = B' 3 0 12 q := fun q hq => by simp [zup4_v]; omega
          have r13 : ∀ q, q < L → (zup4 (zup4 B' 3 0 12 L (Bm 14 0 11 (j + 1))) 3 0 13 L (F 3 0 14)) 3 0 13 q = B' 3 0 13 q := fun q hq => by simp [zup4_v]; omega
          have g12 : ∀ k q, 11 ≤ k → B' 3 0 k q = (newB B (F 3 0 14) 10 (F 10 0 1)) 3 0 k q := fun k q hk => g3 3 0 k q (fun z => by have := z.2.2.1; omega) (fun z => by have := z.2.2.2.1; omega) (fun z => by have := z.2.2.1; omega)
          have m25 : Bm' 14 0 25 = Bm4 14 0 25 := fH_k g4 25 (by decide)
          have m26 : Bm' 14 0 26 = Bm4 14 0 26 := fH_k g4 26 (by decide)
          -- the old items seen from the new world
          have aB0 : agB L 0 (F 3 0 14) 0 (F 3 0 15) (-1) B (zup4 (zup4 B' 3 0 12 L (Bm 14 0 11 (j + 1))) 3 0 13 L (F 3 0 14)) := by
            refine ⟨fun k y h1 h2 h3 _ => ?_, fun k y h1 h2 h3 h4 => ?_, fun q h1 h2 => ?_⟩
            · rw [rows k y (by first | decide | omega), g3 3 0 k y (fun z => by have := z.2.2.2; omega) (fun z => by have := z.2.2.1; omega) (fun z => by have := z.2.2.2; omega)]
              exact hK1 3 0 k y (fun z => by have := z.2.2.2; omega) (fun z => by have := z.2.2.1; omega) (fun z => by have := z.2.2.2; omega)
            · rw [rows k y (by first | decide | omega), g3 3 0 k y (fun z => by have := z.2.2.1; omega) (fun z => by have := z.2.2.2.2; omega) (fun z => by have := z.2.2.1; omega)]
              exact hK1 3 0 k y (fun z => by have := z.2.2.1; omega) (fun z => by have := z.2.2.2.2; omega) (fun z => by have := z.2.2.1; omega)
            · rw [r13 q h2, g12 13 q (by decide)]
              exact hK1 3 0 13 q (fun z => absurd z.2.2.1 (by decide)) (fun z => absurd z.2.2.2.1 (by decide)) (fun z => absurd z.2.2.1 (by decide))
          have aM0 : agM L 0 j Bm Bm' := by
            refine ⟨fun k y h1 h2 h3 h4 => ?_, fun k h1 h2 => ?_, fun q h1 h2 => ?_⟩
            · rw [g4 14 0 k y (fun z => by have := z.2.2.2.2; omega), c30 k h1]
            · rw [fH_k g4 k (by first | decide | omega), c7 k h2]
            · rw [m25]; exact c25 q h2
          refine zP_s ⟨hF_u (hF_f (fF_t gF4 g1)) (by decide), hG_u (hG_f (fG_t gG4 g2)) (by decide) (by decide), tB_t gB1 (tB_t (tB_K g3) gBB), tM_t gM4 (tM_H g4), Or.inl ⟨rfl, ⟨j', (by first | decide | omega), hE5, ?_, ?_, ?_, ?_, ?_, ?_, ?_⟩, ?_, ?_, ?_⟩⟩
          · exact PS_t (PS_cg v2 (fun k => by simp [zup3_v]) (fun k hk => by rcases hk with rfl | rfl | rfl | rfl | rfl <;> simp [zup3_v]) (fun k hk => by rcases hk with rfl | rfl | rfl | rfl | rfl <;> simp [zup3_v])) gBB tM_r
          · refine HP_cg (HP_f hP (fF_t gF4 g1) (fG_t gG4 g2)) (fun k _ _ => by simp [zup3_v]) (by simp [zup3_v]) (fun k _ _ => by simp [zup3_v]) (fun k hk => by rcases hk with rfl | rfl | rfl | rfl <;> simp [zup3_v])
          · refine ⟨by simp [zup3_v], by simp [zup3_v], (by first | decide | omega), fun q q0 q1 => ?_⟩
            by_cases e : q = L
            · rw [e, m25, c25L]
              refine ⟨by simp [zup4_v], ?_, ?_⟩
              · simp [zup4_v]; omega
              · simp [zup4_v]; exact hx14
            · rw [r12 q (by first | decide | omega), r13 q (by first | decide | omega), m25, c25 q (by first | decide | omega), g12 12 q (by decide), g12 13 q (by decide)]
              exact m4 q q0 (by first | decide | omega)
          · simp [zup3_v]; omega
          · simp [zup3_v]; omega
          · simp [zup3_v]; rw [v4]; exact a18
          · have s14 : (zup3 F' 3 0 16 (L + 1)) 3 0 14 = F' 3 0 14 := by simp [zup3_v]
            have s15 : (zup3 F' 3 0 16 (L + 1)) 3 0 15 = F' 3 0 15 := by simp [zup3_v]
            rw [s14, s15]
            intro q q0 q1 Bx By ab am a26
            by_cases e : q = L
            · subst e
              have eb : Bx 3 0 13 q = F 3 0 14 := by rw [ab.2.2 q q0 q1]; simp [zup4_v]
              have em : By 14 0 26 q = j + 1 + 1 + 1 := by rw [a26 q q0 q1, m26]; exact c26L
              rw [eb, em]
              have sl : SLR q 7 n ((zup4 (zup4 B' 3 0 12 q (Bm 14 0 11 (j + 1))) 3 0 13 q (F 3 0 14)) 3 0 4 (F 3 0 14)) (j + 1 + 1 + 1 + 1) (j' - 1) (F 3 0 14 + 1) (F' 3 0 14) (F 3 0 15) (F' 3 0 15) (zup4 (zup4 B' 3 0 12 q (Bm 14 0 11 (j + 1))) 3 0 13 q (F 3 0 14)) Bm' := by
                rw [rows 4 _ (by decide)]
                exact SLR_t v7 ⟨fun k y h1 _ _ _ => rows k y (by first | decide | omega), fun k y _ h2 _ _ => rows k y (by first | decide | omega), fun r _ h2 => r13 r h2⟩ agM_r
              refine ⟨(by first | decide | omega), ?_⟩
              exact BK_of (agB_m (agB_L ab (by first | decide | omega)) (by first | decide | omega) (Int.le_refl _) (Int.le_refl _) (Int.le_refl _) (Or.inr (Or.inl (by first | decide | omega)))) (agM_L am (by first | decide | omega)) sl v3 (by first | decide | omega) (Int.le_refl _) (by first | decide | omega) (Int.le_refl _) (by first | decide | omega) (Int.le_refl _) (by first | decide | omega) (by first | decide | omega) (by have h1 := hE.1.2.1; have h2 := v2.2.1.1.2; omega)
            · exact SLT_t hSL aB0 aM0 (fun r _ h2 => by rw [m26]; exact c26 r h2) (by first | decide | omega) (by first | decide | omega) (by first | decide | omega) q q0 (by first | decide | omega) Bx By (agB_L ab (by first | decide | omega)) (agM_L am (by first | decide | omega)) (fun r r0 r1 => a26 r r0 (by first | decide | omega))
          · simp [zup3_v]; rw [g2 14 0 22 (by decide), gG4 14 0 22 (by decide)]
          · simp [zup3_v]; rw [g2 14 0 23 (by decide), gG4 14 0 23 (by decide)]
          · simp [zup3_v]; rw [g2 14 0 24 (by decide), gG4 14 0 24 (by decide)]
        · rw [if_pos (show r32 0 by decide), if_pos rfl]
          exact zP_s ⟨hF_f (fF_t gF4 g1), hG_u (hG_f (fG_t gG4 g2)) (by decide) (by decide), tB_t gB1 (tB_K g3), tM_t gM4 (tM_H g4), Or.inr ⟨rfl, ERR_cg er rfl (by simp [zup3_v]) (by simp [zup3_v])⟩⟩
      · have c3' : f_Parser_takeSign K 0 61 (zup3 (advF (advF (zup3 F 3 0 14 (F 3 0 14 + 1)) (newB B (F 3 0 14) 10 (F 10 0 1))) (newB B (F 3 0 14) 10 (F 10 0 1))) 3 0 20 32) (newB B (F 3 0 14) 10 (F 10 0 1)) = some (0, refF (zup3 (advF (advF (zup3 F 3 0 14 (F 3 0 14 + 1)) (newB B (F 3 0 14) 10 (F 10 0 1))) (newB B (F 3 0 14) 10 (F 10 0 1))) 3 0 20 32) 2, newB B (F 3 0 14) 10 (F 10 0 1)) := by
          rw [C_takeSign (CX_u (PS_CX hE1 hS2) (by decide)) (by decide)]
          have sg1 : sgn (zup3 (advF (advF (zup3 F 3 0 14 (F 3 0 14 + 1)) (newB B (F 3 0 14) 10 (F 10 0 1))) (newB B (F 3 0 14) 10 (F 10 0 1))) 3 0 20 32) 61 = sgn (advF (advF (zup3 F 3 0 14 (F 3 0 14 + 1)) (newB B (F 3 0 14) 10 (F 10 0 1))) (newB B (F 3 0 14) 10 (F 10 0 1))) 61 := by
            unfold sgn
            simp [zup3_v]
          have c0 := C_takeSign (PS_CX hE1 hS2) (c := 61) (by decide)
          rw [sg1]
          by_cases q : sgn (advF (advF (zup3 F 3 0 14 (F 3 0 14 + 1)) (newB B (F 3 0 14) 10 (F 10 0 1))) (newB B (F 3 0 14) 10 (F 10 0 1))) 61 = 0
          · rw [if_pos q]
          · rw [if_neg q, c3] at c0
            injection c0 with c0
            injection c0 with c0
            exact absurd c0 (by decide)
        have e27' : (errM (zup3 (zup3 Fm 14 0 16 (j + 1)) 14 0 16 (j + 1 + 1)) (zup4 Bm 14 0 25 L (Bm 14 0 11 (j + 1))) (wr (zup4 Bm 14 0 25 L (Bm 14 0 11 (j + 1))) (j + 1 + 1))) 14 0 27 = L := by unfold errM; simp [zup3_v]; exact l2
        rw [c3', m3']
        simp only [zb_s, ir0, if_true]
        have erb : bad (zup3 (zup3 (errM (zup3 (zup3 Fm 14 0 16 (j + 1)) 14 0 16 (j + 1 + 1)) (zup4 Bm 14 0 25 L (Bm 14 0 11 (j + 1))) (wr (zup4 Bm 14 0 25 L (Bm 14 0 11 (j + 1))) (j + 1 + 1))) 14 0 20 4) 14 0 21 0) := bad_cg er.2 (by simp [zup3_v])
        rw [e27', if_pos (show 0 ≤ L ∧ L < 6 by omega), top_bad km erb]
        simp only [zb_s]
        refine zP_s ⟨hF_f (fF_e (fF_u (fF_a gF1) (by decide))), hG_u (hG_f (fG_u (fG_u (fG_e (fG_u gG1 (by decide) (by decide))) (by decide) (by decide)) (by decide) (by decide))) (by decide) (by decide), gB1, tM_u gM2 (by decide) (by decide), Or.inr ⟨rfl, ERR_cg er ?_ (by simp [zup3_v]) (by simp [zup3_v])⟩⟩
        unfold refF
        simp [zup3_v]
    · have er := PS_err (s := 4) (s' := 4) hE1 hS1 (by rw [if_neg (by first | decide | omega)]) (by decide)
      have hr13 := (m4 _ n1 n2).2.2
      rw [if_neg (show ¬ fdR (Bm 14 0 25) L (Bm 14 0 11 (j + 1)) 22 0 < 0 by omega)] at ln
      rw [ln]
      simp only [zb_s]
      rw [if_pos (show r32 ((newB B (F 3 0 14) 10 (F 10 0 1)) 3 0 13 (fdR (Bm 14 0 25) L (Bm 14 0 11 (j + 1)) 22 0)) by omega), if_neg (show ¬ (newB B (F 3 0 14) 10 (F 10 0 1)) 3 0 13 (fdR (Bm 14 0 25) L (Bm 14 0 11 (j + 1)) 22 0) = -1 by omega), if_pos (show r32 (fdR (Bm 14 0 25) L (Bm 14 0 11 (j + 1)) 22 0) by omega), if_neg (show ¬ fdR (Bm 14 0 25) L (Bm 14 0 11 (j + 1)) 22 0 < 0 by omega), C_refuse hX1, L_fail hg1 (by rw [e16]; omega)]
      simp only [zb_s]
      rw [if_pos (by decide), badL er.2]
      exact zP_s ⟨hF_f (fF_e gF1), hG_f (fG_e gG1), gB1, tM_r, Or.inr ⟨rfl, er⟩⟩
end
end
section
section
/-! ===== a new part is made ===== -/
theorem zbN_s {r : Int} {F : zF} {B : zB} {k : Int → zF → zB → zOm} : zbindN (some (r, F, B)) k = k r F B := rfl
theorem zbM_s {r : Int} {F : zF} {B : zB} {K : zK} {k : Int → zF → zB → zK → zOm} : zbindM (some (r, F, B, K)) k = k r F B K := rfl
theorem zinF_v {F : zF} {c c' k : Nat} {i i' : Int} {l : List Int} : zinF F c i l c' i' k = if c' = c ∧ i' = i then l.getD k 0 else F c' i' k := rfl
theorem zinB_v {B : zB} {c c' k : Nat} {i i' x : Int} {b : Nat → Int → Int} : zinB B c i b c' i' k x = if c' = c ∧ i' = i then b k x else B c' i' k x := by
  unfold zinB
  split <;> rfl
theorem zinN_v {N : Nat → Int} {c c' : Nat} : zinN N c c' = if c' = c then N c + 1 else N c' := rfl
theorem getD0 : ∀ (n k : Nat), (List.replicate n (0 : Int)).getD k 0 = 0 := by
  intro n
  induction n with
  | zero => intro k; rfl
  | succ n ih =>
    intro k
    cases k with
    | zero => rfl
    | succ k => exact ih k
/-- the loop that makes the events of a part q from the i-th on -/
theorem C_pI46 {q e0 : Int} (h0 : 0 ≤ e0) (hq : 0 ≤ q) : ∀ {m n : Nat} {K : zK} {i : Int} {F : zF} {B : zB}, i = 200 - m → 0 ≤ i → m < n → K.2 1 = e0 + i → q < K.2 4 → ∃ F' B' K', f_Part_init_46 n K i q F B = some (q, F', B', K') ∧ K'.1 = K.1 ∧ (∀ c, K'.2 c = if c = 1 then e0 + 200 else K.2 c) ∧ (∀ c y k, ¬ (c = 1 ∧ e0 + i ≤ y ∧ y < e0 + 200) → F' c y k = F c y k) ∧ (∀ c y k x, ¬ (c = 1 ∧ e0 + i ≤ y ∧ y < e0 + 200) → ¬ (c = 4 ∧ y = q ∧ k = 5 ∧ i ≤ x ∧ x < 200) → B' c y k x = B c y k x) ∧ (∀ x, i ≤ x → x < 200 → B' 4 q 5 x = e0 + x) ∧ (∀ y k, e0 + i ≤ y → y < e0 + 200 → F' 1 y k = 0) ∧ (∀ y k x, e0 + i ≤ y → y < e0 + 200 → B' 1 y k x = 0) := by
  intro m
  induction m with
  | zero =>
    intro n K i F B hi i0 hn hK hq4
    obtain ⟨n, rfl⟩ : ∃ y, n = y + 1 := ⟨n - 1, (by first | decide | omega)⟩
    refine ⟨F, B, K, ?_, rfl, fun c => ?_, fun _ _ _ _ => rfl, fun _ _ _ _ _ _ => rfl, fun x a b => (by first | decide | omega), fun y k a b => (by first | decide | omega), fun y k x a b => (by first | decide | omega)⟩
    · unfold f_Part_init_46
      rw [if_pos (by first | decide | omega), if_pos (by first | decide | omega)]
    · split
      · rename_i e; rw [e]; omega
      · rfl
  | succ m ih =>
    intro n K i F B hi i0 hn hK hq4
    obtain ⟨n, rfl⟩ : ∃ y, n = y + 1 := ⟨n - 1, (by first | decide | omega)⟩
    have hN1 : (zinN K.2 1) 1 = e0 + (i + 1) := by rw [zinN_v, if_pos rfl]; omega
    have hN4 : (zinN K.2 1) 4 = K.2 4 := by rw [zinN_v, if_neg (by decide)]
    obtain ⟨F', B', K', a1, a2, a3, a4, a5, a6, a7, a8⟩ := ih (n := n) (K := (K.1, zinN K.2 1)) (i := i + 1) (F := zinF F 1 (K.2 1) [0, 0, 0, 0, 0, 0, 0, 0, 0, 0, 0, 0, 0, 0]) (B := zup4 (zinB B 1 (K.2 1) (fun _ _ => 0)) 4 q 5 i (K.2 1)) (by first | decide | omega) (by first | decide | omega) (by first | decide | omega) hN1 (by show q < (zinN K.2 1) 4; omega)
    refine ⟨F', B', K', ?_, a2, fun c => ?_, fun c y k h => ?_, fun c y k x h h' => ?_, fun x h h' => ?_, fun y k h h' => ?_, fun y k x h h' => ?_⟩
    · rw [f_Part_init_46]
      rw [if_pos (by first | decide | omega), if_neg (by first | decide | omega), if_pos ⟨hq, hq4⟩]
      unfold f_Event_init
      rw [if_pos (by first | decide | omega)]
      simp only [zbM_s]
      rw [if_pos (show 0 ≤ K.2 1 ∧ K.2 1 < (zinN K.2 1) 1 by omega)]
      unfold f_Part_init_65
      rw [if_pos (show 0 ≤ K.2 1 ∧ K.2 1 < (zinN K.2 1) 1 by omega), if_pos (show 0 ≤ q ∧ q < (zinN K.2 1) 4 by omega), if_pos (by first | decide | omega)]
      exact a1
    · rw [a3 c]
      split
      · rfl
      · rename_i e; show zinN K.2 1 c = _; rw [zinN_v, if_neg e]
    · rw [a4 c y k (fun z => h ⟨z.1, (by first | decide | omega), z.2.2⟩), zinF_v, if_neg (fun z => h ⟨z.1, (by first | decide | omega), (by first | decide | omega)⟩)]
    · rw [a5 c y k x (fun z => h ⟨z.1, (by first | decide | omega), z.2.2⟩) (fun z => h' ⟨z.1, z.2.1, z.2.2.1, (by first | decide | omega), z.2.2.2.2⟩), zup4_v, if_neg (fun z => h' ⟨z.1, z.2.1, z.2.2.1, (by first | decide | omega), (by first | decide | omega)⟩), zinB_v, if_neg (fun z => h ⟨z.1, (by first | decide | omega), (by first | decide | omega)⟩)]
    · by_cases e : x = i
      · rw [e, a5 4 q 5 i (fun z => absurd z.1 (by decide)) (fun z => by have := z.2.2.2.1; omega), zup4_v, if_pos ⟨rfl, rfl, rfl, rfl⟩]; exact hK
      · exact a6 x (by first | decide | omega) h'
    · by_cases e : y = e0 + i
      · rw [a4 1 y k (fun z => by have := z.2.1; omega), zinF_v, if_pos ⟨rfl, (by first | decide | omega)⟩]
        exact getD0 14 k
      · exact a7 y k (by first | decide | omega) h'
    · by_cases e : y = e0 + i
      · rw [a5 1 y k x (fun z => by have := z.2.1; omega) (fun z => absurd z.1 (by decide)), zup4_v, if_neg (fun z => absurd z.1 (by decide)), zinB_v, if_pos ⟨rfl, (by first | decide | omega)⟩]
      · exact a8 y k x (by first | decide | omega) h'
/-- K' has at least what K has -/
def Kle (K K' : zK) : Prop := K'.1 = K.1 ∧ ∀ c, K.2 c ≤ K'.2 c
theorem Kle_r {K : zK} : Kle K K := ⟨rfl, fun _ => Int.le_refl _⟩
theorem Kle_t {K K' K'' : zK} (h : Kle K K') (h' : Kle K' K'') : Kle K K'' := ⟨h'.1.trans h.1, fun c => Int.le_trans (h.2 c) (h'.2 c)⟩
theorem C_partInit {K : zK} {F : zF} {B : zB} (hK : 3002 ≤ K.1) (h1 : 0 ≤ K.2 1) (h4 : 0 ≤ K.2 4) : ∃ F' B' K', f_Part_init K F B = some (K.2 4, F', B', K') ∧ Kle K K' ∧ (∀ c, K'.2 c = if c = 1 then K.2 1 + 200 else if c = 4 then K.2 4 + 1 else K.2 c) ∧ (∀ c y k, y < K.2 c → F' c y k = F c y k) ∧ (∀ c y k x, y < K.2 c → B' c y k x = B c y k x) ∧ (∀ x, 0 ≤ x → x < 200 → B' 4 (K.2 4) 5 x = K.2 1 + x) ∧ (∀ k, F' 4 (K.2 4) k = 0) ∧ (∀ k x, k ≠ 5 → B' 4 (K.2 4) k x = 0) ∧ (∀ y k, K.2 1 ≤ y → y < K.2 1 + 200 → F' 1 y k = 0) ∧ (∀ y k x, K.2 1 ≤ y → y < K.2 1 + 200 → B' 1 y k x = 0) := by
  have hN4 : (zinN K.2 4) 4 = K.2 4 + 1 := by rw [zinN_v, if_pos rfl]
  have hN1 : (zinN K.2 4) 1 = K.2 1 := by rw [zinN_v, if_neg (by decide)]
  obtain ⟨F', B', K', a1, a2, a3, a4, a5, a6, a7, a8⟩ := C_pI46 (q := K.2 4) (e0 := K.2 1) h1 h4 (m := 200) (n := K.1) (K := (K.1, zinN K.2 4)) (i := 0) (F := zinF F 4 (K.2 4) [0, 0, 0, 0, 0, 0, 0, 0, 0, 0, 0, 0, 0]) (B := zinB B 4 (K.2 4) (fun k _ => if k = 5 then -1 else 0)) (by first | decide | omega) (by first | decide | omega) (by first | decide | omega) (by show (zinN K.2 4) 1 = _; omega) (by show K.2 4 < (zinN K.2 4) 4; omega)
  have a3' : ∀ c, K'.2 c = if c = 1 then K.2 1 + 200 else if c = 4 then K.2 4 + 1 else K.2 c := by
    intro c
    rw [a3 c]
    split
    · rfl
    · show zinN K.2 4 c = _; rw [zinN_v]
  refine ⟨F', B', K', ?_, ⟨a2, fun c => ?_⟩, a3', fun c y k h => ?_, fun c y k x h => ?_, fun x p q => a6 x p q, fun k => ?_, fun k x hk => ?_, fun y k p q => a7 y k (by first | decide | omega) q, fun y k x p q => a8 y k x (by first | decide | omega) q⟩
  · unfold f_Part_init
    rw [if_pos h4, if_pos (by first | decide | omega)]
    exact a1
  · rw [a3' c]
    split
    · rename_i e; rw [e]; omega
    · split
      · rename_i e; rw [e]; omega
      · exact Int.le_refl _
  · rw [a4 c y k (fun z => by have := z.1; subst this; omega), zinF_v, if_neg (fun z => by have := z.1; subst this; omega)]
  · rw [a5 c y k x (fun z => by have := z.1; subst this; omega) (fun z => by have := z.1; subst this; omega), zinB_v, if_neg (fun z => by have := z.1; subst this; omega)]
  · rw [a4 4 _ k (fun z => absurd z.1 (by decide)), zinF_v, if_pos ⟨rfl, rfl⟩]
    exact getD0 13 k
  · rw [a5 4 _ k x (fun z => absurd z.1 (by decide)) (fun z => hk z.2.2.1), zinB_v, if_pos ⟨rfl, rfl⟩, if_neg hk]
/-- a part is there for the v-th voice of the piece p: the old one, or one made anew -/
theorem C_newPart {K : zK} {p v : Int} {F : zF} {B : zB} (hK : 3002 ≤ K.1) (h1 : 0 ≤ K.2 1) (h4 : 0 ≤ K.2 4) (hp : 0 ≤ p ∧ p < K.2 6) (hv : F 6 p 1 = v) (h0 : 0 ≤ v ∧ v < 4) (hB : B 6 p 0 v < K.2 4) : ∃ q F' B' K', f_Piece_newPart K p F B = some (q, F', B', K') ∧ Kle K K' ∧ (q = B 6 p 0 v ∧ 0 ≤ q ∧ K' = K ∧ B' = B ∨ B 6 p 0 v < 0 ∧ q = K.2 4 ∧ (∀ c, K'.2 c = if c = 1 then K.2 1 + 200 else if c = 4 then K.2 4 + 1 else K.2 c) ∧ (∀ x, 0 ≤ x → x < 200 → B' 4 q 5 x = K.2 1 + x) ∧ (∀ k x, k ≠ 5 → B' 4 q k x = 0) ∧ (∀ y k, K.2 1 ≤ y → y < K.2 1 + 200 → F' 1 y k = 0) ∧ (∀ y k x, K.2 1 ≤ y → y < K.2 1 + 200 → B' 1 y k x = 0)) ∧ (∀ c y k, y < K.2 c → ¬ (c = 4 ∧ y = q) → ¬ (c = 6 ∧ y = p ∧ k = 1) → F' c y k = F c y k) ∧ (∀ c y k x, y < K.2 c → ¬ (c = 6 ∧ y = p ∧ k = 0 ∧ x = v) → B' c y k x = B c y k x) ∧ B' 6 p 0 v = q ∧ 0 ≤ q ∧ q < K'.2 4 ∧ F' 6 p 1 = v + 1 ∧ F' 4 q 6 = 0 ∧ F' 4 q 10 = 0 ∧ F' 4 q 7 = 0 := by
  have zm : zmin (F 6 p 1) 3 = v := by unfold zmin; rw [if_neg (by first | decide | omega), hv]
  unfold f_Piece_newPart
  rw [if_pos hp, hv, if_pos (by first | decide | omega)]
  rw [hv] at zm
  rw [zm, if_pos (by first | decide | omega)]
  by_cases n : B 6 p 0 v < 0
  · obtain ⟨F', B', K', a1, a2, a3, a4, a5, a6, a7, a8, a9, a10⟩ := C_partInit (F := F) (B := B) hK h1 h4
    have k4 : K'.2 4 = K.2 4 + 1 := by rw [a3 4, if_neg (by decide), if_pos rfl]
    have k6 : K'.2 6 = K.2 6 := by rw [a3 6, if_neg (by decide), if_neg (by decide)]
    have u : zup4 B' 6 p 0 v (K.2 4) 6 p 0 v = K.2 4 := by rw [zup4_v, if_pos ⟨rfl, rfl, rfl, rfl⟩]
    refine ⟨K.2 4, zup3 (zup3 (zup3 (zup3 F' 4 (K.2 4) 6 0) 4 (K.2 4) 10 0) 4 (K.2 4) 7 0) 6 p 1 (v + 1), zup4 B' 6 p 0 v (K.2 4), K', ?_, a2, Or.inr ⟨n, rfl, a3, fun x p q => ?_, fun k x hk => ?_, fun y k p q => ?_, fun y k x p q => ?_⟩, fun c y k h h' h'' => ?_, fun c y k x h h' => ?_, u, h4, (by first | decide | omega), ?_, ?_, ?_, ?_⟩
    · rw [if_pos n, a1]
      simp only [zbM_s]
      unfold f_Piece_newPart_30 f_Piece_newPart_31 f_Part_clear
      rw [if_pos (by first | decide | omega), if_pos (by first | decide | omega), if_pos (by first | decide | omega), if_pos (by first | decide | omega), if_pos (by first | decide | omega), if_pos (by first | decide | omega), u, if_pos (by first | decide | omega), if_pos (by first | decide | omega)]
      simp only [zbN_s]
      rw [u]
    · rw [zup4_v, if_neg (fun z => absurd z.1 (by decide))]; exact a6 x p q
    · rw [zup4_v, if_neg (fun z => absurd z.1 (by decide))]; exact a8 k x hk
    · simp [zup3_v]; exact a9 y k p q
    · rw [zup4_v, if_neg (fun z => absurd z.1 (by decide))]; exact a10 y k x p q
    · rw [zup3_v, if_neg (fun z => h'' ⟨z.1, z.2.1, z.2.2⟩), zup3_v, if_neg (fun z => h' ⟨z.1, z.2.1⟩), zup3_v, if_neg (fun z => h' ⟨z.1, z.2.1⟩), zup3_v, if_neg (fun z => h' ⟨z.1, z.2.1⟩)]
      exact a4 c y k h
    · rw [zup4_v, if_neg (fun z => h' ⟨z.1, z.2.1, z.2.2.1, z.2.2.2⟩)]; exact a5 c y k x h
    · simp [zup3_v]
    · simp [zup3_v]
    · simp [zup3_v]
    · simp [zup3_v]
  · refine ⟨B 6 p 0 v, zup3 (zup3 (zup3 (zup3 F 4 (B 6 p 0 v) 6 0) 4 (B 6 p 0 v) 10 0) 4 (B 6 p 0 v) 7 0) 6 p 1 (v + 1), B, K, ?_, Kle_r, Or.inl ⟨rfl, (by first | decide | omega), rfl, rfl⟩, fun c y k h h' h'' => ?_, fun c y k x h h' => rfl, rfl, (by first | decide | omega), hB, ?_, ?_, ?_, ?_⟩
    · rw [if_neg n]
      unfold f_Piece_newPart_31 f_Part_clear
      rw [if_pos hp, if_pos h0, if_pos (by first | decide | omega), if_pos (by first | decide | omega)]
      rfl
    · rw [zup3_v, if_neg (fun z => h'' ⟨z.1, z.2.1, z.2.2⟩), zup3_v, if_neg (fun z => h' ⟨z.1, z.2.1⟩), zup3_v, if_neg (fun z => h' ⟨z.1, z.2.1⟩), zup3_v, if_neg (fun z => h' ⟨z.1, z.2.1⟩)]
    · simp [zup3_v]
    · simp [zup3_v]
    · simp [zup3_v]
    · simp [zup3_v]
end
end
section
section
/-! ===== voices: what stands, and small steps ===== -/
def zPm (x : zOm) (y : zO) (Q : Int → zF → zB → zK → Int → zF → zB → Prop) : Prop := ∃ r F B K r' F' B', x = some (r, F, B, K) ∧ y = some (r', F', B') ∧ Q r F B K r' F' B'
theorem zPm_s {r r' : Int} {F F' : zF} {B B' : zB} {K : zK} {Q : Int → zF → zB → zK → Int → zF → zB → Prop} (h : Q r F B K r' F' B') : zPm (some (r, F, B, K)) (some (r', F', B')) Q := ⟨r, F, B, K, r', F', B', rfl, rfl, h⟩
theorem zPm_m {x : zOm} {y : zO} {R Q : Int → zF → zB → zK → Int → zF → zB → Prop} (h : zPm x y R) (hk : ∀ r F B K r' F' B', R r F B K r' F' B' → Q r F B K r' F' B') : zPm x y Q := by
  obtain ⟨r, F, B, K, r', F', B', e, e', q⟩ := h
  exact ⟨r, F, B, K, r', F', B', e, e', hk _ _ _ _ _ _ _ q⟩
theorem zPm_n {x y : zO} {k : Int → zF → zB → zOm} {k' : Int → zF → zB → zO} {R : Int → zF → zB → Int → zF → zB → Prop} {Q : Int → zF → zB → zK → Int → zF → zB → Prop} (h : zP x y R) (hk : ∀ r F B r' F' B', R r F B r' F' B' → zPm (k r F B) (k' r' F' B') Q) : zPm (zbindN x k) (zbind y k') Q := by
  obtain ⟨r, F, B, r', F', B', e, e', q⟩ := h
  rw [e, e']
  exact hk _ _ _ _ _ _ q
theorem zPm_c {x : zOm} {y : zO} {k : Int → zF → zB → zK → zOm} {k' : Int → zF → zB → zO} {R : Int → zF → zB → zK → Int → zF → zB → Prop} {Q : Int → zF → zB → zK → Int → zF → zB → Prop} (h : zPm x y R) (hk : ∀ r F B K r' F' B', R r F B K r' F' B' → zPm (k r F B K) (k' r' F' B') Q) : zPm (zbindM x k) (zbind y k') Q := by
  obtain ⟨r, F, B, K, r', F', B', e, e', q⟩ := h
  rw [e, e']
  exact hk _ _ _ _ _ _ _ q
/-- the class's objects: which part is whose, which event is whose -/
def GS (K : zK) (B : zB) : Prop := (∀ c, c = 1 ∨ c = 4 ∨ c = 6 → 0 ≤ K.2 c ∧ 1 ≤ K.2 1) ∧ (∀ p v, 0 ≤ p → p < K.2 6 → 0 ≤ v → v < 4 → B 6 p 0 v < K.2 4) ∧ (∀ p v p' v', 0 ≤ p → p < K.2 6 → 0 ≤ v → v < 4 → 0 ≤ p' → p' < K.2 6 → 0 ≤ v' → v' < 4 → 0 ≤ B 6 p 0 v → B 6 p 0 v = B 6 p' 0 v' → p = p' ∧ v = v') ∧ (∀ q x, 0 ≤ q → q < K.2 4 → 0 ≤ x → x < 200 → 1 ≤ B 4 q 5 x ∧ B 4 q 5 x < K.2 1) ∧ (∀ q x q' x', 0 ≤ q → q < K.2 4 → 0 ≤ x → x < 200 → 0 ≤ q' → q' < K.2 4 → 0 ≤ x' → x' < 200 → B 4 q 5 x = B 4 q' 5 x' → q = q' ∧ x = x')
theorem GS_B {K : zK} {B B' : zB} (h : GS K B) (h6 : ∀ p v, 0 ≤ p → p < K.2 6 → B' 6 p 0 v = B 6 p 0 v) (h4 : ∀ q x, 0 ≤ q → q < K.2 4 → B' 4 q 5 x = B 4 q 5 x) : GS K B' := by
  obtain ⟨a, b, c, d, e⟩ := h
  refine ⟨a, fun p v h1 h2 h3 h5 => ?_, fun p v p' v' h1 h2 h3 h5 h7 h8 h9 h10 h11 h12 => ?_, fun q x h1 h2 h3 h5 => ?_, fun q x q' x' h1 h2 h3 h5 h7 h8 h9 h10 h11 => ?_⟩
  · rw [h6 p v h1 h2]; exact b p v h1 h2 h3 h5
  · rw [h6 p v h1 h2] at h11 h12
    rw [h6 p' v' h7 h8] at h12
    exact c p v p' v' h1 h2 h3 h5 h7 h8 h9 h10 h11 h12
  · rw [h4 q x h1 h2]; exact d q x h1 h2 h3 h5
  · rw [h4 q x h1 h2, h4 q' x' h7 h8] at h11
    exact e q x q' x' h1 h2 h3 h5 h7 h8 h9 h10 h11
theorem GS_t {K : zK} {B B' : zB} (h : GS K B) (hB : tB B B') : GS K B' := GS_B h (fun p v _ _ => hB 6 p 0 v (fun z => absurd z.1 (by decide))) (fun q x _ _ => hB 4 q 5 x (fun z => absurd z.1 (by decide)))
/-- how many letters a name has -/
def ltr : Nat → Int → Int
  | 0, _ => 0
  | n + 1, w => if w ≤ 0 then 0 else 1 + ltr n (w / 256)
/-- a voice that is told, on both sides -/
def VR (K : zK) (p w v : Int) (F : zF) (B : zB) (Bm : zB) : Prop := (0 ≤ B 6 p 0 v ∧ B 6 p 0 v < K.2 4) ∧ F 4 (B 6 p 0 v) 0 = Bm 13 w 10 v ∧ (0 < F 4 (B 6 p 0 v) 0 ∧ F 4 (B 6 p 0 v) 0 < 9223372036854775808) ∧ (F 4 (B 6 p 0 v) 1 = Bm 13 w 8 v ∧ 0 ≤ F 4 (B 6 p 0 v) 1 ∧ F 4 (B 6 p 0 v) 1 < 4) ∧ (F 4 (B 6 p 0 v) 2 = Bm 13 w 9 v ∧ 0 ≤ F 4 (B 6 p 0 v) 2 ∧ F 4 (B 6 p 0 v) 2 ≤ 3) ∧ (F 4 (B 6 p 0 v) 3 = Bm 14 0 8 (Bm 14 0 28 v) ∧ 0 ≤ F 4 (B 6 p 0 v) 3 ∧ F 4 (B 6 p 0 v) 3 ≤ 3000) ∧ (0 ≤ Bm 14 0 28 v ∧ Bm 14 0 28 v ≤ 3000) ∧ (0 ≤ F 4 (B 6 p 0 v) 4 ∧ F 4 (B 6 p 0 v) 4 < 3000) ∧ (0 ≤ Bm 14 0 29 v ∧ Bm 14 0 29 v < 3000) ∧ F 4 (B 6 p 0 v) 6 = 0 ∧ Bm 13 w 11 v = ltr 9 (Bm 13 w 10 v) ∧ NZb (Bm 13 w 10 v)
/-- its block, as every later world that agrees sees it -/
def SVC (L hi ph e x a : Int) (B Bm : zB) : Prop := ∀ Bx By, agB L 0 hi 0 ph (-1) B Bx → agM L 0 e Bm By → BKf (IRd L 7) Bx By x a
def VI (K : zK) (Km : Nat) (N L V j p w : Int) (F : zF) (B : zB) (Fm : zF) (Bm : zB) : Prop := HI K Km N L j p w F B Fm Bm ∧ GS K B ∧ F 6 p 1 = V ∧ Fm 13 w 1 = V ∧ (0 ≤ V ∧ V ≤ 4) ∧ (∀ v, 0 ≤ v → v < V → VR K p w v F B Bm ∧ SVC L (F 3 0 14) (F 3 0 15) j (F 4 (B 6 p 0 v) 4) (Bm 14 0 29 v) B Bm)
theorem C_hPN {K : zK} {p w V : Int} {F : zF} {B : zB} (hp : 0 ≤ p ∧ p < K.2 6) (hV : F 6 p 1 = V) (h4 : 0 ≤ V ∧ V ≤ 4) (hq : ∀ v, 0 ≤ v → v < V → (0 ≤ B 6 p 0 v ∧ B 6 p 0 v < K.2 4) ∧ r64 (F 4 (B 6 p 0 v) 0)) (hw : r64 w) : ∀ {n : Nat} {x : Int}, 0 ≤ x → x ≤ V → V - x < n → f_Piece_hasPartNamed_2 K n x p w F B = some (if fdR (fun v => F 4 (B 6 p 0 v) 0) V w n x < 0 then 0 else 1, F, B) := by
  intro n
  induction n with
  | zero => intro x _ _ h; omega
  | succ n ih =>
    intro x a b d
    unfold f_Piece_hasPartNamed_2 fdR
    rw [if_pos hp, if_pos (by first | decide | omega), hV, if_pos (by first | decide | omega)]
    by_cases h : V ≤ x
    · rw [if_pos h, if_pos h, if_pos (by decide)]
    · have q := hq x a (by first | decide | omega)
      rw [if_neg h, if_neg h, if_pos (by first | decide | omega), if_pos q.1, if_pos q.2, if_pos hw]
      by_cases e : F 4 (B 6 p 0 x) 0 = w
      · rw [if_pos (zcmp_0.mpr e), if_pos e, if_neg (by first | decide | omega)]
      · rw [if_neg (fun z => e (zcmp_0.mp z)), if_neg e]
        exact ih (by first | decide | omega) (by first | decide | omega) (by first | decide | omega)
theorem C_hasPart {K : zK} {p w V : Int} {F : zF} {B : zB} (hK : 3002 ≤ K.1) (hp : 0 ≤ p ∧ p < K.2 6) (hV : F 6 p 1 = V) (h4 : 0 ≤ V ∧ V ≤ 4) (hq : ∀ v, 0 ≤ v → v < V → (0 ≤ B 6 p 0 v ∧ B 6 p 0 v < K.2 4) ∧ r64 (F 4 (B 6 p 0 v) 0)) (hw : r64 w) : f_Piece_hasPartNamed K p w F B = some (if fdR (fun v => F 4 (B 6 p 0 v) 0) V w 22 0 < 0 then 0 else 1, F, B) := by
  unfold f_Piece_hasPartNamed
  rw [C_hPN hp hV h4 hq hw (by first | decide | omega) (by first | decide | omega) (by first | decide | omega), fdR_f (f := K.1) (g := 22) (by first | decide | omega) (by first | decide | omega) (by first | decide | omega) (by first | decide | omega)]
/-- the reference counts a name's letters -/
theorem zlshr8 {w : Int} (h0 : 0 ≤ w) (h1 : w < 9223372036854775808) : zlshr w 8 = w / 256 := by
  have e : (lI w).toInt = w := lI_to ⟨(by first | decide | omega), h1⟩
  unfold zlshr
  have e8 : ((iI 8).toInt64 &&& 63) = (8 : Int64) := by decide
  rw [e8]
  have hs : (lI w >>> (8 : Int64)).toInt = (lI w).toInt >>> 8 := by
    rw [← Int64.toInt_toBitVec, Int64.toBitVec_shiftRight]
    show (BitVec.sshiftRight' (lI w).toBitVec _).toInt = _
    rw [BitVec.sshiftRight_eq']
    rw [BitVec.toInt_sshiftRight]
    rfl
  rw [hs, e, Int.shiftRight_eq_div_pow]
  rfl
end
end
section
section
/-! ===== a voice, on both sides ===== -/
theorem zcmp_le {x : Int} : zcmp x 0 ≤ 0 ↔ x ≤ 0 := by
  unfold zcmp
  split
  · exact ⟨fun _ => (by first | decide | omega), fun _ => by decide⟩
  · split
    · exact ⟨fun _ => (by first | decide | omega), fun _ => by decide⟩
    · exact ⟨fun z => (by first | decide | omega), fun z => (by first | decide | omega)⟩
theorem L_108 {Km : Nat} {v : Int} {F : zF} {B : zB} : ∀ {m n : Nat} {x c : Int}, m < n → 0 ≤ x → x < 256 ^ m → x < 9223372036854775808 → f_M_voiceText_108 Km n x c v F B = f_M_voiceText_108 Km 1 0 (c + ltr m x) v F B := by
  intro m
  induction m with
  | zero =>
    intro n x c hn h0 h1 h2
    obtain ⟨n, rfl⟩ : ∃ y, n = y + 1 := ⟨n - 1, (by first | decide | omega)⟩
    have : x = 0 := by
      have : (256 : Int) ^ 0 = 1 := rfl
      omega
    subst this
    rw [show c + ltr 0 0 = c by unfold ltr; omega]
    rw [f_M_voiceText_108, f_M_voiceText_108]
    rw [if_pos (show r64 0 by decide), if_pos (show r64 0 by decide), if_pos (zcmp_le.mpr (by first | decide | omega)), if_pos (zcmp_le.mpr (by first | decide | omega))]
  | succ m ih =>
    intro n x c hn h0 h1 h2
    obtain ⟨n, rfl⟩ : ∃ y, n = y + 1 := ⟨n - 1, (by first | decide | omega)⟩
    by_cases e : x ≤ 0
    · have : x = 0 := by omega
      subst this
      rw [show c + ltr (m + 1) 0 = c by unfold ltr; rw [if_pos (by first | decide | omega)]; omega]
      rw [f_M_voiceText_108, f_M_voiceText_108]
      rw [if_pos (show r64 0 by decide), if_pos (show r64 0 by decide), if_pos (zcmp_le.mpr (by first | decide | omega)), if_pos (zcmp_le.mpr (by first | decide | omega))]
    · have hp : (256 : Int) ^ (m + 1) = 256 ^ m * 256 := Int.pow_succ 256 m
      rw [f_M_voiceText_108]
      rw [if_pos (show r64 x by omega), if_neg (fun z => e (zcmp_le.mp z)), zlshr8 h0 h2, ih (by first | decide | omega) (by first | decide | omega) (by first | decide | omega) (by first | decide | omega)]
      rw [show c + 1 + ltr m (x / 256) = c + ltr (m + 1) x by
        rw [show ltr (m + 1) x = 1 + ltr m (x / 256) by rw [ltr]; rw [if_neg e]]
        omega]
theorem EV_K {K K' : zK} {Km : Nat} {N : Int} {B Bm : zB} (h : EV K Km N B Bm) (hK : Kle K K') : EV K' Km N B Bm := by
  obtain ⟨a, b, c, d, e, f, g⟩ := h
  exact ⟨a, b, c, Int.lt_of_lt_of_le d (hK.2 3), Int.lt_of_lt_of_le e (hK.2 10), by rw [hK.1]; exact f, g⟩
/-- how many places of a piece hold no part -/
def em (B : zB) (p : Int) : Int := (if B 6 p 0 0 < 0 then 1 else 0) + (if B 6 p 0 1 < 0 then 1 else 0) + (if B 6 p 0 2 < 0 then 1 else 0) + (if B 6 p 0 3 < 0 then 1 else 0)
theorem em_e {B B' : zB} {p : Int} (h : ∀ v, B' 6 p 0 v = B 6 p 0 v) : em B' p = em B p := by
  unfold em
  rw [h, h, h, h]
theorem em_1 {B B' : zB} {p V : Int} (hV : 0 ≤ V ∧ V < 4) (h : ∀ v, ¬ v = V → B' 6 p 0 v = B 6 p 0 v) (h0 : B 6 p 0 V < 0) (h1 : 0 ≤ B' 6 p 0 V) : em B' p + 1 = em B p := by
  have : V = 0 ∨ V = 1 ∨ V = 2 ∨ V = 3 := by omega
  unfold em
  rcases this with rfl | rfl | rfl | rfl
  · rw [h 1 (by decide), h 2 (by decide), h 3 (by decide), if_neg (by first | decide | omega), if_pos h0]; omega
  · rw [h 0 (by decide), h 2 (by decide), h 3 (by decide), if_neg (show ¬ B' 6 p 0 1 < 0 by omega), if_pos h0]; omega
  · rw [h 0 (by decide), h 1 (by decide), h 3 (by decide), if_neg (show ¬ B' 6 p 0 2 < 0 by omega), if_pos h0]; omega
  · rw [h 0 (by decide), h 1 (by decide), h 2 (by decide), if_neg (show ¬ B' 6 p 0 3 < 0 by omega), if_pos h0]; omega
def VF (K : zK) (p w : Int) (F : zF) (B : zB) (Fm : zF) (Bm : zB) (K' : zK) (F' : zF) (B' : zB) (Fm' : zF) (Bm' : zB) : Prop := Kle K K' ∧ (∀ c y k, y < K.2 c → ¬ (c = 10 ∧ y = 0) → ¬ (c = 3 ∧ y = 0 ∧ k ≠ 11) → ¬ (c = 6 ∧ y = p ∧ 1 ≤ k ∧ k ≤ 6) → ¬ (c = 4 ∧ ∃ v, 0 ≤ v ∧ v < 4 ∧ y = B 6 p 0 v) → F' c y k = F c y k) ∧ (∀ c y k x, y < K.2 c → ¬ (c = 3 ∧ y = 0) → ¬ (c = 6 ∧ y = p ∧ k = 0) → B' c y k x = B c y k x) ∧ (∀ v, 0 ≤ v → v < 4 → B' 6 p 0 v = B 6 p 0 v ∨ (B 6 p 0 v < 0 ∧ K.2 4 ≤ B' 6 p 0 v)) ∧ (∀ c i k, ¬ (c = 14 ∧ i = 0 ∧ 16 ≤ k ∧ k ≤ 27) → ¬ (c = 13 ∧ i = w ∧ 1 ≤ k ∧ k ≤ 6) → Fm' c i k = Fm c i k) ∧ (∀ c i k x, ¬ (c = 14 ∧ i = 0 ∧ 25 ≤ k ∧ k ≤ 34) → ¬ (c = 13 ∧ i = w ∧ 8 ≤ k ∧ k ≤ 11) → Bm' c i k x = Bm c i k x) ∧ (∀ q s, K.2 4 ≤ q → q < K'.2 4 → r32 (B' 4 q 12 s)) ∧ ((∀ c, ¬ (c = 1 ∨ c = 4) → K'.2 c = K.2 c) ∧ K'.2 1 = K.2 1 + 200 * (K'.2 4 - K.2 4) ∧ K'.2 4 + em B' p = K.2 4 + em B p) ∧ (F' 6 p 1 = F 6 p 1 ∨ (0 ≤ F' 6 p 1 ∧ F' 6 p 1 ≤ 4))
theorem VF_r {K : zK} {p w : Int} {F : zF} {B : zB} {Fm : zF} {Bm : zB} : VF K p w F B Fm Bm K F B Fm Bm := ⟨Kle_r, fun _ _ _ _ _ _ _ _ => rfl, fun _ _ _ _ _ _ _ => rfl, fun _ _ _ => Or.inl rfl, fun _ _ _ _ _ => rfl, fun _ _ _ _ _ _ => rfl, fun q s a b => (by first | decide | omega), ⟨fun _ _ => rfl, (by first | decide | omega), rfl⟩, Or.inl rfl⟩
theorem VF_t {K : zK} {p w : Int} {F : zF} {B : zB} {Fm : zF} {Bm : zB} {K' : zK} {F' : zF} {B' : zB} {Fm' : zF} {Bm' : zB} {K'' : zK} {F'' : zF} {B'' : zB} {Fm'' : zF} {Bm'' : zB} (h : VF K p w F B Fm Bm K' F' B' Fm' Bm') (h' : VF K' p w F' B' Fm' Bm' K'' F'' B'' Fm'' Bm'') : VF K p w F B Fm Bm K'' F'' B'' Fm'' Bm'' := by
  obtain ⟨a1, a2, a3, a4, a5, a6, a7, ⟨a8, a9, a10⟩, a11⟩ := h
  obtain ⟨b1, b2, b3, b4, b5, b6, b7, ⟨b8, b9, b10⟩, b11⟩ := h'
  refine ⟨Kle_t a1 b1, fun c y k h h1 h2 h3 h4 => ?_, fun c y k x h h1 h2 => ?_, fun v v0 v1 => ?_, fun c i k h h1 => ?_, fun c i k x h h1 => ?_, fun q s h0 h1 => ?_, ⟨fun c hc => by rw [b8 c hc, a8 c hc], (by first | decide | omega), (by first | decide | omega)⟩, (by first | decide | omega)⟩
  · rw [b2 c y k (Int.lt_of_lt_of_le h (a1.2 c)) h1 h2 h3 ?_]
    · exact a2 c y k h h1 h2 h3 h4
    · rintro ⟨z, v, v0, v1, e⟩
      subst z
      rcases a4 v v0 v1 with q | q
      · exact h4 ⟨rfl, v, v0, v1, e.trans q⟩
      · omega
  · rw [b3 c y k x (Int.lt_of_lt_of_le h (a1.2 c)) h1 h2]; exact a3 c y k x h h1 h2
  · have k4 := a1.2 4
    rcases b4 v v0 v1 with q | q
    · rw [q]; exact a4 v v0 v1
    · rcases a4 v v0 v1 with s | s
      · exact Or.inr ⟨(by first | decide | omega), (by first | decide | omega)⟩
      · omega
  · rw [b5 c i k h h1]; exact a5 c i k h h1
  · rw [b6 c i k x h h1]; exact a6 c i k x h h1
  · by_cases e : q < K'.2 4
    · rw [b3 4 q 12 s e (by first | decide | omega) (by first | decide | omega)]; exact a7 q s h0 e
    · exact b7 q s (by first | decide | omega) h1
/-- frames of heads and lets are frames of voices -/
theorem VF_h {K : zK} {p w : Int} {F : zF} {B : zB} {Fm : zF} {Bm : zB} {F' : zF} {B' : zB} {Fm' : zF} {Bm' : zB} (h1 : hF p F F') (h2 : hG w Fm Fm') (h3 : tB B B') (h4 : tM Bm Bm') : VF K p w F B Fm Bm K F' B' Fm' Bm' := ⟨Kle_r, fun c y k _ a b d _ => h1 c y k a b (fun z => d ⟨z.1, z.2.1, by have := z.2.2.1; omega, z.2.2.2⟩), fun c y k x _ a _ => h3 c y k x a, fun v _ _ => Or.inl (h3 6 p 0 v (fun z => absurd z.1 (by decide))), fun c i k a b => h2 c i k a (fun z => b ⟨z.1, z.2.1, by have := z.2.2.1; omega, z.2.2.2⟩), fun c i k x a _ => h4 c i k x a, fun q s a b => (by first | decide | omega), ⟨fun _ _ => rfl, (by first | decide | omega), by rw [em_e (fun v => h3 6 p 0 v (fun z => absurd z.1 (by decide)))]⟩, Or.inl (h1 6 p 1 (fun z => absurd z.1 (by decide)) (fun z => absurd z.1 (by decide)) (fun z => absurd z.2.2.1 (by decide)))⟩
theorem SVC_t {L hi hi' ph ph' e e' x a : Int} {B Bm B' Bm' : zB} (h : SVC L hi ph e x a B Bm) (aB : agB L 0 hi 0 ph (-1) B B') (aM : agM L 0 e Bm Bm') (h1 : hi ≤ hi') (h2 : ph ≤ ph') (h3 : e ≤ e') : SVC L hi' ph' e' x a B' Bm' := fun Bx By ab am => h Bx By (agB_t aB (agB_m ab (Int.le_refl _) h1 (Int.le_refl _) h2 (Or.inl rfl))) (agM_t aM (agM_m am (Int.le_refl _) h3))
end
end
section
section
/-! ===== a voice from its clef on, on both sides ===== -/
/-- what a voice from its clef on comes to -/
def V84 (K : zK) (Km : Nat) (N L V t p w x wd : Int) (F : zF) (B : zB) (Fm : zF) (Bm : zB) (r : Int) (F' : zF) (B' : zB) (K' : zK) (Fm' : zF) (Bm' : zB) : Prop := VF K p w F B Fm Bm K' F' B' Fm' Bm' ∧ GS K' B' ∧ ((r = 1 ∧ ∃ j' n s m, t + 4 ≤ j' ∧ EV K' Km N B' Bm' ∧ PS N j' F' B' Fm' Bm' ∧ (0 ≤ B' 6 p 0 V ∧ B' 6 p 0 V < K'.2 4) ∧ F' 4 (B' 6 p 0 V) 0 = wd ∧ F' 4 (B' 6 p 0 V) 1 = s ∧ F' 4 (B' 6 p 0 V) 2 = m ∧ F' 4 (B' 6 p 0 V) 3 = B 3 0 1 x ∧ F' 4 (B' 6 p 0 V) 4 = x ∧ F' 4 (B' 6 p 0 V) 6 = 0 ∧ Bm' 13 w 8 V = s ∧ Bm' 13 w 9 V = m ∧ (0 ≤ s ∧ s < 4) ∧ (0 ≤ m ∧ m ≤ 3) ∧ Bm' 14 0 29 V = t + 2 ∧ F' 6 p 1 = V + 1 ∧ Fm' 13 w 1 = V + 1 ∧ F' 3 0 18 = 0 ∧ (∀ v, 0 ≤ v → v < 4 → v ≠ V → B' 6 p 0 v = B 6 p 0 v) ∧ (∀ y k, 0 ≤ y → y < K.2 4 → y ≠ B' 6 p 0 V → F' 4 y k = F 4 y k) ∧ (∀ k, 2 ≤ k → k ≤ 6 → F' 6 p k = F 6 p k ∧ Fm' 13 w k = Fm 13 w k) ∧ F' 3 0 16 = F 3 0 16 ∧ F' 3 0 17 = F 3 0 17 ∧ (∀ k, k = 6 ∨ k = 22 ∨ k = 23 ∨ k = 24 ∨ k = 27 → Fm' 14 0 k = Fm 14 0 k) ∧ (∀ k y, ¬ (k ≤ 7 ∧ x + 1 ≤ y) → ¬ (8 ≤ k ∧ k ≤ 10 ∧ F 3 0 15 ≤ y) → ¬ (k = 4 ∧ y = x) → B' 3 0 k y = B 3 0 k y) ∧ (∀ v, v ≠ V → Bm' 13 w 8 v = Bm 13 w 8 v ∧ Bm' 13 w 9 v = Bm 13 w 9 v ∧ Bm' 14 0 29 v = Bm 14 0 29 v) ∧ (∀ k, k = 10 ∨ k = 11 → Bm' 13 w k = Bm 13 w k) ∧ (∀ k, k = 25 ∨ k = 26 ∨ k = 28 → Bm' 14 0 k = Bm 14 0 k) ∧ (∀ k y, 30 ≤ k → k ≤ 34 → y < t + 2 → Bm' 14 0 k y = Bm 14 0 k y) ∧ Bm' 14 0 30 (t + 2) = j' - 1 ∧ (x + 1 ≤ F' 3 0 14 ∧ F' 3 0 14 - (x + 1) ≤ j' - t - 4) ∧ F 3 0 15 ≤ F' 3 0 15 ∧ SLR L 7 n (B' 3 0 4 x) (t + 3) (j' - 1) (x + 1) (F' 3 0 14) (F 3 0 15) (F' 3 0 15) B' Bm') ∨ (r = 0 ∧ ERR F' Fm'))
theorem GS_new {K K' : zK} {p V q : Int} {B B' : zB} (h : GS K B) (hp : 0 ≤ p ∧ p < K.2 6) (hV : 0 ≤ V ∧ V < 4) (hK : ∀ c, K'.2 c = if c = 1 then K.2 1 + 200 else if c = 4 then K.2 4 + 1 else K.2 c) (hq : q = K.2 4) (h5 : ∀ x, 0 ≤ x → x < 200 → B' 4 q 5 x = K.2 1 + x) (hB : ∀ c y k x, y < K.2 c → ¬ (c = 6 ∧ y = p ∧ k = 0 ∧ x = V) → B' c y k x = B c y k x) (hV' : B' 6 p 0 V = q) : GS K' B' := by
  obtain ⟨a, b, c, d, e⟩ := h
  have k1 : K'.2 1 = K.2 1 + 200 := by rw [hK 1, if_pos rfl]
  have k4 : K'.2 4 = K.2 4 + 1 := by rw [hK 4, if_neg (by decide), if_pos rfl]
  have k6 : K'.2 6 = K.2 6 := by rw [hK 6, if_neg (by decide), if_neg (by decide)]
  have a1 := a 1 (by decide)
  have a4 := a 4 (by decide)
  have a6 := a 6 (by decide)
  have g6 : ∀ p' v', p' < K.2 6 → ¬ (p' = p ∧ v' = V) → B' 6 p' 0 v' = B 6 p' 0 v' := fun p' v' h1 h2 => hB 6 p' 0 v' h1 (fun z => h2 ⟨z.2.1, z.2.2.2⟩)
  have g4 : ∀ q' x', q' < K.2 4 → B' 4 q' 5 x' = B 4 q' 5 x' := fun q' x' h1 => hB 4 q' 5 x' h1 (fun z => absurd z.1 (by decide))
  refine ⟨fun c hc => ?_, fun p' v' h1 h2 h3 h4 => ?_, fun p1 v1 p2 v2 h1 h2 h3 h4 h7 h8 h9 h10 h11 h12 => ?_, fun q' x' h1 h2 h3 h4 => ?_, fun q1 x1 q2 x2 h1 h2 h3 h4 h7 h8 h9 h10 h11 => ?_⟩
  · rcases hc with rfl | rfl | rfl <;> omega
  · by_cases z : p' = p ∧ v' = V
    · rw [z.1, z.2, hV']; omega
    · rw [g6 p' v' (by first | decide | omega) z]
      have := b p' v' h1 (by first | decide | omega) h3 h4
      omega
  · by_cases z1 : p1 = p ∧ v1 = V
    · by_cases z2 : p2 = p ∧ v2 = V
      · exact ⟨z1.1.trans z2.1.symm, z1.2.trans z2.2.symm⟩
      · rw [z1.1, z1.2, hV', g6 p2 v2 (by first | decide | omega) z2] at h12
        have := b p2 v2 h7 (by first | decide | omega) h9 h10
        omega
    · by_cases z2 : p2 = p ∧ v2 = V
      · rw [z2.1, z2.2, hV', g6 p1 v1 (by first | decide | omega) z1] at h12
        have := b p1 v1 h1 (by first | decide | omega) h3 h4
        omega
      · rw [g6 p1 v1 (by first | decide | omega) z1] at h11 h12
        rw [g6 p2 v2 (by first | decide | omega) z2] at h12
        exact c p1 v1 p2 v2 h1 (by first | decide | omega) h3 h4 h7 (by first | decide | omega) h9 h10 h11 h12
  · by_cases z : q' = q
    · rw [z, h5 x' h3 h4]; omega
    · rw [g4 q' x' (by first | decide | omega)]
      have := d q' x' h1 (by first | decide | omega) h3 h4
      omega
  · by_cases z1 : q1 = q
    · by_cases z2 : q2 = q
      · rw [z1, z2, h5 x1 h3 h4, h5 x2 h9 h10] at h11
        exact ⟨z1.trans z2.symm, (by first | decide | omega)⟩
      · rw [z1, h5 x1 h3 h4, g4 q2 x2 (by first | decide | omega)] at h11
        have := d q2 x2 h7 (by first | decide | omega) h9 h10
        omega
    · by_cases z2 : q2 = q
      · rw [z2, h5 x2 h9 h10, g4 q1 x1 (by first | decide | omega)] at h11
        have := d q1 x1 h1 (by first | decide | omega) h3 h4
        omega
      · rw [g4 q1 x1 (by first | decide | omega), g4 q2 x2 (by first | decide | omega)] at h11
        exact e q1 x1 q2 x2 h1 (by first | decide | omega) h3 h4 h7 (by first | decide | omega) h9 h10 h11
theorem P_v84 {K : zK} {Km : Nat} {N L V t p w x wd s : Int} {F : zF} {B : zB} {Fm : zF} {Bm : zB} (hE : EV K Km N B Bm) (hS : PS N t F B Fm Bm) (hP : HP K p w F Fm) (hLT : LT L F B Fm Bm) (hx : 0 ≤ x ∧ x + 1 = F 3 0 14) (hit : F 3 0 14 ≤ t) (hd : F 3 0 18 = 0) (h4x : B 3 0 4 x = -1) (hGS : GS K B) (hV1 : F 6 p 1 = V) (hV2 : Fm 13 w 1 = V) (hV : 0 ≤ V ∧ V < 4) (hs : s = -1 ∨ (0 ≤ s ∧ s < 4 ∧ ¬ Bm 14 0 7 t = 0)) : zPm (f_Parser_takeVoice_84 K wd x 0 p s F B) (f_M_voiceText_187 Km V w V s Fm Bm) (fun r F' B' K' _ Fm' Bm' => V84 K Km N L V t p w x wd F B Fm Bm r F' B' K' Fm' Bm') := by
  have hX := PS_CX hE hS
  have hM := PS_MX hE hS
  have hg := hS.2.2.2.1
  have k3 := hE.2.2.2.1
  have k10 := hE.2.2.2.2.1
  have k1 := hE.2.2.2.2.2.1
  have km := hE.2.2.2.2.2.2
  have jj := hS.2.1.1
  have nn := hE.1.2.1
  obtain ⟨p0, w0, h6, hPr⟩ := hP
  have e8 : (zup4 Bm 13 w 8 V s) 13 w 8 V = s := by rw [zup4_v, if_pos ⟨rfl, rfl, rfl, rfl⟩]
  have rows8 : ∀ k, (zup4 Bm 13 w 8 V s) 14 0 k = Bm 14 0 k := fun k => by funext y; rw [zup4_v, if_neg (fun z => absurd z.1 (by decide))]
  -- the reference behind its clef in a bad state
  have bad217 : ∀ {Fx : zF} {Bx : zB}, bad Fx → Fx 14 0 6 = w → f_M_voiceText_217 Km V Fx Bx = some (0, zup3 (zup3 (zup3 Fx 14 0 20 4) 14 0 21 0) 13 w 1 (Fx 13 w 1 + 1), zup4 (zup4 Bx 13 w 9 V 0) 14 0 29 V (Fx 14 0 16)) := by
    intro Fx Bx hb h6x
    unfold f_M_voiceText_217
    rw [h6x, if_pos w0, L_numberB hb]
    simp only [zb_s]
    rw [if_pos hV, top_bad km (bad_cg hb (by simp [zup3_v]))]
    simp only [zb_s]
    rw [show (zup3 (zup3 Fx 14 0 20 4) 14 0 21 0) 14 0 6 = w by simp [zup3_v]; exact h6x, if_pos w0, show (zup3 (zup3 Fx 14 0 20 4) 14 0 21 0) 13 w 1 = Fx 13 w 1 by simp [zup3_v]]
  have VFe : ∀ {Fx Fmx : zF} {Bmx : zB}, hF p F Fx → (∀ c i k, ¬ (c = 14 ∧ i = 0 ∧ 16 ≤ k ∧ k ≤ 27) → ¬ (c = 13 ∧ i = w ∧ 1 ≤ k ∧ k ≤ 6) → Fmx c i k = Fm c i k) → (∀ c i k y, ¬ (c = 14 ∧ i = 0 ∧ 25 ≤ k ∧ k ≤ 34) → ¬ (c = 13 ∧ i = w ∧ 8 ≤ k ∧ k ≤ 11) → Bmx c i k y = Bm c i k y) → VF K p w F B Fm Bm K Fx B Fmx Bmx := fun a b c => ⟨Kle_r, fun c y k _ h1 h2 h3 _ => a c y k h1 h2 (fun z => h3 ⟨z.1, z.2.1, by have := z.2.2.1; omega, z.2.2.2⟩), fun _ _ _ _ _ _ _ => rfl, fun _ _ _ => Or.inl rfl, b, c, fun q s a b => (by first | decide | omega), ⟨fun _ _ => rfl, (by first | decide | omega), rfl⟩, Or.inl (a 6 p 1 (fun z => absurd z.1 (by decide)) (fun z => absurd z.1 (by decide)) (fun z => absurd z.2.2.1 (by decide)))⟩
  unfold f_Parser_takeVoice_84 f_M_voiceText_187
  rw [if_pos w0, if_pos hV, h6, if_pos w0, if_pos hV, e8]
  rcases hs with rfl | ⟨s0, s1, s2⟩
  · have er := PS_err2 hE hS
    have hM' : MX Fm (zup4 Bm 13 w 8 V (-1)) t := by
      unfold MX at *
      rw [rows8, rows8, rows8]; exact hM
    have e1 : errM Fm (zup4 Bm 13 w 8 V (-1)) (wr (zup4 Bm 13 w 8 V (-1)) t) = errM Fm Bm (wr Bm t) := by
      unfold errM wr
      rw [rows8, rows8]
    rw [if_pos (show r32 (-1) by decide), if_pos rfl, if_pos ⟨Int.le_refl _, k3⟩, C_refuse hX, if_pos (show r32 (-1) by decide), if_neg (show ¬ (0 : Int) ≤ -1 by decide), L_wrong hg hM', e1]
    simp only [zb_s, zbN_s]
    rw [if_pos (by decide), bad217 er.2 (by unfold errM; simp [zup3_v]; exact h6)]
    refine zPm_s ⟨VFe (hF_e hF_r) (fun c i k a b => ?_) (fun c i k y a b => ?_), hGS, Or.inr ⟨rfl, ERR_cg er rfl (by simp [zup3_v]) (by simp [zup3_v])⟩⟩
    · rw [zup3_v, if_neg (fun z => b ⟨z.1, z.2.1, by have := z.2.2; omega, by have := z.2.2; omega⟩)]
      exact fG_u (fG_u (fG_e fG_r) (by decide) (by decide)) (by decide) (by decide) c i k (fun z => a ⟨z.1, z.2.1, z.2.2.1, by have := z.2.2.2; omega⟩)
    · rw [zup4_v, if_neg (fun z => a ⟨z.1, z.2.1, by have := z.2.2.1; omega, by have := z.2.2.1; omega⟩), zup4_v, if_neg (fun z => b ⟨z.1, z.2.1, by have := z.2.2.1; omega, by have := z.2.2.1; omega⟩), zup4_v, if_neg (fun z => b ⟨z.1, z.2.1, by have := z.2.2.1; omega, by have := z.2.2.1; omega⟩)]
  · have hE8 : EV K Km N B (zup4 Bm 13 w 8 V s) := EV_B hE (fun _ => rfl) (fun k _ => rows8 k)
    have hS1 := PS_B (B' := B) (Bm' := zup4 Bm 13 w 8 V s) (PS_step hE hS s2) (fun _ => rfl) (fun k _ => rows8 k)
    have e61 : (zup3 Fm 14 0 16 (Fm 14 0 16 + 1)) 14 0 6 = w := by simp [zup3_v]; exact h6
    rw [if_pos (show r32 s by omega), if_neg (show ¬ s = -1 by omega), if_pos ⟨Int.le_refl _, k3⟩, hS.1, if_pos ⟨Int.le_refl _, k10⟩, C_adv hX, if_pos (show r32 s by omega), if_pos s0]
    simp only [zbN_s]
    unfold f_M_voiceText_217
    rw [e61, if_pos w0, hM.1]
    rcases P_num hE8 hS1 (lo := 0) (hi := 3) (by decide) (by decide) with ⟨n1, n2, n3, c1, m1, hS2⟩ | ⟨se, s', ve, c1, m1, er⟩
    · rw [rows8] at n2 n3 c1 m1 hS2
      rw [c1, m1]
      simp only [zb_s, zbN_s]
      rw [if_pos (show r32 1 by decide), if_neg (show ¬ (1 : Int) = 0 by decide), if_pos p0, if_pos hV]
      generalize hF3 : advF (zup3 (advF F B) 3 0 19 (Bm 14 0 9 (t + 1))) B = F3 at hS2 ⊢
      have gF3 : fF F F3 := by rw [← hF3]; exact fF_a (fF_u (fF_a fF_r) (by decide))
      have a19 : F3 3 0 19 = Bm 14 0 9 (t + 1) := by rw [← hF3, advF_o (by decide)]; simp [zup3_v]
      have a14 : F3 3 0 14 = F 3 0 14 := by rw [← hF3]; simp [zup3_v, advF_o]
      have a15 : F3 3 0 15 = F 3 0 15 := by rw [← hF3]; simp [zup3_v, advF_o]
      have a18 : F3 3 0 18 = 0 := by rw [← hF3]; simp [zup3_v, advF_o]; exact hd
      have v3 : F3 6 p 1 = V := by rw [gF3 6 p 1 (fun z => absurd z.1 (by decide)) (fun z => absurd z.1 (by decide))]; exact hV1
      obtain ⟨q, F4, B4, K4, b1, b2, b3, b4, b5, b6, b7, b8, b9, b10, b11, b12⟩ := C_newPart (F := F3) (B := B) k1 (hGS.1 1 (by decide)).1 (hGS.1 4 (by decide)).1 p0 v3 hV (hGS.2.1 p V p0.1 p0.2 hV.1 hV.2)
      have x3 : 0 ≤ x ∧ x < 3000 := by omega
      have k43 : 0 < K4.2 3 := Int.lt_of_lt_of_le k3 (b2.2 3)
      have c3 : ∀ k, F4 3 0 k = F3 3 0 k := fun k => b4 3 0 k k3 (fun z => absurd z.1 (by decide)) (fun z => absurd z.1 (by decide))
      have c10 : ∀ k, F4 10 0 k = F3 10 0 k := fun k => b4 10 0 k k10 (fun z => absurd z.1 (by decide)) (fun z => absurd z.1 (by decide))
      have r3 : ∀ k y, B4 3 0 k y = B 3 0 k y := fun k y => b5 3 0 k y k3 (fun z => absurd z.1 (by decide))
      have r10 : ∀ k, B4 10 0 k = B 10 0 k := fun k => by funext y; exact b5 10 0 k y k10 (fun z => absurd z.1 (by decide))
      rw [b1]
      simp only [zbM_s]
      unfold f_Parser_takeVoice_121
      rw [if_pos ⟨b7, b8⟩, if_pos ⟨Int.le_refl _, k43⟩, if_pos x3, c3, a19, r3]
      generalize hF5 : zup3 (zup3 (zup3 (zup3 (zup3 (zup3 F4 4 q 0 wd) 4 q 1 s) 4 q 2 (Bm 14 0 9 (t + 1))) 4 q 3 (B 3 0 1 x)) 4 q 4 x) 3 0 20 32 = F5
      have f5 : ∀ c y k, ¬ (c = 4 ∧ y = q) → ¬ (c = 3 ∧ y = 0 ∧ k = 20) → F5 c y k = F4 c y k := fun c y k h1 h2 => by
        rw [← hF5, zup3_v, if_neg (fun z => h2 ⟨z.1, z.2.1, z.2.2⟩), zup3_v, if_neg (fun z => h1 ⟨z.1, z.2.1⟩), zup3_v, if_neg (fun z => h1 ⟨z.1, z.2.1⟩), zup3_v, if_neg (fun z => h1 ⟨z.1, z.2.1⟩), zup3_v, if_neg (fun z => h1 ⟨z.1, z.2.1⟩), zup3_v, if_neg (fun z => h1 ⟨z.1, z.2.1⟩)]
      have f53 : ∀ k, k ≠ 20 → F5 3 0 k = F3 3 0 k := fun k hk => by rw [f5 3 0 k (fun z => absurd z.1 (by decide)) (fun z => hk z.2.2), c3]
      have f520 : F5 3 0 20 = 32 := by rw [← hF5, zup3_v, if_pos ⟨rfl, rfl, rfl⟩]
      have f510 : ∀ k, F5 10 0 k = F3 10 0 k := fun k => by rw [f5 10 0 k (fun z => absurd z.1 (by decide)) (fun z => absurd z.1 (by decide)), c10]
      have e29 : (zup3 (zup3 Fm 14 0 16 (t + 1)) 14 0 16 (t + 1 + 1)) 14 0 16 = t + 1 + 1 := by simp [zup3_v]
      rw [e29]
      generalize hBm5 : zup4 (zup4 (zup4 Bm 13 w 8 V s) 13 w 9 V (Bm 14 0 9 (t + 1))) 14 0 29 V (t + 1 + 1) = Bm5
      have m5 : ∀ k, k ≠ 29 → Bm5 14 0 k = Bm 14 0 k := fun k hk => by
        rw [← hBm5]
        funext y
        rw [zup4_v, if_neg (fun z => hk z.2.2.1), zup4_v, if_neg (fun z => absurd z.1 (by decide)), zup4_v, if_neg (fun z => absurd z.1 (by decide))]
      generalize hFm5 : zup3 (zup3 (zup3 (zup3 Fm 14 0 16 (t + 1)) 14 0 16 (t + 1 + 1)) 14 0 20 4) 14 0 21 0 = Fm5
      have gm5 : fG Fm Fm5 := by rw [← hFm5]; exact fG_u (fG_u (fG_u (fG_u fG_r (by decide) (by decide)) (by decide) (by decide)) (by decide) (by decide)) (by decide) (by decide)
      have hS5 : PS N (t + 1 + 1) F5 B4 Fm5 Bm5 := by
        have h := PS_len (v := 32) (n := 4) (p := 0) hS2 (by decide) (Or.inr (Or.inr (Or.inl rfl))) (by decide)
        have h2 := PS_cg (F' := F5) (Fm' := Fm5) h (fun k => by rw [f510 k]; simp [zup3_v]) (fun k hk => by
          by_cases e : k = 20
          · rw [e, f520]; simp [zup3_v]
          · rw [f53 k e, zup3_v, if_neg (fun z => e z.2.2)]) (fun k _ => by rw [← hFm5])
        exact PS_B h2 r10 (fun k hk => by rw [m5 k (by first | decide | omega), rows8])
      have hE5 : EV K4 Km N B4 Bm5 := EV_K (EV_B hE r10 (fun k hk => m5 k (by first | decide | omega))) b2
      have hLT5 : LT L F5 B4 Fm5 Bm5 := by
        obtain ⟨l1, l2, l3, l4⟩ := hLT
        refine ⟨?_, ?_, l3, fun y y0 y1 => ?_⟩
        · rw [f53 16 (by decide), gF3 3 0 16 (by decide) (by decide)]; exact l1
        · rw [gm5 14 0 27 (by decide)]; exact l2
        · rw [r3, r3, m5 25 (by decide)]; exact l4 y y0 y1
      refine zPm_n (top_blk (K := K4) km (x := x) (j := t + 1 + 1) hx.1 (by rw [f53 14 (by decide)]; omega) (by rw [f53 14 (by decide)]; omega) hE5 hS5 (by rw [f53 18 (by decide), a18]; decide) (by rw [f520, ← hFm5]; simp [zup3_v]; exact ⟨by decide, Or.inr (Or.inr (Or.inl rfl))⟩) hLT5 (by rw [r3]; exact h4x)) (fun r F' B' r' Fm' Bm' hh => ?_)
      have hr := BPO_r hh
      obtain ⟨g1, g2, g3, g4, g5⟩ := hh
      have d14 : F5 3 0 14 = x + 1 := by rw [f53 14 (by decide), a14]; omega
      have d15 : F5 3 0 15 = F 3 0 15 := by rw [f53 15 (by decide), a15]
      rw [d14, d15] at g3
      have h6' : Fm' 14 0 6 = w := by rw [g2 14 0 6 (by decide), gm5 14 0 6 (by decide)]; exact h6
      have h1' : Fm' 13 w 1 = V := by rw [g2 13 w 1 (fun z => absurd z.1 (by decide)), gm5 13 w 1 (fun z => absurd z.1 (by decide))]; exact hV2
      rw [if_pos hr, h6', if_pos w0, h1']
      have hB6 : ∀ y v, B' 6 y 0 v = B4 6 y 0 v := fun y v => g3 6 y 0 v (fun z => absurd z.1 (by decide)) (fun z => absurd z.1 (by decide)) (fun z => absurd z.1 (by decide))
      have hB45 : ∀ y v, B' 4 y 5 v = B4 4 y 5 v := fun y v => g3 4 y 5 v (fun z => absurd z.1 (by decide)) (fun z => absurd z.1 (by decide)) (fun z => absurd z.1 (by decide))
      have hqV : B' 6 p 0 V = q := by rw [hB6]; exact b6
      have hGS4 : GS K4 B4 := by
        rcases b3 with ⟨_, _, rfl, rfl⟩ | ⟨z1, z2, z3, z4, _⟩
        · exact hGS
        · exact GS_new hGS p0 hV z3 z2 z4 b5 b6
      have hGS' : GS K4 B' := GS_B hGS4 (fun y v _ _ => hB6 y v) (fun y v _ _ => hB45 y v)
      have qown : ∀ y, y < K.2 4 → y = q → ∃ v, 0 ≤ v ∧ v < 4 ∧ y = B 6 p 0 v := fun y h1 h2 => by
        rcases b3 with ⟨z1, _, _, _⟩ | ⟨z1, z2, _⟩
        · exact ⟨V, hV.1, hV.2, h2.trans z1⟩
        · omega
      have FF : ∀ c y k, y < K.2 c → ¬ (c = 10 ∧ y = 0) → ¬ (c = 3 ∧ y = 0 ∧ (k = 14 ∨ k = 15 ∨ 18 ≤ k)) → ¬ (c = 6 ∧ y = p ∧ k = 1) → ¬ (c = 4 ∧ y = q) → F' c y k = F c y k := fun c y k h0 h1 h2 h3 h4 => by
        rw [g1 c y k h1 h2, f5 c y k h4 (fun z => h2 ⟨z.1, z.2.1, by have := z.2.2; omega⟩), b4 c y k h0 h4 h3, gF3 c y k h1 h2]
      have BB : ∀ c y k z, y < K.2 c → ¬ (c = 3 ∧ y = 0) → ¬ (c = 6 ∧ y = p ∧ k = 0 ∧ z = V) → B' c y k z = B c y k z := fun c y k z h0 h1 h2 => by
        rw [g3 c y k z (fun q => h1 ⟨q.1, q.2.1⟩) (fun q => h1 ⟨q.1, q.2.1⟩) (fun q => h1 ⟨q.1, q.2.1⟩), b5 c y k z h0 h2]
      have MM : ∀ c i k, ¬ (c = 14 ∧ i = 0 ∧ 16 ≤ k ∧ k ≤ 21) → ¬ (c = 13 ∧ i = w ∧ k = 1) → (zup3 Fm' 13 w 1 (V + 1)) c i k = Fm c i k := fun c i k h1 h2 => by
        rw [zup3_v, if_neg (fun z => h2 ⟨z.1, z.2.1, z.2.2⟩), g2 c i k h1, gm5 c i k h1]
      have m5' : ∀ c i k y, ¬ (c = 14 ∧ i = 0 ∧ k = 29 ∧ y = V) → ¬ (c = 13 ∧ i = w ∧ (k = 8 ∨ k = 9) ∧ y = V) → Bm5 c i k y = Bm c i k y := fun c i k y h1 h2 => by
        rw [← hBm5, zup4_v, if_neg (fun z => h1 z), zup4_v, if_neg (fun z => h2 ⟨z.1, z.2.1, Or.inr z.2.2.1, z.2.2.2⟩), zup4_v, if_neg (fun z => h2 ⟨z.1, z.2.1, Or.inl z.2.2.1, z.2.2.2⟩)]
      have vf : VF K p w F B Fm Bm K4 F' B' (zup3 Fm' 13 w 1 (V + 1)) Bm' := by
        refine ⟨b2, fun c y k h0 h1 h2 h3 h4 => ?_, fun c y k z h0 h1 h2 => BB c y k z h0 h1 (fun q => h2 ⟨q.1, q.2.1, q.2.2.1⟩), fun v v0 v1 => ?_, fun c i k h1 h2 => ?_, fun c i k y h1 h2 => ?_, fun qq s h1 h2 => ?_, ?_, Or.inr ?_⟩
        · refine FF c y k h0 h1 (fun z => h2 ⟨z.1, z.2.1, by have := z.2.2; omega⟩) (fun z => h3 ⟨z.1, z.2.1, by have := z.2.2; omega, by have := z.2.2; omega⟩) (fun z => ?_)
          have z1 := z.1
          subst z1
          exact h4 ⟨rfl, qown y h0 z.2⟩
        · by_cases e : v = V
          · rw [e, hqV]
            rcases b3 with ⟨z1, _, _, _⟩ | ⟨z1, z2, _⟩
            · exact Or.inl z1
            · exact Or.inr ⟨z1, (by first | decide | omega)⟩
          · exact Or.inl (BB 6 p 0 v p0.2 (fun z => absurd z.1 (by decide)) (fun z => e z.2.2.2))
        · exact MM c i k (fun z => h1 ⟨z.1, z.2.1, z.2.2.1, by have := z.2.2.2; omega⟩) (fun z => h2 ⟨z.1, z.2.1, by have := z.2.2; omega, by have := z.2.2; omega⟩)
        · rw [g4 c i k y (fun z => h1 ⟨z.1, z.2.1, by have := z.2.2.1; omega, by have := z.2.2.2.1; omega⟩)]
          exact m5' c i k y (fun z => h1 ⟨z.1, z.2.1, by have := z.2.2.1; omega, by have := z.2.2.1; omega⟩) (fun z => h2 ⟨z.1, z.2.1, by have := z.2.2.1; omega, by have := z.2.2.1; omega⟩)
        · rcases b3 with ⟨_, _, rfl, rfl⟩ | ⟨z1, z2, z3, z4, z5, _⟩
          · omega
          · have k4 : K4.2 4 = K.2 4 + 1 := by rw [z3 4, if_neg (by decide), if_pos rfl]
            rw [g3 4 qq 12 s (fun z => absurd z.1 (by decide)) (fun z => absurd z.1 (by decide)) (fun z => absurd z.1 (by decide)), show qq = q by omega, z5 12 s (by decide)]
            decide
        · rcases b3 with ⟨_, _, rfl, rfl⟩ | ⟨z1, z2, z3, z4, z5, _⟩
          · exact ⟨fun _ _ => rfl, (by first | decide | omega), by rw [em_e (fun v => hB6 p v)]⟩
          · have k4 : K4.2 4 = K.2 4 + 1 := by rw [z3 4, if_neg (by decide), if_pos rfl]
            have k1' : K4.2 1 = K.2 1 + 200 := by rw [z3 1, if_pos rfl]
            refine ⟨fun c hc => by rw [z3 c, if_neg (fun e => hc (Or.inl e)), if_neg (fun e => hc (Or.inr e))], (by first | decide | omega), ?_⟩
            have := em_1 (B := B) (B' := B') (p := p) hV (fun v hv => BB 6 p 0 v p0.2 (fun z => absurd z.1 (by decide)) (fun z => hv z.2.2.2)) z1 (by rw [hqV]; exact b7)
            omega
        · rw [g1 6 p 1 (fun z => absurd z.1 (by decide)) (fun z => absurd z.1 (by decide)), f5 6 p 1 (fun z => absurd z.1 (by decide)) (fun z => absurd z.1 (by decide)), b9]
          omega
      refine zPm_s ⟨vf, hGS', ?_⟩
      rcases g5 with ⟨rfl, j', n, v1, v2, v3', v4, v5, v6, v7, v8⟩ | ⟨rfl, er⟩
      · left
        rw [d14] at v5 v7
        rw [d15] at v6 v7
        have q4 : ∀ k, F' 4 q k = F5 4 q k := fun k => g1 4 q k (fun z => absurd z.1 (by decide)) (fun z => absurd z.1 (by decide))
        have mk : ∀ k y, k ≤ 29 → Bm' 14 0 k y = Bm5 14 0 k y := fun k y hk => by rw [fH_k g4 k hk]
        have m13 : ∀ k y, Bm' 13 w k y = Bm5 13 w k y := fun k y => g4 13 w k y (fun z => absurd z.1 (by decide))
        refine ⟨rfl, j', n, s, Bm 14 0 9 (t + 1), (by first | decide | omega), EV_B hE5 (fK_10 g3) (fun k hk => fH_k g4 k (by first | decide | omega)), PS_cg v2 (fun _ => rfl) (fun _ _ => rfl) (fun k _ => by simp [zup3_v]), by rw [hqV]; exact ⟨b7, b8⟩, ?_, ?_, ?_, ?_, ?_, ?_, ?_, ?_, ⟨s0, s1⟩, (by first | decide | omega), ?_, ?_, ?_, ?_, fun v v0 v1 e => BB 6 p 0 v p0.2 (fun z => absurd z.1 (by decide)) (fun z => e z.2.2.2), fun y k y0 y1 e => FF 4 y k y1 (fun z => absurd z.1 (by decide)) (fun z => absurd z.1 (by decide)) (fun z => absurd z.1 (by decide)) (fun z => e (by rw [hqV]; exact z.2)), fun k k0 k1 => ⟨FF 6 p k p0.2 (fun z => absurd z.1 (by decide)) (fun z => absurd z.1 (by decide)) (fun z => by have := z.2.2; omega) (fun z => absurd z.1 (by decide)), MM 13 w k (fun z => absurd z.1 (by decide)) (fun z => by have := z.2.2; omega)⟩, FF 3 0 16 k3 (by decide) (by decide) (fun z => absurd z.1 (by decide)) (fun z => absurd z.1 (by decide)), FF 3 0 17 k3 (by decide) (by decide) (fun z => absurd z.1 (by decide)) (fun z => absurd z.1 (by decide)), fun k hk => MM 14 0 k (fun z => by have := z.2.2.2; omega) (fun z => absurd z.1 (by decide)), fun k y h1 h2 h3 => ?_, fun v e => ⟨?_, ?_, ?_⟩, fun k hk => ?_, fun k hk => ?_, fun k y h1 h2 h3 => ?_, ?_, (by first | decide | omega), (by first | decide | omega), ?_⟩
        · rw [hqV, q4, ← hF5]; simp [zup3_v]
        · rw [hqV, q4, ← hF5]; simp [zup3_v]
        · rw [hqV, q4, ← hF5]; simp [zup3_v]
        · rw [hqV, q4, ← hF5]; simp [zup3_v]
        · rw [hqV, q4, ← hF5]; simp [zup3_v]
        · rw [hqV, q4, ← hF5]; simp [zup3_v]; exact b10
        · rw [m13, ← hBm5]; simp [zup4_v]
        · rw [m13, ← hBm5]; simp [zup4_v]
        · rw [mk 29 V (by decide), ← hBm5]; simp [zup4_v]; omega
        · rw [g1 6 p 1 (fun z => absurd z.1 (by decide)) (fun z => absurd z.1 (by decide)), f5 6 p 1 (fun z => absurd z.1 (by decide)) (fun z => absurd z.1 (by decide))]; exact b9
        · simp [zup3_v]
        · rw [v4, f53 18 (by decide)]; exact a18
        · rw [g3 3 0 k y (fun z => h1 ⟨z.2.2.1, z.2.2.2⟩) (fun z => h2 ⟨z.2.2.1, z.2.2.2.1, z.2.2.2.2⟩) (fun z => h3 ⟨z.2.2.1, z.2.2.2⟩)]; exact r3 k y
        · rw [m13]; exact m5' 13 w 8 v (fun z => absurd z.1 (by decide)) (fun z => e z.2.2.2)
        · rw [m13]; exact m5' 13 w 9 v (fun z => absurd z.1 (by decide)) (fun z => e z.2.2.2)
        · rw [mk 29 v (by decide)]; exact m5' 14 0 29 v (fun z => e z.2.2.2) (fun z => absurd z.1 (by decide))
        · funext y
          rw [m13]; exact m5' 13 w k y (fun z => absurd z.1 (by decide)) (fun z => by have := z.2.2.1; omega)
        · funext y
          rw [mk k y (by first | decide | omega)]; exact m5' 14 0 k y (fun z => by have := z.2.2.1; omega) (fun z => absurd z.1 (by decide))
        · rw [g4 14 0 k y (fun z => by have := z.2.2.2.2; omega)]; exact m5' 14 0 k y (fun z => by have := z.2.2.1; omega) (fun z => absurd z.1 (by decide))
        · rw [show t + 2 = t + 1 + 1 by omega]; exact v3'
        · rw [show t + 3 = t + 1 + 1 + 1 by omega]; exact v7
      · exact Or.inr ⟨rfl, ERR_cg er rfl (by simp [zup3_v]) (by simp [zup3_v])⟩
    · rw [c1, m1]
      simp only [zb_s, zbN_s]
      rw [if_pos (show r32 0 by decide), if_pos trivial, if_pos hV]
      have e62 : (errM (zup3 Fm 14 0 16 (t + 1)) (zup4 Bm 13 w 8 V s) s') 14 0 6 = w := by unfold errM; simp [zup3_v]; exact h6
      rw [top_bad km (bad_cg er.2 (by simp [zup3_v]))]
      simp only [zb_s]
      rw [show (zup3 (zup3 (errM (zup3 Fm 14 0 16 (t + 1)) (zup4 Bm 13 w 8 V s) s') 14 0 20 4) 14 0 21 0) 14 0 6 = w by simp [zup3_v]; exact e62, if_pos w0]
      refine zPm_s ⟨VFe (hF_e (hF_a hF_r)) (fun c i k a b => ?_) (fun c i k y a b => ?_), hGS, Or.inr ⟨rfl, ERR_cg er rfl (by simp [zup3_v]) (by simp [zup3_v])⟩⟩
      · rw [zup3_v, if_neg (fun z => b ⟨z.1, z.2.1, by have := z.2.2; omega, by have := z.2.2; omega⟩)]
        exact fG_u (fG_u (fG_e (fG_u fG_r (by decide) (by decide))) (by decide) (by decide)) (by decide) (by decide) c i k (fun z => a ⟨z.1, z.2.1, z.2.2.1, by have := z.2.2.2; omega⟩)
      · rw [zup4_v, if_neg (fun z => a ⟨z.1, z.2.1, by have := z.2.2.1; omega, by have := z.2.2.1; omega⟩), zup4_v, if_neg (fun z => b ⟨z.1, z.2.1, by have := z.2.2.1; omega, by have := z.2.2.1; omega⟩), zup4_v, if_neg (fun z => b ⟨z.1, z.2.1, by have := z.2.2.1; omega, by have := z.2.2.1; omega⟩)]
end
end
section
section
/-! ===== a whole voice, on both sides ===== -/
def VPO (K : zK) (Km : Nat) (N L V j p w : Int) (F : zF) (B : zB) (Fm : zF) (Bm : zB) (r : Int) (F' : zF) (B' : zB) (K' : zK) (Fm' : zF) (Bm' : zB) : Prop := VF K p w F B Fm Bm K' F' B' Fm' Bm' ∧ GS K' B' ∧ ((r = 1 ∧ ∃ j', j < j' ∧ VI K' Km N L (V + 1) j' p w F' B' Fm' Bm') ∨ (r = 0 ∧ ERR F' Fm'))
theorem P_voice {K : zK} {Km : Nat} {N L V j p w : Int} {F : zF} {B : zB} {Fm : zF} {Bm : zB} (hI : VI K Km N L V j p w F B Fm Bm) (wd : wdAt Bm j 508675318629) (hV4 : V < 4) : zPm (f_Parser_takeVoice K 0 p F B) (f_M_voiceText Km Fm Bm) (fun r F' B' K' _ Fm' Bm' => VPO K Km N L V j p w F B Fm Bm r F' B' K' Fm' Bm') := by
  obtain ⟨⟨hE, hS, hP, hLT, hit, hi0, hdep, hSL⟩, hGS, hV1, hV2, hV3, hVv⟩ := hI
  have hX := PS_CX hE hS
  have hM := PS_MX hE hS
  have k3 := hE.2.2.2.1
  have k10 := hE.2.2.2.2.1
  have k1 := hE.2.2.2.2.2.1
  have km := hE.2.2.2.2.2.2
  have h4 := wd.1
  have jj := hS.2.1.1
  have nn := hE.1.2.1
  have ep := hS.2.1.2.2.1
  have tk0 := hE.1.2.2 j jj.1 jj.2
  have p15 := hS.2.2.2.2.2.2.2
  have hjN : j < N := by
    have : ¬ j = N := fun z => by have := tk0.2.2.2.1.mpr z; omega
    omega
  have hx14 : 0 ≤ F 3 0 14 ∧ F 3 0 14 < 3000 := by omega
  have hV : 0 ≤ V ∧ V < 4 := ⟨hV3.1, hV4⟩
  obtain ⟨p0, w0, h6, hPr⟩ := hP
  have hP0 : HP K p w F Fm := ⟨p0, w0, h6, hPr⟩
  -- the root is made, the word voice is passed
  have hK1 : fK 0 (F 3 0 14) (F 3 0 14) (F 3 0 15) B (newB B (F 3 0 14) 10 (F 10 0 1)) := newB_k fK_r (Int.le_refl _)
  have gM1 : tM Bm (zup4 Bm 14 0 28 V j) := tM_u tM_r (by decide) (by decide)
  have hE1 := EV_t (EV_k hE hK1 (fJ_H (fr := 0) (j := j) fH_r (Int.le_refl _))) tB_r gM1
  have hS0 := PS_k (PS_u (k := 14) (v := F 3 0 14 + 1) hS (by decide)) hK1 (fJ_H (fr := 0) (j := j) fH_r (Int.le_refl _))
  have hS1 := PS_t (PS_step (EV_k hE hK1 (fJ_H (fr := 0) (j := j) fH_r (Int.le_refl _))) hS0 (by first | decide | omega)) tB_r gM1
  have rowsM : ∀ k, k ≠ 28 → (zup4 Bm 14 0 28 V j) 14 0 k = Bm 14 0 k := fun k hk => by funext y; rw [zup4_v, if_neg (fun z => hk z.2.2.1)]
  have row13 : ∀ k, (zup4 Bm 14 0 28 V j) 13 w k = Bm 13 w k := fun k => by funext y; rw [zup4_v, if_neg (fun z => absurd z.1 (by decide))]
  have e28 : (zup4 Bm 14 0 28 V j) 14 0 28 V = j := by rw [zup4_v, if_pos ⟨rfl, rfl, rfl, rfl⟩]
  have n28 : ∀ v, v ≠ V → (zup4 Bm 14 0 28 V j) 14 0 28 v = Bm 14 0 28 v := fun v hv => by rw [zup4_v, if_neg (fun z => hv z.2.2.2)]
  have hX1 := PS_CX hE1 hS1
  have hM1 := PS_MX hE1 hS1
  have hg1 := hS1.2.2.2.1
  have jj1 := hS1.2.1.1
  have ev := hS1.2.1.2.2.2.1
  have tk := hE1.1.2.2 (j + 1) jj1.1 jj1.2
  have gB1 : tB B (newB B (F 3 0 14) 10 (F 10 0 1)) := tB_K hK1
  have nb := newB_at (B := B) (x := F 3 0 14) (s := 10) (p := F 10 0 1)
  generalize hBm1 : zup4 Bm 14 0 28 V j = Bm1 at *
  generalize hB1 : newB B (F 3 0 14) 10 (F 10 0 1) = B1 at *
  have gF1 : fF F (advF (zup3 F 3 0 14 (F 3 0 14 + 1)) B1) := fF_a (fF_u fF_r (by decide))
  have gG1 : fG Fm (zup3 Fm 14 0 16 (j + 1)) := fG_u fG_r (by decide) (by decide)
  have nr := nmF_r (Bm1 14 0 7 (j + 1)) (Bm1 14 0 11 (j + 1))
  have bad70 : ∀ {Fx : zF} {Bx : zB}, bad Fx → f_M_voiceText_70 Km V Fx Bx = some (0, Fx, Bx) := by
    intro Fx Bx hb
    unfold f_M_voiceText_70
    rw [L_goodB hb]
    simp only [zb_s, ir0, if_true]
  unfold f_Parser_takeVoice f_M_voiceText
  rw [if_pos ⟨Int.le_refl _, k3⟩, C_newItem hX hx14, h6, if_pos w0, hV2, if_pos hV, hM.1, hBm1, hB1, L_isName km hM1 hE1.2.1]
  simp only [zb_s, zbN_s]
  rw [show (zup3 F 3 0 14 (F 3 0 14 + 1)) 3 0 11 = 0 from hS0.1, if_pos ⟨Int.le_refl _, k10⟩, C_adv (CX_u (by rw [← hB1]; exact CX_n hX) (by decide))]
  simp only [zbN_s]
  rw [C_isName hX1, PS_nm hE1 hS1]
  simp only [zbN_s]
  rw [if_pos (show r32 (nmF (Bm1 14 0 7 (j + 1)) (Bm1 14 0 11 (j + 1))) by omega), if_pos (show r32 (nmF (Bm1 14 0 7 (j + 1)) (Bm1 14 0 11 (j + 1))) by omega)]
  by_cases z : nmF (Bm1 14 0 7 (j + 1)) (Bm1 14 0 11 (j + 1)) = 0
  · have er := PS_err2 hE1 hS1
    rw [if_pos z, if_pos z, C_refuse hX1, L_wrong hg1 hM1]
    simp only [zb_s, zbN_s]
    rw [if_pos (by decide), bad70 er.2]
    exact zPm_s ⟨VF_h (hF_f (fF_e gF1)) (hG_f (fG_e gG1)) gB1 gM1, GS_t hGS gB1, Or.inr ⟨rfl, er⟩⟩
  · have k4 : Bm1 14 0 7 (j + 1) = 4 := by
      by_cases q : Bm1 14 0 7 (j + 1) = 4 ∧ nmC (Bm1 14 0 11 (j + 1))
      · exact q.1
      · exact absurd (nmF_0 q) z
    have w4 := hM1.2.2.2.2 k4
    have nzw : NZb (Bm1 14 0 11 (j + 1)) := by have t7 := tk.2.2.2.2.2.2.1 k4; rw [← t7.1]; exact t7.2.2
    have e2 : (advF (zup3 F 3 0 14 (F 3 0 14 + 1)) B1) 10 0 2 = Bm1 14 0 11 (j + 1) := by rw [ev]; exact (tk.2.2.2.2.2.2.1 k4).1
    have F64 : ∀ c y k, c = 4 ∨ c = 6 → (advF (zup3 F 3 0 14 (F 3 0 14 + 1)) B1) c y k = F c y k := fun c y k hc => gF1 c y k (fun z => by have := z.1; omega) (fun z => by have := z.1; omega)
    have B60 : ∀ y k x, B1 6 y k x = B 6 y k x := fun y k x => gB1 6 y k x (fun z => absurd z.1 (by decide))
    have hp := C_hasPart (K := K) (p := p) (w := Bm1 14 0 11 (j + 1)) (V := V) (F := advF (zup3 F 3 0 14 (F 3 0 14 + 1)) B1) (B := B1) k1 p0 (by rw [F64 6 p 1 (by decide)]; exact hV1) hV3 (fun v v0 v1 => by
      have q := (hVv v v0 v1).1
      rw [B60, F64 4 _ 0 (by decide)]
      exact ⟨q.1, by have := q.2.2.1; omega⟩) (by first | decide | omega)
    have ef : fdR (fun v => (advF (zup3 F 3 0 14 (F 3 0 14 + 1)) B1) 4 (B1 6 p 0 v) 0) V (Bm1 14 0 11 (j + 1)) 22 0 = fdR (Bm1 13 w 10) V (Bm1 14 0 11 (j + 1)) 22 0 := fdR_c (fun v v0 v1 => by
      have q := (hVv v v0 v1).1
      show (advF (zup3 F 3 0 14 (F 3 0 14 + 1)) B1) 4 (B1 6 p 0 v) 0 = _
      rw [B60, F64 4 _ 0 (by decide), row13]
      exact q.2.1)
    rw [ef] at hp
    have mn := L_find (K := Km) (c := 13) (i := w) (k := 10) (m := V) (w := Bm1 14 0 11 (j + 1)) (F := zup3 Fm 14 0 16 (j + 1)) (B := Bm1) km (by rw [show nM 13 = 3 by decide]; exact w0) (by rw [show (lnM 13 w 10 : Int) = 4 from rfl]; omega) (by rw [show lnM 13 w 10 = 4 from rfl]; decide) (by decide) (by first | decide | omega) (fun v v0 v1 => by
      have q := (hVv v v0 v1).1
      rw [row13, ← q.2.1]
      have := q.2.2.1
      omega) (by first | decide | omega)
    have e6 : (zup3 Fm 14 0 16 (j + 1)) 14 0 6 = w := by simp [zup3_v]; exact h6
    have e16 : (zup3 Fm 14 0 16 (j + 1)) 14 0 16 = j + 1 := by simp [zup3_v]
    rw [if_neg z, if_neg z, hS1.1, if_pos ⟨Int.le_refl _, k10⟩, if_pos p0, e2, e6, if_pos w0, e16, if_pos (show 0 ≤ j + 1 ∧ j + 1 < 3001 by omega), mn]
    rcases fdR_r (row := Bm1 13 w 10) (m := V) (w := Bm1 14 0 11 (j + 1)) (f := 22) (k := 0) (by first | decide | omega) with n1 | ⟨n1, n2, n3⟩
    · rw [n1, if_pos (show (-1 : Int) < 0 by decide)] at hp
      rw [hp, n1]
      simp only [zb_s, zbN_s]
      have hS2' := PS_step hE1 hS1 (by first | decide | omega)
      rw [if_pos (show r32 0 by decide), if_pos trivial, hS1.1, if_pos ⟨Int.le_refl _, k10⟩, C_adv hX1, if_pos (show r32 (-1) by decide), if_pos (show (-1 : Int) < 0 by decide)]
      simp only [zbN_s]
      unfold f_M_voiceText_70
      rw [L_good hg1]
      simp only [zb_s, ir1, i10]
      rw [e6, if_pos w0, e16, if_pos (show 0 ≤ j + 1 ∧ j + 1 < 3001 by omega), if_pos hV]
      have ew : (zup4 Bm1 13 w 10 V (Bm1 14 0 11 (j + 1))) 14 0 11 (j + 1) = Bm1 14 0 11 (j + 1) := by rw [zup4_v, if_neg (fun z => absurd z.1 (by decide))]
      rw [ew, L_108 (m := 9) (by omega) (by omega) (by have : (256 : Int) ^ 9 = 4722366482869645213696 := by decide
                                                       omega) (by first | decide | omega)]
      rw [f_M_voiceText_108]
      rw [if_pos (show r64 0 by decide), if_pos (zcmp_le.mpr (Int.le_refl _)), e6, if_pos w0, if_pos hV, e16, if_pos (show 0 ≤ j + 1 + 1 ∧ j + 1 + 1 < 3001 by have := hS2'.2.1.1; omega), show (0 : Int) + ltr 9 (Bm1 14 0 11 (j + 1)) = ltr 9 (Bm1 14 0 11 (j + 1)) by omega]
      generalize hBm3 : zup4 (zup4 Bm1 13 w 10 V (Bm1 14 0 11 (j + 1))) 13 w 11 V (ltr 9 (Bm1 14 0 11 (j + 1))) = Bm3
      have m14 : ∀ k, Bm3 14 0 k = Bm1 14 0 k := fun k => by
        rw [← hBm3]; funext y; rw [zup4_v, if_neg (fun z => absurd z.1 (by decide)), zup4_v, if_neg (fun z => absurd z.1 (by decide))]
      have m13 : ∀ k v, (k = 10 ∨ k = 11 → v ≠ V) → Bm3 13 w k v = Bm1 13 w k v := fun k v h => by
        rw [← hBm3, zup4_v, if_neg (fun z => h (Or.inr z.2.2.1) z.2.2.2), zup4_v, if_neg (fun z => h (Or.inl z.2.2.1) z.2.2.2)]
      have m10 : Bm3 13 w 10 V = Bm1 14 0 11 (j + 1) := by rw [← hBm3]; simp [zup4_v]
      have m11 : Bm3 13 w 11 V = ltr 9 (Bm1 14 0 11 (j + 1)) := by rw [← hBm3]; simp [zup4_v]
      have hE3 := EV_B (B' := B1) (Bm' := Bm3) hE1 (fun _ => rfl) (fun k _ => m14 k)
      have hS2 := PS_B (B' := B1) (Bm' := Bm3) hS2' (fun _ => rfl) (fun k _ => m14 k)
      rw [m14, m14]
      generalize hF3 : advF (advF (zup3 F 3 0 14 (F 3 0 14 + 1)) B1) B1 = F3 at *
      generalize hFm2 : zup3 (zup3 Fm 14 0 16 (j + 1)) 14 0 16 (j + 1 + 1) = Fm2 at *
      have hX3 := PS_CX hE3 hS2
      have gF3 : fF F F3 := by rw [← hF3]; exact fF_a gF1
      have gG3 : fG Fm Fm2 := by rw [← hFm2]; exact fG_u gG1 (by decide) (by decide)
      have a14 : F3 3 0 14 = F 3 0 14 + 1 := by rw [← hF3]; simp [zup3_v, advF_o]
      have a15 : F3 3 0 15 = F 3 0 15 := by rw [← hF3]; simp [zup3_v, advF_o]
      have a18 : F3 3 0 18 = 0 := by rw [← hF3]; simp [zup3_v, advF_o]; exact hdep
      have kk := hS2.2.1.2.1
      have vv := hS2.2.1.2.2.2.1
      have tk2 := hE3.1.2.2 (j + 1 + 1) hS2.2.1.1.1 hS2.2.1.1.2
      have hP3 : HP K p w F3 Fm2 := HP_f hP0 gF3 gG3
      have hLT3 : LT L F3 B1 Fm2 Bm3 := by
        have h := LT_k (Bm' := Bm) hLT gF3 gG3 hK1 (by decide) (fJ_H (fr := 0) (j := 0) fH_r (Int.le_refl _))
        obtain ⟨l1, l2, l3, l4⟩ := h
        exact ⟨l1, l2, l3, fun q q0 q1 => by rw [m14 25, rowsM 25 (by decide)]; exact l4 q q0 q1⟩
      rw [hS2.1, if_pos ⟨Int.le_refl _, k10⟩, if_pos (show r32 (F3 10 0 0) by have := hX3.2.2.2.1; omega), if_pos (show r32 (Bm1 14 0 7 (j + 1 + 1)) by have := tk2.2.2.1; rw [m14] at this; omega)]
      -- from the clef on
      have main : ∀ s, (s = -1 ∨ (0 ≤ s ∧ s < 4 ∧ ¬ Bm3 14 0 7 (j + 1 + 1) = 0)) → zPm (f_Parser_takeVoice_84 K (Bm1 14 0 11 (j + 1)) (F 3 0 14) 0 p s F3 B1) (f_M_voiceText_187 Km V w V s Fm2 Bm3) (fun r F' B' K' _ Fm' Bm' => VPO K Km N L V j p w F B Fm Bm r F' B' K' Fm' Bm') := by
        intro s hs
        refine zPm_m (P_v84 (N := N) (t := j + 1 + 1) (x := F 3 0 14) (wd := Bm1 14 0 11 (j + 1)) hE3 hS2 hP3 hLT3 ⟨hx14.1, (by first | decide | omega)⟩ (by first | decide | omega) a18 nb.2.2.2.2.1 (GS_t hGS gB1) (by rw [gF3 6 p 1 (fun z => absurd z.1 (by decide)) (fun z => absurd z.1 (by decide))]; exact hV1) (by rw [gG3 13 w 1 (fun z => absurd z.1 (by decide))]; exact hV2) hV hs) (fun r F' B' K' r' Fm' Bm' hh => ?_)
        obtain ⟨vf, gs, res⟩ := hh
        have vf0 : VF K p w F B Fm Bm K F3 B1 Fm2 Bm3 := ⟨Kle_r, fun c y k _ h1 h2 h3 _ => hF_f (p := p) gF3 c y k h1 h2 (fun z => h3 ⟨z.1, z.2.1, by have := z.2.2.1; omega, z.2.2.2⟩), fun c y k x _ h1 _ => gB1 c y k x h1, fun v _ _ => Or.inl (B60 p 0 v), fun c i k h1 _ => gG3 c i k (fun z => h1 ⟨z.1, z.2.1, z.2.2.1, by have := z.2.2.2; omega⟩), fun c i k y h1 h2 => by
          rw [← hBm3, zup4_v, if_neg (fun z => h2 ⟨z.1, z.2.1, by have := z.2.2.1; omega, by have := z.2.2.1; omega⟩), zup4_v, if_neg (fun z => h2 ⟨z.1, z.2.1, by have := z.2.2.1; omega, by have := z.2.2.1; omega⟩)]
          exact gM1 c i k y h1, fun q s a b => (by first | decide | omega), ⟨fun _ _ => rfl, (by first | decide | omega), by rw [em_e (fun v => B60 p 0 v)]⟩, Or.inl (hF_f (p := p) gF3 6 p 1 (fun z => absurd z.1 (by decide)) (fun z => absurd z.1 (by decide)) (fun z => absurd z.2.2.1 (by decide)))⟩
        refine ⟨VF_t vf0 vf, gs, ?_⟩
        rcases res with ⟨rfl, j', n, s', m', u1, u2, u3, u4, u5, u6, u7, u8, u9, u10, u11, u12, u13, u14, u15, u16, u17, u18, u19, u20, u21, u22, u23, u24, u25, u26, u27, u28, u29, u30, u31, u32, u33⟩ | er
        · left
          rw [a15] at u25 u32 u33
          have kle := vf.1
          have ju := u3.2.1.1
          rw [show j + 1 + 1 + 3 = j + 1 + 1 + 2 + 1 by omega] at u33
          have aB0 : agB L 0 (F 3 0 14) 0 (F 3 0 15) (-1) B B' := by
            refine ⟨fun k y h1 h2 h3 _ => ?_, fun k y h1 h2 h3 h4 => ?_, fun q h1 h2 => ?_⟩
            · rw [u25 k y (by first | decide | omega) (by first | decide | omega) (by first | decide | omega)]
              exact hK1 3 0 k y (fun z => by have := z.2.2.2; omega) (fun z => by have := z.2.2.1; omega) (fun z => by have := z.2.2.2; omega)
            · rw [u25 k y (by first | decide | omega) (by first | decide | omega) (by first | decide | omega)]
              exact hK1 3 0 k y (fun z => by have := z.2.2.1; omega) (fun z => by have := z.2.2.2.2; omega) (fun z => by have := z.2.2.1; omega)
            · rw [u25 13 q (by first | decide | omega) (by first | decide | omega) (by first | decide | omega)]
              exact hK1 3 0 13 q (fun z => absurd z.2.2.1 (by decide)) (fun z => absurd z.2.2.2.1 (by decide)) (fun z => absurd z.2.2.1 (by decide))
          have bm7 : ∀ k, k ≤ 15 → Bm' 14 0 k = Bm 14 0 k := fun k hk => by
            funext y
            rw [vf.2.2.2.2.2.1 14 0 k y (fun z => by have := z.2.2.1; omega) (fun z => absurd z.1 (by decide)), m14, rowsM k (by first | decide | omega)]
          have b25 : Bm' 14 0 25 = Bm 14 0 25 := by rw [u28 25 (by decide), m14, rowsM 25 (by decide)]
          have b26 : Bm' 14 0 26 = Bm 14 0 26 := by rw [u28 26 (by decide), m14, rowsM 26 (by decide)]
          have aM0 : agM L 0 j Bm Bm' := by
            refine ⟨fun k y h1 h2 h3 h4 => ?_, fun k h1 h2 => bm7 k (by first | decide | omega), fun q h1 h2 => by rw [b25]⟩
            rw [u29 k y h1 h2 (by first | decide | omega), m14, rowsM k (by first | decide | omega)]
          have own : ∀ v, 0 ≤ v → v < V → B' 6 p 0 v = B 6 p 0 v := fun v v0 v1 => by rw [u19 v v0 (by first | decide | omega) (by first | decide | omega), B60]
          have neq : ∀ v, 0 ≤ v → v < V → B 6 p 0 v ≠ B' 6 p 0 V := fun v v0 v1 e => by
            have q := (hVv v v0 v1).1
            have k6 := kle.2 6
            have := (gs.2.2.1 p v p V p0.1 (by first | decide | omega) v0 (by first | decide | omega) p0.1 (by first | decide | omega) hV.1 hV.2 (by rw [own v v0 v1]; exact q.1.1) (by rw [own v v0 v1]; exact e)).2
            omega
          have F4v : ∀ v k, 0 ≤ v → v < V → F' 4 (B' 6 p 0 v) k = F 4 (B 6 p 0 v) k := fun v k v0 v1 => by
            have q := (hVv v v0 v1).1
            rw [own v v0 v1, u20 _ k q.1.1 q.1.2 (neq v v0 v1), gF3 4 _ k (fun z => absurd z.1 (by decide)) (fun z => absurd z.1 (by decide))]
          refine ⟨rfl, j', (by first | decide | omega), ⟨u2, u3, ?_, ?_, (by first | decide | omega), (by first | decide | omega), u18, ?_⟩, gs, u16, u17, (by first | decide | omega), fun v v0 v1 => ?_⟩
          · refine HP_cg (K := K') (F := F3) (Fm := Fm2) ?_ (fun k k0 k1 => (u21 k k0 k1).1) u23 (fun k k0 k1 => (u21 k k0 k1).2) (fun k hk => u24 k (by first | decide | omega))
            · obtain ⟨t1, t2⟩ := hP3
              have := kle.2 6
              exact ⟨⟨t1.1, (by first | decide | omega)⟩, t2⟩
          · refine ⟨?_, ?_, hLT3.2.2.1, fun q q0 q1 => ?_⟩
            · rw [u22]; exact hLT3.1
            · rw [u24 27 (by decide)]; exact hLT3.2.1
            · rw [u25 12 q (by first | decide | omega) (by first | decide | omega) (by first | decide | omega), u25 13 q (by first | decide | omega) (by first | decide | omega) (by first | decide | omega), u28 25 (by decide)]
              exact hLT3.2.2.2 q q0 q1
          · exact SLT_t hSL aB0 aM0 (fun r _ _ => by rw [b26]) (by first | decide | omega) (by first | decide | omega) (by first | decide | omega)
          · by_cases e : v = V
            · subst e
              refine ⟨⟨u4, ?_, ?_, ?_, ?_, ?_, ?_, ?_, ?_, u10, ?_, ?_⟩, ?_⟩
              · rw [u5, u27 10 (by decide)]; exact m10.symm
              · rw [u5]; omega
              · rw [u6, u11]; omega
              · rw [u7, u12]; omega
              · have e6 : F' 4 (B' 6 p 0 v) 3 = Bm' 14 0 8 (Bm' 14 0 28 v) := by
                  rw [u8, u28 28 (by decide), m14, e28, bm7 8 (by decide)]
                  exact nb.2.1.trans ep
                have e8 : 0 ≤ Bm' 14 0 8 (Bm' 14 0 28 v) ∧ Bm' 14 0 8 (Bm' 14 0 28 v) ≤ 3000 := by
                  rw [u28 28 (by decide), m14, e28, bm7 8 (by decide)]
                  exact (hE.1.2.2 j (by first | decide | omega) (by first | decide | omega)).2.2.2.2.2.2.2.2.2.1
                exact ⟨e6, by rw [e6]; exact e8.1, by rw [e6]; exact e8.2⟩
              · rw [u28 28 (by decide), m14, e28]; omega
              · rw [u9]; exact hx14
              · rw [u15]; omega
              · rw [u27 11 (by decide), u27 10 (by decide), m10, m11]
              · rw [u27 10 (by decide), m10]; exact nzw
              · rw [u9, u15]
                intro Bx By ab am
                exact BK_of (agB_m ab (by first | decide | omega) (Int.le_refl _) (Int.le_refl _) (Int.le_refl _) (Or.inr (Or.inl (by first | decide | omega)))) am u33 u30 (by first | decide | omega) (Int.le_refl _) (by first | decide | omega) (Int.le_refl _) (by first | decide | omega) (Int.le_refl _) (by first | decide | omega) (by first | decide | omega) (by first | decide | omega)
            · have q := hVv v v0 (by first | decide | omega)
              obtain ⟨⟨r1, r2, r3, r4, r5, r6, r7, r8, r9, r10, r11, r12⟩, sv⟩ := q
              have ov := own v v0 (by first | decide | omega)
              have fv : ∀ k, F' 4 (B' 6 p 0 v) k = F 4 (B 6 p 0 v) k := fun k => F4v v k v0 (by first | decide | omega)
              have k4 := kle.2 4
              obtain ⟨s8, s9, s29⟩ := u26 v e
              refine ⟨⟨by rw [ov]; omega, ?_, ?_, ?_, ?_, ?_, ?_, ?_, ?_, ?_, ?_, ?_⟩, ?_⟩
              · rw [fv, u27 10 (by decide), m13 10 v (fun _ => e), row13]; exact r2
              · rw [fv]; exact r3
              · rw [fv, s8, m13 8 v (fun h => (by first | decide | omega)), row13]; exact r4
              · rw [fv, s9, m13 9 v (fun h => (by first | decide | omega)), row13]; exact r5
              · rw [fv, u28 28 (by decide), m14, n28 v e, bm7 8 (by decide)]; exact r6
              · rw [u28 28 (by decide), m14, n28 v e]; exact r7
              · rw [fv]; exact r8
              · rw [s29, m14, rowsM 29 (by decide)]; exact r9
              · rw [fv]; exact r10
              · rw [u27 11 (by decide), u27 10 (by decide), m13 11 v (fun _ => e), m13 10 v (fun _ => e), row13, row13]; exact r11
              · rw [u27 10 (by decide), m13 10 v (fun _ => e), row13]; exact r12
              · rw [fv, s29, m14, rowsM 29 (by decide)]
                exact SVC_t sv aB0 aM0 (by first | decide | omega) (by first | decide | omega) (by first | decide | omega)
        · exact Or.inr er
      by_cases c4 : Bm1 14 0 7 (j + 1 + 1) = 4
      · have w5 := hM1
        have vw : F3 10 0 2 = Bm1 14 0 11 (j + 1 + 1) := by rw [vv, (tk2.2.2.2.2.2.2.1 (by rw [m14]; exact c4)).1, m14]
        have wb := tk2.2.2.2.2.2.2.2.2.1
        rw [if_pos (show F3 10 0 0 = 4 by rw [kk, m14]; exact c4), if_pos c4, C_ixC k1 (by have := hX3.2.2.2.2.1; omega), vw, L_fC km hE3.2.1 (by have := hX3.2.2.2.2.1; omega)]
        simp only [zb_s, zbN_s]
        have fb := fiL_c (w := Bm1 14 0 11 (j + 1 + 1)) (L := wC)
        have fl : wC.length = 4 := rfl
        refine main _ ?_
        rcases fb.2 with q | q
        · exact Or.inl q
        · by_cases e : fiL wC (Bm1 14 0 11 (j + 1 + 1)) 0 = -1
          · exact Or.inl e
          · exact Or.inr ⟨(by first | decide | omega), (by first | decide | omega), by rw [m14]; omega⟩
      · rw [if_neg (show ¬ F3 10 0 0 = 4 by rw [kk, m14]; exact c4), if_neg c4]
        exact main (-1) (Or.inl rfl)
    · have er := PS_err (s := 4) (s' := 4) hE1 hS1 (by rw [if_neg (by first | decide | omega)]) (by decide)
      rw [if_neg (show ¬ fdR (Bm1 13 w 10) V (Bm1 14 0 11 (j + 1)) 22 0 < 0 by omega)] at hp
      rw [hp]
      simp only [zb_s, zbN_s]
      rw [if_pos (show r32 1 by decide), if_neg (show ¬ (1 : Int) = 0 by decide), if_pos (show r32 (fdR (Bm1 13 w 10) V (Bm1 14 0 11 (j + 1)) 22 0) by omega), if_neg (show ¬ fdR (Bm1 13 w 10) V (Bm1 14 0 11 (j + 1)) 22 0 < 0 by omega), C_refuse hX1, L_fail hg1 (by rw [e16]; omega)]
      simp only [zb_s, zbN_s]
      rw [if_pos (by decide), bad70 er.2]
      exact zPm_s ⟨VF_h (hF_f (fF_e gF1)) (hG_f (fG_e gG1)) gB1 gM1, GS_t hGS gB1, Or.inr ⟨rfl, er⟩⟩
end
end
section
section
/-! ===== the voices of a text, on both sides ===== -/
def TPO (K : zK) (Km : Nat) (N p w : Int) (F : zF) (B : zB) (Fm : zF) (Bm : zB) (r : Int) (F' : zF) (B' : zB) (K' : zK) (Fm' : zF) (Bm' : zB) : Prop := VF K p w F B Fm Bm K' F' B' Fm' Bm' ∧ GS K' B' ∧ ((r = 0 ∧ ∃ L V, 1 ≤ V ∧ VI K' Km N L V N p w F' B' Fm' Bm') ∨ ((r = Fm' 14 0 17 + 16 * Fm' 14 0 18 ∧ 0 ≤ Fm' 14 0 18 ∧ Fm' 14 0 18 ≤ 3000) ∧ bad Fm'))
theorem C_154e {K : zK} {F : zF} {B : zB} (k3 : 0 < K.2 3) : f_Parser_parse_154 K 0 0 F B = some (F 3 0 21, F, B, K) := by
  unfold f_Parser_parse_154 f_Parser_parse_174
  rw [if_pos (by decide), if_pos rfl, if_pos ⟨Int.le_refl _, k3⟩]
theorem C_119e {K : zK} {n : Nat} {l p : Int} {F : zF} {B : zB} (k3 : 0 < K.2 3) (hl : r32 l) (hn : 0 < n) : f_Parser_parse_119 n K l 0 0 p F B = some (F 3 0 21, F, B, K) := by
  obtain ⟨n, rfl⟩ : ∃ y, n = y + 1 := ⟨n - 1, (by first | decide | omega)⟩
  rw [f_Parser_parse_119]
  rw [if_pos hl, C_154e k3]
  by_cases a : 4 ≤ l
  · rw [if_pos a]
  · rw [if_neg a, if_pos (by decide), if_pos rfl]
theorem L_140B {Km n : Nat} {l : Int} {Fm : zF} {Bm : zB} (hb : bad Fm) (hn : 0 < n) : f_M_text_140 Km n l Fm Bm = some (0, Fm, Bm) := by
  obtain ⟨n, rfl⟩ : ∃ y, n = y + 1 := ⟨n - 1, (by first | decide | omega)⟩
  unfold f_M_text_140 f_M_text_211
  rw [L_goodB hb]
  simp only [zb_s, ir0, if_true]
theorem L_1400 {Km n : Nat} {Fm : zF} {Bm : zB} (hg : Fm 14 0 17 = 0) (hn : 0 < n) : f_M_text_140 Km n 0 Fm Bm = some (0, Fm, Bm) := by
  obtain ⟨n, rfl⟩ : ∃ y, n = y + 1 := ⟨n - 1, (by first | decide | omega)⟩
  unfold f_M_text_140 f_M_text_211
  rw [L_good hg]
  simp only [zb_s, ir1, ir0, if_true, if_false, Int.reduceEq]
theorem P_vloop {K0 : zK} {Km : Nat} {N L p w : Int} {F0 : zF} {B0 : zB} {Fm0 : zF} {Bm0 : zB} : ∀ {q n m : Nat} {K : zK} {V j : Int} {F : zF} {B : zB} {Fm : zF} {Bm : zB}, V = 4 - q → q + 1 < n → q + 2 < m → VI K Km N L V j p w F B Fm Bm → VF K0 p w F0 B0 Fm0 Bm0 K F B Fm Bm → (1 ≤ V ∨ wdAt Bm j 508675318629) → zPm (f_Parser_parse_119 n K V 1 0 p F B) (f_M_text_140 Km m (if Bm 14 0 7 j = 0 then 0 else 1) Fm Bm) (fun r F' B' K' _ Fm' Bm' => TPO K0 Km N p w F0 B0 Fm0 Bm0 r F' B' K' Fm' Bm') := by
  intro q
  -- no voice here
  have out : ∀ {n m : Nat} {K : zK} {V j : Int} {F : zF} {B : zB} {Fm : zF} {Bm : zB}, 0 < n → 1 < m → VI K Km N L V j p w F B Fm Bm → VF K0 p w F0 B0 Fm0 Bm0 K F B Fm Bm → 1 ≤ V → (4 ≤ V ∨ wdm Bm j 508675318629 = 0) → zPm (f_Parser_parse_119 n K V 1 0 p F B) (f_M_text_140 Km m (if Bm 14 0 7 j = 0 then 0 else 1) Fm Bm) (fun r F' B' K' _ Fm' Bm' => TPO K0 Km N p w F0 B0 Fm0 Bm0 r F' B' K' Fm' Bm') := by
    intro n m K V j F B Fm Bm hn hm hI hVF hV1 hno
    have hI0 := hI
    obtain ⟨⟨hE, hS, hP, hLT, hit, hi0, hdep, hSL⟩, hGS, f1, fm1, hV3, hVv⟩ := hI
    have hX := PS_CX hE hS
    have hM := PS_MX hE hS
    have k3 := hE.2.2.2.1
    have k10 := hE.2.2.2.2.1
    have jj := hS.2.1.1
    have tk := hE.1.2.2 j jj.1 jj.2
    have ek := hS.2.1.2.1
    have wr0 := wdm_r Bm j 508675318629
    obtain ⟨n, rfl⟩ : ∃ y, n = y + 1 := ⟨n - 1, (by first | decide | omega)⟩
    obtain ⟨m, rfl⟩ : ∃ y, m = y + 1 := ⟨m - 1, (by first | decide | omega)⟩
    have wv := PS_wn (c := 508675318629) hE hS (by decide)
    have cls : f_Parser_parse_119 (n + 1) K V 1 0 p F B = f_Parser_parse_154 K 1 0 F B := by
      rw [f_Parser_parse_119]
      rw [if_pos (show r32 V by omega)]
      by_cases a : 4 ≤ V
      · rw [if_pos a]
      · rw [if_neg a, if_pos (by decide), if_neg (by decide), if_pos ⟨Int.le_refl _, k3⟩, hS.1, if_pos ⟨Int.le_refl _, k10⟩, wv.1]
        simp only [zbN_s]
        have z : wdm Bm j 508675318629 = 0 := by rcases hno with z | z <;> omega
        rw [z, if_pos (by decide), if_pos rfl]
    rw [cls]
    unfold f_Parser_parse_154 f_Parser_parse_174
    rw [if_pos (by decide), if_neg (by decide), if_pos ⟨Int.le_refl _, k3⟩, hS.1, if_pos ⟨Int.le_refl _, k10⟩, if_pos (show r32 (F 10 0 0) by have := hX.2.2.2.1; omega), ek]
    by_cases e : Bm 14 0 7 j = 0
    · have jN : j = N := tk.2.2.2.1.mp e
      rw [if_pos e, if_pos e, if_pos ⟨Int.le_refl _, k3⟩, hS.2.2.2.2.1, L_1400 hS.2.2.2.1 (by first | decide | omega)]
      subst jN
      exact zPm_s ⟨hVF, hGS, Or.inl ⟨rfl, L, V, hV1, hI0⟩⟩
    · have er := PS_err2 hE hS
      rw [if_neg e, if_neg e, C_refuse hX]
      simp only [zbN_s]
      rw [if_pos ⟨Int.le_refl _, k3⟩]
      have vf' : VF K0 p w F0 B0 Fm0 Bm0 K (refF F 2) B (errM Fm Bm (wr Bm j)) Bm := VF_t hVF (VF_h (hF_e hF_r) (hG_e hG_r) tB_r tM_r)
      have fin : f_M_text_179 (f_M_text_140 Km m) Km Fm Bm = some (0, errM Fm Bm (wr Bm j), Bm) := by
        unfold f_M_text_179 f_M_text_183 f_M_text_206 f_M_text_207
        rw [L_wrong hS.2.2.2.1 hM]
        simp only [zb_s]
        rw [L_goodB er.2]
        simp only [zb_s, ir0, if_true]
        exact L_140B er.2 (by first | decide | omega)
      have ref : f_M_text_140 Km (m + 1) 1 Fm Bm = some (0, errM Fm Bm (wr Bm j), Bm) := by
        rw [f_M_text_140]
        rw [L_good hS.2.2.2.1]
        simp only [zb_s, ir1, i10]
        rw [wv.2]
        simp only [zb_s]
        rw [if_pos (show r32 (wdm Bm j 508675318629) by omega)]
        by_cases a : wdm Bm j 508675318629 = 0
        · rw [if_pos a]; exact fin
        · have v4 : 4 ≤ V := by rcases hno with z | z <;> omega
          rw [if_neg a, hP.2.2.1, if_pos hP.2.1, fm1, if_pos (by first | decide | omega), if_pos v4]; exact fin
      rw [ref]
      exact zPm_s ⟨vf', hGS, Or.inr ⟨er.1, er.2⟩⟩
  induction q with
  | zero =>
    intro n m K V j F B Fm Bm hV hn hm hI hVF hfirst
    exact out (by first | decide | omega) (by first | decide | omega) hI hVF (by first | decide | omega) (Or.inl (by first | decide | omega))
  | succ q ih =>
    intro n m K V j F B Fm Bm hV hn hm hI hVF hfirst
    by_cases a : wdm Bm j 508675318629 = 0
    · rcases hfirst with z | z
      · exact out (by first | decide | omega) (by first | decide | omega) hI hVF z (Or.inr a)
      · exact absurd z (wdm_0.mp a)
    · have wd := Decidable.not_not.mp (mt wdm_0.mpr a)
      have hI0 := hI
      obtain ⟨⟨hE, hS, hP, hLT, hit, hi0, hdep, hSL⟩, hGS, f1, fm1, hV3, hVv⟩ := hI
      have k3 := hE.2.2.2.1
      have k10 := hE.2.2.2.2.1
      have wr0 := wdm_r Bm j 508675318629
      have wv := PS_wn (c := 508675318629) hE hS (by decide)
      obtain ⟨n, rfl⟩ : ∃ y, n = y + 1 := ⟨n - 1, (by first | decide | omega)⟩
      obtain ⟨m, rfl⟩ : ∃ y, m = y + 1 := ⟨m - 1, (by first | decide | omega)⟩
      rw [if_neg (show ¬ Bm 14 0 7 j = 0 by have := wd.1; omega)]
      rw [f_Parser_parse_119, f_M_text_140]
      rw [if_pos (show r32 V by omega), if_neg (show ¬ 4 ≤ V by omega), if_pos (by decide), if_neg (by decide), if_pos ⟨Int.le_refl _, k3⟩, hS.1, if_pos ⟨Int.le_refl _, k10⟩, wv.1, L_good hS.2.2.2.1]
      simp only [zb_s, zbN_s, ir1, i10]
      rw [wv.2]
      simp only [zb_s]
      rw [if_pos (show r32 (wdm Bm j 508675318629) by omega), if_neg a, if_pos hP.1, if_pos (show r32 (wdm Bm j 508675318629) by omega), if_neg a, hP.2.2.1, if_pos hP.2.1, fm1, if_pos (show r32 V by omega), if_neg (show ¬ 4 ≤ V by omega)]
      refine zPm_c (P_voice hI0 wd (by first | decide | omega)) (fun r F' B' K' r' Fm' Bm' hh => ?_)
      obtain ⟨vf, gs, res⟩ := hh
      have vf' := VF_t hVF vf
      unfold f_Parser_parse_147 f_M_text_183 f_M_text_206 f_M_text_207
      rcases res with ⟨rfl, j', hj, hI'⟩ | ⟨rfl, er⟩
      · have hS' := hI'.1.2.1
        have hE' := hI'.1.1
        have hM' := PS_MX hE' hS'
        have k' := hM'.2.2.1
        have j0' := hM'.2.1
        rw [L_good hS'.2.2.2.1]
        simp only [zb_s, ir1, i10]
        rw [hM'.1, if_pos (show 0 ≤ j' ∧ j' < 3001 by omega), if_pos (show r32 (Bm' 14 0 7 j') by omega)]
        have key := ih (n := n) (m := m) (K := K') (V := V + 1) (j := j') (by first | decide | omega) (by first | decide | omega) (by first | decide | omega) hI' vf' (Or.inl (by first | decide | omega))
        by_cases e : Bm' 14 0 7 j' = 0
        · rw [if_pos e] at key ⊢; exact key
        · rw [if_neg e] at key ⊢; exact key
      · have k3' : 0 < K'.2 3 := Int.lt_of_lt_of_le k3 (vf.1.2 3)
        rw [L_goodB er.2]
        simp only [zb_s, ir0, if_true]
        rw [C_119e k3' (by first | decide | omega) (by first | decide | omega), L_140B er.2 (by first | decide | omega)]
        exact zPm_s ⟨vf', gs, Or.inr ⟨er.1, er.2⟩⟩
end
end
section
section
/-! ===== the heads of a text, on both sides ===== -/
def bgn (F : zF) : Int := if F 10 0 0 = 4 ∧ F 10 0 2 = 7103860 then (if 6 ≤ F 3 0 16 then 0 else 1) else if hds (F 10 0 0) (F 10 0 2) = 0 then 0 else if zand (F 3 0 17) (hds (F 10 0 0) (F 10 0 2)) = 0 then 1 else 0
theorem hds_r (k v : Int) : 0 ≤ hds k v ∧ hds k v ≤ 4 := by
  unfold hds
  split
  · split
    · omega
    · split
      · omega
      · split <;> omega
  · omega
theorem C_begins {K : zK} {F : zF} {B : zB} (h : CX K F B) (hl : r32 (F 3 0 16)) : f_Parser_beginsHead K 0 F B = some (bgn F, F, B) := by
  have w1 := C_isWord (c := 7103860) h (by decide)
  have hs := C_headSort h
  have r1 := wdn_r F 7103860
  have hr := hds_r (F 10 0 0) (F 10 0 2)
  obtain ⟨k3, k10, e11, hk, hv, hx, h5, hK⟩ := h
  unfold f_Parser_beginsHead f_Parser_beginsHead_27 f_Parser_beginsHead_51 f_Parser_beginsHead_52 bgn
  rw [if_pos ⟨(by first | decide | omega), k3⟩, e11, if_pos ⟨(by first | decide | omega), k10⟩, w1]
  simp only [zb_s]
  rw [if_pos (by first | decide | omega)]
  by_cases a : F 10 0 0 = 4 ∧ F 10 0 2 = 7103860
  · rw [if_neg (by rw [wdn_0]; exact fun z => z a), if_pos hl, if_pos a]
    by_cases l : 6 ≤ F 3 0 16
    · rw [if_pos l, if_pos (by decide), if_pos l]
    · rw [if_neg l, if_pos (by decide), if_neg l]
  · rw [if_pos (wdn_0.mpr a), hs, if_neg a]
    simp only [zb_s]
    rw [if_pos (by first | decide | omega)]
    by_cases d : hds (F 10 0 0) (F 10 0 2) = 0
    · rw [if_pos d, if_pos (by decide), if_pos d]
    · rw [if_neg d, hs, if_neg d]
      simp only [zb_s]
      rw [if_pos (zand_r32 _ _)]
      by_cases t : zand (F 3 0 17) (hds (F 10 0 0) (F 10 0 2)) = 0
      · rw [if_pos t, if_pos (by decide), if_pos t]
      · rw [if_neg t, if_pos (by decide), if_neg t]
/-- a head that is told already: the reference says so -/
def TLD (w : Int) (Fm Fm' : zF) (Bm : zB) (j : Int) : Prop := hG w Fm Fm' ∧ Fm' 14 0 17 = 2 ∧ Fm' 14 0 18 = Bm 14 0 8 j
theorem TLD_b {w : Int} {Fm Fm' : zF} {Bm : zB} {j : Int} (h : TLD w Fm Fm' Bm j) : bad Fm' := ⟨by have := h.2.1; omega, by have := h.2.1; omega⟩
theorem L_told {K : zK} {Km : Nat} {N j p w c : Int} {F : zF} {B : zB} {Fm : zF} {Bm : zB} (hE : EV K Km N B Bm) (hS : PS N j F B Fm Bm) (hP : HP K p w F Fm) (wd : wdAt Bm j c) (hc : (c = 7038329 ∧ Fm 14 0 22 = 1) ∨ (c = 1953066341 ∧ Fm 14 0 23 = 1) ∨ (c = 499917877359 ∧ Fm 14 0 24 = 1) ∨ (c = 7103860 ∧ Fm 14 0 27 = 6)) : ∃ Fm', f_M_head Km Fm Bm = some (0, Fm', Bm) ∧ TLD w Fm Fm' Bm j := by
  have hM := PS_MX hE hS
  have h4 := wd.1
  have hg := hS.2.2.2.1
  have wn : wr Bm j = 2 := by unfold wr; rw [if_neg (by first | decide | omega)]
  have wrg := L_wrong (K := Km) hg hM
  rw [wn] at wrg
  obtain ⟨p0, w0, h6, _⟩ := hP
  have b2 : bad (errM Fm Bm 2) := by unfold bad errM; simp [zup3_v]
  have e6 : (errM Fm Bm 2) 14 0 6 = w := by unfold errM; simp [zup3_v]; exact h6
  have e18 : (errM Fm Bm 2) 14 0 18 = Bm 14 0 8 j := by unfold errM; simp [zup3_v]; rw [hM.1]
  have e17 : (errM Fm Bm 2) 14 0 17 = 2 := by unfold errM; simp [zup3_v]
  have t : ∀ c', r64 c' → f_M_isWord Km c' Fm Bm = some (if c = c' then 1 else 0, Fm, Bm) := fun c' hc' => L_wd hM wd hc'
  rcases hc with ⟨rfl, ht⟩ | ⟨rfl, ht⟩ | ⟨rfl, ht⟩ | ⟨rfl, ht⟩
  · refine ⟨zup3 (zup3 (errM Fm Bm 2) 14 0 22 1) 14 0 16 ((errM Fm Bm 2) 14 0 16 + 1), ?_, hG_u (hG_u (hG_e hG_r) (by decide) (by decide)) (by decide) (by decide), ?_, ?_⟩
    · unfold f_M_head f_M_headKey f_M_headKey_11 f_M_head_152
      simp only [t 7038329 (by decide), zb_s, ir0, ir1, if_true, if_false, Int.reduceEq, ht, wrg]
      rw [L_goodB (bad_cg b2 (by simp [zup3_v]))]
      simp only [zb_s, ir0, if_true]
    · simp [zup3_v]; exact e17
    · simp [zup3_v]; exact e18
  · refine ⟨zup3 (zup3 (zup3 (zup3 (errM Fm Bm 2) 14 0 23 1) 14 0 16 ((errM Fm Bm 2) 14 0 16 + 1)) 13 w 4 0) 13 w 5 0, ?_, hG_3 (hG_3 (hG_u (hG_u (hG_e hG_r) (by decide) (by decide)) (by decide) (by decide)) (by decide) (by decide)) (by decide) (by decide), ?_, ?_⟩
    · unfold f_M_head f_M_head_38 f_M_head_152
      simp only [t 7038329 (by decide), t 1953066341 (by decide), zb_s, ir0, ir1, if_true, if_false, Int.reduceEq, ht, wrg]
      rw [e6, if_pos w0, L_numberB (bad_cg b2 (by simp [zup3_v]))]
      simp only [zb_s]
      rw [L_needB (bad_cg b2 (by simp [zup3_v]))]
      simp only [zb_s]
      rw [show (zup3 (zup3 (zup3 (errM Fm Bm 2) 14 0 23 1) 14 0 16 ((errM Fm Bm 2) 14 0 16 + 1)) 13 w 4 0) 14 0 6 = w by simp [zup3_v]; exact e6, if_pos w0, L_numberB (bad_cg b2 (by simp [zup3_v]))]
      rfl
    · simp [zup3_v]; exact e17
    · simp [zup3_v]; exact e18
  · refine ⟨zup3 (zup3 (zup3 (errM Fm Bm 2) 14 0 24 1) 14 0 16 ((errM Fm Bm 2) 14 0 16 + 1)) 13 w 6 0, ?_, hG_3 (hG_u (hG_u (hG_e hG_r) (by decide) (by decide)) (by decide) (by decide)) (by decide) (by decide), ?_, ?_⟩
    · unfold f_M_head f_M_head_113 f_M_head_152
      simp only [t 7038329 (by decide), t 1953066341 (by decide), t 499917877359 (by decide), zb_s, ir0, ir1, if_true, if_false, Int.reduceEq, ht, wrg]
      rw [e6, if_pos w0, L_numberB (bad_cg b2 (by simp [zup3_v]))]
      rfl
    · simp [zup3_v]; exact e17
    · simp [zup3_v]; exact e18
  · refine ⟨errM Fm Bm 2, ?_, hG_e hG_r, e17, e18⟩
    unfold f_M_head f_M_headLet f_M_head_152
    simp only [t 7038329 (by decide), t 1953066341 (by decide), t 499917877359 (by decide), zb_s, ir0, ir1, if_true, if_false, Int.reduceEq, ht, wrg]
    rw [if_pos (show r32 6 by decide)]
    rfl
/-- the class where no voice is: it refuses -/
theorem C_93n {K : zK} {Km : Nat} {N j p : Int} {F : zF} {B : zB} {Fm : zF} {Bm : zB} (hE : EV K Km N B Bm) (hS : PS N j F B Fm Bm) (hn : wdm Bm j 508675318629 = 0) : f_Parser_parse_93 K 1 0 p F B = some ((refF F 2) 3 0 21, refF F 2, B, K) := by
  have k3 := hE.2.2.2.1
  have k10 := hE.2.2.2.2.1
  have k1 := hE.2.2.2.2.2.1
  have wv := PS_wn (c := 508675318629) hE hS (by decide)
  unfold f_Parser_parse_93 f_Parser_parse_116
  rw [if_pos (by decide), if_neg (by decide), if_pos ⟨Int.le_refl _, k3⟩, hS.1, if_pos ⟨Int.le_refl _, k10⟩, wv.1]
  simp only [zbN_s]
  rw [hn, if_pos (by decide), if_pos rfl, C_refuse (PS_CX hE hS)]
  simp only [zbN_s]
  rw [C_119e k3 (by decide) (by first | decide | omega)]
theorem C_93e {K : zK} {p : Int} {F : zF} {B : zB} (k3 : 0 < K.2 3) (k1 : 3002 ≤ K.1) : f_Parser_parse_93 K 0 0 p F B = some (F 3 0 21, F, B, K) := by
  unfold f_Parser_parse_93 f_Parser_parse_116
  rw [if_pos (by decide), if_pos rfl, C_119e k3 (by decide) (by first | decide | omega)]
theorem C_43e {K : zK} {n : Nat} {l p : Int} {F : zF} {B : zB} (k3 : 0 < K.2 3) (k1 : 3002 ≤ K.1) (hl : r32 l) (hn : 0 < n) : f_Parser_parse_43 n K l 0 0 p F B = some (F 3 0 21, F, B, K) := by
  obtain ⟨n, rfl⟩ : ∃ y, n = y + 1 := ⟨n - 1, (by first | decide | omega)⟩
  rw [f_Parser_parse_43]
  rw [if_pos hl, C_93e k3 k1]
  by_cases a : 9 ≤ l
  · rw [if_pos a]
  · rw [if_neg a, if_pos (by decide), if_pos rfl]
theorem L_84B {Km n : Nat} {Fm : zF} {Bm : zB} (hb : bad Fm) (hn : 0 < n) (hK : 3002 ≤ Km) : f_M_text_84 Km n Fm Bm = some (0, Fm, Bm) := by
  obtain ⟨n, rfl⟩ : ∃ y, n = y + 1 := ⟨n - 1, (by first | decide | omega)⟩
  unfold f_M_text_84 f_M_text_138
  rw [L_goodB hb]
  simp only [zb_s, ir0, if_true]
  exact L_140B hb (by first | decide | omega)
theorem P_hstep {K : zK} {Km : Nat} {N p w : Int} {F0 : zF} {B0 : zB} {Fm0 : zF} {Bm0 : zB} {q n m : Nat} {L l j : Int} {F : zF} {B : zB} {Fm : zF} {Bm : zB} (hl : l = 9 - q) (hn : q + 1 < n) (hm : q + 2 < m) (hI : VI K Km N L 0 j p w F B Fm Bm) (hcnt : l = L + Fm 14 0 22 + Fm 14 0 23 + Fm 14 0 24) (hVF : VF K p w F0 B0 Fm0 Bm0 K F B Fm Bm) (ih : 0 < q → ∀ {n m : Nat} {L l j : Int} {F : zF} {B : zB} {Fm : zF} {Bm : zB}, l = 9 - (q - 1 : Nat) → q < n → q + 1 < m → VI K Km N L 0 j p w F B Fm Bm → l = L + Fm 14 0 22 + Fm 14 0 23 + Fm 14 0 24 → VF K p w F0 B0 Fm0 Bm0 K F B Fm Bm → zPm (f_Parser_parse_43 n K l 1 0 p F B) (f_M_text_84 Km m Fm Bm) (fun r F' B' K' _ Fm' Bm' => TPO K Km N p w F0 B0 Fm0 Bm0 r F' B' K' Fm' Bm')) : zPm (f_Parser_parse_43 n K l 1 0 p F B) (f_M_text_84 Km m Fm Bm) (fun r F' B' K' _ Fm' Bm' => TPO K Km N p w F0 B0 Fm0 Bm0 r F' B' K' Fm' Bm') := by
  have hI0 := hI
  obtain ⟨⟨hE, hS, hP, hLT, hit, hi0, hdep, hSL⟩, hGS, f1, fm1, hV3, hVv⟩ := hI
  have hX := PS_CX hE hS
  have hM := PS_MX hE hS
  have hg := hS.2.2.2.1
  have k3 := hE.2.2.2.1
  have k10 := hE.2.2.2.2.1
  have k1 := hE.2.2.2.2.2.1
  have km := hE.2.2.2.2.2.2
  have jj := hS.2.1.1
  have ek := hS.2.1.2.1
  have l1 := hLT.1
  have l2 := hLT.2.1
  have l3 := hLT.2.2.1
  obtain ⟨p0, w0, h6, q2, q3, q4, q5, q6, q17, q22, q23, q24⟩ := hP
  have hP0 : HP K p w F Fm := ⟨p0, w0, h6, q2, q3, q4, q5, q6, q17, q22, q23, q24⟩
  have z8 := zor8i q22 q23 q24
  rw [← q17] at z8
  have b22 : 0 ≤ Fm 14 0 22 ∧ Fm 14 0 22 ≤ 1 := by rcases q22 with t | t <;> rw [t] <;> decide
  have b23 : 0 ≤ Fm 14 0 23 ∧ Fm 14 0 23 ≤ 1 := by rcases q23 with t | t <;> rw [t] <;> decide
  have b24 : 0 ≤ Fm 14 0 24 ∧ Fm 14 0 24 ≤ 1 := by rcases q24 with t | t <;> rw [t] <;> decide
  have u22 := fun _ : Unit => q22
  have u23 := fun _ : Unit => q23
  have u24 := fun _ : Unit => q24
  clear q22 q23 q24
  have hl0 : 0 ≤ l := by omega
  obtain ⟨n, rfl⟩ : ∃ y, n = y + 1 := ⟨n - 1, (by first | decide | omega)⟩
  obtain ⟨m, rfl⟩ : ∃ y, m = y + 1 := ⟨m - 1, (by first | decide | omega)⟩
  have cb := C_begins hX (by first | decide | omega)
  have cstep : ∀ {u}, bgn F = u → f_Parser_parse_43 (n + 1) K l 1 0 p F B = if 9 ≤ l then f_Parser_parse_93 K 1 0 p F B else if u = 0 then f_Parser_parse_93 K 1 0 p F B else zbindN (f_Tokens_isWord K 0 7103860 F B) (fun r19 F19 B19 => if r32 r19 then (if r19 = 0 then zbindN (f_Parser_takeHead K 0 p F19 B19) (fun r22 F22 B22 => f_Parser_parse_43 n K (l + 1) r22 0 p F22 B22) else zbindN (f_Parser_takeLet K 0 F19 B19) (fun r23 F23 B23 => f_Parser_parse_43 n K (l + 1) r23 0 p F23 B23)) else none) := by
    intro u hu
    have ub : u = 0 ∨ u = 1 := by
      rw [← hu]
      unfold bgn
      split
      · split <;> omega
      · split
        · omega
        · split <;> omega
    rw [f_Parser_parse_43]
    unfold f_Parser_parse_86
    rw [if_pos (by first | decide | omega)]
    by_cases a : 9 ≤ l
    · rw [if_pos a, if_pos a]
    · rw [if_neg a, if_neg a, if_pos (by decide), if_neg (by decide), if_pos ⟨Int.le_refl _, k3⟩, cb, hu]
      simp only [zbN_s]
      rcases ub with rfl | rfl
      · rw [if_pos (by decide), if_pos rfl, if_pos rfl]
      · rw [if_pos (show r32 1 by decide), if_neg (show ¬ (1 : Int) = 0 by decide), hS.1, if_pos ⟨Int.le_refl _, k10⟩, if_neg (show ¬ (1 : Int) = 0 by decide)]
  -- a head word that may not come here
  have refuse : ∀ {c}, wdAt Bm j c → ((c = 7038329 ∧ Fm 14 0 22 = 1) ∨ (c = 1953066341 ∧ Fm 14 0 23 = 1) ∨ (c = 499917877359 ∧ Fm 14 0 24 = 1) ∨ (c = 7103860 ∧ Fm 14 0 27 = 6)) → bgn F = 0 → zPm (f_Parser_parse_43 (n + 1) K l 1 0 p F B) (f_M_text_131 (f_M_text_84 Km m) Km Fm Bm) (fun r F' B' K' _ Fm' Bm' => TPO K Km N p w F0 B0 Fm0 Bm0 r F' B' K' Fm' Bm') := by
    intro c wd hc hb
    have wn : wdm Bm j 508675318629 = 0 := wdm_0.mpr (fun z => by have := z.2; have := wd.2; omega)
    obtain ⟨Fm', e1, e2⟩ := L_told hE hS hP0 wd hc
    have r21 : (refF F 2) 3 0 21 = 2 + 16 * Bm 14 0 8 j := by
      unfold refF
      rw [zup3_v, if_pos ⟨rfl, rfl, rfl⟩, ek, if_neg (by have := wd.1; omega), hS.2.1.2.2.1]
    rw [cstep hb]
    have cl : (if 9 ≤ l then f_Parser_parse_93 K 1 0 p F B else if (0 : Int) = 0 then f_Parser_parse_93 K 1 0 p F B else zbindN (f_Tokens_isWord K 0 7103860 F B) (fun r19 F19 B19 => if r32 r19 then (if r19 = 0 then zbindN (f_Parser_takeHead K 0 p F19 B19) (fun r22 F22 B22 => f_Parser_parse_43 n K (l + 1) r22 0 p F22 B22) else zbindN (f_Parser_takeLet K 0 F19 B19) (fun r23 F23 B23 => f_Parser_parse_43 n K (l + 1) r23 0 p F23 B23)) else none)) = f_Parser_parse_93 K 1 0 p F B := by
      by_cases a : 9 ≤ l
      · rw [if_pos a]
      · rw [if_neg a, if_pos rfl]
    rw [cl, C_93n hE hS wn]
    unfold f_M_text_131
    rw [e1]
    simp only [zb_s]
    rw [L_84B (TLD_b e2) (by first | decide | omega) km]
    refine zPm_s ⟨VF_t hVF (VF_h (hF_e hF_r) e2.1 tB_r tM_r), hGS, Or.inr ⟨?_, TLD_b e2⟩⟩
    rw [r21, e2.2.1, e2.2.2]
    exact ⟨rfl, (hE.1.2.2 j hS.2.1.1.1 hS.2.1.1.2).2.2.2.2.2.2.2.2.2.1⟩
  -- a head that is taken
  have take : ∀ {c}, wdAt Bm j c → (c = 7038329 ∨ c = 1953066341 ∨ c = 499917877359) → bgn F = 1 → l < 9 → zP (f_Parser_takeHead K 0 p F B) (f_M_head Km Fm Bm) (fun r F' B' _ Fm' Bm' => HPO K N j p w 1 F B Fm Bm r F' B' Fm' Bm') → zPm (f_Parser_parse_43 (n + 1) K l 1 0 p F B) (f_M_text_131 (f_M_text_84 Km m) Km Fm Bm) (fun r F' B' K' _ Fm' Bm' => TPO K Km N p w F0 B0 Fm0 Bm0 r F' B' K' Fm' Bm') := by
    intro c wd hc hb hl9 hh
    have wl : f_Tokens_isWord K 0 7103860 F B = some (0, F, B) := by
      rw [C_isWord hX (by decide), PS_wd hE hS, show wdm Bm j 7103860 = 0 from wdm_0.mpr (fun z => by have := z.2; have := wd.2; omega)]
    rw [cstep hb, if_neg (by first | decide | omega), if_neg (by decide), wl]
    simp only [zbN_s, ir0, if_true]
    rw [if_pos (by decide)]
    unfold f_M_text_131
    refine zPm_n hh (fun r F' B' r' Fm' Bm' hr => ?_)
    obtain ⟨g1, g2, g3, g4, g5⟩ := hr
    subst g1
    subst g2
    have vf' : VF K p w F0 B0 Fm0 Bm0 K F' B' Fm' Bm' := VF_t hVF (VF_h g3 g4 tB_r tM_r)
    rcases g5 with ⟨rfl, j', a1, a2, a3, a4, a5, a6, a7, a8, a9⟩ | ⟨rfl, er⟩
    · refine ih (by first | decide | omega) (L := L) (l := l + 1) (j := j') (by first | decide | omega) (by first | decide | omega) (by first | decide | omega) ⟨⟨hE, a2, a3, ⟨(by first | decide | omega), (by first | decide | omega), l3, fun y y0 y1 => hLT.2.2.2 y y0 y1⟩, (by first | decide | omega), (by first | decide | omega), (by first | decide | omega), ?_⟩, hGS, ?_, ?_, (by first | decide | omega), fun v v0 v1 => (by first | decide | omega)⟩ (by first | decide | omega) vf'
      · rw [a4, a8]
        exact SLT_t hSL agB_r agM_r (fun _ _ _ => rfl) (Int.le_refl _) (Int.le_refl _) (by first | decide | omega)
      · rw [g3 6 p 1 (fun z => absurd z.1 (by decide)) (fun z => absurd z.1 (by decide)) (fun z => absurd z.2.2.1 (by decide))]; exact f1
      · rw [g4 13 w 1 (fun z => absurd z.1 (by decide)) (fun z => absurd z.2.2.1 (by decide))]; exact fm1
    · rw [C_43e k3 k1 (by first | decide | omega) (by first | decide | omega), L_84B er.2 (by first | decide | omega) km]
      exact zPm_s ⟨vf', hGS, Or.inr ⟨er.1, er.2⟩⟩
  rw [f_M_text_84]
  rw [L_good hg]
  simp only [zb_s, ir1, i10]
  have tw : ∀ c, r64 c → f_M_isWord Km c Fm Bm = some (wdm Bm j c, Fm, Bm) := fun c hc => L_isWord hM hc
  have wr1 : ∀ c, r32 (wdm Bm j c) := fun c => by have := wdm_r Bm j c; omega
  simp only [tw 7038329 (by decide), tw 1953066341 (by decide), tw 499917877359 (by decide), tw 7103860 (by decide), zb_s]
  rw [if_pos (wr1 _)]
  have vk : Bm 14 0 7 j = 4 → F 10 0 2 = Bm 14 0 11 j := fun k4 => by rw [hS.2.1.2.2.2.1]; exact ((hE.1.2.2 j jj.1 jj.2).2.2.2.2.2.2.1 k4).1
  by_cases c1 : wdm Bm j 7038329 = 0
  · rw [if_pos c1, if_pos (wr1 _)]
    by_cases c2 : wdm Bm j 1953066341 = 0
    · rw [if_pos c2, if_pos (wr1 _)]
      by_cases c3 : wdm Bm j 499917877359 = 0
      · rw [if_pos c3, if_pos (wr1 _)]
        by_cases c4 : wdm Bm j 7103860 = 0
        · -- no head here
          rw [if_pos c4]
          have nb : bgn F = 0 := by
            unfold bgn
            rw [ek]
            by_cases k4 : Bm 14 0 7 j = 4
            · rw [vk k4]
              rw [if_neg (wdm_0.mp c4)]
              have hz : hds (Bm 14 0 7 j) (Bm 14 0 11 j) = 0 := by
                unfold hds
                rw [if_pos k4, if_neg (fun z => wdm_0.mp c1 ⟨k4, z⟩), if_neg (fun z => wdm_0.mp c2 ⟨k4, z⟩), if_neg (fun z => wdm_0.mp c3 ⟨k4, z⟩)]
              rw [if_pos hz]
            · rw [if_neg (fun z => k4 z.1), if_pos (by unfold hds; rw [if_neg k4])]
          have cl : f_Parser_parse_43 (n + 1) K l 1 0 p F B = f_Parser_parse_93 K 1 0 p F B := by
            rw [cstep nb]
            by_cases a : 9 ≤ l
            · rw [if_pos a]
            · rw [if_neg a, if_pos rfl]
          rw [cl]
          unfold f_M_text_138
          by_cases v : wdm Bm j 508675318629 = 0
          · have er := PS_err2 hE hS
            have ref : f_M_text_140 Km Km 1 Fm Bm = some (0, errM Fm Bm (wr Bm j), Bm) := by
              obtain ⟨kk, hkk⟩ : ∃ y, Km = y + 1 + 1 := ⟨Km - 2, (by first | decide | omega)⟩
              have fin : f_M_text_179 (f_M_text_140 Km (kk + 1)) Km Fm Bm = some (0, errM Fm Bm (wr Bm j), Bm) := by
                unfold f_M_text_179 f_M_text_183 f_M_text_206 f_M_text_207
                rw [L_wrong hg hM]
                simp only [zb_s]
                rw [L_goodB er.2]
                simp only [zb_s, ir0, if_true]
                exact L_140B er.2 (by first | decide | omega)
              rw [show f_M_text_140 Km Km 1 Fm Bm = f_M_text_140 Km (kk + 1 + 1) 1 Fm Bm by rw [← hkk]]
              rw [f_M_text_140]
              rw [L_good hg]
              simp only [zb_s, ir1, i10]
              rw [tw 508675318629 (by decide)]
              simp only [zb_s]
              rw [if_pos (wr1 _), if_pos v]; exact fin
            rw [C_93n hE hS v, ref]
            exact zPm_s ⟨VF_t hVF (VF_h (hF_e hF_r) (hG_e hG_r) tB_r tM_r), hGS, Or.inr ⟨er.1, er.2⟩⟩
          · have wd := Decidable.not_not.mp (mt wdm_0.mpr v)
            have wv := PS_wn (c := 508675318629) hE hS (by decide)
            unfold f_Parser_parse_93 f_Parser_parse_116
            rw [if_pos (by decide), if_neg (by decide), if_pos ⟨Int.le_refl _, k3⟩, hS.1, if_pos ⟨Int.le_refl _, k10⟩, wv.1]
            simp only [zbN_s]
            rw [if_pos (wr1 _), if_neg v]
            have key := P_vloop (K0 := K) (q := 4) (n := K.1) (m := Km) (V := 0) (j := j) (by first | decide | omega) (by first | decide | omega) (by first | decide | omega) hI0 hVF (Or.inr wd)
            rw [if_neg (show ¬ Bm 14 0 7 j = 0 by have := wd.1; omega)] at key
            exact key
        · have wd := Decidable.not_not.mp (mt wdm_0.mpr c4)
          rw [if_neg c4]
          have bg : bgn F = if 6 ≤ F 3 0 16 then 0 else 1 := by
            unfold bgn
            rw [if_pos ⟨ek.trans wd.1, (vk wd.1).trans wd.2⟩]
          by_cases L6 : L = 6
          · rw [if_pos (by first | decide | omega)] at bg
            exact refuse wd (Or.inr (Or.inr (Or.inr ⟨rfl, (by first | decide | omega)⟩))) bg
          · rw [if_neg (by first | decide | omega)] at bg
            have wl : f_Tokens_isWord K 0 7103860 F B = some (1, F, B) := by
              rw [C_isWord hX (by decide), PS_wd hE hS]
              have := wdm_r Bm j 7103860
              rw [show wdm Bm j 7103860 = 1 by omega]
            have hd3 : f_M_head Km Fm Bm = zbind (f_M_headLet Km Fm Bm) (fun _ F10 B10 => some (0, F10, B10)) := by
              unfold f_M_head f_M_head_152
              simp only [tw 7038329 (by decide), tw 1953066341 (by decide), tw 499917877359 (by decide), zb_s, c1, c2, c3, ir0, if_true]
            rw [cstep bg, if_neg (by first | decide | omega), if_neg (by decide), wl]
            simp only [zbN_s, ir1, i10]
            rw [if_pos (by decide), if_neg (by decide)]
            unfold f_M_text_131
            rw [hd3, zb_a]
            simp only [zb_s]
            refine zPm_n (P_let hI0.1 wd (by first | decide | omega)) (fun r F' B' r' Fm' Bm' hr => ?_)
            obtain ⟨g1, g2, g3, g4, g5⟩ := hr
            have vf' : VF K p w F0 B0 Fm0 Bm0 K F' B' Fm' Bm' := VF_t hVF (VF_h g1 g2 g3 g4)
            rcases g5 with ⟨rfl, ⟨j', hj', hH'⟩, fl⟩ | ⟨rfl, er⟩
            · have hp' := hH'.2.2.1
              refine ih (by first | decide | omega) (L := L + 1) (l := l + 1) (j := j') (by first | decide | omega) (by first | decide | omega) (by first | decide | omega) ⟨hH', GS_t hGS g3, ?_, ?_, (by first | decide | omega), fun v v0 v1 => (by first | decide | omega)⟩ (by first | decide | omega) vf'
              · rw [g1 6 p 1 (fun z => absurd z.1 (by decide)) (fun z => absurd z.1 (by decide)) (fun z => absurd z.2.2.1 (by decide))]; exact f1
              · rw [g2 13 w 1 (fun z => absurd z.1 (by decide)) (fun z => absurd z.2.2.1 (by decide))]; exact fm1
            · rw [C_43e k3 k1 (by first | decide | omega) (by first | decide | omega), L_84B er.2 (by first | decide | omega) km]
              exact zPm_s ⟨vf', GS_t hGS g3, Or.inr ⟨er.1, er.2⟩⟩
      · have wd := Decidable.not_not.mp (mt wdm_0.mpr c3)
        rw [if_neg c3]
        have hz : hds (F 10 0 0) (F 10 0 2) = 4 := by rw [ek, vk wd.1, wd.1, wd.2]; decide
        have bg : bgn F = if 4 * Fm 14 0 24 = 0 then 1 else 0 := by
          unfold bgn
          rw [if_neg (fun z => by have := z.2; rw [vk wd.1, wd.2] at this; omega), hz, if_neg (by decide), z8.2.2.2.2.2]
        rcases u24 () with t | t
        · rw [if_pos (by first | decide | omega)] at bg
          exact take wd (Or.inr (Or.inr rfl)) bg (by first | decide | omega) (P_tempo hE hS hP0 wd t)
        · rw [if_neg (by first | decide | omega)] at bg
          exact refuse wd (Or.inr (Or.inr (Or.inl ⟨rfl, t⟩))) bg
    · have wd := Decidable.not_not.mp (mt wdm_0.mpr c2)
      rw [if_neg c2]
      have hz : hds (F 10 0 0) (F 10 0 2) = 2 := by rw [ek, vk wd.1, wd.1, wd.2]; decide
      have bg : bgn F = if 2 * Fm 14 0 23 = 0 then 1 else 0 := by
        unfold bgn
        rw [if_neg (fun z => by have := z.2; rw [vk wd.1, wd.2] at this; omega), hz, if_neg (by decide), z8.2.2.2.2.1]
      rcases u23 () with t | t
      · rw [if_pos (by first | decide | omega)] at bg
        exact take wd (Or.inr (Or.inl rfl)) bg (by first | decide | omega) (P_time hE hS hP0 wd t)
      · rw [if_neg (by first | decide | omega)] at bg
        exact refuse wd (Or.inr (Or.inl ⟨rfl, t⟩)) bg
  · have wd := Decidable.not_not.mp (mt wdm_0.mpr c1)
    rw [if_neg c1]
    have hz : hds (F 10 0 0) (F 10 0 2) = 1 := by rw [ek, vk wd.1, wd.1, wd.2]; decide
    have bg : bgn F = if Fm 14 0 22 = 0 then 1 else 0 := by
      unfold bgn
      rw [if_neg (fun z => by have := z.2; rw [vk wd.1, wd.2] at this; omega), hz, if_neg (by decide), z8.2.2.2.1]
    rcases u22 () with t | t
    · rw [if_pos t] at bg
      exact take wd (Or.inl rfl) bg (by first | decide | omega) (P_key hE hS hP0 wd t)
    · rw [if_neg (by first | decide | omega)] at bg
      exact refuse wd (Or.inl ⟨rfl, t⟩) bg
theorem P_hloop {K : zK} {Km : Nat} {N p w : Int} {F0 : zF} {B0 : zB} {Fm0 : zF} {Bm0 : zB} : ∀ {q n m : Nat} {L l j : Int} {F : zF} {B : zB} {Fm : zF} {Bm : zB}, l = 9 - q → q + 1 < n → q + 2 < m → VI K Km N L 0 j p w F B Fm Bm → l = L + Fm 14 0 22 + Fm 14 0 23 + Fm 14 0 24 → VF K p w F0 B0 Fm0 Bm0 K F B Fm Bm → zPm (f_Parser_parse_43 n K l 1 0 p F B) (f_M_text_84 Km m Fm Bm) (fun r F' B' K' _ Fm' Bm' => TPO K Km N p w F0 B0 Fm0 Bm0 r F' B' K' Fm' Bm') := by
  intro q
  induction q with
  | zero =>
    intro n m L l j F B Fm Bm hl hn hm hI hcnt hVF
    exact P_hstep (q := 0) (l := l) (by first | decide | omega) (by first | decide | omega) (by first | decide | omega) hI hcnt hVF (fun h => absurd h (by first | decide | omega))
  | succ q ih =>
    intro n m L l j F B Fm Bm hl hn hm hI hcnt hVF
    exact P_hstep (q := q + 1) (l := l) (by first | decide | omega) (by first | decide | omega) (by first | decide | omega) hI hcnt hVF (fun _ {n m L l j F B Fm Bm} a b c d e f => ih (by first | decide | omega) (by first | decide | omega) (by first | decide | omega) d e f)
end
end
