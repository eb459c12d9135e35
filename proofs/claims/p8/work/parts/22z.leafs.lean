section
section
/-! ===== bar lines, loudness, uses, on both sides ===== -/
theorem L_sg {Km : Nat} {Fm : zF} {Bm : zB} {j w c : Int} (hM : MX Fm Bm j) (h : sgAt Bm j w) (hc : r32 c) : f_M_isSign Km c Fm Bm = some (if w = c then 1 else 0, Fm, Bm) := by
  rw [L_isSign hM hc]
  unfold sgm
  rw [h.1, h.2]
  by_cases e : w = c
  · rw [if_pos ⟨rfl, e⟩, if_pos e]
  · rw [if_neg (fun z => e z.2), if_neg e]
theorem fdR_n {row : Int → Int} {m w : Int} : ∀ {f : Nat} {k : Int}, 0 ≤ k → ∀ p, k ≤ p → p < fdR row m w f k → ¬ row p = w := by
  intro f
  induction f with
  | zero => intro k h0 p a b; unfold fdR at b; omega
  | succ f ih =>
    intro k h0 p a b
    unfold fdR at b
    by_cases h : m ≤ k
    · rw [if_pos h] at b; omega
    · rw [if_neg h] at b
      by_cases q : row k = w
      · rw [if_pos q] at b; omega
      · rw [if_neg q] at b
        by_cases e : p = k
        · rw [e]; exact q
        · exact ih (by first | decide | omega) p (by first | decide | omega) b
theorem IPO_l {L : Int} {d : Nat} {N j x j' : Int} {F : zF} {B : zB} {Fm : zF} {Bm : zB} {F' : zF} {B' : zB} {Fm' : zF} (hx : x < F 3 0 14) (hj : j < j') (gF : fF F F') (gG : fG Fm Fm') (gX : fX [2] x (F 3 0 15) B B') (hS : PS N j' F' B' Fm' Bm) (e14 : F' 3 0 14 = F 3 0 14) (e15 : F' 3 0 15 = F 3 0 15) (e18 : F' 3 0 18 = F 3 0 18) (h5 : B 3 0 5 x = -1) (hI : ∀ Bx By, (∀ k, k ≤ 7 → k ≠ 5 → Bx 3 0 k x = B' 3 0 k x) → (∀ k, 7 ≤ k → k ≤ 11 → By 14 0 k = Bm 14 0 k) → (∀ q, 0 ≤ q → q < L → Bx 3 0 13 q = B 3 0 13 q ∧ By 14 0 25 q = Bm 14 0 25 q) → IRl L Bx By x j) : IPO L d N j x F B Fm Bm 1 F' B' Fm' (zup4 Bm 14 0 31 j (Fm' 14 0 16)) := by
  have hH : fH j Bm (zup4 Bm 14 0 31 j (Fm' 14 0 16)) := fH_u fH_r (by decide) (by decide) (Int.le_refl _)
  refine ⟨gF, gG, fX_B gX (by decide) (Int.le_refl _), hH, Or.inl ⟨rfl, Or.inl ⟨j', hj, PS_f (lo := 0) (pl := 0) hS fB_r hH, ?_, e18, (by first | decide | omega), (by first | decide | omega), ?_, ?_⟩⟩⟩
  · simp [zup4_v]; exact hS.2.2.1
  · rw [fX_3 gX (by decide) (by decide)]; exact h5
  · intro Bx By a b
    refine IRd_l (hI Bx By (fun k p q => a.1 k x p (Int.le_refl _) (by first | decide | omega) (fun z => q z.1)) (fun k p q => ?_) (fun q p r => ⟨?_, ?_⟩))
    · rw [b.2.1 k p q, fH_k hH k (by first | decide | omega)]
    · rw [a.2.2 q p r]; exact gX 3 0 13 q (fun z => absurd z.2.2.1 (by decide)) (fun z => absurd z.2.2.2.1 (by decide))
    · rw [b.2.2 q p r, fH_k hH 25 (by decide)]
theorem P_bar {L : Int} {d : Nat} {K : zK} {Km : Nat} {N j x : Int} {o : oT_CP} {om : oT_P} {F : zF} {B : zB} {Fm : zF} {Bm : zB} (hx : 0 ≤ x ∧ x < 3000) (hxi : x + 1 = F 3 0 14) (hE : EV K Km N B Bm) (hS : PS N j F B Fm Bm) (hF : fresh B Bm x j 1) (sg : sgAt Bm j 124) : zP (fb_Parser_takeItem o K 0 x F B) (fb_M_item om Km Fm Bm) (fun r F' B' _ Fm' Bm' => IPO L d N j x F B Fm Bm r F' B' Fm' Bm') := by
  have hM := PS_MX hE hS
  have h5 := sg.1
  have jj := hS.2.1.1
  have nn := hE.1.2.1
  have t : ∀ c, r32 c → f_M_isSign Km c Fm Bm = some (if 124 = c then 1 else 0, Fm, Bm) := fun c hc => L_sg hM sg hc
  rw [C_item1 (PS_CX hE hS) hx hF.1]
  unfold fb_M_item
  rw [hM.1, if_pos (by first | decide | omega), if_pos (by first | decide | omega), if_neg (by first | decide | omega)]
  simp only [t 60 (by decide), t 124 (by decide), zb_s, ir0, ir1, if_true, if_false, Int.reduceEq, hM.1]
  rw [L_202 (by first | decide | omega)]
  refine zP_s (IPO_l (j' := j + 1) (by first | decide | omega) (by first | decide | omega) (fF_a fF_r) (fG_u fG_r (by decide) (by decide)) fX_r (PS_step hE hS (by first | decide | omega)) (advF_o (by decide)) (advF_o (by decide)) (advF_o (by decide)) hF.2.2.2.2.2.1 ?_)
  intro Bx By gx w _
  obtain ⟨p1, p0⟩ := IRn_at (R := IRd L d) hF gx w (fun _ _ => rfl)
  exact ⟨p1, Or.inr (Or.inl ⟨p0, sgAt_c sg w⟩)⟩
theorem P_loud {L : Int} {d : Nat} {K : zK} {Km : Nat} {N j x : Int} {o : oT_CP} {om : oT_P} {F : zF} {B : zB} {Fm : zF} {Bm : zB} (hx : 0 ≤ x ∧ x < 3000) (hxi : x + 1 = F 3 0 14) (hE : EV K Km N B Bm) (hS : PS N j F B Fm Bm) (hF : fresh B Bm x j 2) (sg : sgAt Bm j 33) : zP (fb_Parser_takeItem o K 0 x F B) (fb_M_item om Km Fm Bm) (fun r F' B' _ Fm' Bm' => IPO L d N j x F B Fm Bm r F' B' Fm' Bm') := by
  have hM := PS_MX hE hS
  have h5 := sg.1
  have jj := hS.2.1.1
  have nn := hE.1.2.1
  have km := hE.2.2.2.2.2.2
  have t : ∀ c, r32 c → f_M_isSign Km c Fm Bm = some (if 33 = c then 1 else 0, Fm, Bm) := fun c hc => L_sg hM sg hc
  have hS1 := PS_step hE hS (by first | decide | omega)
  have hX1 := PS_CX hE hS1
  have hM1 := PS_MX hE hS1
  have hg1 := hS1.2.2.2.1
  have jj1 := hS1.2.1.1
  have ek := hS1.2.1.2.1
  have ev := hS1.2.1.2.2.2.1
  have tk := hE.1.2.2 (j + 1) jj1.1 jj1.2
  have cl := C_takeLoud (x := x) hX1 hx
  have lb := fiL_b (w := Bm 14 0 11 (j + 1)) (L := wL)
  have ll : wL.length = 8 := rfl
  rw [C_itemL (PS_CX hE hS) hx hF.1]
  unfold fb_M_item f_M_item_142
  rw [hM.1, if_pos (by first | decide | omega), if_pos (by first | decide | omega), if_neg (by first | decide | omega)]
  simp only [t 60 (by decide), t 124 (by decide), t 33 (by decide), zb_s, ir0, ir1, if_true, if_false, Int.reduceEq, hM.1]
  rw [if_pos (show 0 ≤ j + 1 ∧ j + 1 < 3001 by omega), if_pos (show r32 (Bm 14 0 7 (j + 1)) by have := hM1.2.2.1; omega)]
  have fail : ∀ {r : zO}, f_Parser_takeLoud K 0 x (advF F B) B = some (0, refF (advF F B) 2, B) → r = zbind (f_M_wrong Km (zup3 Fm 14 0 16 (j + 1)) Bm) (fun r40 F40 B40 => f_M_item_202 om Km j F40 B40) → zP (zbind (f_Parser_takeLoud K 0 x (advF F B) B) (fun r F B => if (r = 0 ∨ r = 1) then some (r, F, B) else none)) r (fun r F' B' _ Fm' Bm' => IPO L d N j x F B Fm Bm r F' B' Fm' Bm') := by
    intro r h1 h2
    have er := PS_err2 hE hS1
    rw [h1, h2, L_wrong hg1 hM1]
    simp only [zb_s]
    rw [if_pos (by decide), L_202 (by first | decide | omega)]
    exact zP_s ⟨fF_e (fF_a fF_r), fG_e (fG_u fG_r (by decide) (by decide)), fB_r, fH_u fH_r (by decide) (by decide) (Int.le_refl _), Or.inr ⟨rfl, er⟩⟩
  by_cases k4 : Bm 14 0 7 (j + 1) = 4
  · have w4 := hM1.2.2.2.2 k4
    have e2 : (advF F B) 10 0 2 = Bm 14 0 11 (j + 1) := by rw [ev]; exact (tk.2.2.2.2.2.2.1 k4).1
    rw [if_pos k4, L_fL km hE.2.1 (by first | decide | omega)]
    simp only [zb_s]
    rw [if_pos (show r32 (fiL wL (Bm 14 0 11 (j + 1)) 0) by omega)]
    by_cases m : Bm 14 0 11 (j + 1) ∈ wL
    · have f0 : ¬ fiL wL (Bm 14 0 11 (j + 1)) 0 = -1 := fun z => fiL_n.mp z m
      rw [if_pos (show 0 ≤ fiL wL (Bm 14 0 11 (j + 1)) 0 by omega), cl.1 (by rw [ek]; exact k4) (by rw [e2]; exact m), e2]
      simp only [zb_s]
      rw [if_pos (by decide), L_202 (by first | decide | omega)]
      have hX2 : fX [2] x (F 3 0 15) B (zup4 B 3 0 2 x (fiL wL (Bm 14 0 11 (j + 1)) 0)) := fX_u fX_r (Or.inl ⟨by decide, rfl⟩)
      have hB2 := fX_B (lo := x) hX2 (by decide) (Int.le_refl _)
      have e16 : (zup3 Fm 14 0 16 (j + 1)) 14 0 16 + 1 = j + 1 + 1 := by simp [zup3_v]
      rw [e16]
      refine zP_s (IPO_l (j' := j + 1 + 1) (by first | decide | omega) (by first | decide | omega) (fF_a (fF_a fF_r)) (fG_u (fG_u fG_r (by decide) (by decide)) (by decide) (by decide)) hX2 (PS_f (PS_step hE hS1 (by first | decide | omega)) hB2 (fH_r (fr := 0))) ?_ ?_ ?_ hF.2.2.2.2.2.1 ?_)
      · rw [advF_o (by decide), advF_o (by decide)]
      · rw [advF_o (by decide), advF_o (by decide)]
      · rw [advF_o (by decide), advF_o (by decide)]
      · intro Bx By gx w _
        obtain ⟨p1, p0⟩ := IRn_at (R := IRd L d) hF gx w (fun k hk => by rw [fX_3 hX2 (by simp; omega) (by first | decide | omega)])
        refine ⟨p1, Or.inr (Or.inr (Or.inl ⟨p0, sgAt_c sg w, ?_, ?_⟩))⟩
        · rw [gx 2 (by decide) (by decide), w 11 (by decide) (by decide)]; simp [zup4_v]
        · rw [gx 2 (by decide) (by decide)]; simp [zup4_v]; omega
    · have f0 : fiL wL (Bm 14 0 11 (j + 1)) 0 = -1 := fiL_n.mpr m
      rw [if_neg (show ¬ 0 ≤ fiL wL (Bm 14 0 11 (j + 1)) 0 by omega)]
      exact fail (cl.2 (fun z => m (by rw [e2] at z; exact z.2))) rfl
  · rw [if_neg k4]
    exact fail (cl.2 (fun z => k4 (by rw [ek] at z; exact z.1))) rfl
end
end
section
section
/-! ===== uses and brackets, on both sides ===== -/
theorem nmF_r (k w : Int) : nmF k w = 0 ∨ nmF k w = 1 := by
  by_cases h : k = 4 ∧ nmC w
  · exact Or.inr (nmF_1 h)
  · exact Or.inl (nmF_0 h)
theorem PS_nm {K : zK} {Km : Nat} {N j : Int} {F : zF} {B : zB} {Fm : zF} {Bm : zB} (hE : EV K Km N B Bm) (h : PS N j F B Fm Bm) : nmF (F 10 0 0) (F 10 0 2) = nmF (Bm 14 0 7 j) (Bm 14 0 11 j) := by
  have tk := hE.1.2.2 j h.2.1.1.1 h.2.1.1.2
  have ek := h.2.1.2.1
  have ev := h.2.1.2.2.2.1
  by_cases a : Bm 14 0 7 j = 4
  · rw [ek, ev, (tk.2.2.2.2.2.2.1 a).1]
  · rw [nmF_0 (fun z => a (ek.symm.trans z.1)), nmF_0 (fun z => a z.1)]
theorem P_use {L : Int} {d : Nat} {K : zK} {Km : Nat} {N j x : Int} {o : oT_CP} {om om' : oT_P} {F : zF} {B : zB} {Fm : zF} {Bm : zB} (hx : 0 ≤ x ∧ x < 3000) (hxi : x + 1 = F 3 0 14) (hE : EV K Km N B Bm) (hS : PS N j F B Fm Bm) (hLT : LT L F B Fm Bm) (hF : fresh B Bm x j 5) (wd : wdAt Bm j 7697253) (ho : ∀ F B, om.2.2.2 F B = fb_M_itemOfWord om' Km F B) : zP (fb_Parser_takeItem o K 0 x F B) (fb_M_item om Km Fm Bm) (fun r F' B' _ Fm' Bm' => IPO L d N j x F B Fm Bm r F' B' Fm' Bm') := by
  have hM := PS_MX hE hS
  have h4 := wd.1
  have jj := hS.2.1.1
  have nn := hE.1.2.1
  have km := hE.2.2.2.2.2.2
  have k3 := hE.2.2.2.1
  have k10 := hE.2.2.2.2.1
  have t : ∀ c, r64 c → f_M_isWord Km c Fm Bm = some (if 7697253 = c then 1 else 0, Fm, Bm) := fun c hc => L_wd hM wd hc
  have hS1 := PS_step hE hS (by first | decide | omega)
  have hX1 := PS_CX hE hS1
  have hM1 := PS_MX hE hS1
  have hg1 := hS1.2.2.2.1
  have jj1 := hS1.2.1.1
  have ek := hS1.2.1.2.1
  have ev := hS1.2.1.2.2.2.1
  have tk := hE.1.2.2 (j + 1) jj1.1 jj1.2
  have gF : fF F (advF F B) := fF_a fF_r
  have gG : fG Fm (zup3 Fm 14 0 16 (j + 1)) := fG_u fG_r (by decide) (by decide)
  have e11 := hS1.1
  obtain ⟨l1, l2, l3, l4⟩ := hLT
  have nr := nmF_r (Bm 14 0 7 (j + 1)) (Bm 14 0 11 (j + 1))
  have a16 : (advF F B) 3 0 16 = L := (advF_o (by decide)).trans l1
  have b27 : (zup3 Fm 14 0 16 (j + 1)) 14 0 27 = L := by simp [zup3_v]; exact l2
  rw [C_itemU (PS_CX hE hS) hx hF.1, L_itemW hM wd ho]
  unfold fb_M_itemOfWord f_M_itemOfWord_389 f_Parser_takeUse
  simp only [t 114 (by decide), t 125780002955636 (by decide), t 7697253 (by decide), zb_s, ir0, ir1, if_true, if_false, Int.reduceEq, hM.1, L_isName km hM1 hE.2.1, C_isName hX1, PS_nm hE hS1]
  rw [if_pos ⟨(by first | decide | omega), k3⟩, if_pos (show r32 (nmF (Bm 14 0 7 (j + 1)) (Bm 14 0 11 (j + 1))) by omega), if_pos (show r32 (nmF (Bm 14 0 7 (j + 1)) (Bm 14 0 11 (j + 1))) by omega)]
  by_cases z : nmF (Bm 14 0 7 (j + 1)) (Bm 14 0 11 (j + 1)) = 0
  · have er := PS_err2 hE hS1
    rw [if_pos z, if_pos z, C_refuse hX1, L_wrong hg1 hM1]
    simp only [zb_s]
    rw [if_pos (by decide)]
    simp only [zb_s]
    rw [if_pos (by decide), L_202 (by first | decide | omega)]
    exact zP_s ⟨fF_e gF, fG_e gG, fB_r, fH_u fH_r (by decide) (by decide) (Int.le_refl _), Or.inr ⟨rfl, er⟩⟩
  · have k4 : Bm 14 0 7 (j + 1) = 4 := by
      by_cases q : Bm 14 0 7 (j + 1) = 4 ∧ nmC (Bm 14 0 11 (j + 1))
      · exact q.1
      · exact absurd (nmF_0 q) z
    have w4 := hM1.2.2.2.2 k4
    have e2 : (advF F B) 10 0 2 = Bm 14 0 11 (j + 1) := by rw [ev]; exact (tk.2.2.2.2.2.2.1 k4).1
    have ef : fdR (B 3 0 12) L (Bm 14 0 11 (j + 1)) 22 0 = fdR (Bm 14 0 25) L (Bm 14 0 11 (j + 1)) 22 0 := fdR_c (fun y p q => (l4 y p q).1)
    have ln := C_letNamed (w := Bm 14 0 11 (j + 1)) hX1 (by first | decide | omega) (fun y p q => (l4 y p (by first | decide | omega)).2.1) (by first | decide | omega)
    rw [a16, ef] at ln
    have mn := L_find (K := Km) (c := 14) (i := 0) (k := 25) (m := L) (w := Bm 14 0 11 (j + 1)) (F := zup3 Fm 14 0 16 (j + 1)) (B := Bm) km (by decide) (by rw [show (lnM 14 0 25 : Int) = 6 by decide]; omega) (by decide) (by decide) (by first | decide | omega) (fun y p q => by rw [← (l4 y p q).1]; exact (l4 y p q).2.1) (by first | decide | omega)
    have e16 : (zup3 Fm 14 0 16 (j + 1)) 14 0 16 = j + 1 := by simp [zup3_v]
    rw [if_neg z, if_neg z, e11, if_pos ⟨(by first | decide | omega), k10⟩, e2, e16, if_pos (show 0 ≤ j + 1 ∧ j + 1 < 3001 by omega), b27, mn]
    rcases fdR_r (row := Bm 14 0 25) (m := L) (w := Bm 14 0 11 (j + 1)) (f := 22) (k := 0) (by first | decide | omega) with n1 | ⟨n1, n2, n3⟩
    · have er := PS_err (s := 4) (s' := 4) hE hS1 (by rw [if_neg (by first | decide | omega)]) (by decide)
      rw [n1, if_pos (show (-1 : Int) < 0 by decide)] at ln
      rw [ln, n1]
      simp only [zb_s]
      rw [if_pos (show r32 (-1) by decide), if_pos trivial, if_pos (show r32 (-1) by decide), if_neg (show ¬ (0 : Int) ≤ -1 by decide), C_refuse hX1, L_fail hg1 (by rw [e16]; omega)]
      simp only [zb_s]
      rw [if_pos (by decide)]
      simp only [zb_s]
      rw [if_pos (by decide), L_202 (by first | decide | omega)]
      exact zP_s ⟨fF_e gF, fG_e gG, fB_r, fH_u fH_r (by decide) (by decide) (Int.le_refl _), Or.inr ⟨rfl, er⟩⟩
    · have nmn := fdR_n (row := Bm 14 0 25) (m := L) (w := Bm 14 0 11 (j + 1)) (f := 22) (k := 0) (Int.le_refl _)
      have rt := l4 _ n1 n2
      have hr13 := rt.2.2
      have hroot : 0 ≤ B 3 0 13 (fdR (Bm 14 0 25) L (Bm 14 0 11 (j + 1)) 22 0) ∧ B 3 0 13 (fdR (Bm 14 0 25) L (Bm 14 0 11 (j + 1)) 22 0) < 3000 := hr13
      rw [if_neg (show ¬ fdR (Bm 14 0 25) L (Bm 14 0 11 (j + 1)) 22 0 < 0 by omega)] at ln
      rw [ln]
      simp only [zb_s]
      rw [if_pos (show r32 (B 3 0 13 (fdR (Bm 14 0 25) L (Bm 14 0 11 (j + 1)) 22 0)) by omega), if_neg (show ¬ B 3 0 13 (fdR (Bm 14 0 25) L (Bm 14 0 11 (j + 1)) 22 0) = -1 by omega), if_pos (show r32 (fdR (Bm 14 0 25) L (Bm 14 0 11 (j + 1)) 22 0) by omega), if_pos n1, if_pos hx, e11, if_pos ⟨(by first | decide | omega), k10⟩, C_adv (CX_b hX1), advF_b, e16]
      simp only [zb_s]
      rw [if_pos (by decide), L_202 (by first | decide | omega)]
      have hX2 : fX [2] x (F 3 0 15) B (zup4 B 3 0 2 x (B 3 0 13 (fdR (Bm 14 0 25) L (Bm 14 0 11 (j + 1)) 22 0))) := fX_u fX_r (Or.inl ⟨by decide, rfl⟩)
      have hB2 := fX_B (lo := x) hX2 (by decide) (Int.le_refl _)
      refine zP_s (IPO_l (j' := j + 1 + 1) (by first | decide | omega) (by first | decide | omega) (fF_a gF) (fG_u gG (by decide) (by decide)) hX2 (PS_f (PS_step hE hS1 (by first | decide | omega)) hB2 (fH_r (fr := 0))) ?_ ?_ ?_ hF.2.2.2.2.2.1 ?_)
      · rw [advF_o (by decide), advF_o (by decide)]
      · rw [advF_o (by decide), advF_o (by decide)]
      · rw [advF_o (by decide), advF_o (by decide)]
      · intro Bx By gx w lr
        obtain ⟨p1, p0⟩ := IRn_at (R := IRd L d) hF gx w (fun k hk => by rw [fX_3 hX2 (by simp; omega) (by first | decide | omega)])
        refine ⟨p1, Or.inr (Or.inr (Or.inr ⟨p0, wdAt_c wd w, fdR (Bm 14 0 25) L (Bm 14 0 11 (j + 1)) 22 0, ⟨n1, n2⟩, ?_, ?_, ?_⟩))⟩
        · rw [(lr _ n1 n2).2, w 11 (by decide) (by decide)]; exact n3
        · rw [(lr _ n1 n2).1, gx 2 (by decide) (by decide)]; simp [zup4_v]
        · intro p q0 q1
          rw [(lr p q0 (by first | decide | omega)).2, w 11 (by decide) (by decide)]
          exact nmn p q0 q1
end
end
