section
/-! ===== bar lines, loudness, uses, on both sides ===== -/
theorem L_sg {Km : Nat} {Fm : zF} {Bm : zB} {j w c : Int} (hM : MX Fm Bm j) (h : sgAt Bm j w) (hc : r32 c) : f_M_isSign Km c Fm Bm = some (if w = c then 1 else 0, Fm, Bm) := by
  rw [L_isSign hM hc]
  unfold sgm
  rw [h.1, h.2]
  by_cases e : w = c
  · rw [if_pos ⟨rfl, e⟩, if_pos e]
  · rw [if_neg (fun z => e z.2), if_neg e]
theorem fdR_n {row : Int → Int} {m w : Int} : ∀ {f : Nat} {k : Int}, 0 ≤ k → ∀ p, k ≤ p → p < fdR row m w f k → ¬ row p = w := by
  intro f
  induction f with
  | zero => intro k h0 p a b; unfold fdR at b; omega
  | succ f ih =>
    intro k h0 p a b
    unfold fdR at b
    by_cases h : m ≤ k
    · rw [if_pos h] at b; omega
    · rw [if_neg h] at b
      by_cases q : row k = w
      · rw [if_pos q] at b; omega
      · rw [if_neg q] at b
        by_cases e : p = k
        · rw [e]; exact q
        · exact ih (by omega) p (by omega) b
theorem IPO_l {L : Int} {d : Nat} {N j x j' : Int} {F : zF} {B : zB} {Fm : zF} {Bm : zB} {F' : zF} {B' : zB} {Fm' : zF} (hx : x < F 3 0 14) (hj : j < j') (gF : fF F F') (gG : fG Fm Fm') (gX : fX [2] x (F 3 0 15) B B') (hS : PS N j' F' B' Fm' Bm) (e14 : F' 3 0 14 = F 3 0 14) (e15 : F' 3 0 15 = F 3 0 15) (e18 : F' 3 0 18 = F 3 0 18) (h5 : B 3 0 5 x = -1) (hI : ∀ Bx By, (∀ k, k ≤ 7 → k ≠ 5 → Bx 3 0 k x = B' 3 0 k x) → (∀ k, 7 ≤ k → k ≤ 11 → By 14 0 k = Bm 14 0 k) → (∀ q, 0 ≤ q → q < L → Bx 3 0 13 q = B 3 0 13 q ∧ By 14 0 25 q = Bm 14 0 25 q) → IRl L Bx By x j) : IPO L d N j x F B Fm Bm 1 F' B' Fm' (zup4 Bm 14 0 31 j (Fm' 14 0 16)) := by
  have hH : fH j Bm (zup4 Bm 14 0 31 j (Fm' 14 0 16)) := fH_u fH_r (by decide) (by decide) (Int.le_refl _)
  refine ⟨gF, gG, fX_B gX (by decide) (Int.le_refl _), hH, Or.inl ⟨rfl, Or.inl ⟨j', hj, PS_f (lo := 0) (pl := 0) hS fB_r hH, ?_, e18, by omega, by omega, ?_, ?_⟩⟩⟩
  · simp [zup4_v]; exact hS.2.2.1
  · rw [fX_3 gX (by decide) (by decide)]; exact h5
  · intro Bx By a b
    refine IRd_l (hI Bx By (fun k p q => a.1 k x p (Int.le_refl _) (by omega) (fun z => q z.1)) (fun k p q => ?_) (fun q p r => ⟨?_, ?_⟩))
    · rw [b.2.1 k p q, fH_k hH k (by omega)]
    · rw [a.2.2 q p r]; exact gX 3 0 13 q (fun z => absurd z.2.2.1 (by decide)) (fun z => absurd z.2.2.2.1 (by decide))
    · rw [b.2.2 q p r, fH_k hH 25 (by decide)]
theorem P_bar {L : Int} {d : Nat} {K : zK} {Km : Nat} {N j x : Int} {o : oT_CP} {om : oT_P} {F : zF} {B : zB} {Fm : zF} {Bm : zB} (hx : 0 ≤ x ∧ x < 3000) (hxi : x + 1 = F 3 0 14) (hE : EV K Km N B Bm) (hS : PS N j F B Fm Bm) (hF : fresh B Bm x j 1) (sg : sgAt Bm j 124) : zP (fb_Parser_takeItem o K 0 x F B) (fb_M_item om Km Fm Bm) (fun r F' B' _ Fm' Bm' => IPO L d N j x F B Fm Bm r F' B' Fm' Bm') := by
  have hM := PS_MX hE hS
  have h5 := sg.1
  have jj := hS.2.1.1
  have nn := hE.1.2.1
  have t : ∀ c, r32 c → f_M_isSign Km c Fm Bm = some (if 124 = c then 1 else 0, Fm, Bm) := fun c hc => L_sg hM sg hc
  rw [C_item1 (PS_CX hE hS) hx hF.1]
  unfold fb_M_item
  rw [hM.1, if_pos (by omega), if_pos (by omega), if_neg (by omega)]
  simp only [t 60 (by decide), t 124 (by decide), zb_s, ir0, ir1, if_true, if_false, Int.reduceEq, hM.1]
  rw [L_202 (by omega)]
  refine zP_s (IPO_l (j' := j + 1) (by omega) (by omega) (fF_a fF_r) (fG_u fG_r (by decide) (by decide)) fX_r (PS_step hE hS (by omega)) (advF_o (by decide)) (advF_o (by decide)) (advF_o (by decide)) hF.2.2.2.2.2.1 ?_)
  intro Bx By gx w _
  obtain ⟨p1, p0⟩ := IRn_at (R := IRd L d) hF gx w (fun _ _ => rfl)
  exact ⟨p1, Or.inr (Or.inl ⟨p0, sgAt_c sg w⟩)⟩
theorem P_loud {L : Int} {d : Nat} {K : zK} {Km : Nat} {N j x : Int} {o : oT_CP} {om : oT_P} {F : zF} {B : zB} {Fm : zF} {Bm : zB} (hx : 0 ≤ x ∧ x < 3000) (hxi : x + 1 = F 3 0 14) (hE : EV K Km N B Bm) (hS : PS N j F B Fm Bm) (hF : fresh B Bm x j 2) (sg : sgAt Bm j 33) : zP (fb_Parser_takeItem o K 0 x F B) (fb_M_item om Km Fm Bm) (fun r F' B' _ Fm' Bm' => IPO L d N j x F B Fm Bm r F' B' Fm' Bm') := by
  have hM := PS_MX hE hS
  have h5 := sg.1
  have jj := hS.2.1.1
  have nn := hE.1.2.1
  have km := hE.2.2.2.2.2.2
  have t : ∀ c, r32 c → f_M_isSign Km c Fm Bm = some (if 33 = c then 1 else 0, Fm, Bm) := fun c hc => L_sg hM sg hc
  have hS1 := PS_step hE hS (by omega)
  have hX1 := PS_CX hE hS1
  have hM1 := PS_MX hE hS1
  have hg1 := hS1.2.2.2.1
  have jj1 := hS1.2.1.1
  have ek := hS1.2.1.2.1
  have ev := hS1.2.1.2.2.2.1
  have tk := hE.1.2.2 (j + 1) jj1.1 jj1.2
  have cl := C_takeLoud (x := x) hX1 hx
  have lb := fiL_b (w := Bm 14 0 11 (j + 1)) (L := wL)
  have ll : wL.length = 8 := rfl
  rw [C_itemL (PS_CX hE hS) hx hF.1]
  unfold fb_M_item f_M_item_142
  rw [hM.1, if_pos (by omega), if_pos (by omega), if_neg (by omega)]
  simp only [t 60 (by decide), t 124 (by decide), t 33 (by decide), zb_s, ir0, ir1, if_true, if_false, Int.reduceEq, hM.1]
  rw [if_pos (show 0 ≤ j + 1 ∧ j + 1 < 3001 by omega), if_pos (show r32 (Bm 14 0 7 (j + 1)) by have := hM1.2.2.1; omega)]
  have fail : ∀ {r : zO}, f_Parser_takeLoud K 0 x (advF F B) B = some (0, refF (advF F B) 2, B) → r = zbind (f_M_wrong Km (zup3 Fm 14 0 16 (j + 1)) Bm) (fun r40 F40 B40 => f_M_item_202 om Km j F40 B40) → zP (zbind (f_Parser_takeLoud K 0 x (advF F B) B) (fun r F B => if (r = 0 ∨ r = 1) then some (r, F, B) else none)) r (fun r F' B' _ Fm' Bm' => IPO L d N j x F B Fm Bm r F' B' Fm' Bm') := by
    intro r h1 h2
    have er := PS_err2 hE hS1
    rw [h1, h2, L_wrong hg1 hM1]
    simp only [zb_s]
    rw [if_pos (by decide), L_202 (by omega)]
    exact zP_s ⟨fF_e (fF_a fF_r), fG_e (fG_u fG_r (by decide) (by decide)), fB_r, fH_u fH_r (by decide) (by decide) (Int.le_refl _), Or.inr ⟨rfl, er⟩⟩
  by_cases k4 : Bm 14 0 7 (j + 1) = 4
  · have w4 := hM1.2.2.2.2 k4
    have e2 : (advF F B) 10 0 2 = Bm 14 0 11 (j + 1) := by rw [ev]; exact (tk.2.2.2.2.2.2.1 k4).1
    rw [if_pos k4, L_fL km hE.2.1 (by omega)]
    simp only [zb_s]
    rw [if_pos (show r32 (fiL wL (Bm 14 0 11 (j + 1)) 0) by omega)]
    by_cases m : Bm 14 0 11 (j + 1) ∈ wL
    · have f0 : ¬ fiL wL (Bm 14 0 11 (j + 1)) 0 = -1 := fun z => fiL_n.mp z m
      rw [if_pos (show 0 ≤ fiL wL (Bm 14 0 11 (j + 1)) 0 by omega), cl.1 (by rw [ek]; exact k4) (by rw [e2]; exact m), e2]
      simp only [zb_s]
      rw [if_pos (by decide), L_202 (by omega)]
      have hX2 : fX [2] x (F 3 0 15) B (zup4 B 3 0 2 x (fiL wL (Bm 14 0 11 (j + 1)) 0)) := fX_u fX_r (Or.inl ⟨by decide, rfl⟩)
      have hB2 := fX_B (lo := x) hX2 (by decide) (Int.le_refl _)
      have e16 : (zup3 Fm 14 0 16 (j + 1)) 14 0 16 + 1 = j + 1 + 1 := by simp [zup3_v]
      rw [e16]
      refine zP_s (IPO_l (j' := j + 1 + 1) (by omega) (by omega) (fF_a (fF_a fF_r)) (fG_u (fG_u fG_r (by decide) (by decide)) (by decide) (by decide)) hX2 (PS_f (PS_step hE hS1 (by omega)) hB2 (fH_r (fr := 0))) ?_ ?_ ?_ hF.2.2.2.2.2.1 ?_)
      · rw [advF_o (by decide), advF_o (by decide)]
      · rw [advF_o (by decide), advF_o (by decide)]
      · rw [advF_o (by decide), advF_o (by decide)]
      · intro Bx By gx w _
        obtain ⟨p1, p0⟩ := IRn_at (R := IRd L d) hF gx w (fun k hk => by rw [fX_3 hX2 (by simp; omega) (by omega)])
        refine ⟨p1, Or.inr (Or.inr (Or.inl ⟨p0, sgAt_c sg w, ?_, ?_⟩))⟩
        · rw [gx 2 (by decide) (by decide), w 11 (by decide) (by decide)]; simp [zup4_v]
        · rw [gx 2 (by decide) (by decide)]; simp [zup4_v]; omega
    · have f0 : fiL wL (Bm 14 0 11 (j + 1)) 0 = -1 := fiL_n.mpr m
      rw [if_neg (show ¬ 0 ≤ fiL wL (Bm 14 0 11 (j + 1)) 0 by omega)]
      exact fail (cl.2 (fun z => m (by rw [e2] at z; exact z.2))) rfl
  · rw [if_neg k4]
    exact fail (cl.2 (fun z => k4 (by rw [ek] at z; exact z.1))) rfl
end
