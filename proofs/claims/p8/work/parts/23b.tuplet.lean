section
/-! ===== brackets, on both sides ===== -/
theorem P_tup {L : Int} {d : Nat} {K : zK} {Km : Nat} {N j x : Int} {o o' o'' : oT_CP} {om om' : oT_P} {F : zF} {B : zB} {Fm : zF} {Bm : zB} (hx : 0 ≤ x ∧ x < 3000) (hxi : x + 1 = F 3 0 14) (hij : F 3 0 14 ≤ j + 1) (hE : EV K Km N B Bm) (hS : PS N j F B Fm Bm) (hd : F 3 0 18 + d = 8) (hdp : 1 ≤ F 3 0 18) (hLT : LT L F B Fm Bm) (hF : fresh B Bm x j 3) (sg : sgAt Bm j 91) (hoc : ∀ l0 l1 F B, o.2.2.2.1 l0 l1 F B = fb_Parser_takeBracket o' K l0 l1 F B) (hoc2 : ∀ l0 l1 F B, o'.2.1 l0 l1 F B = fb_Parser_takeMusic o'' K l0 l1 F B) (hom : ∀ F B, om.2.2.1 F B = fb_M_tuplet om' Km F B) (hI : ∀ d', d = d' + 1 → ItemSim L K Km N d' o''.2.2.1 om'.2.1) (hB : ItemBad K Km N om'.2.1) : zP (fb_Parser_takeItem o K 0 x F B) (fb_M_item om Km Fm Bm) (fun r F' B' _ Fm' Bm' => IPO L d N j x F B Fm Bm r F' B' Fm' Bm') := by
  have hg := hS.2.2.2.1
  have hX := PS_CX hE hS
  have hM := PS_MX hE hS
  have h5 := sg.1
  have jj := hS.2.1.1
  have nn := hE.1.2.1
  have hdd := hS.2.2.2.2.2.1
  have k3 := hE.2.2.2.1
  have k1 := hE.2.2.2.2.2.1
  have km := hE.2.2.2.2.2.2
  have t : ∀ c, r32 c → f_M_isSign Km c Fm Bm = some (if 91 = c then 1 else 0, Fm, Bm) := fun c hc => L_sg hM sg hc
  have s91 : sgm Bm j 91 = 1 := by unfold sgm; rw [if_pos (show Bm 14 0 7 j = 5 ∧ Bm 14 0 9 j = 91 from sg)]
  have lpB : ∀ {F : zF} {B : zB}, bad F → f_M_tuplet_41 om' Km Km j F B = some (0, F, B) := by
    intro F B hb
    obtain ⟨m, rfl⟩ : ∃ y, Km = y + 1 := ⟨Km - 1, (by first | decide | omega)⟩
    unfold f_M_tuplet_41 f_M_tuplet_64
    rw [L_goodB hb]
    simp only [zb_s]
    rw [if_pos (by decide), if_pos trivial, L_closingB hb]
    rfl
  have hH0 : ∀ {Bm' : zB} {v : Int}, fH j Bm' (zup4 Bm' 14 0 31 j v) := fH_u fH_r (by decide) (by decide) (Int.le_refl _)
  rw [C_itemT hX hx hF.1, hoc]
  unfold fb_M_item
  rw [hM.1, if_pos (by first | decide | omega), if_pos (by first | decide | omega), if_neg (by first | decide | omega)]
  simp only [t 60 (by decide), t 124 (by decide), t 33 (by decide), t 91 (by decide), zb_s, ir0, ir1, if_true, if_false, Int.reduceEq]
  rw [hom]
  unfold fb_Parser_takeBracket fb_M_tuplet f_Parser_takeBracket_50 f_Parser_takeBracket_51
  simp only [show ∀ {a b : zO}, (if ((0 : Int) = 0 ∨ (0 : Int) = 1) then a else b) = a from fun {a b} => if_pos (Or.inl rfl), show ∀ {a b : zO}, (if ((1 : Int) = 0 ∨ (1 : Int) = 1) then a else b) = a from fun {a b} => if_pos (Or.inr rfl)]
  rw [if_pos ⟨(by first | decide | omega), k3⟩, C_takeOpening hX (by decide) hdd.2, L_opening hg hM (by decide) (by first | decide | omega), PS_sg hE hS, hM.1, s91, i10, i10]
  by_cases d8 : F 3 0 18 = 8
  · have er := PS_err (s := 3) (s' := 3) hE hS (by rw [if_neg (by first | decide | omega)]) (by decide)
    rw [if_pos d8, if_pos (by first | decide | omega)]
    simp only [zb_s, zb_a]
    rw [if_pos (by decide), if_pos trivial, if_pos (by decide), L_numberB er.2]
    simp only [zb_s]
    rw [L_needB er.2]
    simp only [zb_s]
    rw [L_numberB er.2]
    simp only [zb_s]
    rw [L_needB er.2]
    simp only [zb_s]
    rw [lpB er.2]
    simp only [zb_s]
    rw [if_pos (by decide), L_202 (by first | decide | omega)]
    exact zP_s ⟨fF_e fF_r, fG_e fG_r, fB_r, hH0, Or.inr ⟨rfl, er⟩⟩
  · rw [if_neg d8, if_neg (by first | decide | omega)]
    simp only [zb_s, zb_a]
    obtain ⟨d', rfl⟩ : ∃ y, d = y + 1 := ⟨d - 1, (by first | decide | omega)⟩
    have hS1 := PS_step hE (PS_d (d := F 3 0 18 + 1) hS (by first | decide | omega) (PS_pw hS hdp)) (by first | decide | omega)
    have e19 : Fm 14 0 19 = F 3 0 18 := hdd.1.symm
    rw [if_pos (show r32 1 by decide), if_neg (show ¬ (1 : Int) = 0 by decide), e19, zb_a]
    have a14 : (advF (zup3 F 3 0 18 (F 3 0 18 + 1)) B) 3 0 14 = F 3 0 14 := by rw [advF_o (by decide)]; simp [zup3_v]
    have a15 : (advF (zup3 F 3 0 18 (F 3 0 18 + 1)) B) 3 0 15 = F 3 0 15 := by rw [advF_o (by decide)]; simp [zup3_v]
    have a18 : (advF (zup3 F 3 0 18 (F 3 0 18 + 1)) B) 3 0 18 = F 3 0 18 + 1 := by rw [advF_o (by decide)]; simp [zup3_v]
    have gF : fF F (advF (zup3 F 3 0 18 (F 3 0 18 + 1)) B) := fF_a (fF_u fF_r (by decide))
    have gG : fG Fm (zup3 (zup3 Fm 14 0 19 (F 3 0 18 + 1)) 14 0 16 (j + 1)) := fG_u (fG_u fG_r (by decide) (by decide)) (by decide) (by decide)
    refine P_frac hx hE hS1 (by decide) (by decide) ?_ ?_
    · intro F1 B1 Fm1 r1 q1 q2 q3 q4 q5 q6 q7 q8 q9
      rw [a14] at q7
      rw [a15] at q3 q8
      rw [a18] at q9
      have hB1 := fX_B (lo := x) q3 (by decide) (Int.le_refl _)
      have hE1 := EV_f hE hB1 (fH_r (fr := 0))
      simp only [ir1, i10, zb_a]
      rcases P_sig hE1 q4 (c := 58) (by decide) with ⟨g58, c2, m2, hS2⟩ | ⟨c2, m2, er⟩
      · rw [c2, m2]
        simp only [zb_s, ir1, i10]
        rw [hoc2]
        unfold fb_Parser_takeMusic
        have gF2 : fF F (advF F1 B1) := fF_a (fF_t gF q1)
        have gG2 : fG Fm (zup3 Fm1 14 0 16 (j + 1 + 3 + 1)) := fG_u (fG_t gG q2) (by decide) (by decide)
        have hLT2 := LT_k (fr := 0) (j := 0) hLT gF2 gG2 (fB_K hB1) (by decide) (fJ_H fH_r (Int.le_refl _))
        have b14 : (advF F1 B1) 3 0 14 = F 3 0 14 := by rw [advF_o (by decide)]; exact q7
        have b15 : (advF F1 B1) 3 0 15 = F 3 0 15 := by rw [advF_o (by decide)]; exact q8
        have b18 : (advF F1 B1) 3 0 18 = F 3 0 18 + 1 := by rw [advF_o (by decide)]; exact q9
        simp only [zb_a]
        rw [← zb_a]
        refine zP_c (P_music (o := o'') (lp := fun n F B => f_M_tuplet_41 om' Km n j F B) (c := 93) (fr := j) (kc := fun r11 F11 B11 => if r32 r11 then (if r11 = 0 then some (0, F11, B11) else zbind (f_Parser_takeClosing K 0 93 F11 B11) (fun r14 F14 B14 => if r32 r14 then (if r14 = 0 then some (0, F14, B14) else some (1, F14, B14)) else none)) else none) (hI d' rfl) hB (Or.inr rfl) jj.1 ?_ ?_ ?_ (q := 3001) (m := K.1) (m' := Km) (i := 0) (last := -1) (par := x) (j := j + 1 + 3 + 1) (x0 := x) (k0 := 4) (by first | decide | omega) (by first | decide | omega) (by first | decide | omega) (by first | decide | omega) (by first | decide | omega) (by first | decide | omega) (Or.inl ⟨rfl, rfl, rfl⟩) hx.1 (by first | decide | omega) hx (by first | decide | omega) hE1 hS2 (by first | decide | omega) (by first | decide | omega) hLT2 (by rw [fX_3 q3 (by decide) (by decide)]; exact hF.2.2.2.2.1)) (fun r F' B' r' Fm' Bm' hh => ?_)
        · intro n F B
          rfl
        · intro F B
          rfl
        · intro F B hX
          show (if r32 1 then (if (1 : Int) = 0 then _ else zbind (f_Parser_takeClosing K 0 93 F B) _) else none) = _
          rw [if_pos (by decide), if_neg (by decide), C_takeClosing hX (by decide)]
          by_cases w : sgn F 93 = 0
          · rw [if_pos w]; rfl
          · rw [if_neg w]; rfl
        · obtain ⟨g1, g2, g3, g4, g5⟩ := hh
          rw [b14, b15] at g3
          have hr : r = 0 ∨ r = 1 := by
            rcases g5 with z | z
            · exact Or.inr z.1
            · exact Or.inl z.1
          have gB : fB x (F 3 0 15) B B' := fun c i k y a b => by
            rw [g3 c i k y (fun z => a ⟨z.1, z.2.1, z.2.2.1, by have := z.2.2.2; omega⟩) b (fun z => a ⟨z.1, z.2.1, by have := z.2.2.1; omega, by have := z.2.2.2; omega⟩)]
            exact hB1 c i k y a b
          rw [if_pos hr, L_202 (by first | decide | omega)]
          refine zP_s ⟨fF_t gF2 g1, fG_t gG2 g2, gB, fH_t (fJ_fH g4 (by first | decide | omega)) hH0, ?_⟩
          rcases g5 with ⟨rfl, j', n, v1, v2, v3, v4, v5, v6, v7⟩ | er
          · have gk : ∀ k, k ≤ 7 → k ≠ 4 → B' 3 0 k x = B1 3 0 k x := fun k p q => g3 3 0 k x (fun z => by have := z.2.2.2; omega) (fun z => by have := z.2.2.1; omega) (fun z => q z.2.2.1)
            refine Or.inl ⟨rfl, Or.inl ⟨j', (by first | decide | omega), PS_f (lo := 0) (pl := 0) v2 fB_r hH0, ?_, (by first | decide | omega), (by first | decide | omega), (by first | decide | omega), ?_, ?_⟩⟩
            · simp [zup4_v]; exact v2.2.2.1
            · rw [gk 5 (by decide) (by decide), fX_3 q3 (by decide) (by decide)]; exact hF.2.2.2.2.2.1
            · intro Bx By ab am
              rw [v2.2.2.1] at am
              rw [b14, b15] at v7
              have hs : SLR L d' n (B' 3 0 4 x) (j + 1 + 3 + 1) (j' - 1) (F 3 0 14) (F' 3 0 14) (F 3 0 15) (F' 3 0 15) B' (zup4 Bm' 14 0 31 j j') := SLR_t v7 agB_r ⟨fun k y p q a b => by rw [zup4_v, if_neg (fun z => by have := z.2.2.2; omega)], fun k p q => by funext y; rw [zup4_v, if_neg (fun z => by have := z.2.2.1; omega)], fun q p a => by rw [zup4_v, if_neg (fun z => absurd z.2.2.1 (by decide))]⟩
              have gx : ∀ k, k ≤ 7 → k ≠ 5 → Bx 3 0 k x = B' 3 0 k x := fun k p q => ab.1 k x p (Int.le_refl _) (by first | decide | omega) (fun z => q z.1)
              have w : ∀ k, 7 ≤ k → k ≤ 11 → By 14 0 k = Bm 14 0 k := fun k p q => by
                rw [am.2.1 k p q]
                funext y
                rw [zup4_v, if_neg (fun z => by have := z.2.2.1; omega), fJ_k g4 k (by first | decide | omega)]
              have e30 : By 14 0 30 j = j' - 1 := by rw [am.1 30 j (by decide) (by decide) (Int.le_refl _) (by first | decide | omega)]; simp [zup4_v]; exact v3
              obtain ⟨p1, p0⟩ := IRn_at (R := IRd L d') hF gx w (fun k hk => by rw [gk k (by first | decide | omega) (by first | decide | omega), fX_3 q3 (by simp; omega) (by first | decide | omega)])
              refine Or.inr ⟨p1, Or.inl ⟨p0, sgAt_c sg w, ?_, ?_, (by first | decide | omega), by have h1 := hE.1.2.1; have h2 := v2.2.1.1.2; omega, n, ?_⟩⟩
              · rw [gx 2 (by decide) (by decide), gk 2 (by decide) (by decide)]; exact nmAt_c q5 w
              · rw [gx 3 (by decide) (by decide), gk 3 (by decide) (by decide)]
                rw [show j + 1 + 2 = j + 3 by omega] at q6
                exact nmAt_c q6 w
              · rw [e30, gx 4 (by decide) (by decide), show j + 5 = j + 1 + 3 + 1 by omega]
                exact hs Bx By (agB_m ab (by first | decide | omega) (Int.le_refl _) (Int.le_refl _) (Int.le_refl _) (Or.inr (Or.inl (by first | decide | omega)))) (agM_m am (by first | decide | omega) (by first | decide | omega))
          · exact Or.inr er
      · rw [c2, m2]
        simp only [zb_s, ir0, i00]
        rw [lpB er.2]
        simp only [zb_s]
        rw [if_pos (by decide), if_pos (by decide), L_202 (by first | decide | omega)]
        exact zP_s ⟨fF_e (fF_t gF q1), fG_e (fG_t gG q2), hB1, hH0, Or.inr ⟨rfl, er⟩⟩
    · intro F1 B1 Fm1 r1 q1 q2 q3 er
      rw [a15] at q3
      simp only [ir0, i00, zb_s]
      rw [L_needB er.2]
      simp only [zb_s]
      rw [lpB er.2]
      simp only [zb_s]
      rw [if_pos (by decide), if_pos (by decide), L_202 (by first | decide | omega)]
      exact zP_s ⟨fF_t gF q1, fG_t gG q2, fX_B q3 (by decide) (Int.le_refl _), hH0, Or.inr ⟨rfl, er⟩⟩
end
