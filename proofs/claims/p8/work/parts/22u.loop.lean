section
/-! ===== the music of a block, on both sides ===== -/
theorem zup3_comm {F : zF} {c c' k k' : Nat} {i i' v v' : Int} (h : ¬ (c = c' ∧ i = i' ∧ k = k')) : zup3 (zup3 F c i k v) c' i' k' v' = zup3 (zup3 F c' i' k' v') c i k v := by
  funext a b d
  simp only [zup3_v]
  by_cases p : a = c' ∧ b = i' ∧ d = k'
  · by_cases q : a = c ∧ b = i ∧ d = k
    · exact absurd ⟨q.1.symm.trans p.1, q.2.1.symm.trans p.2.1, q.2.2.symm.trans p.2.2⟩ h
    · rw [if_pos p, if_neg q, if_pos p]
  · rw [if_neg p]
    by_cases q : a = c ∧ b = i ∧ d = k
    · rw [if_pos q, if_pos q]
    · rw [if_neg q, if_neg q, if_neg p]
theorem DEL_CX {K : zK} {Km : Nat} {N : Int} {F : zF} {B : zB} {Fm : zF} {Bm : zB} (hE : EV K Km N B Bm) (h : DEL N F B Fm Bm) : CX K F B := by
  obtain ⟨⟨n0, n1, hT⟩, hW, h5, k3, k10, k1, km⟩ := hE
  obtain ⟨e11, hw, ⟨j, ⟨j0, j1⟩, hk, hp, hv, hs, hx⟩, _⟩ := h
  obtain ⟨a1, a2, a3, a4, a5, a6, a7, a8, a9, a10, a11⟩ := hT j j0 j1
  refine ⟨k3, k10, e11, (by first | decide | omega), (by first | decide | omega), ?_, h5, k1⟩
  rw [hx]
  split <;> omega
theorem DEL_ERR {K : zK} {Km : Nat} {N v : Int} {F : zF} {B : zB} {Fm : zF} {Bm : zB} (hE : EV K Km N B Bm) (h : DEL N F B Fm Bm) : ERR (refF (zup3 F 3 0 18 v) 2) Fm := by
  obtain ⟨e11, hw, ⟨j, ⟨j0, j1⟩, _, hp, _⟩, h5, hm, h17, h18⟩ := h
  have tp := (hE.1.2.2 j j0 j1).2.2.2.2.2.2.2.2.2.1
  unfold ERR refF bad
  simp only [zup3_v]
  simp
  rw [h17, h18, if_neg (by first | decide | omega)]
  omega
theorem C_mus0 {o : oT_CP} {K : zK} {m : Nat} {i last par : Int} {F : zF} {B : zB} (hX : CX K F B) (hi : r32 i) (hs : isrt (F 10 0 0) (F 10 0 2) = -1) : f_Parser_takeMusic_4 o K (m + 1) i last 0 par F B = some (1, F, B) := by
  unfold f_Parser_takeMusic_4
  rw [if_pos hi]
  by_cases a : 3000 ≤ i
  · rw [if_pos a]
  · rw [if_neg a, if_pos ⟨(by first | decide | omega), hX.1⟩, C_itemSort hX]
    simp only [zb_s]
    rw [hs, if_pos (by decide), if_pos rfl]
theorem newB_at {B : zB} {x s p : Int} : (newB B x s p) 3 0 0 x = s ∧ (newB B x s p) 3 0 1 x = p ∧ (newB B x s p) 3 0 2 x = 0 ∧ (newB B x s p) 3 0 3 x = -1 ∧ (newB B x s p) 3 0 4 x = -1 ∧ (newB B x s p) 3 0 5 x = -1 ∧ (newB B x s p) 3 0 6 x = 0 ∧ (newB B x s p) 3 0 7 x = 0 := by
  unfold newB
  simp [zup4_v]
theorem P_music {L : Int} {d : Nat} {K : zK} {Km : Nat} {N c fr : Int} {o : oT_CP} {oM : zF → zB → zO} {lp : Nat → zF → zB → zO} {kc : Int → zF → zB → zO} (hI : ItemSim L K Km N d o.2.2.1 oM) (hB : ItemBad K Km N oM) (hc : c = 125 ∨ c = 93) (hfr : 0 ≤ fr) (hlp : ∀ n F B, lp (n + 1) F B = zbind (f_M_good Km F B) (fun r2 F2 B2 => if r32 r2 then (if r2 = 0 then zbind (f_M_closing Km fr c F2 B2) (fun _ F9 B9 => some (0, F9, B9)) else zbind (f_M_isSign Km c F2 B2) (fun r5 F5 B5 => if r32 r5 then (if r5 = 0 then zbind (oM F5 B5) (fun _ F8 B8 => lp n F8 B8) else zbind (f_M_closing Km fr c F5 B5) (fun _ F9 B9 => some (0, F9, B9))) else none)) else none)) (hk0 : ∀ F B, kc 0 F B = some (0, F, B)) (hk1 : ∀ F B, CX K F B → kc 1 F B = if sgn F c = 0 then some (0, refF (zup3 F 3 0 18 (F 3 0 18 - 1)) 2, B) else some (1, advF (zup3 F 3 0 18 (F 3 0 18 - 1)) B, B)) : ∀ {q m m' : Nat} {i last par j x0 : Int} {k0 : Nat} {F : zF} {B : zB} {Fm : zF} {Bm : zB}, N - j < q → q < m → q < m' → 0 ≤ i → i ≤ j → fr < j → (last = -1 ∧ k0 = 4 ∧ x0 = par ∨ last = x0 ∧ k0 = 5) → 0 ≤ x0 → x0 < F 3 0 14 → (0 ≤ par ∧ par < 3000) → F 3 0 14 ≤ j → EV K Km N B Bm → PS N j F B Fm Bm → F 3 0 18 + d = 8 → 1 ≤ F 3 0 18 → LT L F B Fm Bm → B 3 0 k0 x0 = -1 → zP (zbind (f_Parser_takeMusic_4 o K m i last 0 par F B) kc) (lp m' Fm Bm) (fun r F' B' _ Fm' Bm' => fF F F' ∧ fG Fm Fm' ∧ fK k0 x0 (F 3 0 14) (F 3 0 15) B B' ∧ fJ fr j Bm Bm' ∧ (r = 1 ∧ OKM L d N j fr x0 k0 F F' B' Fm' Bm' ∨ r = 0 ∧ ERR F' Fm')) := by
  have rc : r32 c := by omega
  -- the reference's loop in a bad state
  have lpB : ∀ {n : Nat} {F : zF} {B : zB}, 0 < n → bad F → lp n F B = some (0, F, B) := by
    intro n F B hn hb
    obtain ⟨n, rfl⟩ : ∃ y, n = y + 1 := ⟨n - 1, (by first | decide | omega)⟩
    rw [hlp, L_goodB hb]
    simp only [zb_s]
    rw [if_pos (by decide), if_pos trivial, L_closingB hb]
    rfl
  intro q
  induction q with
  | zero =>
    intro m m' i last par j x0 k0 F B Fm Bm hN _ _ _ _ _ _ _ _ _ _ _ hS
    have := hS.2.1.1
    omega
  | succ q ih =>
    intro m m' i last par j x0 k0 F B Fm Bm hN hm hm' i0 i1 hfj hl x00 x01 hpar hit hE hS hd hd1 hLT hcell
    obtain ⟨m, rfl⟩ : ∃ y, m = y + 1 := ⟨m - 1, (by first | decide | omega)⟩
    obtain ⟨m', rfl⟩ : ∃ y, m' = y + 1 := ⟨m' - 1, (by first | decide | omega)⟩
    have hg := hS.2.2.2.1
    have hX := PS_CX hE hS
    have hM := PS_MX hE hS
    have jj := hS.2.1.1
    have nn := hE.1.2.1
    have ek := hS.2.1.2.1
    have ep := hS.2.1.2.2.1
    have ev := hS.2.1.2.2.2.1
    have hdd := hS.2.2.2.2.2.1
    have k3 := hE.2.2.2.1
    have tk := hE.1.2.2 j jj.1 jj.2
    have s := sgm_r Bm j c
    by_cases hs : isrt (F 10 0 0) (F 10 0 2) = -1
    · rw [C_mus0 hX (by first | decide | omega) hs, hlp, L_good hg]
      simp only [zb_s]
      rw [hk1 F B hX, PS_sg hE hS, if_pos (show r32 1 by decide), if_neg (show ¬ (1 : Int) = 0 by decide), L_isSign hM rc]
      simp only [zb_s]
      rw [if_pos (show r32 (sgm Bm j c) by omega)]
      by_cases z : sgm Bm j c = 0
      · obtain ⟨r, e⟩ := hB hE hS hs
        have er := PS_err2 hE hS
        rw [if_pos z, if_pos z, e]
        simp only [zb_s]
        rw [lpB (by first | decide | omega) er.2]
        exact zP_s ⟨fF_e (fF_u fF_r (by decide)), fG_e fG_r, fK_r, fJ_H (fH_u fH_r (by decide) (by decide) (Int.le_refl _)) (Int.le_refl _), Or.inr ⟨rfl, refF_18 _ er⟩⟩
      · have z' := Decidable.not_not.mp (mt sgm_0.mpr z)
        rw [if_neg z, if_neg z, L_closing hg hM rc (by first | decide | omega), if_neg z]
        simp only [zb_s]
        have hS1 := PS_step hE (PS_d (d := F 3 0 18 - 1) hS (by first | decide | omega) (PS_pw hS hd1)) (by first | decide | omega)
        have e19 : Fm 14 0 19 = F 3 0 18 := hdd.1.symm
        have hJ : fJ fr j Bm (zup4 Bm 14 0 30 fr j) := fun c' i' k' x' a b => by rw [zup4_v, if_neg (fun w => b w)]
        rw [e19, zup3_comm (by decide)]
        refine zP_s ⟨fF_a (fF_u fF_r (by decide)), fG_u (fG_u fG_r (by decide) (by decide)) (by decide) (by decide), fK_r, hJ, Or.inl ⟨rfl, j + 1, 0, (by first | decide | omega), PS_k hS1 (fK_r (k0 := 0) (x0 := 0) (lo := 0) (pl := 0)) hJ, ?_, ?_, ?_, ?_, ?_⟩⟩
        · simp [zup4_v]
        · rw [advF_o (by decide)]; simp [zup3_v]
        · rw [advF_o (by decide)]; simp [zup3_v]
        · rw [advF_o (by decide)]; simp [zup3_v]
        · rw [hcell, show j + 1 - 1 = j by omega]; exact SLR_0
    · -- an item
      have hjN : j < N := by
        have : ¬ j = N := by
          intro w
          have k0' := tk.2.2.2.1.mpr w
          apply hs
          unfold isrt
          rw [ek, k0']
          rfl
        omega
      have z : sgm Bm j c = 0 := by
        refine sgm_0.mpr (fun w => hs (isrt_c hc (ek.trans w.1) ?_))
        rw [ev, (tk.2.2.2.2.2.2.2.1 w.1).1]; exact w.2
      have sr := isrt_r (F 10 0 0) (F 10 0 2)
      have hx14 : 0 ≤ F 3 0 14 ∧ F 3 0 14 < 3000 := by omega
      -- the class's world when the item is made
      have hK2 : fK k0 x0 (F 3 0 14) (F 3 0 15) B (zup4 (newB B (F 3 0 14) (isrt (F 10 0 0) (F 10 0 2)) (F 10 0 1)) 3 0 k0 x0 (F 3 0 14)) := fK_c (newB_k fK_r (Int.le_refl _))
      have hcls : f_Parser_takeMusic_4 o K (m + 1) i last 0 par F B = zbind (o.2.2.1 0 (F 3 0 14) (zup3 F 3 0 14 (F 3 0 14 + 1)) (zup4 (newB B (F 3 0 14) (isrt (F 10 0 0) (F 10 0 2)) (F 10 0 1)) 3 0 k0 x0 (F 3 0 14))) (fun r15 F15 B15 => if r32 r15 then (if r15 = 0 then some (0, F15, B15) else f_Parser_takeMusic_4 o K m (i + 1) (F 3 0 14) 0 par F15 B15) else none) := by
        rw [f_Parser_takeMusic_4]
        rw [if_pos (show r32 i by omega), if_neg (show ¬ 3000 ≤ i by omega), if_pos ⟨Int.le_refl _, k3⟩, C_itemSort hX]
        simp only [zb_s]
        rw [if_pos (show r32 (isrt (F 10 0 0) (F 10 0 2)) by omega), if_neg hs, C_newItem hX hx14]
        simp only [zb_s]
        unfold f_Parser_takeMusic_57
        rcases hl with ⟨rfl, rfl, rfl⟩ | ⟨rfl, rfl⟩
        · rw [if_pos (show r32 (-1) by decide), if_pos rfl, if_pos hpar, if_pos ⟨Int.le_refl _, k3⟩]
        · rw [if_pos (show r32 last by omega), if_neg (show ¬ last = -1 by omega), if_pos (show 0 ≤ last ∧ last < 3000 by omega), if_pos ⟨Int.le_refl _, k3⟩]
      have hS1 := PS_k (PS_u (k := 14) (v := F 3 0 14 + 1) hS (by decide)) hK2 (fJ_H (fr := fr) (j := j) fH_r (Int.le_refl _))
      have hE1 := EV_k hE hK2 (fJ_H (fr := fr) (j := j) fH_r (Int.le_refl _))
      have hLT1 := LT_k hLT (fF_u (k := 14) (v := F 3 0 14 + 1) fF_r (by decide)) fG_r hK2 (by first | decide | omega) (fJ_H (fr := fr) (j := j) fH_r (Int.le_refl _))
      have a10 : ∀ k, (zup3 F 3 0 14 (F 3 0 14 + 1)) 10 0 k = F 10 0 k := fun k => by simp [zup3_v]
      have a14 : (zup3 F 3 0 14 (F 3 0 14 + 1)) 3 0 14 = F 3 0 14 + 1 := by simp [zup3_v]
      have a15 : (zup3 F 3 0 14 (F 3 0 14 + 1)) 3 0 15 = F 3 0 15 := by simp [zup3_v]
      have a18 : (zup3 F 3 0 14 (F 3 0 14 + 1)) 3 0 18 = F 3 0 18 := by simp [zup3_v]
      have hfresh : fresh (zup4 (newB B (F 3 0 14) (isrt (F 10 0 0) (F 10 0 2)) (F 10 0 1)) 3 0 k0 x0 (F 3 0 14)) Bm (F 3 0 14) j (isrt (F 10 0 0) (F 10 0 2)) := by
        have g : ∀ k, (zup4 (newB B (F 3 0 14) (isrt (F 10 0 0) (F 10 0 2)) (F 10 0 1)) 3 0 k0 x0 (F 3 0 14)) 3 0 k (F 3 0 14) = (newB B (F 3 0 14) (isrt (F 10 0 0) (F 10 0 2)) (F 10 0 1)) 3 0 k (F 3 0 14) := fun k => by rw [zup4_v, if_neg (fun w => by have := w.2.2.2; omega)]
        obtain ⟨b0, b1, b2, b3, b4, b5, b6, b7⟩ := newB_at (B := B) (x := F 3 0 14) (s := isrt (F 10 0 0) (F 10 0 2)) (p := F 10 0 1)
        unfold fresh
        rw [g, g, g, g, g, g, g, g]
        exact ⟨b0, b1.trans ep, b2, b3, b4, b5, b6, b7⟩
      rw [hcls, hlp, L_good hg, zb_a]
      simp only [zb_s]
      rw [if_pos (show r32 1 by decide), if_neg (show ¬ (1 : Int) = 0 by decide), L_isSign hM rc]
      simp only [zb_s]
      rw [if_pos (show r32 (sgm Bm j c) by omega), if_pos z]
      refine zP_c (hI (x := F 3 0 14) (j := j) (F := zup3 F 3 0 14 (F 3 0 14 + 1)) hx14.1 hx14.2 a14.symm (by first | decide | omega) hE1 hS1 (by first | decide | omega) (by first | decide | omega) hLT1 (by rw [a10, a10]; exact hfresh) (by rw [a10, a10]; exact hs)) (fun r F1 B1 r' Fm1 Bm1 hh => ?_)
      obtain ⟨g1, g2, g3, g4, g5⟩ := hh
      rw [a15] at g3
      have gF : fF F F1 := fF_t (fF_u fF_r (by decide)) g1
      have gK : fK k0 x0 (F 3 0 14) (F 3 0 15) B B1 := fK_t hK2 (fK_B g3 (Int.le_refl _) (Int.le_refl _))
      have gJ : fJ fr j Bm Bm1 := fJ_H g4 (Int.le_refl _)
      have hE2 := EV_k hE gK gJ
      rcases g5 with ⟨rfl, ok | del⟩ | ⟨rfl, er⟩
      · obtain ⟨j1, y1, y2, y3, y4, y5, y6, y7, y8⟩ := ok
        rw [a14] at y5
        rw [a15] at y6 y8
        rw [a18] at y4
        rw [if_pos (show r32 1 by decide), if_neg (show ¬ (1 : Int) = 0 by decide)]
        have hLT2 := LT_k hLT gF g2 gK (by first | decide | omega) gJ
        refine zP_m (ih (m := m) (m' := m') (i := i + 1) (last := F 3 0 14) (par := par) (j := j1) (x0 := F 3 0 14) (k0 := 5) (by first | decide | omega) (by first | decide | omega) (by first | decide | omega) (by first | decide | omega) (by first | decide | omega) (by first | decide | omega) (Or.inr ⟨rfl, rfl⟩) hx14.1 (by first | decide | omega) hpar (by first | decide | omega) hE2 y2 (by first | decide | omega) (by first | decide | omega) hLT2 y7) (fun r F' B' r' Fm' Bm' hh => ?_)
        obtain ⟨w1, w2, w3, w4, w5⟩ := hh
        refine ⟨fF_t gF w1, fG_t g2 w2, fK_t gK (fK_K w3 (by first | decide | omega) (by first | decide | omega) (Or.inr ⟨by decide, Int.le_refl _⟩)), fJ_t gJ (fJ_m w4 (by first | decide | omega)), ?_⟩
        rcases w5 with ⟨rfl, j2, n, v1, v2, v3, v4, v5, v6, v7⟩ | er
        · refine Or.inl ⟨rfl, j2, n + 1, (by first | decide | omega), v2, v3, (by first | decide | omega), (by first | decide | omega), (by first | decide | omega), ?_⟩
          have ecell : B' 3 0 k0 x0 = F 3 0 14 := by
            rw [w3 3 0 k0 x0 (fun w => by have := w.2.2.2; omega) (fun w => by have := w.2.2.1; omega) (fun w => by have := w.2.2.2; omega), g3 3 0 k0 x0 (fun w => by have := w.2.2.2; omega) (fun w => by have := w.2.2.1; omega), zup4_v, if_pos ⟨rfl, rfl, rfl, rfl⟩]
          rw [ecell]
          exact SLR_1 hx14 y1 (by first | decide | omega) y3 y8 v7 w3 w4 hfj (by first | decide | omega) (by first | decide | omega) (by first | decide | omega) (by first | decide | omega)
        · exact Or.inr er
      · obtain ⟨m, rfl⟩ : ∃ y, m = y + 1 := ⟨m - 1, (by first | decide | omega)⟩
        have hX2 := DEL_CX hE2 del
        have em := isrt_m del.2.2.2.1 del.2.2.2.2.1
        rw [if_pos (show r32 1 by decide), if_neg (show ¬ (1 : Int) = 0 by decide), C_mus0 hX2 (by first | decide | omega) em.1]
        simp only [zb_s]
        have hb1 : bad Fm1 := ⟨by have := del.2.2.2.2.2.1; omega, by have := del.2.2.2.2.2.1; omega⟩
        rw [hk1 _ _ hX2, if_pos (sgn_0.mpr (fun w => by have := w.2; omega)), lpB (by first | decide | omega) hb1]
        exact zP_s ⟨fF_e (fF_u gF (by decide)), g2, gK, gJ, Or.inr ⟨rfl, DEL_ERR hE2 del⟩⟩
      · rw [if_pos (show r32 0 by decide), if_pos rfl]
        simp only [zb_s]
        rw [hk0, lpB (by first | decide | omega) er.2]
        exact zP_s ⟨gF, g2, gK, gJ, Or.inr ⟨rfl, er⟩⟩
end
