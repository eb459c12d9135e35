section
/-! ===== the walk: repeats ===== -/
/-- what is left of one time through a repeat behind its first walk -/
def rpT (o : oT_CW) (K : zK) (n : Nat) (l4 l3 l1 l2 : Int) (F14 : zF) (B14 : zB) : zO := if r32 l3 then (if l3 = (-1) then f_Walker_goRepeat_121 o (f_Walker_goRepeat_13 o K n) K l4 l3 0 l1 l2 F14 B14 else if 0 ≤ (F14 11 0 0) ∧ (F14 11 0 0) < K.2 3 then zbind (f_Walker_countItem K 0 (B14 3 (F14 11 0 0) 1 l1) F14 B14) (fun r18 F18 B18 => if 0 ≤ (F18 11 0 0) ∧ (F18 11 0 0) < K.2 3 then if 0 ≤ l3 ∧ l3 < 3000 then zbind (o.1 0 (B18 3 (F18 11 0 0) 4 l3) (l2 + 1) F18 B18) (fun r21 F21 B21 => if 0 ≤ (F21 11 0 0) ∧ (F21 11 0 0) < K.2 3 then if r32 (B21 3 (F21 11 0 0) 5 l3) then (if (B21 3 (F21 11 0 0) 5 l3) = (-1) then f_Walker_goRepeat_120 o (f_Walker_goRepeat_13 o K n) K l4 0 l1 l2 l3 F21 B21 else f_Walker_goRepeat_120 o (f_Walker_goRepeat_13 o K n) K l4 0 l1 l2 (B21 3 (F21 11 0 0) 5 l3) F21 B21) else none else none) else none else none) else none) else none
def rpM (o : oT_W) (K : Nat) (n : Nat) (l6 l5 l3 l2 l1 : Int) (F22 : zF) (B22 : zB) : zO := if r32 l5 then (if l5 = 0 then f_M_goRepeat_186 o (f_M_goRepeat_74 o K n) K l6 l5 l3 l2 l1 F22 B22 else zbind (f_M_good K F22 B22) (fun r25 F25 B25 => if r32 r25 then (if r25 = 0 then f_M_goRepeat_186 o (f_M_goRepeat_74 o K n) K l6 l5 l3 l2 l1 F25 B25 else f_M_goRepeat_135 o (f_M_goRepeat_74 o K n) K K 1 (l3 + 1) l6 l5 l3 l2 l1 F25 B25) else none)) else none
theorem rpT_e {o : oT_CW} {K : zK} {n : Nat} {l4 l3 l1 l2 : Int} {F : zF} {B : zB} : f_Walker_goRepeat_13 o K (n + 1) l4 l3 0 l1 l2 F B = (if (0 : Int) ≤ 0 ∧ (0 : Int) < K.2 11 then if 0 ≤ (F 11 0 0) ∧ (F 11 0 0) < K.2 3 then if 0 ≤ l1 ∧ l1 < 3000 then if r32 l4 then if r32 (B 3 (F 11 0 0) 2 l1) then (if (B 3 (F 11 0 0) 2 l1) ≤ l4 then f_Walker_goRepeat_127 o K F B else if r32 (F 11 0 2) then (if (F 11 0 2) = 0 then zbind (f_Walker_countItem K 0 (B 3 (F 11 0 0) 1 l1) F B) (fun r12 F12 B12 => if 0 ≤ (F12 11 0 0) ∧ (F12 11 0 0) < K.2 3 then zbind (o.1 0 (B12 3 (F12 11 0 0) 4 l1) (l2 + 1) F12 B12) (fun r14 F14 B14 => rpT o K n l4 l3 l1 l2 F14 B14) else none) else f_Walker_goRepeat_127 o K F B) else none) else none else none else none else none else none) := rfl
theorem rpM_e {o : oT_W} {K n : Nat} {l6 l5 l3 l2 l1 : Int} {F : zF} {B : zB} : f_M_goRepeat_74 o K (n + 1) l6 l5 l3 l2 l1 F B = (if 0 ≤ (l1 + 1) ∧ (l1 + 1) < 3001 then if r32 l6 then if r32 (B 14 0 9 (l1 + 1)) then (if (B 14 0 9 (l1 + 1)) < l6 then f_M_goRepeat_192 o K F B else zbind (f_M_good K F B) (fun r17 F17 B17 => if r32 r17 then (if r17 = 0 then f_M_goRepeat_192 o K F17 B17 else zbind (f_M_counts K l1 F17 B17) (fun r20 F20 B20 => if 0 ≤ l2 ∧ l2 < 3001 then zbind (o.1 (l2 + 1) (B20 14 0 30 l2) F20 B20) (fun r22 F22 B22 => rpM o K n l6 l5 l3 l2 l1 F22 B22) else none)) else none)) else none else none else none) := rfl
theorem WE_dn {q v w : Int} {D : Nat} {F Fm : zF} (h : WE (D + 1) q v w F Fm) : WE D q v w F Fm := WE_close h (fun _ _ _ _ => rfl) (fun _ _ _ _ => rfl)
theorem C_cntE {K : zK} {q v w p : Int} {D : Nat} {F Fm : zF} {B : zB} (h11 : 0 < K.2 11) (h : WE (D + 1) q v w F Fm) : f_Walker_countItem K 0 p F B = some (0, zup3 F 11 0 3 (F 11 0 3 + 1), B) ∧ WE D q v w (zup3 F 11 0 3 (F 11 0 3 + 1)) Fm := by
  obtain ⟨e1, e2⟩ := WE_n h
  obtain ⟨a1, a2, a3, a4, a5, a6, a7, a8, a9, a10⟩ := h
  constructor
  · unfold f_Walker_countItem
    simp only [f_Walker_countItem_27]
    rw [if_pos ⟨Int.le_refl _, h11⟩, if_pos (show r32 (F 11 0 3 + 1) by unfold r32; omega)]
    by_cases c : F 11 0 3 + 1 ≤ 5000
    · rw [if_pos c]
    · rw [if_neg c]
      unfold f_Walker_refuse f_Walker_refuse_17
      rw [if_pos ⟨Int.le_refl _, h11⟩, show (zup3 F 11 0 3 (F 11 0 3 + 1)) 11 0 2 = F 11 0 2 by rw [zup3_v, if_neg (by decide)], if_pos e1, if_neg e2, zb_s]
  · refine ⟨?_, ?_, ?_, a4, a5, a6, a7, ?_, a9, ?_⟩
    · rw [zup3_v, if_neg (by decide)]; exact a1
    · rw [zup3_v, if_neg (by decide)]; exact a2
    · rw [zup3_v, if_neg (by decide)]; exact a3
    · rw [zup3_v, if_neg (by first | decide | omega)]; exact a8
    · rw [zup3_v, if_pos (by decide)]; omega
theorem C_rpX {K : zK} {o : oT_CW} {D n : Nat} {q v w l4 l3 x l2 : Int} {F Fm : zF} {B : zB} (h11 : 0 < K.2 11) (h3 : 0 < K.2 3) (h : WE D q v w F Fm) (hx : 0 ≤ x ∧ x < 3000) (r4 : r32 l4) (r2 : r32 (B 3 0 2 x)) : f_Walker_goRepeat_13 o K (n + 1) l4 l3 0 x l2 F B = some (0, F, B) := by
  obtain ⟨e1, e2⟩ := WE_n h
  rw [rpT_e, if_pos ⟨Int.le_refl _, h11⟩, h.1, if_pos ⟨Int.le_refl _, h3⟩, if_pos hx, if_pos r4, if_pos r2]
  simp only [f_Walker_goRepeat_127]
  by_cases c : B 3 0 2 x ≤ l4
  · rw [if_pos c]
  · rw [if_neg c, if_pos e1, if_neg e2]
theorem L_rpX {K : Nat} {o : oT_W} {n : Nat} {l6 l5 l3 l2 i : Int} {F : zF} {B : zB} (h : bad F) (hi : 0 ≤ i + 1 ∧ i + 1 < 3001) (r6 : r32 l6) (r9 : r32 (B 14 0 9 (i + 1))) : f_M_goRepeat_74 o K (n + 1) l6 l5 l3 l2 i F B = some (0, F, B) := by
  rw [rpM_e, if_pos hi, if_pos r6, if_pos r9]
  simp only [f_M_goRepeat_192]
  by_cases c : B 14 0 9 (i + 1) < l6
  · rw [if_pos c]
  · rw [if_neg c, L_goodB h, zb_s, if_pos (by decide), if_pos rfl]
def RQ (q v w bar : Int) (D : Nat) (F : zF) (B : zB) (Fm : zF) (Bm : zB) (F' : zF) (B' : zB) (Fm' : zF) (Bm' : zB) : Prop := WFR q v w F B Fm Bm F' B' Fm' Bm' ∧ ((WS q v w bar (D + 1) F' B' Fm' Bm' ∧ WKP q F B Fm Bm F' B' Fm' Bm') ∨ WE D q v w F' Fm')
theorem RQ_t {q v w bar : Int} {D : Nat} {F F1 F2 : zF} {B B1 B2 : zB} {Fm Fm1 Fm2 : zF} {Bm Bm1 Bm2 : zB} (f : WFR q v w F B Fm Bm F1 B1 Fm1 Bm1) (k : WKP q F B Fm Bm F1 B1 Fm1 Bm1) (h : RQ q v w bar D F1 B1 Fm1 Bm1 F2 B2 Fm2 Bm2) : RQ q v w bar D F B Fm Bm F2 B2 Fm2 Bm2 := by
  refine ⟨WFR_t f h.1, ?_⟩
  rcases h.2 with ⟨s, k'⟩ | s
  · exact Or.inl ⟨s, WKP_t k k'⟩
  · exact Or.inr s
theorem RQ_O {q v w bar : Int} {D : Nat} {F F2 : zF} {B B2 : zB} {Fm Fm2 : zF} {Bm Bm2 : zB} (hS : WS q v w bar D F B Fm Bm) (h : RQ q v w bar D F B Fm Bm F2 B2 Fm2 Bm2) : WO q v w bar D F B Fm Bm F2 B2 Fm2 Bm2 := by
  rcases h.2 with s | s
  · exact WO_same hS ⟨h.1, Or.inl s⟩
  · exact ⟨h.1, Or.inr s⟩
theorem P_rl0 {K : zK} {Km : Nat} {N nl q v w bar x i l3 : Int} {B0 Bm0 : zB} {D m T : Nat} {o : oT_CW} {oM : oT_W} {R : zB → zB → Int → Int → Prop} (hL : LSim K Km N nl q v w bar B0 Bm0 (D + 1) o.1 oM.1 R) (hx : 0 ≤ x ∧ x < 3000) (hi : 0 ≤ i ∧ i + 2 < N) (hD : D < 64) (hp : B0 3 0 1 x = Bm0 14 0 8 i) (ht : B0 3 0 2 x = T ∧ Bm0 14 0 9 (i + 1) = T ∧ T ≤ 4) (hb : i + 2 < Bm0 14 0 30 (i + 2) ∧ Bm0 14 0 30 (i + 2) ≤ 3000) (hl : LRf R B0 Bm0 m (B0 3 0 4 x) (i + 2 + 1) (Bm0 14 0 30 (i + 2))) : ∀ (r n n' : Nat) {t : Nat} {F : zF} {B : zB} {Fm : zF} {Bm : zB}, t + r = T → r + 1 < n → r + 1 < n' → WT N B0 Bm0 B Bm → Fm 14 0 27 = nl → WC K Km N q v w bar B Fm Bm → WS q v w bar (D + 1) F B Fm Bm → zP (f_Walker_goRepeat_13 o K n t (-1) 0 x D F B) (f_M_goRepeat_74 oM Km n' (t + 1) 0 l3 (i + 2) i Fm Bm) (fun _ F' B' _ Fm' Bm' => RQ q v w bar D F B Fm Bm F' B' Fm' Bm') := by
  intro r
  induction r with
  | zero =>
    intro n n' t F B Fm Bm tr hn hn' hT hnl hC hS
    obtain ⟨n, rfl⟩ : ∃ m, n = m + 1 := ⟨n - 1, (by first | decide | omega)⟩
    obtain ⟨n', rfl⟩ : ∃ m, n' = m + 1 := ⟨n' - 1, (by first | decide | omega)⟩
    have h11 := hC.2.2.1
    have h3 := hC.2.2.2.1
    have N1 := hC.2.2.2.2.2.2.2.1.2.1
    have rt : r32 (T : Int) := by unfold r32; omega
    have rt1 : r32 ((t : Int) + 1) := by unfold r32; omega
    have rt0 : r32 (t : Int) := by unfold r32; omega
    rw [rpT_e, rpM_e, if_pos ⟨Int.le_refl _, h11⟩, hS.1.1, if_pos ⟨Int.le_refl _, h3⟩, if_pos hx, if_pos rt0, hT.1 2 x, ht.1, if_pos rt, if_pos (by first | decide | omega), if_pos (by first | decide | omega), if_pos rt1, hT.2.1 9 _ (by decide), ht.2.1, if_pos rt, if_pos (by first | decide | omega)]
    exact zP_s ⟨WFR_r, Or.inl ⟨hS, WKP_r⟩⟩
  | succ r ih =>
    intro n n' t F B Fm Bm tr hn hn' hT hnl hC hS
    obtain ⟨n, rfl⟩ : ∃ m, n = m + 1 := ⟨n - 1, (by first | decide | omega)⟩
    obtain ⟨n', rfl⟩ : ∃ m, n' = m + 1 := ⟨n' - 1, (by first | decide | omega)⟩
    have h11 := hC.2.2.1
    have h3 := hC.2.2.2.1
    obtain ⟨N0, N1, hTK⟩ := hC.2.2.2.2.2.2.2.1
    have hpl := (hTK i hi.1 (by first | decide | omega)).2.2.2.2.2.2.2.2.2.1
    have pe : B 3 0 1 x = Bm 14 0 8 i := by rw [hT.1, hT.2.1 8 i (by decide)]; exact hp
    have rt : r32 (T : Int) := by unfold r32; omega
    have rt1 : r32 ((t : Int) + 1) := by unfold r32; omega
    have rt0 : r32 (t : Int) := by unfold r32; omega
    have rt2 : r32 ((t : Int) + 1 + 1) := by unfold r32; omega
    have fin : ∀ (F1 : zF) (B1 : zB) (Fm1 : zF) (Bm1 : zB), WFR q v w F B Fm Bm F1 B1 Fm1 Bm1 → (WS q v w bar (D + 1) F1 B1 Fm1 Bm1 ∧ WKP q F B Fm Bm F1 B1 Fm1 Bm1) ∨ WE (D + 1) q v w F1 Fm1 → zP (rpT o K n t (-1) x D F1 B1) (rpM oM Km n' (t + 1) 0 l3 (i + 2) i Fm1 Bm1) (fun _ F' B' _ Fm' Bm' => RQ q v w bar D F B Fm Bm F' B' Fm' Bm') := by
      intro F1 B1 Fm1 Bm1 f s
      unfold rpT rpM
      rw [if_pos (by decide), if_pos rfl, if_pos (by decide), if_pos rfl, f_Walker_goRepeat_121, f_M_goRepeat_186]
      have T1 := WT_f hT f
      rcases s with ⟨s, k⟩ | s
      · have := ih n n' (t := t + 1) (by first | decide | omega) (by first | decide | omega) (by first | decide | omega) T1 (by rw [f.2.2.2.1 14 0 27 (by first | decide | omega)]; exact hnl) (WC_f hC f) s
        rw [show ((t + 1 : Nat) : Int) = (t : Int) + 1 by omega] at this
        exact zP_m this (fun _ _ _ _ _ _ h => RQ_t f k h)
      · obtain ⟨n, rfl⟩ : ∃ m, n = m + 1 := ⟨n - 1, (by first | decide | omega)⟩
        obtain ⟨n', rfl⟩ : ∃ m, n' = m + 1 := ⟨n' - 1, (by first | decide | omega)⟩
        rw [C_rpX h11 h3 s hx rt1 (by rw [T1.1, ht.1]; exact rt), L_rpX s.2.2.2.1 (by first | decide | omega) rt2 (by rw [T1.2.1 9 _ (by decide), ht.2.1]; exact rt)]
        exact zP_s ⟨f, Or.inr (WE_dn s)⟩
    rw [rpT_e, rpM_e, if_pos ⟨Int.le_refl _, h11⟩, hS.1.1, if_pos ⟨Int.le_refl _, h3⟩, if_pos hx, if_pos rt0, hT.1 2 x, ht.1, if_pos rt, if_neg (by first | decide | omega), hS.1.2.2.1, if_pos (by decide), if_pos rfl, pe, if_pos (by first | decide | omega), if_pos rt1, hT.2.1 9 _ (by decide), ht.2.1, if_pos rt, if_neg (by first | decide | omega), L_good hS.1.2.2.2, zb_s, if_pos (by decide), if_neg (by decide)]
    refine zP_c (P_count h11 hS (by first | decide | omega) (by first | decide | omega) hpl) ?_
    intro r1 F1 B1 r1' Fm1 Bm1 ⟨eB, eM, f, s⟩
    subst eB eM
    have f0 : F1 11 0 0 = 0 := by
      rcases s with ⟨s, _⟩ | s
      · exact s.1.1
      · exact s.1
    rw [f0, if_pos ⟨Int.le_refl _, h3⟩, if_pos (by first | decide | omega), hT.1 4 x, hT.2.2.1 30 _ (by decide) (by decide) hi.2]
    rcases s with ⟨s, _, k⟩ | s
    · have W := hL.1 m _ _ _ F1 B1 Fm1 Bm1 hl (by first | decide | omega) hb.2 hT (by rw [f.2.2.2.1 14 0 27 (by first | decide | omega)]; exact hnl) (WC_f hC f) s
      rw [show ((D + 1 : Nat) : Int) = (D : Int) + 1 by omega] at W
      refine zP_c W ?_
      intro r2 F2 B2 r2' Fm2 Bm2 ⟨g, u⟩
      refine fin F2 B2 Fm2 Bm2 (WFR_t f g) ?_
      rcases u with ⟨u, k'⟩ | u
      · exact Or.inl ⟨u, WKP_t k k'⟩
      · exact Or.inr u
    · rw [hL.2.1 (D + 1) _ _ F1 B1 Fm1 s (LRf_x hl).1, zb_s, hL.2.2 _ _ Fm1 Bm1 s.2.2.2.1, zb_s]
      exact fin F1 B1 Fm1 Bm1 f (Or.inr s)
end
