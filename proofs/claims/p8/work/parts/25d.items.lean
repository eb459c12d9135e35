section
/-! ===== the walk: every item, every list ===== -/
theorem C_goK {K : zK} {o : oT_CW} {x l : Int} {F : zF} {B : zB} (h11 : 0 < K.2 11) (h3 : 0 < K.2 3) (f0 : F 11 0 0 = 0) (hx : 0 ≤ x ∧ x < 3000) : (B 3 0 0 x = 3 → fb_Walker_goItem o K 0 x l F B = zbind (o.2.2.1 0 x l F B) (fun _ F1 B1 => some (0, F1, B1))) ∧ (B 3 0 0 x = 4 → fb_Walker_goItem o K 0 x l F B = zbind (o.2.2.2.1 0 x l F B) (fun _ F1 B1 => some (0, F1, B1))) ∧ (B 3 0 0 x = 6 → fb_Walker_goItem o K 0 x l F B = zbind (o.2.2.2.2.1 0 1 x l F B) (fun _ F1 B1 => some (0, F1, B1))) ∧ (B 3 0 0 x = 7 → fb_Walker_goItem o K 0 x l F B = zbind (o.2.2.2.2.1 0 (-1) x l F B) (fun _ F1 B1 => some (0, F1, B1))) ∧ (B 3 0 0 x = 8 → fb_Walker_goItem o K 0 x l F B = zbind (o.2.2.2.2.2 0 (B 3 0 4 x) l F B) (fun _ F1 B1 => some (0, F1, B1))) := by
  unfold fb_Walker_goItem
  simp only [f_Walker_goItem_285]
  rw [if_pos ⟨Int.le_refl _, h11⟩, f0, if_pos ⟨Int.le_refl _, h3⟩, if_pos hx]
  refine ⟨fun h => ?_, fun h => ?_, fun h => ?_, fun h => ?_, fun h => ?_⟩
  · rw [h, if_pos (by decide), if_neg (by decide), if_neg (by decide), if_neg (by decide), if_pos rfl]
  · rw [h, if_pos (by decide), if_neg (by decide), if_neg (by decide), if_neg (by decide), if_neg (by decide), if_pos rfl]
  · rw [h, if_pos (by decide), if_neg (by decide), if_neg (by decide), if_neg (by decide), if_neg (by decide), if_neg (by decide), if_neg (by decide), if_pos rfl]
  · rw [h, if_pos (by decide), if_neg (by decide), if_neg (by decide), if_neg (by decide), if_neg (by decide), if_neg (by decide), if_neg (by decide), if_neg (by decide), if_pos rfl]
  · rw [h, if_pos (by decide), if_neg (by decide), if_neg (by decide), if_neg (by decide), if_neg (by decide), if_neg (by decide), if_neg (by decide), if_neg (by decide), if_neg (by decide), if_pos rfl]
theorem zP_w {x y : zO} {Q : Int → zF → zB → Int → zF → zB → Prop} {P : zF → zB → zF → zB → Prop} (h : zP x y (fun _ F B _ F' B' => P F B F' B')) : zP (zbind x (fun _ F1 B1 => some (0, F1, B1))) (zbind y (fun _ F1 B1 => some (0, F1, B1))) (fun _ F B _ F' B' => P F B F' B') := by
  obtain ⟨r, F, B, r', F', B', e, e', q⟩ := h
  rw [e, e', zb_s, zb_s]
  exact zP_s q
theorem IR_p {L : Int} {d : Nat} {B Bm : zB} {x i : Int} (h : IRd L d B Bm x i) : B 3 0 1 x = Bm 14 0 8 i := by
  cases d with
  | zero => exact h.1
  | succ d =>
    rcases h with h | h
    · exact h.1
    · exact h.1
theorem LS_of {K : zK} {Km : Nat} {N nl q v w bar : Int} {B0 Bm0 : zB} {D g g' : Nat} {R : zB → zB → Int → Int → Prop} (hK : 3002 ≤ K.1) (h11 : 0 < K.2 11) (hKm : 3002 ≤ Km) (hI : ISim K Km N nl q v w bar B0 Bm0 D (gr_CW K g).2.1 (gr_W Km g').2.1 R) (hR : ∀ x i, R B0 Bm0 x i → B0 3 0 1 x = Bm0 14 0 8 i) (hD : D < 64) : LSim K Km N nl q v w bar B0 Bm0 D (gr_CW K (g + 1)).1 (gr_W Km (g' + 1)).1 R := by
  refine ⟨fun m x i e F B Fm Bm hl i0 he hT hnl hC hS => ?_, fun D' x l F B Fm h hx => ?_, fun i e F B h => ?_⟩
  · have ln := LRf_len hl
    exact P_list hI hR hD he m K.1 Km hl (Int.le_refl _) (by first | decide | omega) i0 (by first | decide | omega) (by first | decide | omega) hT hnl hC hS
  · obtain ⟨k, hk⟩ : ∃ k, K.1 = k + 1 := ⟨K.1 - 1, (by first | decide | omega)⟩
    show f_Walker_goThrough_5 (gr_CW K g) K K.1 0 x 0 l F B = _
    rw [show f_Walker_goThrough_5 (gr_CW K g) K K.1 = f_Walker_goThrough_5 (gr_CW K g) K (k + 1) by rw [← hk]]
    exact C_goX h11 h (by decide) hx
  · obtain ⟨k, hk⟩ : ∃ k, Km = k + 1 := ⟨Km - 1, (by first | decide | omega)⟩
    show f_M_walk_2 (gr_W Km g') Km Km i e F B = _
    rw [show f_M_walk_2 (gr_W Km g') Km Km = f_M_walk_2 (gr_W Km g') Km (k + 1) by rw [← hk]]
    exact L_walkX h
theorem P_leaf {K : zK} {Km : Nat} {N nl L q v w bar x i : Int} {B0 Bm0 : zB} {D g g' : Nat} {F : zF} {B : zB} {Fm : zF} {Bm : zB} (hMW : MW Bm0) (hLT : LTW nl B0 Bm0) (hLn : L ≤ nl) (hL : ∀ p, 0 ≤ p → p < L → LSim K Km N nl q v w bar B0 Bm0 (D + 1) (gr_CW K (g + 1)).1 (gr_W Km g').1 (IRd p 7)) (hr : IRl L B0 Bm0 x i) (hx : 0 ≤ x ∧ x < 3000) (hi : 0 ≤ i ∧ i < N) (hT : WT N B0 Bm0 B Bm) (hnl : Fm 14 0 27 = nl) (hC : WC K Km N q v w bar B Fm Bm) (hS : WS q v w bar D F B Fm Bm) (hD : D < 64) : zP (fb_Walker_goItem (gr_CW K (g + 1)) K 0 x D F B) (fb_M_go (gr_W Km (g' + 1)) Km i Fm Bm) (fun _ F' B' _ Fm' Bm' => WO q v w bar D F B Fm Bm F' B' Fm' Bm') := by
  obtain ⟨hp, h⟩ := hr
  rcases h with ⟨k0, h⟩ | ⟨k0, h⟩ | ⟨k0, h, h'⟩ | ⟨k0, h⟩
  · exact P_evI hx hi hT hC hS (by first | decide | omega) k0 hp h
  · exact P_barI (oM' := gr_W Km g') (fun _ _ => rfl) hx hi hT hC hS (by first | decide | omega) k0 hp h
  · exact P_loudI (oM' := gr_W Km g') hMW (fun _ _ => rfl) hx hi hT hC hS k0 h h'
  · exact P_usI (oM' := gr_W Km g') hL hLn hLT (fun _ _ => rfl) hx hi hT hnl hC hS hD k0 h
theorem P_node {K : zK} {Km : Nat} {N nl q v w bar x i : Int} {B0 Bm0 : zB} {D g g' : Nat} {R : zB → zB → Int → Int → Prop} {F : zF} {B : zB} {Fm : zF} {Bm : zB} (hL : LSim K Km N nl q v w bar B0 Bm0 (D + 1) (gr_CW K g).1 (gr_W Km g').1 R) (hL' : LSim K Km N nl q v w bar B0 Bm0 (D + 1) (gr_CW K (g + 1)).1 (gr_W Km g').1 R) (hr : IRn R B0 Bm0 x i) (hx : 0 ≤ x ∧ x < 3000) (hi : 0 ≤ i ∧ i < N) (hT : WT N B0 Bm0 B Bm) (hnl : Fm 14 0 27 = nl) (hC : WC K Km N q v w bar B Fm Bm) (hS : WS q v w bar D F B Fm Bm) (hD : D < 64) (hg : F 11 0 7 < F 11 0 3) : zP (fb_Walker_goItem (gr_CW K (g + 1)) K 0 x D F B) (fb_M_go (gr_W Km (g' + 1)) Km i Fm Bm) (fun _ F' B' _ Fm' Bm' => WO q v w bar D F B Fm Bm F' B' Fm' Bm') := by
  have h11 := hC.2.2.1
  have h3 := hC.2.2.2.1
  obtain ⟨N0, N1, hTK⟩ := hC.2.2.2.2.2.2.2.1
  obtain ⟨c3, c4, c6, c7, c8⟩ := C_goK (K := K) (o := gr_CW K (g + 1)) (x := x) (l := D) (F := F) (B := B) h11 h3 hS.1.1 hx
  rw [hT.1 0 x] at c3 c4 c6 c7 c8
  have z45 := hS.2.2.2.2.2.2.2.2.2.2.2.1
  have f45 : 0 ≤ Fm 14 0 45 ∧ Fm 14 0 45 < 100 := by omega
  have ri : 0 ≤ i ∧ i < 3001 := by omega
  have w7 : ∀ {a : Int}, wdAt Bm0 i a → Bm 14 0 7 i = 4 ∧ Bm 14 0 11 i = a := fun h => by
    rw [hT.2.1 7 i (by decide), hT.2.1 11 i (by decide)]; exact h
  have pt : ∀ {j : Int}, 0 ≤ j → j ≤ N → Bm0 14 0 7 j = 2 → (0 ≤ Bm0 14 0 9 j ∧ Bm0 14 0 9 j ≤ 62) ∧ (-2 ≤ Bm0 14 0 10 j ∧ Bm0 14 0 10 j ≤ 2) ∧ j < N := fun {j} j0 j1 h => by
    have t := hTK j j0 j1
    have t4 := t.2.2.2.1
    have t5 := t.2.2.2.2.1
    rw [hT.2.1 7 j (by decide)] at t4 t5
    rw [hT.2.1 9 j (by decide), hT.2.1 10 j (by decide)] at t5
    have := t5 h
    have : ¬ j = N := fun z => by have := t4.mpr z; omega
    omega
  obtain ⟨hp, h⟩ := hr
  rcases h with ⟨k0, hs, n1, n2, b1, b2, m, hl⟩ | ⟨k0, hw, n1, ⟨b1, b2, m, hl⟩, ha⟩ | ⟨k0, hw, t1, t2, e2, e3, b1, b2, m, hl⟩ | ⟨k0, hw, t1, e2, e3, b1, b2, m, hl⟩ | ⟨k0, hw, b1, b2, m, hl⟩ | ⟨k0, hw, n1, n2, b1, b2, m, hl⟩
  · have m7 : Bm 14 0 7 i = 5 := by rw [hT.2.1 7 i (by decide)]; exact hs.1
    have m9 : Bm 14 0 9 i = 91 := by rw [hT.2.1 9 i (by decide)]; exact hs.2
    rw [c3 k0, L_goS ri m7 (by rw [m9]; decide) (by rw [m9]; decide)]
    exact zP_w (Q := fun _ _ _ _ _ _ => True) (P_br hL hx hi hT hnl hC hS hD hg hp hs n1 n2 ⟨b1, b2⟩ hl)
  · rw [c4 k0, (L_goW ri (w7 hw).1).1 (w7 hw).2]
    exact zP_w (Q := fun _ _ _ _ _ _ => True) (P_rp hL hx hi hT hnl hC hS hD hp n1 ⟨b1, b2⟩ hl ha)
  · have u1 := pt (j := i + 1) (by first | decide | omega) (by first | decide | omega) t1
    have u2 := pt (j := i + 2) (by first | decide | omega) (by first | decide | omega) t2
    have v1 := tnv_b u1.1.1 u1.1.2
    have v2 := tnv_b u2.1.1 u2.1.2
    have e9 : ∀ j, Bm 14 0 9 j = Bm0 14 0 9 j := fun j => hT.2.1 9 j (by decide)
    have em : ∀ j, mvV Bm j = mvV Bm0 j := fun j => by unfold mvV; rw [e9, hT.2.1 10 j (by decide)]
    rw [c6 k0, (L_goW ri (w7 hw).1).2.2.1 (Or.inl (w7 hw).2)]
    refine zP_w (Q := fun _ _ _ _ _ _ => True) ?_
    show zP (fb_Walker_goCarried (gr_CW K g) K 0 1 x D F B) (fb_M_goChange (gr_W Km g') Km i Fm Bm) _
    rw [L_chg0 (by first | decide | omega) (w7 hw).2 f45 (by rw [e9]; exact u1.1) (by rw [e9]; exact u2.1)]
    refine P_car hL hx (by first | decide | omega) hT hnl hC hS hD (Or.inl ⟨rfl, rfl, ?_, ?_⟩) ?_ ?_ ⟨b1, b2⟩ hl
    · rw [e9, e9]; exact e2
    · rw [em, em]; exact e3
    · omega
    · rw [e3]; unfold mvV; omega
  · have u1 := pt (j := i + 1) (by first | decide | omega) (by first | decide | omega) t1
    have v1 := tnv_b u1.1.1 u1.1.2
    have e9 : ∀ j, Bm 14 0 9 j = Bm0 14 0 9 j := fun j => hT.2.1 9 j (by decide)
    have em : ∀ j, mvV Bm j = mvV Bm0 j := fun j => by unfold mvV; rw [e9, hT.2.1 10 j (by decide)]
    rw [c7 k0, (L_goW ri (w7 hw).1).2.2.1 (Or.inr (w7 hw).2)]
    refine zP_w (Q := fun _ _ _ _ _ _ => True) ?_
    show zP (fb_Walker_goCarried (gr_CW K g) K 0 (-1) x D F B) (fb_M_goChange (gr_W Km g') Km i Fm Bm) _
    rw [L_chg1 (by first | decide | omega) (w7 hw).2 f45 (by rw [e9]; exact u1.1)]
    refine P_car hL hx (by first | decide | omega) hT hnl hC hS hD (Or.inr ⟨rfl, rfl, ?_, ?_⟩) ?_ ?_ ⟨b1, b2⟩ hl
    · rw [e9]; exact e2
    · rw [em]; exact e3
    · omega
    · rw [e3]; unfold mvV; omega
  · rw [c8 k0, (L_goW ri (w7 hw).1).2.2.2.1 (w7 hw).2, hT.1 4 x]
    exact zP_w (Q := fun _ _ _ _ _ _ => True) (P_bk hL hi hT hnl hC hS hD ⟨b1, b2⟩ hl)
  · exact P_slI (oM' := gr_W Km g') hL' (fun _ _ => rfl) hx hi hT hnl hC hS hD k0 hw n1 n2 ⟨b1, b2⟩ hl
theorem I_all {K : zK} {Km : Nat} {N nl q v w bar : Int} {B0 Bm0 : zB} (hK : 3002 ≤ K.1) (h11 : 0 < K.2 11) (hKm : 3002 ≤ Km) (hMW : MW Bm0) (hLT : LTW nl B0 Bm0) : ∀ (n : Nat) (L : Int) (d D g g' : Nat), 0 ≤ L → L ≤ nl → d ≤ 7 → d + 8 * L.toNat = n → D + n ≤ 62 → 3 * n + 3 ≤ g → 3 * n + 3 ≤ g' → ISim K Km N nl q v w bar B0 Bm0 D (gr_CW K g).2.1 (gr_W Km g').2.1 (IRd L d) := by
  intro n
  induction n using Nat.strongRecOn with
  | ind n ih =>
    intro L d D g g' L0 Ln d7 hn hD hg hg'
    obtain ⟨g, rfl⟩ : ∃ m, g = m + 1 + 1 := ⟨g - 2, (by first | decide | omega)⟩
    obtain ⟨g', rfl⟩ : ∃ m, g' = m + 1 + 1 := ⟨g' - 2, (by first | decide | omega)⟩
    have ls : ∀ (L2 : Int) (d2 g2 g2' : Nat), 0 ≤ L2 → L2 ≤ nl → d2 ≤ 7 → d2 + 8 * L2.toNat < n → g ≤ g2 → g' ≤ g2' → LSim K Km N nl q v w bar B0 Bm0 (D + 1) (gr_CW K g2).1 (gr_W Km g2').1 (IRd L2 d2) := by
      intro L2 d2 g2 g2' a0 a1 a2 a3 a4 a5
      obtain ⟨g2, rfl⟩ : ∃ m, g2 = m + 1 := ⟨g2 - 1, (by first | decide | omega)⟩
      obtain ⟨g2', rfl⟩ : ∃ m, g2' = m + 1 := ⟨g2' - 1, (by first | decide | omega)⟩
      exact LS_of hK h11 hKm (ih _ a3 L2 d2 (D + 1) g2 g2' a0 a1 a2 rfl (by first | decide | omega) (by first | decide | omega) (by first | decide | omega)) (fun _ _ h => IR_p h) (by first | decide | omega)
    intro x i F B Fm Bm hr hx hi hT hnl hC hS hgo
    show zP (fb_Walker_goItem (gr_CW K (g + 1)) K 0 x D F B) (fb_M_go (gr_W Km (g' + 1)) Km i Fm Bm) _
    have us : ∀ p, 0 ≤ p → p < L → LSim K Km N nl q v w bar B0 Bm0 (D + 1) (gr_CW K (g + 1)).1 (gr_W Km g').1 (IRd p 7) := fun p p0 p1 => ls p 7 (g + 1) g' p0 (by first | decide | omega) (Nat.le_refl _) (by first | decide | omega) (by first | decide | omega) (Nat.le_refl _)
    cases d with
    | zero => exact P_leaf hMW hLT Ln us hr hx hi hT hnl hC hS (by first | decide | omega)
    | succ d =>
      rcases hr with hr | hr
      · exact P_leaf hMW hLT Ln us hr hx hi hT hnl hC hS (by first | decide | omega)
      · exact P_node (ls L d g g' L0 Ln (by first | decide | omega) (by first | decide | omega) (Nat.le_refl _) (Nat.le_refl _)) (ls L d (g + 1) g' L0 Ln (by first | decide | omega) (by first | decide | omega) (by first | decide | omega) (Nat.le_refl _)) hr hx hi hT hnl hC hS (by first | decide | omega) hgo
theorem L_all {K : zK} {Km : Nat} {N nl q v w bar : Int} {B0 Bm0 : zB} (hK : 3002 ≤ K.1) (h11 : 0 < K.2 11) (hKm : 3002 ≤ Km) (hMW : MW Bm0) (hLT : LTW nl B0 Bm0) : LSim K Km N nl q v w bar B0 Bm0 0 (gr_CW K 200).1 (gr_W Km 200).1 (IRd nl 7) :=
  LS_of hK h11 hKm (I_all hK h11 hKm hMW hLT (7 + 8 * nl.toNat) nl 7 0 199 199 hLT.1.1 (Int.le_refl _) (Nat.le_refl _) rfl (by have := hLT.1; omega) (by have := hLT.1; omega) (by have := hLT.1; omega)) (fun _ _ h => IR_p h) (by decide)
end
