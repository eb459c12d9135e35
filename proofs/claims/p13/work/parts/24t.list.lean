section
section
/-! ===== the walk: a list of items ===== -/
theorem WS_mk {q v w bar : Int} {D D' : Nat} {F F' : zF} {B B' : zB} {Fm Fm' : zF} {Bm Bm' : zB} (hS : WS q v w bar D F B Fm Bm) (fn : ∀ c y k, ¬ (c = 11 ∧ y = 0 ∧ (4 ≤ k ∧ k ≤ 10 ∨ 14 ≤ k)) → F' c y k = F c y k) (gn : ∀ c y k, ¬ (c = 14 ∧ y = 0 ∧ (40 ≤ k ∧ k ≤ 50)) → Fm' c y k = Fm c y k) (bn : ∀ c y k x, ¬ (c = 11 ∧ y = 0) → B' c y k x = B c y k x) (mn : ∀ c y k x, ¬ (c = 14 ∧ y = 0 ∧ 42 ≤ k ∧ k ≤ 51) → Bm' c y k x = Bm c y k x) (h4 : F' 11 0 4 = Fm' 14 0 40 ∧ 0 ≤ F' 11 0 4 ∧ F' 11 0 4 ≤ 7) (h5 : F' 11 0 5 = Fm' 14 0 41 ∧ 0 ≤ F' 11 0 5 ∧ F' 11 0 5 ≤ D') (h6 : F' 11 0 6 = Fm' 14 0 48 ∧ 0 ≤ F' 11 0 6 ∧ F' 11 0 6 ≤ D') (h7 : F' 11 0 7 = Fm' 14 0 50 ∧ 0 ≤ F' 11 0 7 ∧ F' 11 0 7 ≤ F' 11 0 3) (h8 : 0 < F' 11 0 6 → 1 ≤ F' 11 0 7 ∧ F' 11 0 8 = Bm' 14 0 8 (Fm' 14 0 49) ∧ 0 ≤ Fm' 14 0 49 ∧ Fm' 14 0 49 ≤ 3000 ∧ 0 ≤ F' 11 0 8 ∧ F' 11 0 8 ≤ 3000) (h9 : TPL (F' 11 0 6) (F' 11 0 9) (F' 11 0 10) Bm') (h11 : ∀ k, 0 ≤ k → k < 4 → B' 11 0 14 k = Bm' 14 0 51 (prN k) ∧ -(3 * (D' : Int)) ≤ B' 11 0 14 k ∧ B' 11 0 14 k ≤ 3 * (D' : Int)) (h12 : F' 11 0 18 = Fm' 14 0 45 ∧ 0 ≤ F' 11 0 18 ∧ F' 11 0 18 ≤ D' ∧ ∀ k, 0 ≤ k → k < F' 11 0 18 → CRk B' Bm' k) : WS q v w bar D' F' B' Fm' Bm' := by
  obtain ⟨⟨a1, a2, a3, a4⟩, ⟨b1, b2, b3, b4⟩, c, _, _, _, _, _, _, s10, _, _, s13⟩ := hS
  refine ⟨?_, ?_, ?_, h4, h5, h6, h7, h8, h9, ?_, h11, h12, ?_⟩
  · rw [fn 11 0 0 (by first | decide | omega), fn 11 0 1 (by first | decide | omega), fn 11 0 2 (by first | decide | omega), gn 14 0 17 (by first | decide | omega)]; exact ⟨a1, a2, a3, a4⟩
  · rw [fn 11 0 13 (by first | decide | omega), fn 11 0 12 (by first | decide | omega), gn 14 0 35 (by first | decide | omega), gn 14 0 6 (by first | decide | omega)]; exact ⟨b1, b2, b3, b4⟩
  · rw [fn 11 0 3 (by first | decide | omega), gn 14 0 37 (by first | decide | omega)]; exact c
  · rw [fn 11 0 11 (by first | decide | omega), gn 14 0 38 (by first | decide | omega), gn 14 0 39 (by first | decide | omega)]; exact s10
  · rw [fn 4 q 6 (by first | decide | omega), gn 14 0 36 (by first | decide | omega)]
    refine ⟨s13.1, s13.2.1, s13.2.2.1, fun j u t => ?_⟩
    rw [bn 4 q 5 j (by first | decide | omega)]
    exact EVW_f (s13.2.2.2 j u t) (fun k => fn 1 _ k (by first | decide | omega)) (fun k y => bn 1 _ k y (by first | decide | omega)) (fun k _ _ => mn 13 w k _ (by first | decide | omega)) (fun k y _ _ _ _ => mn 13 w k y (by first | decide | omega)) (fun y => mn 14 0 8 y (by first | decide | omega))
theorem WFR_mk {q v w : Int} {F F' : zF} {B B' : zB} {Fm Fm' : zF} {Bm Bm' : zB} (fn : ∀ c y k, ¬ (c = 11 ∧ y = 0 ∧ ¬ k = 11) → F' c y k = F c y k) (gn : ∀ c y k, ¬ (c = 14 ∧ y = 0 ∧ (k ≤ 1 ∨ k = 17 ∨ k = 18 ∨ 36 ≤ k ∧ k ≤ 50)) → Fm' c y k = Fm c y k) (bn : ∀ c y k x, ¬ (c = 11 ∧ y = 0) → B' c y k x = B c y k x) (mn : ∀ c y k x, ¬ (c = 14 ∧ y = 0 ∧ 42 ≤ k ∧ k ≤ 51) → Bm' c y k x = Bm c y k x) : WFR q v w F B Fm Bm F' B' Fm' Bm' := by
  refine ⟨fun c y k a _ _ => fn c y k (by first | decide | omega), fun c y k x a _ _ => bn c y k x a, fun y => ?_, gn, fun c i k x a _ => mn c i k x a, fun h => ⟨fun t t' a b a' b' e => ?_, fun c => ⟨by rw [fn 4 q 6 (by first | decide | omega)]; exact c, SD_c (fn 11 0 11 (by first | decide | omega)) (fn 4 q 6 (by first | decide | omega)) c (fun j _ _ => by rw [fn 1 _ 1 (by first | decide | omega), bn 4 q 5 j (by first | decide | omega)])⟩⟩⟩
  · unfold ownE
    simp only [bn 4 q 5 _ (by first | decide | omega)]
  · rw [bn 4 q 5 t (by first | decide | omega), bn 4 q 5 t' (by first | decide | omega)] at e
    exact h t t' a b a' b' e
def ISim (K : zK) (Km : Nat) (N nl q v w bar : Int) (B0 Bm0 : zB) (D : Nat) (cI : Int → Int → Int → zF → zB → zO) (mI : Int → zF → zB → zO) (R : zB → zB → Int → Int → Prop) : Prop := ∀ x i F B Fm Bm, R B0 Bm0 x i → 0 ≤ x ∧ x < 3000 → 0 ≤ i ∧ i < N → WT N B0 Bm0 B Bm → Fm 14 0 27 = nl → WC K Km N q v w bar B Fm Bm → WS q v w bar D F B Fm Bm → F 11 0 7 < F 11 0 3 → zP (cI 0 x D F B) (mI i Fm Bm) (fun _ F' B' _ Fm' Bm' => WO q v w bar D F B Fm Bm F' B' Fm' Bm')
theorem LRf_len {R : zB → zB → Int → Int → Prop} {B Bm : zB} : ∀ {m : Nat} {x i e : Int}, LRf R B Bm m x i e → (m : Int) ≤ e - i := by
  intro m
  induction m with
  | zero => intro x i e h; have := h.2; omega
  | succ m ih =>
    intro x i e h
    have := ih h.2.2.2
    have := h.2.1.1
    omega
theorem LRf_x {R : zB → zB → Int → Int → Prop} {B Bm : zB} {m : Nat} {x i e : Int} (h : LRf R B Bm m x i e) : r32 x ∧ i ≤ e := by
  cases m with
  | zero => exact ⟨by rw [h.1]; decide, by have := h.2; omega⟩
  | succ m => exact ⟨by have := h.1; unfold r32; omega, by have := h.2.1; omega⟩
theorem WE_n {D : Nat} {q v w : Int} {F Fm : zF} (h : WE D q v w F Fm) : r32 (F 11 0 2) ∧ ¬ F 11 0 2 = 0 := by
  obtain ⟨a1, a2, a3, a4, a5, _⟩ := h
  unfold bad at a4
  unfold r32
  omega
theorem C_goX {K : zK} {o : oT_CW} {D n : Nat} {q v w cnt x l2 : Int} {F Fm : zF} {B : zB} (h11 : 0 < K.2 11) (h : WE D q v w F Fm) (hc : r32 cnt) (hx : r32 x) : f_Walker_goThrough_5 o K (n + 1) cnt x 0 l2 F B = some (0, F, B) := by
  obtain ⟨e1, e2⟩ := WE_n h
  rw [f_Walker_goThrough_5]
  simp only [f_Walker_goThrough_73]
  rw [if_pos hc]
  by_cases c1 : 3000 ≤ cnt
  · rw [if_pos c1]
  rw [if_neg c1, if_pos hx]
  by_cases c2 : x = -1
  · rw [if_pos c2]
  rw [if_neg c2, if_pos ⟨Int.le_refl _, h11⟩, if_pos e1, if_neg e2]
theorem L_walkX {K : Nat} {o : oT_W} {n : Nat} {i e : Int} {F : zF} {B : zB} (h : bad F) : f_M_walk_2 o K (n + 1) i e F B = some (0, F, B) := by
  rw [f_M_walk_2, L_goodB h, zb_s, if_pos (by decide), if_pos rfl, f_M_walk_41]
theorem P_list {K : zK} {Km : Nat} {N nl q v w bar e : Int} {B0 Bm0 : zB} {D : Nat} {o : oT_CW} {oM : oT_W} {R : zB → zB → Int → Int → Prop} (hI : ISim K Km N nl q v w bar B0 Bm0 D o.2.1 oM.2.1 R) (hR : ∀ x i, R B0 Bm0 x i → B0 3 0 1 x = Bm0 14 0 8 i) (hD : D < 64) (he : e ≤ 3000) : ∀ (m n n' : Nat) {cnt x i : Int} {F : zF} {B : zB} {Fm : zF} {Bm : zB}, LRf R B0 Bm0 m x i e → 0 ≤ cnt → cnt + m ≤ 3000 → 0 ≤ i → m + 1 < n → m + 1 < n' → WT N B0 Bm0 B Bm → Fm 14 0 27 = nl → WC K Km N q v w bar B Fm Bm → WS q v w bar D F B Fm Bm → zP (f_Walker_goThrough_5 o K n cnt x 0 D F B) (f_M_walk_2 oM Km n' i e Fm Bm) (fun _ F' B' _ Fm' Bm' => WO q v w bar D F B Fm Bm F' B' Fm' Bm') := by
  intro m
  induction m with
  | zero =>
    intro n n' cnt x i F B Fm Bm h c0 c1 i0 hn hn' hT hnl hC hS
    obtain ⟨n, rfl⟩ : ∃ m, n = m + 1 := ⟨n - 1, (by first | decide | omega)⟩
    obtain ⟨n', rfl⟩ : ∃ m, n' = m + 1 := ⟨n' - 1, (by first | decide | omega)⟩
    have hN := hC.2.2.2.2.2.2.2.1.2.1
    have c : f_Walker_goThrough_5 o K (n + 1) cnt x 0 D F B = some (0, F, B) := by
      rw [f_Walker_goThrough_5, if_pos (by unfold r32; omega), h.1]
      by_cases c1 : 3000 ≤ cnt
      · rw [if_pos c1, f_Walker_goThrough_73]
      · rw [if_neg c1, if_pos (by decide), if_pos rfl, f_Walker_goThrough_73]
    rw [c, f_M_walk_2, L_good hS.1.2.2.2, zb_s, if_pos (by decide), if_neg (by decide), h.2, if_pos (by unfold r32; have := h.2; omega), if_pos (by unfold r32; have := h.2; omega), if_pos (Int.le_refl _), f_M_walk_41]
    exact zP_s ⟨WFR_r, Or.inl ⟨hS, WKP_r⟩⟩
  | succ m ih =>
    intro n n' cnt x i F B Fm Bm h c0 c1 i0 hn hn' hT hnl hC hS
    obtain ⟨n, rfl⟩ : ∃ m, n = m + 1 := ⟨n - 1, (by first | decide | omega)⟩
    obtain ⟨n', rfl⟩ : ∃ m, n' = m + 1 := ⟨n' - 1, (by first | decide | omega)⟩
    obtain ⟨hx, hi, hr, hl⟩ := h
    have h11 := hC.2.2.1
    have h3 := hC.2.2.2.1
    obtain ⟨N0, N1, hTK⟩ := hC.2.2.2.2.2.2.2.1
    obtain ⟨lx, _⟩ := LRf_x hl
    have iN : i < N := by
      rcases Int.lt_or_le i N with z | z
      · exact z
      · have := (hT.2.2.2 i z).2
        omega
    have a1 := hS.1.1
    have a3 := hS.1.2.2.1
    have a4 := hS.1.2.2.2
    have hp := (hTK i i0 (by first | decide | omega)).2.2.2.2.2.2.2.2.2.1
    have pe : B 3 0 1 x = Bm 14 0 8 i := by rw [hT.1, hT.2.1 8 i (by decide)]; exact hR x i hr
    have nx : ∀ (F1 : zF) (B1 : zB) (Fm1 : zF) (Bm1 : zB), WT N B0 Bm0 B1 Bm1 → F1 11 0 0 = 0 → f_Walker_goThrough_57 o (f_Walker_goThrough_5 o K n) K cnt x 0 D F1 B1 = f_Walker_goThrough_5 o K n (cnt + 1) (B0 3 0 5 x) 0 D F1 B1 ∧ f_M_walk_31 oM (f_M_walk_2 oM Km n') Km i e Fm1 Bm1 = f_M_walk_2 oM Km n' (Bm0 14 0 31 i) e Fm1 Bm1 := by
      intro F1 B1 Fm1 Bm1 t z
      unfold f_Walker_goThrough_57 f_M_walk_31
      rw [if_pos ⟨Int.le_refl _, h11⟩, z, if_pos ⟨Int.le_refl _, h3⟩, if_pos hx, t.1, if_pos ⟨i0, (by first | decide | omega)⟩, t.2.2.1 31 i (by decide) (by decide) iN]
      exact ⟨rfl, rfl⟩
    obtain ⟨n1, rfl⟩ : ∃ m, n = m + 1 := ⟨n - 1, (by first | decide | omega)⟩
    obtain ⟨n2, rfl⟩ : ∃ m, n' = m + 1 := ⟨n' - 1, (by first | decide | omega)⟩
    have fin : ∀ (F1 : zF) (B1 : zB) (Fm1 : zF) (Bm1 : zB), WO q v w bar D F B Fm Bm F1 B1 Fm1 Bm1 → zP (f_Walker_goThrough_57 o (f_Walker_goThrough_5 o K (n1 + 1)) K cnt x 0 D F1 B1) (f_M_walk_31 oM (f_M_walk_2 oM Km (n2 + 1)) Km i e Fm1 Bm1) (fun _ F' B' _ Fm' Bm' => WO q v w bar D F B Fm Bm F' B' Fm' Bm') := by
      intro F1 B1 Fm1 Bm1 ⟨f, s⟩
      have t := WT_f hT f
      rcases s with ⟨s, k⟩ | s
      · obtain ⟨y1, y2⟩ := nx F1 B1 Fm1 Bm1 t s.1.1
        rw [y1, y2]
        refine zP_m (ih (n1 + 1) (n2 + 1) hl (by first | decide | omega) (by first | decide | omega) (by first | decide | omega) (by first | decide | omega) (by first | decide | omega) t (by rw [f.2.2.2.1 14 0 27 (by first | decide | omega)]; exact hnl) (WC_f hC f) s) ?_
        intro r F2 B2 r' Fm2 Bm2 ⟨g, u⟩
        refine ⟨WFR_t f g, ?_⟩
        rcases u with ⟨u, k'⟩ | u
        · exact Or.inl ⟨u, WKP_t k k'⟩
        · exact Or.inr u
      · obtain ⟨y1, y2⟩ := nx F1 B1 Fm1 Bm1 t s.1
        rw [y1, y2, C_goX h11 s (by unfold r32; omega) lx, L_walkX s.2.2.2.1]
        exact zP_s ⟨f, Or.inr s⟩
    rw [f_Walker_goThrough_5, f_M_walk_2]
    rw [if_pos (by unfold r32; omega), if_neg (by first | decide | omega), if_pos (by unfold r32; omega), if_neg (by first | decide | omega), if_pos ⟨Int.le_refl _, h11⟩, a3, if_pos (by decide), if_pos rfl, if_pos (by unfold r32; omega), if_neg (by first | decide | omega), a1, if_pos ⟨Int.le_refl _, h3⟩, if_pos hx, L_good a4, zb_s, if_pos (by decide), if_neg (by decide), if_pos (by unfold r32; omega), if_pos (by unfold r32; omega), if_neg (by first | decide | omega), pe]
    refine zP_c (P_count h11 hS (by first | decide | omega) (by first | decide | omega) hp) ?_
    intro r F1 B1 r' Fm1 Bm1 ⟨eB, eM, f, s⟩
    subst eB eM
    rcases s with ⟨s, lt, k⟩ | s
    · rw [s.1.2.2.1, if_pos (by decide), if_pos rfl, L_good s.1.2.2.2, zb_s, if_pos (by decide), if_neg (by decide)]
      refine zP_c (hI x i F1 B1 Fm1 Bm1 hr hx (by first | decide | omega) hT (by rw [f.2.2.2.1 14 0 27 (by first | decide | omega)]; exact hnl) (WC_f hC f) s lt) ?_
      intro r F2 B2 r' Fm2 Bm2 ⟨g, u⟩
      refine fin F2 B2 Fm2 Bm2 ⟨WFR_t f g, ?_⟩
      rcases u with ⟨u, k'⟩ | u
      · exact Or.inl ⟨u, WKP_t k k'⟩
      · exact Or.inr u
    · obtain ⟨z1, z2⟩ := WE_n s
      rw [if_pos z1, if_neg z2, L_goodB s.2.2.2.1, zb_s, if_pos (by decide), if_pos rfl]
      exact fin F1 B1 Fm1 Bm1 ⟨f, Or.inr s⟩
end
end
section
section
/-! ===== the walk: events, bar lines, loudness ===== -/
theorem wL_r {w : Int} (h : w ∈ wL) : r64 w := by
  unfold wL at h
  simp only [List.mem_cons, List.not_mem_nil, or_false] at h
  unfold r64
  omega
theorem evR_t {N : Int} {B0 Bm0 B Bm : zB} {x i : Int} (h : evR B0 Bm0 x i) (t : WT N B0 Bm0 B Bm) (hi : i < N) : evR B Bm x i := by
  unfold evR pitR wdAt sgAt at h ⊢
  simp only [t.1, t.2.1 7 _ (by decide), t.2.1 8 _ (by decide), t.2.1 9 _ (by decide), t.2.1 10 _ (by decide), t.2.1 11 _ (by decide), t.2.2.1 32 i (by decide) (by decide) hi, t.2.2.1 33 i (by decide) (by decide) hi, t.2.2.1 34 i (by decide) (by decide) hi]
  exact h
theorem MW_t {N : Int} {B0 Bm0 B Bm : zB} (h : MW Bm0) (t : WT N B0 Bm0 B Bm) : MW Bm := by
  have e : ∀ (k : Nat), k < 30 → Bm 14 0 k = Bm0 14 0 k := fun k n => funext (fun y => t.2.1 k y (Or.inl n))
  unfold MW at h ⊢
  rw [e 13 (by decide), e 14 (by decide), e 15 (by decide)]
  exact h
theorem L_goS {K : Nat} {o : oT_W} {i : Int} {F : zF} {B : zB} (hi : 0 ≤ i ∧ i < 3001) (h5 : B 14 0 7 i = 5) (h9 : ¬ B 14 0 9 i = 60) (hr : r32 (B 14 0 9 i)) : fb_M_go o K i F B = zbind (o.2.2.1 i F B) (fun _ F1 B1 => some (0, F1, B1)) := by
  unfold fb_M_go f_M_go_31 f_M_go_62
  simp only [f_M_go_182]
  rw [if_pos hi, h5, if_pos (by decide), if_neg (by decide), if_pos rfl, if_pos hr, if_neg h9, if_pos hi, if_pos (by decide), if_neg (by decide), if_pos hi, if_pos (by decide), if_pos rfl]
theorem L_goE {K : Nat} {o : oT_W} {i : Int} {F : zF} {B : zB} (hi : 0 ≤ i ∧ i < 3001) (h : B 14 0 7 i = 2 ∨ (B 14 0 7 i = 5 ∧ B 14 0 9 i = 60) ∨ (B 14 0 7 i = 4 ∧ B 14 0 11 i = 114)) : fb_M_go o K i F B = zbind (f_M_event_0 K i F B) (fun _ F1 B1 => some (0, F1, B1)) := by
  unfold fb_M_go f_M_go_54
  simp only [f_M_go_182]
  rcases h with h | ⟨h, h'⟩ | ⟨h, h'⟩
  · rw [if_pos hi, h, if_pos (by decide), if_pos rfl]
  · rw [if_pos hi, h, if_pos (by decide), if_neg (by decide), if_pos rfl, h', if_pos (by decide), if_pos rfl]
  · unfold f_M_go_31 f_M_go_54
    rw [if_pos hi, h, if_pos (by decide), if_neg (by decide), if_neg (by decide), if_pos hi, if_pos (by decide), if_pos rfl, h', if_pos (by decide), if_pos (by decide)]
    rfl
theorem P_evI {K : zK} {Km : Nat} {N q v w bar x i : Int} {B0 Bm0 : zB} {D : Nat} {o : oT_CW} {oM : oT_W} {F : zF} {B : zB} {Fm : zF} {Bm : zB} (hx : 0 ≤ x ∧ x < 3000) (hi : 0 ≤ i ∧ i < N) (hT : WT N B0 Bm0 B Bm) (hC : WC K Km N q v w bar B Fm Bm) (hS : WS q v w bar D F B Fm Bm) (hD : D ≤ 64) (k0 : B0 3 0 0 x = 0) (hp : B0 3 0 1 x = Bm0 14 0 8 i) (he : evR B0 Bm0 x i) : zP (fb_Walker_goItem o K 0 x D F B) (fb_M_go oM Km i Fm Bm) (fun _ F' B' _ Fm' Bm' => WO q v w bar D F B Fm Bm F' B' Fm' Bm') := by
  have ev := evR_t he hT hi.2
  have h11 := hC.2.2.1
  have h3 := hC.2.2.2.1
  have N1 := hC.2.2.2.2.2.2.2.1.2.1
  have kd : Bm 14 0 7 i = 2 ∨ (Bm 14 0 7 i = 5 ∧ Bm 14 0 9 i = 60) ∨ (Bm 14 0 7 i = 4 ∧ Bm 14 0 11 i = 114) := by
    rcases ev.2.2.2.2.2.2 with ⟨p, _⟩ | ⟨_, p⟩ | ⟨p, _⟩
    · exact Or.inr (Or.inr p)
    · have := (p 0 (by decide) (by decide)).2.2.2
      rw [Int.add_zero] at this
      exact Or.inl this
    · exact Or.inr (Or.inl p)
  rw [L_goE (by first | decide | omega) kd, fb_Walker_goItem, if_pos ⟨Int.le_refl _, h11⟩, hS.1.1, if_pos ⟨Int.le_refl _, h3⟩, if_pos hx, hT.1, k0, if_pos (by decide), if_pos rfl]
  refine zP_c (P_event hC hS hD hx hi (by rw [hT.1, hT.2.1 8 i (by decide)]; exact hp) ev) ?_
  intro r F1 B1 r' Fm1 Bm1 h
  rw [f_Walker_goItem_285]
  exact zP_s h
end
end
section
section
/-! ===== the walk: bar lines, loudness ===== -/
theorem P_barI {K : zK} {Km : Nat} {N q v w bar x i : Int} {B0 Bm0 : zB} {D : Nat} {o : oT_CW} {oM oM' : oT_W} {F : zF} {B : zB} {Fm : zF} {Bm : zB} (hG : ∀ F B, oM.2.2.1 i F B = fb_M_goSign oM' Km i F B) (hx : 0 ≤ x ∧ x < 3000) (hi : 0 ≤ i ∧ i < N) (hT : WT N B0 Bm0 B Bm) (hC : WC K Km N q v w bar B Fm Bm) (hS : WS q v w bar D F B Fm Bm) (hD : D ≤ 64) (k0 : B0 3 0 0 x = 1) (hp : B0 3 0 1 x = Bm0 14 0 8 i) (hs : sgAt Bm0 i 124) : zP (fb_Walker_goItem o K 0 x D F B) (fb_M_go oM Km i Fm Bm) (fun _ F' B' _ Fm' Bm' => WO q v w bar D F B Fm Bm F' B' Fm' Bm') := by
  have hS' := hS
  obtain ⟨hK, hKm, h11, h3, h4, v0, w0, ⟨N0, N1, hTK⟩, hV, hI, r4, r5, hB, fB, nn, dd, b0⟩ := hC
  obtain ⟨⟨a1, a2, a3, a4⟩, ⟨b1, b2, b3, b4⟩, _, _, ⟨e1, e2, e3⟩, _, _, _, _, ⟨l1, l2, l3, l4⟩, _⟩ := hS
  have m7 : Bm 14 0 7 i = 5 := by rw [hT.2.1 7 i (by decide)]; exact hs.1
  have m9 : Bm 14 0 9 i = 124 := by rw [hT.2.1 9 i (by decide)]; exact hs.2
  have pl := (hTK i hi.1 (by first | decide | omega)).2.2.2.2.2.2.2.2.2.1
  have q1 : Fm 13 w 4 * WW = bar * Fm 13 w 5 := by
    have := hB.2.2.2
    have e : 100 * (Fm 13 w 4 * WW) = 100 * (bar * Fm 13 w 5) := by
      calc 100 * (Fm 13 w 4 * WW) = 100 * Fm 13 w 4 * WW := by ac_rfl
        _ = 100 * bar * Fm 13 w 5 := this
        _ = 100 * (bar * Fm 13 w 5) := by ac_rfl
    omega
  have m0 : 0 ≤ F 11 0 11 % bar := Int.emod_nonneg _ (by first | decide | omega)
  have m1 : F 11 0 11 % bar < bar := Int.emod_lt_of_pos _ b0
  have ok : zP (some (0, F, B)) (some (0, Fm, Bm)) (fun _ F' B' _ Fm' Bm' => WO q v w bar D F B Fm Bm F' B' Fm' Bm') := zP_s ⟨WFR_r, Or.inl ⟨hS', WKP_r⟩⟩
  rw [L_goS (by first | decide | omega) m7 (by rw [m9]; decide) (by rw [m9]; decide), hG, fb_M_goSign, if_pos (by first | decide | omega), m9, if_pos (by decide), if_neg (by decide), if_pos rfl, ← e1, fb_Walker_goItem, if_pos ⟨Int.le_refl _, h11⟩, a1, if_pos ⟨Int.le_refl _, h3⟩, if_pos hx, hT.1, k0, if_pos (by decide), if_neg (by decide), if_pos rfl]
  have rb : r32 (F 11 0 5) := by unfold r32; omega
  rw [if_pos rb]
  by_cases c : F 11 0 5 = 0
  case neg =>
    rw [if_neg c, if_pos rb, if_neg c, f_Walker_goItem_285, f_M_goSign_182, zb_s]
    exact ok
  have rz : r64 (F 11 0 11 % bar) := by unfold r64; omega
  have rbar : r64 bar := by unfold r64; omega
  rw [if_pos c, if_pos rb, if_pos c, b3, if_pos rbar, if_neg (by have := zcmp_m (a := bar) (b := 0); omega), if_pos (lI_n0 b0 rbar), zlrm_e l3 (by first | decide | omega) b0 (by first | decide | omega), if_pos rz, b2, if_pos w0, if_pos r4, if_pos r5, l1, l2, L_multR (FR_r l3) q1 (by first | decide | omega) (by first | decide | omega) (by first | decide | omega) (by first | decide | omega) b0 (by first | decide | omega), zb_s]
  by_cases z : F 11 0 11 % bar = 0
  · rw [if_pos (zcmp_0.mpr z), if_pos z, if_pos (by decide), if_neg (by decide), f_Walker_goItem_285, f_M_goSign_182, zb_s]
    exact ok
  · rw [if_neg (fun y => z (zcmp_0.mp y)), if_neg z, if_pos (by decide), if_pos rfl, C_wref h11 a3, zb_s, L_failAt a4 (by first | decide | omega), zb_s, f_Walker_goItem_285, f_M_goSign_182, zb_s, hT.1, hp, ← hT.2.1 8 i (by decide)]
    exact zP_s ⟨WFR_at (fun _ _ _ _ => rfl), Or.inr (WE_at hS' hD (by decide) (by decide) pl (fun _ _ => rfl))⟩
theorem P_loudI {K : zK} {Km : Nat} {N q v w bar x i : Int} {B0 Bm0 : zB} {D : Nat} {o : oT_CW} {oM oM' : oT_W} {F : zF} {B : zB} {Fm : zF} {Bm : zB} (hMW : MW Bm0) (hG : ∀ F B, oM.2.2.1 i F B = fb_M_goSign oM' Km i F B) (hx : 0 ≤ x ∧ x < 3000) (hi : 0 ≤ i ∧ i < N) (hT : WT N B0 Bm0 B Bm) (hC : WC K Km N q v w bar B Fm Bm) (hS : WS q v w bar D F B Fm Bm) (k0 : B0 3 0 0 x = 2) (hs : sgAt Bm0 i 33) (hl : B0 3 0 2 x = fiL wL (Bm0 14 0 11 (i + 1)) 0 ∧ 0 ≤ B0 3 0 2 x) : zP (fb_Walker_goItem o K 0 x D F B) (fb_M_go oM Km i Fm Bm) (fun _ F' B' _ Fm' Bm' => WO q v w bar D F B Fm Bm F' B' Fm' Bm') := by
  have hS' := hS
  obtain ⟨hK, hKm, h11, h3, h4, v0, w0, ⟨N0, N1, hTK⟩, hV, hI, r4, r5, hB, fB, nn, dd, b0⟩ := hC
  obtain ⟨⟨a1, a2, a3, a4⟩, _, _, _, s5, s6, s7, s8, s9, _, s11, s12, _⟩ := hS
  have m7 : Bm 14 0 7 i = 5 := by rw [hT.2.1 7 i (by decide)]; exact hs.1
  have m9 : Bm 14 0 9 i = 33 := by rw [hT.2.1 9 i (by decide)]; exact hs.2
  obtain ⟨hl1, hl2⟩ := hl
  have fb : Bm0 14 0 11 (i + 1) ∈ wL ∧ fiL wL (Bm0 14 0 11 (i + 1)) 0 ≤ 7 := by
    rcases fiL_r (w := Bm0 14 0 11 (i + 1)) (L := wL) (k := 0) (by decide) with ⟨p, _⟩ | ⟨p1, p2, p3⟩
    · omega
    · have : (wL.length : Int) = 8 := by decide
      exact ⟨p3, (by first | decide | omega)⟩
  rw [L_goS (by first | decide | omega) m7 (by rw [m9]; decide) (by rw [m9]; decide), hG, fb_M_goSign, if_pos (by first | decide | omega), m9, if_pos (by decide), if_pos rfl, if_pos (by first | decide | omega), hT.2.1 11 _ (by decide), L_fL (by first | decide | omega) (MW_t hMW hT) (wL_r fb.1), zb_s, f_M_goSign_182, zb_s, fb_Walker_goItem, if_pos ⟨Int.le_refl _, h11⟩, a1, if_pos ⟨Int.le_refl _, h3⟩, if_pos hx, hT.1, k0, if_pos (by decide), if_neg (by decide), if_neg (by decide), if_pos rfl, f_Walker_goItem_285, hT.1, hl1]
  rw [hl1] at hl2
  generalize fiL wL (Bm0 14 0 11 (i + 1)) 0 = d at fb hl2 ⊢
  have fn : ∀ c y k, ¬ (c = 11 ∧ y = 0 ∧ k = 4) → zup3 F 11 0 4 d c y k = F c y k := fun c y k n => by rw [zup3_v, if_neg n]
  have gn : ∀ c y k, ¬ (c = 14 ∧ y = 0 ∧ k = 40) → zup3 Fm 14 0 40 d c y k = Fm c y k := fun c y k n => by rw [zup3_v, if_neg n]
  refine zP_s ⟨WFR_mk (fun c y k n => fn c y k (by first | decide | omega)) (fun c y k n => gn c y k (by first | decide | omega)) (fun _ _ _ _ _ => rfl) (fun _ _ _ _ _ => rfl), Or.inl ⟨?_, ?_⟩⟩
  · refine WS_mk hS' (fun c y k n => fn c y k (by first | decide | omega)) (fun c y k n => gn c y k (by first | decide | omega)) (fun _ _ _ _ _ => rfl) (fun _ _ _ _ _ => rfl) ?_ ?_ ?_ ?_ ?_ ?_ s11 ?_
    · rw [zup3_v, if_pos (by decide), zup3_v, if_pos (by decide)]; omega
    · rw [fn 11 0 5 (by decide), gn 14 0 41 (by decide)]; exact s5
    · rw [fn 11 0 6 (by decide), gn 14 0 48 (by decide)]; exact s6
    · rw [fn 11 0 7 (by decide), fn 11 0 3 (by decide), gn 14 0 50 (by decide)]; exact s7
    · rw [fn 11 0 6 (by decide), fn 11 0 7 (by decide), fn 11 0 8 (by decide), gn 14 0 49 (by decide)]; exact s8
    · rw [fn 11 0 6 (by decide), fn 11 0 9 (by decide), fn 11 0 10 (by decide)]; exact s9
    · rw [fn 11 0 18 (by decide), gn 14 0 45 (by decide)]; exact s12
  · exact ⟨⟨fn _ _ _ (by decide), fn _ _ _ (by decide), fn _ _ _ (by decide), fn _ _ _ (by decide), fn _ _ _ (by decide)⟩, fun _ _ _ => rfl, fun _ _ _ => ⟨rfl, rfl, rfl, rfl, rfl, rfl⟩, fun _ _ _ => ⟨rfl, rfl⟩, fun _ => ⟨fn _ _ _ (by decide), fn _ _ _ (by decide), gn _ _ _ (by decide)⟩, by rw [fn 4 q 6 (by first | decide | omega)]; exact Int.le_refl _⟩
end
end
section
section
/-! ===== the walk: items with blocks; brackets ===== -/
/-- the walk of the lists that R speaks of, at depth D -/
def LSim (K : zK) (Km : Nat) (N nl q v w bar : Int) (B0 Bm0 : zB) (D : Nat) (cL : Int → Int → Int → zF → zB → zO) (mL : Int → Int → zF → zB → zO) (R : zB → zB → Int → Int → Prop) : Prop :=
  (∀ m x i e F B Fm Bm, LRf R B0 Bm0 m x i e → 0 ≤ i → e ≤ 3000 → WT N B0 Bm0 B Bm → Fm 14 0 27 = nl → WC K Km N q v w bar B Fm Bm → WS q v w bar D F B Fm Bm → zP (cL 0 x D F B) (mL i e Fm Bm) (fun _ F' B' _ Fm' Bm' => WO q v w bar D F B Fm Bm F' B' Fm' Bm')) ∧
  (∀ (D' : Nat) x l F B Fm, WE D' q v w F Fm → r32 x → cL 0 x l F B = some (0, F, B)) ∧ (∀ i e F B, bad F → mL i e F B = some (0, F, B))
theorem TPL_c {b tf ts : Int} {Bm Bm' : zB} (h : TPL b tf ts Bm) (e : ∀ k, 0 ≤ k → k < b → Bm' 14 0 46 k = Bm 14 0 46 k ∧ Bm' 14 0 47 k = Bm 14 0 47 k) : TPL b tf ts Bm' := by
  obtain ⟨a1, a2, a3, a4, a5, a6⟩ := h
  refine ⟨fun k u t => by rw [(e k u t).1, (e k u t).2]; exact a1 k u t, a2, a3, a4, fun u => ?_, fun u => ?_⟩
  · rw [(e 0 (by decide) (by first | decide | omega)).1, (e 0 (by decide) (by first | decide | omega)).2]; exact a5 u
  · rw [(e 0 (by decide) (by first | decide | omega)).1, (e 0 (by decide) (by first | decide | omega)).2, (e 1 (by decide) (by first | decide | omega)).1, (e 1 (by decide) (by first | decide | omega)).2]; exact a6 u
theorem m81 {a b : Int} (a0 : 1 ≤ a) (a1 : a ≤ 9) (b0 : 1 ≤ b) (b1 : b ≤ 9) : 1 ≤ a * b ∧ a * b ≤ 81 := by
  have h : a * b ≤ 9 * 9 := Int.mul_le_mul a1 b1 (by first | decide | omega) (by decide)
  exact ⟨ml_1 a0 b0, (by first | decide | omega)⟩
theorem TPL_s {b tf ts a c : Int} {Bm Bm' : zB} (h : TPL b tf ts Bm) (b0 : 0 ≤ b) (ha : 2 ≤ a ∧ a ≤ 9) (hc : 1 ≤ c ∧ c ≤ 9) (e : ∀ k, 0 ≤ k → k < b → Bm' 14 0 46 k = Bm 14 0 46 k ∧ Bm' 14 0 47 k = Bm 14 0 47 k) (ea : Bm' 14 0 46 b = a) (ec : Bm' 14 0 47 b = c) : (2 < b + 1 → TPL (b + 1) tf ts Bm') ∧ (¬ 2 < b + 1 → TPL (b + 1) (tf * a) (ts * c) Bm') := by
  have h' := TPL_c h e
  obtain ⟨a1, a2, a3, a4, a5, a6⟩ := h'
  have r : ∀ k, 0 ≤ k → k < b + 1 → (2 ≤ Bm' 14 0 46 k ∧ Bm' 14 0 46 k ≤ 9) ∧ (1 ≤ Bm' 14 0 47 k ∧ Bm' 14 0 47 k ≤ 9) := fun k u t => by
    by_cases z : k = b
    · rw [z, ea, ec]; exact ⟨ha, hc⟩
    · exact a1 k u (by first | decide | omega)
  constructor
  · intro z
    exact ⟨r, a2, a3, fun u => (by first | decide | omega), fun u => (by first | decide | omega), fun u => (by first | decide | omega)⟩
  · intro z
    have hb : b = 0 ∨ b = 1 := by omega
    rcases hb with rfl | rfl
    · obtain ⟨t1, t2⟩ := a4 rfl
      rw [t1, t2, Int.one_mul, Int.one_mul]
      exact ⟨r, (by first | decide | omega), (by first | decide | omega), fun u => (by first | decide | omega), fun u => ⟨ea.symm, ec.symm⟩, fun u => (by first | decide | omega)⟩
    · obtain ⟨t1, t2⟩ := a5 rfl
      have q0 := r 0 (by decide) (by decide)
      rw [t1, t2]
      exact ⟨r, m81 (by first | decide | omega) (by first | decide | omega) (by first | decide | omega) (by first | decide | omega), m81 (by first | decide | omega) (by first | decide | omega) (by first | decide | omega) (by first | decide | omega), fun u => (by first | decide | omega), fun u => (by first | decide | omega), fun u => ⟨by rw [ea], by rw [ec]⟩⟩
theorem WE_close {q v w : Int} {D : Nat} {F2 F3 Fm2 Fm3 : zF} (h : WE (D + 1) q v w F2 Fm2) (fn : ∀ c y k, ¬ (c = 11 ∧ y = 0 ∧ (k = 5 ∨ k = 6 ∨ k = 9 ∨ k = 10 ∨ k = 18)) → F3 c y k = F2 c y k) (gn : ∀ c y k, ¬ (c = 14 ∧ y = 0 ∧ (k = 41 ∨ k = 45 ∨ k = 48)) → Fm3 c y k = Fm2 c y k) : WE D q v w F3 Fm3 := by
  obtain ⟨a1, a2, a3, a4, a5, a6, a7, a8, a9, a10⟩ := h
  unfold bad at a4
  refine ⟨?_, ?_, ?_, ?_, ?_, ?_, ?_, ?_, ?_, ?_⟩
  · rw [fn 11 0 0 (by first | decide | omega)]; exact a1
  · rw [fn 11 0 1 (by first | decide | omega)]; exact a2
  · rw [fn 11 0 2 (by first | decide | omega), gn 14 0 17 (by first | decide | omega), gn 14 0 18 (by first | decide | omega)]; exact a3
  · unfold bad; rw [gn 14 0 17 (by first | decide | omega)]; exact a4
  · rw [gn 14 0 18 (by first | decide | omega)]; exact a5
  · rw [gn 14 0 35 (by first | decide | omega)]; exact a6
  · rw [gn 14 0 6 (by first | decide | omega)]; exact a7
  · rw [fn 4 q 6 (by first | decide | omega)]; exact a8
  · rw [gn 14 0 36 (by first | decide | omega)]; exact a9
  · rw [fn 11 0 3 (by first | decide | omega)]; omega
theorem WO_close {q v w bar : Int} {D : Nat} {F F1 F2 F3 : zF} {B B1 B2 B3 : zB} {Fm Fm1 Fm2 Fm3 : zF} {Bm Bm1 Bm2 Bm3 : zB} (hS : WS q v w bar D F B Fm Bm) (f1 : WFR q v w F B Fm Bm F1 B1 Fm1 Bm1) (W : WO q v w bar (D + 1) F1 B1 Fm1 Bm1 F2 B2 Fm2 Bm2) (fn : ∀ c y k, ¬ (c = 11 ∧ y = 0 ∧ (k = 5 ∨ k = 6 ∨ k = 9 ∨ k = 10 ∨ k = 18)) → F3 c y k = F2 c y k) (gn : ∀ c y k, ¬ (c = 14 ∧ y = 0 ∧ (k = 41 ∨ k = 45 ∨ k = 48)) → Fm3 c y k = Fm2 c y k) (bn : ∀ c y k x, ¬ (c = 11 ∧ y = 0 ∧ k = 14) → B3 c y k x = B2 c y k x) (mn : ∀ c y k x, ¬ (c = 14 ∧ y = 0 ∧ k = 51) → Bm3 c y k x = Bm2 c y k x) (kk : WS q v w bar (D + 1) F2 B2 Fm2 Bm2 → WKP q F1 B1 Fm1 Bm1 F2 B2 Fm2 Bm2 → (F3 11 0 5 = F 11 0 5 ∧ F3 11 0 6 = F 11 0 6 ∧ F3 11 0 9 = F 11 0 9 ∧ F3 11 0 10 = F 11 0 10 ∧ F3 11 0 18 = F 11 0 18) ∧ (Fm3 14 0 41 = Fm 14 0 41 ∧ Fm3 14 0 45 = Fm 14 0 45 ∧ Fm3 14 0 48 = Fm 14 0 48) ∧ ∀ k, 0 ≤ k → k < 4 → B3 11 0 14 k = B 11 0 14 k ∧ Bm3 14 0 51 (prN k) = Bm 14 0 51 (prN k)) (r1 : ∀ k, 0 ≤ k → k < F 11 0 18 → B1 11 0 15 k = B 11 0 15 k ∧ B1 11 0 16 k = B 11 0 16 k ∧ B1 11 0 17 k = B 11 0 17 k ∧ Bm1 14 0 42 k = Bm 14 0 42 k ∧ Bm1 14 0 43 k = Bm 14 0 43 k ∧ Bm1 14 0 44 k = Bm 14 0 44 k) (r2 : ∀ k, 0 ≤ k → k < F 11 0 6 → Bm1 14 0 46 k = Bm 14 0 46 k ∧ Bm1 14 0 47 k = Bm 14 0 47 k) (r18 : F 11 0 18 ≤ F1 11 0 18) (r6 : F 11 0 6 ≤ F1 11 0 6) (r7 : 0 < F 11 0 6 → F1 11 0 7 = F 11 0 7 ∧ F1 11 0 8 = F 11 0 8 ∧ Fm1 14 0 49 = Fm 14 0 49) (rc : F1 4 q 6 = F 4 q 6) : WO q v w bar D F B Fm Bm F3 B3 Fm3 Bm3 := by
  obtain ⟨f2, s⟩ := W
  have f3 : WFR q v w F2 B2 Fm2 Bm2 F3 B3 Fm3 Bm3 := WFR_mk (fun c y k n => fn c y k (by first | decide | omega)) (fun c y k n => gn c y k (by first | decide | omega)) (fun c y k x n => bn c y k x (by first | decide | omega)) (fun c y k x n => mn c y k x (by first | decide | omega))
  refine ⟨WFR_t f1 (WFR_t f2 f3), ?_⟩
  rcases s with ⟨s, kp⟩ | s
  · obtain ⟨⟨e5, e6, e9, e10, e18⟩, ⟨g41, g45, g48⟩, pw⟩ := kk s kp
    obtain ⟨_, _, _, _, x5, y6, _, s8, s9, _, s11, ⟨z1, z2, z3, z4⟩, _⟩ := hS
    obtain ⟨⟨k5, k6, k9, k10, k18⟩, kp, kr, kb, k7, kc⟩ := kp
    refine Or.inl ⟨WS_mk s (fun c y k n => fn c y k (by first | decide | omega)) (fun c y k n => gn c y k (by first | decide | omega)) (fun c y k x n => bn c y k x (by first | decide | omega)) (fun c y k x n => mn c y k x (by first | decide | omega)) ?_ ?_ ?_ ?_ ?_ ?_ ?_ ?_, ?_⟩
    · rw [fn 11 0 4 (by first | decide | omega), gn 14 0 40 (by first | decide | omega)]; exact s.2.2.2.1
    · rw [e5, g41]; exact x5
    · rw [e6, g48]; exact y6
    · rw [fn 11 0 7 (by first | decide | omega), fn 11 0 3 (by first | decide | omega), gn 14 0 50 (by first | decide | omega)]; exact s.2.2.2.2.2.2.1
    · rw [e6, fn 11 0 7 (by first | decide | omega), fn 11 0 8 (by first | decide | omega), gn 14 0 49 (by first | decide | omega), mn 14 0 8 _ (by first | decide | omega)]
      intro u
      exact s.2.2.2.2.2.2.2.1 (by first | decide | omega)
    · rw [e6, e9, e10]
      refine TPL_c s9 (fun k u t => ?_)
      rw [mn 14 0 46 k (by first | decide | omega), mn 14 0 47 k (by first | decide | omega), (kb k u (by first | decide | omega)).1, (kb k u (by first | decide | omega)).2]
      exact r2 k u t
    · intro k u t
      rw [(pw k u t).1, (pw k u t).2]
      exact s11 k u t
    · rw [e18, g45]
      refine ⟨z1, z2, z3, fun k u t => ?_⟩
      have := s.2.2.2.2.2.2.2.2.2.2.2.1.2.2.2 k u (by first | decide | omega)
      unfold CRk at this ⊢
      rw [bn 11 0 15 k (by first | decide | omega), bn 11 0 16 k (by first | decide | omega), bn 11 0 17 k (by first | decide | omega), mn 14 0 42 k (by first | decide | omega), mn 14 0 43 k (by first | decide | omega), mn 14 0 44 k (by first | decide | omega)]
      exact this
    · refine ⟨⟨e5, e6, e9, e10, e18⟩, fun k u t => (pw k u t).1, fun k u t => ?_, fun k u t => ?_, fun u => ?_, ?_⟩
      · obtain ⟨p1, p2, p3, p4, p5, p6⟩ := kr k u (by first | decide | omega)
        obtain ⟨q1, q2, q3, q4, q5, q6⟩ := r1 k u t
        exact ⟨by rw [bn 11 0 15 k (by first | decide | omega), p1, q1], by rw [bn 11 0 16 k (by first | decide | omega), p2, q2], by rw [bn 11 0 17 k (by first | decide | omega), p3, q3], by rw [mn 14 0 42 k (by first | decide | omega), p4, q4], by rw [mn 14 0 43 k (by first | decide | omega), p5, q5], by rw [mn 14 0 44 k (by first | decide | omega), p6, q6]⟩
      · obtain ⟨p1, p2⟩ := kb k u (by first | decide | omega)
        obtain ⟨q1, q2⟩ := r2 k u t
        exact ⟨by rw [mn 14 0 46 k (by first | decide | omega), p1, q1], by rw [mn 14 0 47 k (by first | decide | omega), p2, q2]⟩
      · obtain ⟨p1, p2, p3⟩ := k7 (by first | decide | omega)
        obtain ⟨q1, q2, q3⟩ := r7 u
        exact ⟨by rw [fn 11 0 7 (by first | decide | omega), p1, q1], by rw [fn 11 0 8 (by first | decide | omega), p2, q2], by rw [gn 14 0 49 (by first | decide | omega), p3, q3]⟩
      · rw [fn 4 q 6 (by first | decide | omega), ← rc]; exact kc
  · exact Or.inr (WE_close s fn gn)
end
end
section
section
/-! ===== the walk: a bracket ===== -/
theorem P_br {K : zK} {Km : Nat} {N nl q v w bar x i : Int} {B0 Bm0 : zB} {D m : Nat} {o : oT_CW} {oM : oT_W} {R : zB → zB → Int → Int → Prop} {F : zF} {B : zB} {Fm : zF} {Bm : zB} (hL : LSim K Km N nl q v w bar B0 Bm0 (D + 1) o.1 oM.1 R) (hx : 0 ≤ x ∧ x < 3000) (hi : 0 ≤ i ∧ i < N) (hT : WT N B0 Bm0 B Bm) (hnl : Fm 14 0 27 = nl) (hC : WC K Km N q v w bar B Fm Bm) (hS : WS q v w bar D F B Fm Bm) (hD : D < 64) (hg : F 11 0 7 < F 11 0 3) (hp : B0 3 0 1 x = Bm0 14 0 8 i) (hs : sgAt Bm0 i 91) (n1 : nmAt Bm0 (i + 1) (B0 3 0 2 x) 2 9) (n2 : nmAt Bm0 (i + 3) (B0 3 0 3 x) 1 9) (hb : i + 4 < Bm0 14 0 30 i ∧ Bm0 14 0 30 i ≤ 3000) (hl : LRf R B0 Bm0 m (B0 3 0 4 x) (i + 5) (Bm0 14 0 30 i)) : zP (fb_Walker_goBracket o K 0 x D F B) (fb_M_goSign oM Km i Fm Bm) (fun _ F' B' _ Fm' Bm' => WO q v w bar D F B Fm Bm F' B' Fm' Bm') := by
  have hC' := hC
  have hS' := hS
  obtain ⟨hK, hKm, h11, h3, h4, v0, w0, ⟨N0, N1, hTK⟩, _⟩ := hC
  obtain ⟨⟨a1, a2, a3, a4⟩, _, ⟨c1, c2, c3⟩, s4, s5, ⟨f1, f2, f3⟩, ⟨g1, g2, g3⟩, hh, hk, _, hm, ⟨z1, z2, z3, z4⟩, _⟩ := hS
  have m9 : Bm 14 0 9 i = 91 := by rw [hT.2.1 9 i (by decide)]; exact hs.2
  have p1 : Bm 14 0 9 (i + 1) = B0 3 0 2 x := by rw [hT.2.1 9 _ (by decide)]; exact n1.2.1
  have p2 : Bm 14 0 9 (i + 3) = B0 3 0 3 x := by rw [hT.2.1 9 _ (by decide)]; exact n2.2.1
  have p3 : Bm 14 0 30 i = Bm0 14 0 30 i := hT.2.2.1 30 i (by decide) (by decide) hi.2
  have p4 : B 3 0 1 x = Bm 14 0 8 i := by rw [hT.1, hT.2.1 8 i (by decide)]; exact hp
  have n1' := n1.2.2
  have n2' := n2.2.2
  clear n1 n2 hs hp
  generalize hM1 : zup4 (zup4 Bm 14 0 46 (Fm 14 0 48) (B0 3 0 2 x)) 14 0 47 (Fm 14 0 48) (B0 3 0 3 x) = M1
  have mn : ∀ c y k t, ¬ (c = 14 ∧ y = 0 ∧ (k = 46 ∨ k = 47) ∧ t = F 11 0 6) → M1 c y k t = Bm c y k t := fun c y k t n => by rw [← hM1, zup4_v, if_neg (by first | decide | omega), zup4_v, if_neg (by first | decide | omega)]
  have ma : M1 14 0 46 (F 11 0 6) = B0 3 0 2 x := by rw [← hM1, zup4_v, if_neg (by first | decide | omega), zup4_v, if_pos (by first | decide | omega)]
  have mc : M1 14 0 47 (F 11 0 6) = B0 3 0 3 x := by rw [← hM1, zup4_v, if_pos (by first | decide | omega)]
  obtain ⟨tp1, tp2⟩ := TPL_s hk f2 n1' n2' (fun k u t => ⟨mn 14 0 46 k (by first | decide | omega), mn 14 0 47 k (by first | decide | omega)⟩) ma mc
  have key2 : ∀ X Y : zF, (∀ c y k, ¬ (c = 11 ∧ y = 0 ∧ (k = 6 ∨ k = 7 ∨ k = 8 ∨ k = 9 ∨ k = 10)) → X c y k = F c y k) → (∀ c y k, ¬ (c = 14 ∧ y = 0 ∧ (k = 49 ∨ k = 50)) → Y c y k = Fm c y k) → X 11 0 6 = F 11 0 6 + 1 → TPL (F 11 0 6 + 1) (X 11 0 9) (X 11 0 10) M1 → X 11 0 7 = Y 14 0 50 ∧ 1 ≤ X 11 0 7 ∧ X 11 0 7 ≤ F 11 0 3 → X 11 0 8 = Bm 14 0 8 (Y 14 0 49) ∧ 0 ≤ Y 14 0 49 ∧ Y 14 0 49 ≤ 3000 ∧ 0 ≤ X 11 0 8 ∧ X 11 0 8 ≤ 3000 → (0 < F 11 0 6 → X 11 0 7 = F 11 0 7 ∧ X 11 0 8 = F 11 0 8 ∧ Y 14 0 49 = Fm 14 0 49) → zP (f_Walker_goBracket_95 o K (F 11 0 10) (F 11 0 9) 0 x D X B) (f_M_goSign_115 oM Km i Y Bm) (fun _ F' B' _ Fm' Bm' => WO q v w bar D F B Fm Bm F' B' Fm' Bm') := by
    intro X Y xn yn x6 tp x7 x8 xk
    unfold f_Walker_goBracket_95 f_M_goSign_115
    have y48 : Y 14 0 48 = Fm 14 0 48 := yn 14 0 48 (by first | decide | omega)
    rw [if_pos ⟨Int.le_refl _, h11⟩, xn 11 0 0 (by first | decide | omega), a1, if_pos ⟨Int.le_refl _, h3⟩, if_pos hx, if_pos (by first | decide | omega), y48, if_pos (by first | decide | omega), if_pos (by first | decide | omega), if_pos (by first | decide | omega), p1, show (zup4 Bm 14 0 46 (Fm 14 0 48) (B0 3 0 2 x)) 14 0 9 (i + 3) = B0 3 0 3 x by rw [zup4_v, if_neg (by first | decide | omega), p2], hM1, mn 14 0 30 i (by first | decide | omega), p3, hT.1]
    generalize hY1 : zup3 Y 14 0 48 (Fm 14 0 48 + 1) = Y1
    have y1n : ∀ c y k, ¬ (c = 14 ∧ y = 0 ∧ (k = 48 ∨ k = 49 ∨ k = 50)) → Y1 c y k = Fm c y k := fun c y k n => by rw [← hY1, zup3_v, if_neg (by first | decide | omega), yn c y k (by first | decide | omega)]
    have y1 : Y1 14 0 48 = F 11 0 6 + 1 := by rw [← hY1, zup3_v, if_pos (by first | decide | omega)]; omega
    have y49 : Y1 14 0 49 = Y 14 0 49 := by rw [← hY1, zup3_v, if_neg (by first | decide | omega)]
    have y50 : Y1 14 0 50 = Y 14 0 50 := by rw [← hY1, zup3_v, if_neg (by first | decide | omega)]
    have fr : WFR q v w F B Fm Bm X B Y1 M1 := WFR_mk (fun c y k n => xn c y k (by first | decide | omega)) (fun c y k n => y1n c y k (by first | decide | omega)) (fun _ _ _ _ _ => rfl) (fun c y k t n => mn c y k t (by first | decide | omega))
    have sX : WS q v w bar (D + 1) X B Y1 M1 := by
      refine WS_mk hS' (fun c y k n => xn c y k (by first | decide | omega)) (fun c y k n => y1n c y k (by first | decide | omega)) (fun _ _ _ _ _ => rfl) (fun c y k t n => mn c y k t (by first | decide | omega)) ?_ ?_ ?_ ?_ ?_ ?_ ?_ ?_
      · rw [xn 11 0 4 (by first | decide | omega), y1n 14 0 40 (by first | decide | omega)]; exact s4
      · rw [xn 11 0 5 (by first | decide | omega), y1n 14 0 41 (by first | decide | omega)]; omega
      · rw [x6, y1]; omega
      · rw [y50, xn 11 0 3 (by first | decide | omega)]; omega
      · intro _
        rw [y49, mn 14 0 8 _ (by first | decide | omega)]
        exact ⟨x7.2.1, x8⟩
      · rw [x6]; exact tp
      · intro k u t
        rw [mn 14 0 51 _ (by first | decide | omega)]
        have := hm k u t
        omega
      · rw [xn 11 0 18 (by first | decide | omega), y1n 14 0 45 (by first | decide | omega)]
        refine ⟨z1, z2, (by first | decide | omega), fun k u t => ?_⟩
        have := z4 k u t
        unfold CRk at this ⊢
        rw [mn 14 0 42 k (by first | decide | omega), mn 14 0 43 k (by first | decide | omega), mn 14 0 44 k (by first | decide | omega)]
        exact this
    refine zP_c (hL.1 m (B0 3 0 4 x) (i + 5) (Bm0 14 0 30 i) X B Y1 M1 hl (by first | decide | omega) hb.2 (WT_f hT fr) (by rw [fr.2.2.2.1 14 0 27 (by first | decide | omega)]; exact hnl) (WC_f hC' fr) sX) ?_
    intro r F2 B2 r' Fm2 Bm2 W
    rw [f_M_goSign_182]
    refine zP_s (WO_close hS' fr W (fun c y k n => by rw [zup3_v, if_neg (by first | decide | omega), zup3_v, if_neg (by first | decide | omega), zup3_v, if_neg (by first | decide | omega)]) (fun c y k n => by rw [zup3_v, if_neg (by first | decide | omega)]) (fun _ _ _ _ _ => rfl) (fun _ _ _ _ _ => rfl) ?_ (fun k u t => ⟨rfl, rfl, rfl, mn _ _ _ _ (by first | decide | omega), mn _ _ _ _ (by first | decide | omega), mn _ _ _ _ (by first | decide | omega)⟩) (fun k u t => ⟨mn _ _ _ _ (by first | decide | omega), mn _ _ _ _ (by first | decide | omega)⟩) (by rw [xn 11 0 18 (by first | decide | omega)]; exact Int.le_refl _) (by rw [x6]; omega) (fun u => by rw [y49]; exact xk u) (xn 4 q 6 (by first | decide | omega)))
    intro s kp
    obtain ⟨⟨k5, k6, k9, k10, k18⟩, kw, _⟩ := kp
    obtain ⟨_, _, _, _, ⟨t5, _⟩, ⟨t6, _⟩, _, _, _, _, t11, ⟨t12, _⟩, _⟩ := s
    refine ⟨⟨?_, ?_, ?_, ?_, ?_⟩, ⟨?_, ?_, ?_⟩, fun k u t => ⟨?_, ?_⟩⟩
    · rw [zup3_v, if_neg (by first | decide | omega), zup3_v, if_neg (by first | decide | omega), zup3_v, if_neg (by first | decide | omega), k5, xn 11 0 5 (by first | decide | omega)]
    · rw [zup3_v, if_neg (by first | decide | omega), zup3_v, if_neg (by first | decide | omega), zup3_v, if_pos (by first | decide | omega), k6, x6]; omega
    · rw [zup3_v, if_neg (by first | decide | omega), zup3_v, if_pos (by first | decide | omega)]
    · rw [zup3_v, if_pos (by first | decide | omega)]
    · rw [zup3_v, if_neg (by first | decide | omega), zup3_v, if_neg (by first | decide | omega), zup3_v, if_neg (by first | decide | omega), k18, xn 11 0 18 (by first | decide | omega)]
    · rw [zup3_v, if_neg (by first | decide | omega), ← t5, k5, xn 11 0 5 (by first | decide | omega)]; exact s5.1
    · rw [zup3_v, if_neg (by first | decide | omega), ← t12, k18, xn 11 0 18 (by first | decide | omega)]; exact z1
    · rw [zup3_v, if_pos (by first | decide | omega), ← t6, k6, x6]; omega
    · exact kw k u t
    · rw [← (t11 k u t).1, kw k u t]; exact (hm k u t).1
  have key : ∀ X Y : zF, (∀ c y k, ¬ (c = 11 ∧ y = 0 ∧ (k = 7 ∨ k = 8)) → X c y k = F c y k) → (∀ c y k, ¬ (c = 14 ∧ y = 0 ∧ (k = 49 ∨ k = 50)) → Y c y k = Fm c y k) → X 11 0 7 = Y 14 0 50 ∧ 1 ≤ X 11 0 7 ∧ X 11 0 7 ≤ F 11 0 3 → X 11 0 8 = Bm 14 0 8 (Y 14 0 49) ∧ 0 ≤ Y 14 0 49 ∧ Y 14 0 49 ≤ 3000 ∧ 0 ≤ X 11 0 8 ∧ X 11 0 8 ≤ 3000 → (0 < F 11 0 6 → X 11 0 7 = F 11 0 7 ∧ X 11 0 8 = F 11 0 8 ∧ Y 14 0 49 = Fm 14 0 49) → zP (f_Walker_goBracket_41 o K (F 11 0 10) (F 11 0 9) 0 x D X B) (f_M_goSign_115 oM Km i Y Bm) (fun _ F' B' _ Fm' Bm' => WO q v w bar D F B Fm Bm F' B' Fm' Bm') := by
    intro X Y xn yn x7 x8 xk
    have x6 := xn 11 0 6 (by first | decide | omega)
    have x9 := xn 11 0 9 (by first | decide | omega)
    have x10 := xn 11 0 10 (by first | decide | omega)
    have x0 := xn 11 0 0 (by first | decide | omega)
    unfold f_Walker_goBracket_41
    rw [if_pos ⟨Int.le_refl _, h11⟩, x6, if_pos (show r32 (F 11 0 6 + 1) by unfold r32; omega)]
    by_cases c : 2 < F 11 0 6 + 1
    · rw [if_pos c]
      have e7 : zup3 X 11 0 6 (F 11 0 6 + 1) 11 0 7 = X 11 0 7 := by rw [zup3_v, if_neg (by first | decide | omega)]
      have e8 : zup3 X 11 0 6 (F 11 0 6 + 1) 11 0 8 = X 11 0 8 := by rw [zup3_v, if_neg (by first | decide | omega)]
      have e9 : zup3 X 11 0 6 (F 11 0 6 + 1) 11 0 9 = F 11 0 9 := by rw [zup3_v, if_neg (by first | decide | omega), x9]
      have e10 : zup3 X 11 0 6 (F 11 0 6 + 1) 11 0 10 = F 11 0 10 := by rw [zup3_v, if_neg (by first | decide | omega), x10]
      exact key2 _ Y (fun c y k n => by rw [zup3_v, if_neg (by first | decide | omega), xn c y k (by first | decide | omega)]) yn (by rw [zup3_v, if_pos (by first | decide | omega)]) (by rw [e9, e10]; exact tp1 c) (by rw [e7]; exact x7) (by rw [e8]; exact x8) (by rw [e7, e8]; exact xk)
    · rw [if_neg c, x0, a1, if_pos ⟨Int.le_refl _, h3⟩, if_pos hx, x9, x10, hT.1, hT.1]
      generalize hZ : zup3 (zup3 (zup3 X 11 0 6 (F 11 0 6 + 1)) 11 0 9 (F 11 0 9 * B0 3 0 2 x)) 11 0 10 (F 11 0 10 * B0 3 0 3 x) = Z
      have e6 : Z 11 0 6 = F 11 0 6 + 1 := by rw [← hZ, zup3_v, if_neg (by first | decide | omega), zup3_v, if_neg (by first | decide | omega), zup3_v, if_pos (by first | decide | omega)]
      have e7 : Z 11 0 7 = X 11 0 7 := by rw [← hZ, zup3_v, if_neg (by first | decide | omega), zup3_v, if_neg (by first | decide | omega), zup3_v, if_neg (by first | decide | omega)]
      have e8 : Z 11 0 8 = X 11 0 8 := by rw [← hZ, zup3_v, if_neg (by first | decide | omega), zup3_v, if_neg (by first | decide | omega), zup3_v, if_neg (by first | decide | omega)]
      have e9 : Z 11 0 9 = F 11 0 9 * B0 3 0 2 x := by rw [← hZ, zup3_v, if_neg (by first | decide | omega), zup3_v, if_pos (by first | decide | omega)]
      have e10 : Z 11 0 10 = F 11 0 10 * B0 3 0 3 x := by rw [← hZ, zup3_v, if_pos (by first | decide | omega)]
      exact key2 Z Y (fun c y k n => by rw [← hZ, zup3_v, if_neg (by first | decide | omega), zup3_v, if_neg (by first | decide | omega), zup3_v, if_neg (by first | decide | omega), xn c y k (by first | decide | omega)]) yn e6 (by rw [e9, e10]; exact tp2 c) (by rw [e7]; exact x7) (by rw [e8]; exact x8) (by rw [e7, e8]; exact xk)
  unfold fb_Walker_goBracket fb_M_goSign
  rw [if_pos ⟨Int.le_refl _, h11⟩, if_pos (show r32 (F 11 0 6) by unfold r32; omega), if_pos (show 0 ≤ i ∧ i < 3001 by omega), m9, if_pos (show r32 91 by decide), if_neg (show ¬ (91 : Int) = 33 by decide), if_neg (show ¬ (91 : Int) = 124 by decide), ← f1, if_pos (show r32 (F 11 0 6) by unfold r32; omega)]
  by_cases c : F 11 0 6 = 0
  · rw [if_pos c, if_pos c, a1, if_pos ⟨Int.le_refl _, h3⟩, if_pos hx, p4]
    have e7 : zup3 (zup3 F 11 0 7 (F 11 0 7 + 1)) 11 0 8 (Bm 14 0 8 i) 11 0 7 = F 11 0 7 + 1 := by rw [zup3_v, if_neg (by first | decide | omega), zup3_v, if_pos (by first | decide | omega)]
    have e8 : zup3 (zup3 F 11 0 7 (F 11 0 7 + 1)) 11 0 8 (Bm 14 0 8 i) 11 0 8 = Bm 14 0 8 i := by rw [zup3_v, if_pos (by first | decide | omega)]
    have d49 : zup3 (zup3 Fm 14 0 49 i) 14 0 50 (Fm 14 0 50 + 1) 14 0 49 = i := by rw [zup3_v, if_neg (by first | decide | omega), zup3_v, if_pos (by first | decide | omega)]
    have d50 : zup3 (zup3 Fm 14 0 49 i) 14 0 50 (Fm 14 0 50 + 1) 14 0 50 = Fm 14 0 50 + 1 := by rw [zup3_v, if_pos (by first | decide | omega)]
    exact key _ _ (fun c y k n => by rw [zup3_v, if_neg (by first | decide | omega), zup3_v, if_neg (by first | decide | omega)]) (fun c y k n => by rw [zup3_v, if_neg (by first | decide | omega), zup3_v, if_neg (by first | decide | omega)]) (by rw [e7, d50]; omega) (by rw [e8, d49]; exact ⟨rfl, (by first | decide | omega), (by first | decide | omega), (hTK i hi.1 (by first | decide | omega)).2.2.2.2.2.2.2.2.2.1⟩) (fun u => (by first | decide | omega))
  · rw [if_neg c, if_neg c]
    have hh' := hh (by first | decide | omega)
    exact key F Fm (fun _ _ _ _ => rfl) (fun _ _ _ _ => rfl) ⟨g1, hh'.1, g3⟩ hh'.2 (fun _ => ⟨rfl, rfl, rfl⟩)
end
end
section
section
/-! ===== the walk: moves and mirrors ===== -/
theorem P_car {K : zK} {Km : Nat} {N nl q v w bar x a sg mi s2 t : Int} {B0 Bm0 : zB} {D m : Nat} {o : oT_CW} {oM : oT_W} {R : zB → zB → Int → Int → Prop} {F : zF} {B : zB} {Fm : zF} {Bm : zB} (hL : LSim K Km N nl q v w bar B0 Bm0 (D + 1) o.1 oM.1 R) (hx : 0 ≤ x ∧ x < 3000) (ha : 0 ≤ a) (hT : WT N B0 Bm0 B Bm) (hnl : Fm 14 0 27 = nl) (hC : WC K Km N q v w bar B Fm Bm) (hS : WS q v w bar D F B Fm Bm) (hD : D < 64) (hk : (mi = 0 ∧ sg = 1 ∧ B0 3 0 2 x = s2 ∧ B0 3 0 3 x = t) ∨ (mi = 1 ∧ sg = -1 ∧ B0 3 0 2 x = 2 * s2 ∧ B0 3 0 3 x = 2 * t)) (hs : -200 ≤ B0 3 0 2 x ∧ B0 3 0 2 x ≤ 200) (ht : -500 ≤ B0 3 0 3 x ∧ B0 3 0 3 x ≤ 500) (hb : a < Bm0 14 0 30 a ∧ Bm0 14 0 30 a ≤ 3000) (hl : LRf R B0 Bm0 m (B0 3 0 4 x) (a + 1) (Bm0 14 0 30 a)) : zP (fb_Walker_goCarried o K 0 sg x D F B) (zbind (oM.1 (a + 1) (Bm 14 0 30 a) (zup3 Fm 14 0 45 (Fm 14 0 45 + 1)) (zup4 (zup4 (zup4 Bm 14 0 42 (Fm 14 0 45) mi) 14 0 43 (Fm 14 0 45) s2) 14 0 44 (Fm 14 0 45) t)) (fun _ F2 B2 => some (0, zup3 F2 14 0 45 (F2 14 0 45 - 1), B2))) (fun _ F' B' _ Fm' Bm' => WO q v w bar D F B Fm Bm F' B' Fm' Bm') := by
  have hC' := hC
  have hS' := hS
  obtain ⟨hK, hKm, h11, h3, h4, v0, w0, ⟨N0, N1, hTK⟩, _⟩ := hC
  obtain ⟨⟨a1, a2, a3, a4⟩, _, ⟨c1, c2, c3⟩, s4, s5, s6, s7, s8, s9, _, hm, ⟨z1, z2, z3, z4⟩, _⟩ := hS
  have aN : a < N := by
    rcases Int.lt_or_le a N with z | z
    · exact z
    · have := (hT.2.2.2 a z).1
      omega
  have p3 : Bm 14 0 30 a = Bm0 14 0 30 a := hT.2.2.1 30 a (by decide) (by decide) aN
  unfold fb_Walker_goCarried
  have e1 : (zup4 B 11 0 15 (F 11 0 18) sg) 3 0 2 x = B0 3 0 2 x := by rw [zup4_v, if_neg (by first | decide | omega), hT.1]
  have e2 : (zup4 (zup4 B 11 0 15 (F 11 0 18) sg) 11 0 16 (F 11 0 18) (B0 3 0 2 x)) 3 0 3 x = B0 3 0 3 x := by rw [zup4_v, if_neg (by first | decide | omega), zup4_v, if_neg (by first | decide | omega), hT.1]
  rw [if_pos ⟨Int.le_refl _, h11⟩, if_pos (show r32 (F 11 0 18) by unfold r32; omega), if_pos (show F 11 0 18 < 64 by omega), if_pos (by first | decide | omega), a1, if_pos ⟨Int.le_refl _, h3⟩, if_pos hx, e1, e2, p3, ← z1]
  generalize hB1 : zup4 (zup4 (zup4 B 11 0 15 (F 11 0 18) sg) 11 0 16 (F 11 0 18) (B0 3 0 2 x)) 11 0 17 (F 11 0 18) (B0 3 0 3 x) = B1
  generalize hM1 : zup4 (zup4 (zup4 Bm 14 0 42 (F 11 0 18) mi) 14 0 43 (F 11 0 18) s2) 14 0 44 (F 11 0 18) t = M1
  generalize hX : zup3 F 11 0 18 (F 11 0 18 + 1) = X
  generalize hY : zup3 Fm 14 0 45 (F 11 0 18 + 1) = Y
  have bn : ∀ c y k j, ¬ (c = 11 ∧ y = 0 ∧ (15 ≤ k ∧ k ≤ 17) ∧ j = F 11 0 18) → B1 c y k j = B c y k j := fun c y k j n => by rw [← hB1, zup4_v, if_neg (by first | decide | omega), zup4_v, if_neg (by first | decide | omega), zup4_v, if_neg (by first | decide | omega)]
  have mn : ∀ c y k j, ¬ (c = 14 ∧ y = 0 ∧ (42 ≤ k ∧ k ≤ 44) ∧ j = F 11 0 18) → M1 c y k j = Bm c y k j := fun c y k j n => by rw [← hM1, zup4_v, if_neg (by first | decide | omega), zup4_v, if_neg (by first | decide | omega), zup4_v, if_neg (by first | decide | omega)]
  have b15 : B1 11 0 15 (F 11 0 18) = sg := by rw [← hB1, zup4_v, if_neg (by first | decide | omega), zup4_v, if_neg (by first | decide | omega), zup4_v, if_pos (by first | decide | omega)]
  have b16 : B1 11 0 16 (F 11 0 18) = B0 3 0 2 x := by rw [← hB1, zup4_v, if_neg (by first | decide | omega), zup4_v, if_pos (by first | decide | omega)]
  have b17 : B1 11 0 17 (F 11 0 18) = B0 3 0 3 x := by rw [← hB1, zup4_v, if_pos (by first | decide | omega)]
  have m42 : M1 14 0 42 (F 11 0 18) = mi := by rw [← hM1, zup4_v, if_neg (by first | decide | omega), zup4_v, if_neg (by first | decide | omega), zup4_v, if_pos (by first | decide | omega)]
  have m43 : M1 14 0 43 (F 11 0 18) = s2 := by rw [← hM1, zup4_v, if_neg (by first | decide | omega), zup4_v, if_pos (by first | decide | omega)]
  have m44 : M1 14 0 44 (F 11 0 18) = t := by rw [← hM1, zup4_v, if_pos (by first | decide | omega)]
  have xn : ∀ c y k, ¬ (c = 11 ∧ y = 0 ∧ k = 18) → X c y k = F c y k := fun c y k n => by rw [← hX, zup3_v, if_neg n]
  have x18 : X 11 0 18 = F 11 0 18 + 1 := by rw [← hX, zup3_v, if_pos (by first | decide | omega)]
  have yn : ∀ c y k, ¬ (c = 14 ∧ y = 0 ∧ k = 45) → Y c y k = Fm c y k := fun c y k n => by rw [← hY, zup3_v, if_neg n]
  have y45 : Y 14 0 45 = F 11 0 18 + 1 := by rw [← hY, zup3_v, if_pos (by first | decide | omega)]
  rw [bn 3 0 4 x (by first | decide | omega), hT.1]
  have fr : WFR q v w F B Fm Bm X B1 Y M1 := WFR_mk (fun c y k n => xn c y k (by first | decide | omega)) (fun c y k n => yn c y k (by first | decide | omega)) (fun c y k j n => bn c y k j (by first | decide | omega)) (fun c y k j n => mn c y k j (by first | decide | omega))
  have sX : WS q v w bar (D + 1) X B1 Y M1 := by
    refine WS_mk hS' (fun c y k n => xn c y k (by first | decide | omega)) (fun c y k n => yn c y k (by first | decide | omega)) (fun c y k j n => bn c y k j (by first | decide | omega)) (fun c y k j n => mn c y k j (by first | decide | omega)) ?_ ?_ ?_ ?_ ?_ ?_ ?_ ?_
    · rw [xn 11 0 4 (by first | decide | omega), yn 14 0 40 (by first | decide | omega)]; exact s4
    · rw [xn 11 0 5 (by first | decide | omega), yn 14 0 41 (by first | decide | omega)]; omega
    · rw [xn 11 0 6 (by first | decide | omega), yn 14 0 48 (by first | decide | omega)]; omega
    · rw [xn 11 0 7 (by first | decide | omega), xn 11 0 3 (by first | decide | omega), yn 14 0 50 (by first | decide | omega)]; exact s7
    · rw [xn 11 0 6 (by first | decide | omega), xn 11 0 7 (by first | decide | omega), xn 11 0 8 (by first | decide | omega), yn 14 0 49 (by first | decide | omega), mn 14 0 8 _ (by first | decide | omega)]; exact s8
    · rw [xn 11 0 6 (by first | decide | omega), xn 11 0 9 (by first | decide | omega), xn 11 0 10 (by first | decide | omega)]
      exact TPL_c s9 (fun k _ _ => ⟨mn 14 0 46 k (by first | decide | omega), mn 14 0 47 k (by first | decide | omega)⟩)
    · intro k u t
      rw [mn 14 0 51 _ (by first | decide | omega), bn 11 0 14 k (by first | decide | omega)]
      have := hm k u t
      omega
    · rw [x18, y45]
      refine ⟨rfl, (by first | decide | omega), (by first | decide | omega), fun k u t => ?_⟩
      by_cases c : k = F 11 0 18
      · unfold CRk
        rw [c, b15, b16, b17, m42, m43, m44]
        refine ⟨?_, hs, ht⟩
        rcases hk with ⟨k1, k2, k3, k4⟩ | ⟨k1, k2, k3, k4⟩
        · exact Or.inl ⟨k1, k2, k3, k4⟩
        · exact Or.inr ⟨k1, k2, k3, k4⟩
      · have := z4 k u (by first | decide | omega)
        unfold CRk at this ⊢
        rw [bn 11 0 15 k (by first | decide | omega), bn 11 0 16 k (by first | decide | omega), bn 11 0 17 k (by first | decide | omega), mn 14 0 42 k (by first | decide | omega), mn 14 0 43 k (by first | decide | omega), mn 14 0 44 k (by first | decide | omega)]
        exact this
  refine zP_c (hL.1 m (B0 3 0 4 x) (a + 1) (Bm0 14 0 30 a) X B1 Y M1 hl (by first | decide | omega) hb.2 (WT_f hT fr) (by rw [fr.2.2.2.1 14 0 27 (by first | decide | omega)]; exact hnl) (WC_f hC' fr) sX) ?_
  intro r F2 B2 r' Fm2 Bm2 W
  refine zP_s (WO_close hS' fr W (fun c y k n => by rw [zup3_v, if_neg (by first | decide | omega)]) (fun c y k n => by rw [zup3_v, if_neg (by first | decide | omega)]) (fun _ _ _ _ _ => rfl) (fun _ _ _ _ _ => rfl) ?_ (fun k u t => ⟨bn _ _ _ _ (by first | decide | omega), bn _ _ _ _ (by first | decide | omega), bn _ _ _ _ (by first | decide | omega), mn _ _ _ _ (by first | decide | omega), mn _ _ _ _ (by first | decide | omega), mn _ _ _ _ (by first | decide | omega)⟩) (fun k u t => ⟨mn _ _ _ _ (by first | decide | omega), mn _ _ _ _ (by first | decide | omega)⟩) (by rw [x18]; omega) (by rw [xn 11 0 6 (by first | decide | omega)]; exact Int.le_refl _) (fun u => ⟨xn _ _ _ (by first | decide | omega), xn _ _ _ (by first | decide | omega), yn _ _ _ (by first | decide | omega)⟩) (xn 4 q 6 (by first | decide | omega)))
  intro s kp
  obtain ⟨⟨k5, k6, k9, k10, k18⟩, kw, _⟩ := kp
  obtain ⟨_, _, _, _, ⟨t5, _⟩, ⟨t6, _⟩, _, _, _, _, t11, ⟨t12, _⟩, _⟩ := s
  refine ⟨⟨?_, ?_, ?_, ?_, ?_⟩, ⟨?_, ?_, ?_⟩, fun k u t => ⟨?_, ?_⟩⟩
  · rw [zup3_v, if_neg (by first | decide | omega), k5, xn 11 0 5 (by first | decide | omega)]
  · rw [zup3_v, if_neg (by first | decide | omega), k6, xn 11 0 6 (by first | decide | omega)]
  · rw [zup3_v, if_neg (by first | decide | omega), k9, xn 11 0 9 (by first | decide | omega)]
  · rw [zup3_v, if_neg (by first | decide | omega), k10, xn 11 0 10 (by first | decide | omega)]
  · rw [zup3_v, if_pos (by first | decide | omega), k18, x18]; omega
  · rw [zup3_v, if_neg (by first | decide | omega), ← t5, k5, xn 11 0 5 (by first | decide | omega)]; exact s5.1
  · rw [zup3_v, if_pos (by first | decide | omega), ← t12, k18, x18]; omega
  · rw [zup3_v, if_neg (by first | decide | omega), ← t6, k6, xn 11 0 6 (by first | decide | omega)]; exact s6.1
  · rw [kw k u t, bn 11 0 14 k (by first | decide | omega)]
  · rw [← (t11 k u t).1, kw k u t, bn 11 0 14 k (by first | decide | omega)]; exact (hm k u t).1
theorem L_chg0 {K : Nat} {o : oT_W} {i : Int} {F : zF} {B : zB} (hi : 0 ≤ i ∧ i < 2997) (hw : B 14 0 11 i = 1836021349) (h45 : 0 ≤ F 14 0 45 ∧ F 14 0 45 < 100) (h1 : 0 ≤ B 14 0 9 (i + 1) ∧ B 14 0 9 (i + 1) ≤ 62) (h2 : 0 ≤ B 14 0 9 (i + 2) ∧ B 14 0 9 (i + 2) ≤ 62) : fb_M_goChange o K i F B = zbind (o.1 (i + 3 + 1) (B 14 0 30 (i + 3)) (zup3 F 14 0 45 (F 14 0 45 + 1)) (zup4 (zup4 (zup4 B 14 0 42 (F 14 0 45) 0) 14 0 43 (F 14 0 45) (B 14 0 9 (i + 2) - B 14 0 9 (i + 1))) 14 0 44 (F 14 0 45) (mvV B (i + 2) - mvV B (i + 1)))) (fun _ F2 B2 => some (0, zup3 F2 14 0 45 (F2 14 0 45 - 1), B2)) := by
  unfold fb_M_goChange f_M_goChange_18 f_M_goChange_36
  rw [if_pos (by first | decide | omega), hw, if_pos (by decide), if_neg (by decide), if_pos (by decide), if_pos rfl, if_pos h45, if_pos (Or.inl rfl), if_pos (by decide), if_pos rfl, if_pos (by first | decide | omega), if_pos (by first | decide | omega), show i + 1 + 1 = i + 2 by omega]
  have n1 : ∀ (x : Int) k j, ¬ k = 42 → zup4 B 14 0 42 (F 14 0 45) x 14 0 k j = B 14 0 k j := fun x k j n => by rw [zup4_v, if_neg (by first | decide | omega)]
  rw [n1 _ _ _ (by decide), n1 _ _ _ (by decide)]
  generalize hB1 : zup4 B 14 0 42 (F 14 0 45) 0 = B1 at n1 ⊢
  have e1 : ∀ k j, ¬ k = 42 → B1 14 0 k j = B 14 0 k j := fun k j n => by rw [← hB1, zup4_v, if_neg (by first | decide | omega)]
  unfold f_M_goChange_84
  rw [if_pos h45, if_pos (by decide), if_pos rfl, if_pos (by first | decide | omega), show i + 1 + 1 = i + 2 by omega]
  generalize hB2 : zup4 B1 14 0 43 (F 14 0 45) (B 14 0 9 (i + 2) - B 14 0 9 (i + 1)) = B2
  have e2 : ∀ k j, ¬ (k = 42 ∨ k = 43) → B2 14 0 k j = B 14 0 k j := fun k j n => by rw [← hB2, zup4_v, if_neg (by first | decide | omega), e1 k j (by first | decide | omega)]
  rw [e2 9 _ (by decide), e2 10 _ (by decide), L_tonP h2.1 h2.2, zb_s, if_pos (by first | decide | omega), e2 9 _ (by decide), e2 10 _ (by decide), L_tonP h1.1 h1.2, zb_s]
  unfold f_M_goChange_150
  rw [if_pos h45, if_pos (by first | decide | omega)]
  have e3 : ∀ x, zup4 B2 14 0 44 (F 14 0 45) x 14 0 30 (i + 3) = B 14 0 30 (i + 3) := fun x => by rw [zup4_v, if_neg (by first | decide | omega), e2 30 _ (by decide)]
  rw [e3]
  rfl
theorem L_chg1 {K : Nat} {o : oT_W} {i : Int} {F : zF} {B : zB} (hi : 0 ≤ i ∧ i < 2998) (hw : B 14 0 11 i = 120299659095922) (h45 : 0 ≤ F 14 0 45 ∧ F 14 0 45 < 100) (h1 : 0 ≤ B 14 0 9 (i + 1) ∧ B 14 0 9 (i + 1) ≤ 62) : fb_M_goChange o K i F B = zbind (o.1 (i + 2 + 1) (B 14 0 30 (i + 2)) (zup3 F 14 0 45 (F 14 0 45 + 1)) (zup4 (zup4 (zup4 B 14 0 42 (F 14 0 45) 1) 14 0 43 (F 14 0 45) (B 14 0 9 (i + 1))) 14 0 44 (F 14 0 45) (mvV B (i + 1)))) (fun _ F2 B2 => some (0, zup3 F2 14 0 45 (F2 14 0 45 - 1), B2)) := by
  unfold fb_M_goChange f_M_goChange_18 f_M_goChange_36
  rw [if_pos (by first | decide | omega), hw, if_pos (by decide), if_pos (by decide), if_pos (by decide), if_neg (by decide), if_pos h45, if_pos (Or.inr rfl), if_pos (by decide), if_neg (by decide), if_pos (by first | decide | omega)]
  have n1 : ∀ (x : Int) k j, ¬ k = 42 → zup4 B 14 0 42 (F 14 0 45) x 14 0 k j = B 14 0 k j := fun x k j n => by rw [zup4_v, if_neg (by first | decide | omega)]
  rw [n1 _ _ _ (by decide)]
  generalize hB1 : zup4 B 14 0 42 (F 14 0 45) 1 = B1 at n1 ⊢
  have e1 : ∀ k j, ¬ k = 42 → B1 14 0 k j = B 14 0 k j := fun k j n => by rw [← hB1, zup4_v, if_neg (by first | decide | omega)]
  unfold f_M_goChange_84
  rw [if_pos h45, if_pos (by decide), if_neg (by decide), if_pos (by first | decide | omega)]
  generalize hB2 : zup4 B1 14 0 43 (F 14 0 45) (B 14 0 9 (i + 1)) = B2
  have e2 : ∀ k j, ¬ (k = 42 ∨ k = 43) → B2 14 0 k j = B 14 0 k j := fun k j n => by rw [← hB2, zup4_v, if_neg (by first | decide | omega), e1 k j (by first | decide | omega)]
  rw [e2 9 _ (by decide), e2 10 _ (by decide), L_tonP h1.1 h1.2, zb_s]
  unfold f_M_goChange_150
  rw [if_pos h45, if_pos (by first | decide | omega)]
  have e3 : ∀ x, zup4 B2 14 0 44 (F 14 0 45) x 14 0 30 (i + 2) = B 14 0 30 (i + 2) := fun x => by rw [zup4_v, if_neg (by first | decide | omega), e2 30 _ (by decide)]
  rw [e3]
  rfl
end
end
section
section
/-! ===== the walk: back, slow, use ===== -/
theorem WS_up {q v w bar : Int} {D : Nat} {F : zF} {B : zB} {Fm : zF} {Bm : zB} (hS : WS q v w bar D F B Fm Bm) : WS q v w bar (D + 1) F B Fm Bm := by
  have hS' := hS
  obtain ⟨_, _, _, s4, s5, s6, s7, s8, s9, _, hm, ⟨z1, z2, z3, z4⟩, _⟩ := hS
  exact WS_mk hS' (fun _ _ _ _ => rfl) (fun _ _ _ _ => rfl) (fun _ _ _ _ _ => rfl) (fun _ _ _ _ _ => rfl) s4 (by first | decide | omega) (by first | decide | omega) s7 s8 s9 (fun k u t => by have := hm k u t; omega) ⟨z1, z2, (by first | decide | omega), z4⟩
/-- a walk one deeper that changed nothing but by itself -/
theorem WO_same {q v w bar : Int} {D : Nat} {F F2 : zF} {B B2 : zB} {Fm Fm2 : zF} {Bm Bm2 : zB} (hS : WS q v w bar D F B Fm Bm) (W : WO q v w bar (D + 1) F B Fm Bm F2 B2 Fm2 Bm2) : WO q v w bar D F B Fm Bm F2 B2 Fm2 Bm2 := by
  refine WO_close hS WFR_r W (fun _ _ _ _ => rfl) (fun _ _ _ _ => rfl) (fun _ _ _ _ _ => rfl) (fun _ _ _ _ _ => rfl) ?_ (fun _ _ _ => ⟨rfl, rfl, rfl, rfl, rfl, rfl⟩) (fun _ _ _ => ⟨rfl, rfl⟩) (Int.le_refl _) (Int.le_refl _) (fun _ => ⟨rfl, rfl, rfl⟩) rfl
  intro s kp
  obtain ⟨⟨k5, k6, k9, k10, k18⟩, kw, _⟩ := kp
  obtain ⟨_, _, _, _, ⟨t5, _⟩, ⟨t6, _⟩, _, _, _, _, t11, ⟨t12, _⟩, _⟩ := s
  obtain ⟨_, _, _, _, ⟨s5, _⟩, ⟨s6, _⟩, _, _, _, _, s11, ⟨s12, _⟩, _⟩ := hS
  exact ⟨⟨k5, k6, k9, k10, k18⟩, ⟨by rw [← t5, k5, s5], by rw [← t12, k18, s12], by rw [← t6, k6, s6]⟩, fun k u t => ⟨kw k u t, by rw [← (t11 k u t).1, kw k u t]; exact (s11 k u t).1⟩⟩
theorem P_bk {K : zK} {Km : Nat} {N nl q v w bar x i : Int} {B0 Bm0 : zB} {D m : Nat} {o : oT_CW} {oM : oT_W} {R : zB → zB → Int → Int → Prop} {F : zF} {B : zB} {Fm : zF} {Bm : zB} (hL : LSim K Km N nl q v w bar B0 Bm0 (D + 1) o.1 oM.1 R) (hi : 0 ≤ i ∧ i < N) (hT : WT N B0 Bm0 B Bm) (hnl : Fm 14 0 27 = nl) (hC : WC K Km N q v w bar B Fm Bm) (hS : WS q v w bar D F B Fm Bm) (hD : D < 64) (hb : i + 1 < Bm0 14 0 30 (i + 1) ∧ Bm0 14 0 30 (i + 1) ≤ 3000) (hl : LRf R B0 Bm0 m x (i + 1 + 1) (Bm0 14 0 30 (i + 1))) : zP (fb_Walker_goBack o K 0 x D F B) (fb_M_goBack oM Km i Fm Bm) (fun _ F' B' _ Fm' Bm' => WO q v w bar D F B Fm Bm F' B' Fm' Bm') := by
  have hC' := hC
  have hS' := hS
  obtain ⟨hK, hKm, h11, h3, h4, v0, w0, ⟨N0, N1, hTK⟩, _⟩ := hC
  obtain ⟨⟨a1, a2, a3, a4⟩, _, ⟨c1, c2, c3⟩, s4, s5, s6, s7, s8, s9, _, hm, ⟨z1, z2, z3, z4⟩, ⟨o1, o2, o3, _⟩⟩ := hS
  have aN : i + 1 < N := by
    rcases Int.lt_or_le (i + 1) N with z | z
    · exact z
    · have := (hT.2.2.2 (i + 1) z).1
      omega
  have p3 : Bm 14 0 30 (i + 1) = Bm0 14 0 30 (i + 1) := hT.2.2.1 30 (i + 1) (by decide) (by decide) aN
  unfold fb_Walker_goBack fb_M_goBack
  rw [if_pos ⟨Int.le_refl _, h11⟩, a2, if_pos h4, if_pos (by first | decide | omega), p3, ← s5.1, ← o1, show i + 2 = i + 1 + 1 by omega]
  generalize hX : zup3 F 11 0 5 (F 11 0 5 + 1) = X
  generalize hY : zup3 Fm 14 0 41 (F 11 0 5 + 1) = Y
  have xn : ∀ c y k, ¬ (c = 11 ∧ y = 0 ∧ k = 5) → X c y k = F c y k := fun c y k n => by rw [← hX, zup3_v, if_neg n]
  have x5 : X 11 0 5 = F 11 0 5 + 1 := by rw [← hX, zup3_v, if_pos (by first | decide | omega)]
  have yn : ∀ c y k, ¬ (c = 14 ∧ y = 0 ∧ k = 41) → Y c y k = Fm c y k := fun c y k n => by rw [← hY, zup3_v, if_neg n]
  have y41 : Y 14 0 41 = F 11 0 5 + 1 := by rw [← hY, zup3_v, if_pos (by first | decide | omega)]
  have fr : WFR q v w F B Fm Bm X B Y Bm := WFR_mk (fun c y k n => xn c y k (by first | decide | omega)) (fun c y k n => yn c y k (by first | decide | omega)) (fun _ _ _ _ _ => rfl) (fun _ _ _ _ _ => rfl)
  have sX : WS q v w bar (D + 1) X B Y Bm := by
    refine WS_mk hS' (fun c y k n => xn c y k (by first | decide | omega)) (fun c y k n => yn c y k (by first | decide | omega)) (fun _ _ _ _ _ => rfl) (fun _ _ _ _ _ => rfl) ?_ ?_ ?_ ?_ ?_ ?_ ?_ ?_
    · rw [xn 11 0 4 (by first | decide | omega), yn 14 0 40 (by first | decide | omega)]; exact s4
    · rw [x5, y41]; omega
    · rw [xn 11 0 6 (by first | decide | omega), yn 14 0 48 (by first | decide | omega)]; omega
    · rw [xn 11 0 7 (by first | decide | omega), xn 11 0 3 (by first | decide | omega), yn 14 0 50 (by first | decide | omega)]; exact s7
    · rw [xn 11 0 6 (by first | decide | omega), xn 11 0 7 (by first | decide | omega), xn 11 0 8 (by first | decide | omega), yn 14 0 49 (by first | decide | omega)]; exact s8
    · rw [xn 11 0 6 (by first | decide | omega), xn 11 0 9 (by first | decide | omega), xn 11 0 10 (by first | decide | omega)]; exact s9
    · intro k u t
      have := hm k u t
      omega
    · rw [xn 11 0 18 (by first | decide | omega), yn 14 0 45 (by first | decide | omega)]
      exact ⟨z1, z2, (by first | decide | omega), z4⟩
  refine zP_c (hL.1 m x (i + 1 + 1) (Bm0 14 0 30 (i + 1)) X B Y Bm hl (by first | decide | omega) hb.2 (WT_f hT fr) (by rw [fr.2.2.2.1 14 0 27 (by first | decide | omega)]; exact hnl) (WC_f hC' fr) sX) ?_
  intro r F2 B2 r' Fm2 Bm2 W
  have q2 : F2 11 0 1 = q := by
    rcases W.2 with ⟨s, _⟩ | s
    · exact s.1.2.1
    · exact s.2.1
  have W3 : WO q v w bar D F B Fm Bm (zup3 F2 11 0 5 (F2 11 0 5 - 1)) B2 (zup3 Fm2 14 0 41 (Fm2 14 0 41 - 1)) Bm2 := by
    refine WO_close hS' fr W (fun c y k n => by rw [zup3_v, if_neg (by first | decide | omega)]) (fun c y k n => by rw [zup3_v, if_neg (by first | decide | omega)]) (fun _ _ _ _ _ => rfl) (fun _ _ _ _ _ => rfl) ?_ (fun _ _ _ => ⟨rfl, rfl, rfl, rfl, rfl, rfl⟩) (fun _ _ _ => ⟨rfl, rfl⟩) (by rw [xn 11 0 18 (by first | decide | omega)]; exact Int.le_refl _) (by rw [xn 11 0 6 (by first | decide | omega)]; exact Int.le_refl _) (fun u => ⟨xn _ _ _ (by first | decide | omega), xn _ _ _ (by first | decide | omega), yn _ _ _ (by first | decide | omega)⟩) (xn 4 q 6 (by first | decide | omega))
    intro s kp
    obtain ⟨⟨k5, k6, k9, k10, k18⟩, kw, _⟩ := kp
    obtain ⟨_, _, _, _, ⟨t5, _⟩, ⟨t6, _⟩, _, _, _, _, t11, ⟨t12, _⟩, _⟩ := s
    refine ⟨⟨?_, ?_, ?_, ?_, ?_⟩, ⟨?_, ?_, ?_⟩, fun k u t => ⟨?_, ?_⟩⟩
    · rw [zup3_v, if_pos (by first | decide | omega), k5, x5]; omega
    · rw [zup3_v, if_neg (by first | decide | omega), k6, xn 11 0 6 (by first | decide | omega)]
    · rw [zup3_v, if_neg (by first | decide | omega), k9, xn 11 0 9 (by first | decide | omega)]
    · rw [zup3_v, if_neg (by first | decide | omega), k10, xn 11 0 10 (by first | decide | omega)]
    · rw [zup3_v, if_neg (by first | decide | omega), k18, xn 11 0 18 (by first | decide | omega)]
    · rw [zup3_v, if_pos (by first | decide | omega), ← t5, k5, x5]; omega
    · rw [zup3_v, if_neg (by first | decide | omega), ← t12, k18, xn 11 0 18 (by first | decide | omega)]; exact z1
    · rw [zup3_v, if_neg (by first | decide | omega), ← t6, k6, xn 11 0 6 (by first | decide | omega)]; exact s6.1
    · exact kw k u t
    · rw [← (t11 k u t).1, kw k u t]; exact (hm k u t).1
  rw [q2, if_pos h4]
  have e36 : Fm2 14 0 36 = zup3 Fm2 14 0 41 (Fm2 14 0 41 - 1) 14 0 36 := by rw [zup3_v, if_neg (by first | decide | omega)]
  rw [e36]
  generalize zup3 F2 11 0 5 (F2 11 0 5 - 1) = Z at W3 ⊢
  generalize zup3 Fm2 14 0 41 (Fm2 14 0 41 - 1) = Zm at W3 ⊢
  obtain ⟨f, s⟩ := W3
  rcases s with ⟨s, k⟩ | s
  · obtain ⟨r1, G, C, r1', Gm, Cm, e, e', f', s', k'⟩ := P_turn (o := oM) (fr := F 4 q 6) (WC_f hC' f) s ⟨o2, k.2.2.2.2.2⟩
    rw [e, e', zb_s]
    exact zP_s ⟨WFR_t f f', Or.inl ⟨s', WKP_t k k'⟩⟩
  · obtain ⟨r1, G, C, r1', Gm, Cm, e, e', f', s'⟩ := P_turnE (o := oM) (fr := F 4 q 6) (WC_f hC' f) s ⟨o2, o3⟩
    rw [e, e', zb_s]
    exact zP_s ⟨WFR_t f f', Or.inr s'⟩
theorem L_goW {K : Nat} {o : oT_W} {i : Int} {F : zF} {B : zB} (hi : 0 ≤ i ∧ i < 3001) (h4 : B 14 0 7 i = 4) : (B 14 0 11 i = 125780002955636 → fb_M_go o K i F B = zbind (o.2.2.2.1 i F B) (fun _ F1 B1 => some (0, F1, B1))) ∧ (B 14 0 11 i = 7697253 → fb_M_go o K i F B = zbind (o.2.2.2.2.1 i F B) (fun _ F1 B1 => some (0, F1, B1))) ∧ (B 14 0 11 i = 1836021349 ∨ B 14 0 11 i = 120299659095922 → fb_M_go o K i F B = zbind (o.2.2.2.2.2.1 i F B) (fun _ F1 B1 => some (0, F1, B1))) ∧ (B 14 0 11 i = 1650549611 → fb_M_go o K i F B = zbind (o.2.2.2.2.2.2.1 i F B) (fun _ F1 B1 => some (0, F1, B1))) ∧ (B 14 0 11 i = 1936486263 → fb_M_go o K i F B = zbind (o.2.2.2.2.2.2.2 i F B) (fun _ F1 B1 => some (0, F1, B1))) := by
  unfold fb_M_go f_M_go_31 f_M_go_62 f_M_go_148
  simp only [f_M_go_182]
  rw [if_pos hi, h4, if_pos (by decide), if_neg (by decide), if_neg (by decide), if_pos hi, if_pos (by decide), if_pos rfl]
  refine ⟨fun h => ?_, fun h => ?_, fun h => ?_, fun h => ?_, fun h => ?_⟩
  · rw [h, if_pos (by decide), if_neg (by decide), if_pos hi, if_pos (by decide), if_neg (by decide), if_pos (by decide), if_pos (by decide)]
  · rw [h, if_pos (by decide), if_neg (by decide), if_pos hi, if_pos (by decide), if_neg (by decide), if_pos (by decide), if_neg (by decide), if_pos (by decide)]
  · rcases h with h | h
    · rw [h, if_pos (by decide), if_neg (by decide), if_pos hi, if_pos (by decide), if_neg (by decide), if_pos (by decide), if_neg (by decide), if_neg (by decide), if_pos (by decide)]
    · rw [h, if_pos (by decide), if_neg (by decide), if_pos hi, if_pos (by decide), if_neg (by decide), if_pos (by decide), if_neg (by decide), if_neg (by decide), if_neg (by decide), if_pos (by decide)]
  · rw [h, if_pos (by decide), if_neg (by decide), if_pos hi, if_pos (by decide), if_neg (by decide), if_pos (by decide), if_neg (by decide), if_neg (by decide), if_neg (by decide), if_neg (by decide), if_pos (by decide)]
  · rw [h, if_pos (by decide), if_neg (by decide), if_pos hi, if_pos (by decide), if_neg (by decide), if_pos (by decide), if_neg (by decide), if_neg (by decide), if_neg (by decide), if_neg (by decide), if_neg (by decide)]
end
end
section
section
/-! ===== the walk: slow, use ===== -/
theorem exN_3 {p x : Int} : exN p x ≤ 3 := by
  unfold exN
  split
  · split
    · split <;> omega
    · omega
  · omega
theorem P_slI {K : zK} {Km : Nat} {N nl q v w bar x i : Int} {B0 Bm0 : zB} {D m : Nat} {o : oT_CW} {oM oM' : oT_W} {R : zB → zB → Int → Int → Prop} {F : zF} {B : zB} {Fm : zF} {Bm : zB} (hL : LSim K Km N nl q v w bar B0 Bm0 (D + 1) o.1 oM'.1 R) (hG : ∀ F B, oM.2.2.2.2.2.2.2 i F B = fb_M_goSlow oM' Km i F B) (hx : 0 ≤ x ∧ x < 3000) (hi : 0 ≤ i ∧ i < N) (hT : WT N B0 Bm0 B Bm) (hnl : Fm 14 0 27 = nl) (hC : WC K Km N q v w bar B Fm Bm) (hS : WS q v w bar D F B Fm Bm) (hD : D < 64) (k0 : B0 3 0 0 x = 9) (hw : wdAt Bm0 i 1936486263) (n1 : nmAt Bm0 (i + 1) (B0 3 0 2 x) 1 8) (n2 : nmAt Bm0 (i + 3) (B0 3 0 3 x) 1 8) (hb : i + 4 < Bm0 14 0 30 (i + 4) ∧ Bm0 14 0 30 (i + 4) ≤ 3000) (hl : LRf R B0 Bm0 m (B0 3 0 4 x) (i + 4 + 1) (Bm0 14 0 30 (i + 4))) : zP (fb_Walker_goItem o K 0 x D F B) (fb_M_go oM Km i Fm Bm) (fun _ F' B' _ Fm' Bm' => WO q v w bar D F B Fm Bm F' B' Fm' Bm') := by
  have hC' := hC
  have hS' := hS
  obtain ⟨hK, hKm, h11, h3, h4, v0, w0, ⟨N0, N1, hTK⟩, _⟩ := hC
  obtain ⟨⟨a1, a2, a3, a4⟩, _, ⟨c1, c2, c3⟩, s4, s5, s6, s7, s8, s9, _, hm, ⟨z1, z2, z3, z4⟩, _⟩ := hS
  have aN : i + 4 < N := by
    rcases Int.lt_or_le (i + 4) N with z | z
    · exact z
    · have := (hT.2.2.2 (i + 4) z).1
      omega
  have m7 : Bm 14 0 7 i = 4 := by rw [hT.2.1 7 i (by decide)]; exact hw.1
  have m11 : Bm 14 0 11 i = 1936486263 := by rw [hT.2.1 11 i (by decide)]; exact hw.2
  have p1 : Bm 14 0 9 (i + 1) = B0 3 0 2 x := by rw [hT.2.1 9 _ (by decide)]; exact n1.2.1
  have p2 : Bm 14 0 9 (i + 3) = B0 3 0 3 x := by rw [hT.2.1 9 _ (by decide)]; exact n2.2.1
  have p3 : Bm 14 0 30 (i + 4) = Bm0 14 0 30 (i + 4) := hT.2.2.1 30 (i + 4) (by decide) (by decide) aN
  have q2 : B 3 0 2 x = B0 3 0 2 x := hT.1 2 x
  have q3 : B 3 0 3 x = B0 3 0 3 x := hT.1 3 x
  have q4 : B 3 0 4 x = B0 3 0 4 x := hT.1 4 x
  have n1' := n1.2.2
  have n2' := n2.2.2
  clear n1 n2 hw
  generalize ea : B0 3 0 2 x = a at p1 q2 n1'
  generalize ec : B0 3 0 3 x = c at p2 q3 n2'
  obtain ⟨B1, e1, u1, d1⟩ := C_mul (K := K) (F := F) (B := B) (s := 1) h11 (by first | decide | omega) n1'.1 n1'.2
  obtain ⟨B2, e2, u2, d2⟩ := C_mul (K := K) (F := F) (B := B1) (s := -1) h11 (by first | decide | omega) n2'.1 n2'.2
  obtain ⟨M1, e3, u3, d3⟩ := L_pow (K := Km) (F := Fm) (B := Bm) (s := 1) (by first | decide | omega) n1'.1 n1'.2
  obtain ⟨M2, e4, u4, d4⟩ := L_pow (K := Km) (F := Fm) (B := M1) (s := -1) (by first | decide | omega) n2'.1 n2'.2
  have bn : ∀ c y k j, ¬ (c = 11 ∧ y = 0 ∧ k = 14) → B2 c y k j = B c y k j := fun c y k j n => by rw [d2 c y k j n, d1 c y k j n]
  have mn : ∀ c y k j, ¬ (c = 14 ∧ y = 0 ∧ k = 51) → M2 c y k j = Bm c y k j := fun c y k j n => by rw [d4 c y k j (by first | decide | omega), d3 c y k j (by first | decide | omega)]
  rw [(L_goW (by first | decide | omega) m7).2.2.2.2 m11, hG, fb_M_goSlow, if_pos (by first | decide | omega), p1, e3, zb_s, if_pos (by first | decide | omega), d3 14 0 9 _ (by first | decide | omega), p2, e4, zb_s, if_pos (by first | decide | omega), mn 14 0 30 _ (by first | decide | omega), p3]
  rw [fb_Walker_goItem, if_pos ⟨Int.le_refl _, h11⟩, a1, if_pos ⟨Int.le_refl _, h3⟩, if_pos hx, hT.1 0 x, k0, if_pos (by decide), if_neg (by decide), if_neg (by decide), if_neg (by decide), if_neg (by decide), if_neg (by decide), if_neg (by decide), if_neg (by decide), if_neg (by decide), if_neg (by decide), if_pos rfl, q2, q4, e1, zb_s, a1, if_pos ⟨Int.le_refl _, h3⟩, d1 3 0 3 x (by first | decide | omega), q3, e2, zb_s]
  have fr : WFR q v w F B Fm Bm F B2 Fm M2 := WFR_mk (fun _ _ _ _ => rfl) (fun _ _ _ _ => rfl) (fun c y k j n => bn c y k j (by first | decide | omega)) (fun c y k j n => mn c y k j (by first | decide | omega))
  have pw : ∀ k, 0 ≤ k → k < 4 → B2 11 0 14 k = B 11 0 14 k + exN (prN k) a - exN (prN k) c ∧ M2 14 0 51 (prN k) = Bm 14 0 51 (prN k) + exN (prN k) a - exN (prN k) c := fun k u t => by
    rw [u2 k u t, u1 k u t, u4 k u t, u3 k u t]
    constructor <;> omega
  have sX : WS q v w bar (D + 1) F B2 Fm M2 := by
    refine WS_mk hS' (fun _ _ _ _ => rfl) (fun _ _ _ _ => rfl) (fun c y k j n => bn c y k j (by first | decide | omega)) (fun c y k j n => mn c y k j (by first | decide | omega)) s4 (by first | decide | omega) (by first | decide | omega) s7 ?_ ?_ ?_ ?_
    · rw [mn 14 0 8 _ (by first | decide | omega)]; exact s8
    · exact TPL_c s9 (fun k _ _ => ⟨mn 14 0 46 k (by first | decide | omega), mn 14 0 47 k (by first | decide | omega)⟩)
    · intro k u t
      have y1 := hm k u t
      have y2 := pw k u t
      have y3 := exN_3 (p := prN k) (x := a)
      have y4 := exN_3 (p := prN k) (x := c)
      omega
    · refine ⟨z1, z2, (by first | decide | omega), fun k u t => ?_⟩
      have := z4 k u t
      unfold CRk at this ⊢
      rw [bn 11 0 15 k (by first | decide | omega), bn 11 0 16 k (by first | decide | omega), bn 11 0 17 k (by first | decide | omega), mn 14 0 42 k (by first | decide | omega), mn 14 0 43 k (by first | decide | omega), mn 14 0 44 k (by first | decide | omega)]
      exact this
  have W := hL.1 m (B0 3 0 4 x) (i + 4 + 1) (Bm0 14 0 30 (i + 4)) F B2 Fm M2 hl (by first | decide | omega) hb.2 (WT_f hT fr) hnl (WC_f hC' fr) sX
  obtain ⟨r, F3, B3, r', G3, M3, y1, y2, W⟩ := W
  rw [show ((D + 1 : Nat) : Int) = (D : Int) + 1 by omega] at y1
  rw [y1, y2, zb_s, zb_s]
  have t3 := WT_f (WT_f hT fr) W.1
  have f0 : F3 11 0 0 = 0 := by
    rcases W.2 with ⟨s, _⟩ | s
    · exact s.1.1
    · exact s.1
  obtain ⟨B4, e5, u5, d5⟩ := C_mul (K := K) (F := F3) (B := B3) (s := -1) h11 (by first | decide | omega) n1'.1 n1'.2
  obtain ⟨B5, e6, u6, d6⟩ := C_mul (K := K) (F := F3) (B := B4) (s := 1) h11 (by first | decide | omega) n2'.1 n2'.2
  obtain ⟨M4, e7, u7, d7⟩ := L_pow (K := Km) (F := G3) (B := M3) (s := -1) (by first | decide | omega) n1'.1 n1'.2
  obtain ⟨M5, e8, u8, d8⟩ := L_pow (K := Km) (F := G3) (B := M4) (s := 1) (by first | decide | omega) n2'.1 n2'.2
  have r1 : M3 14 0 9 (i + 1) = a := by rw [t3.2.1 9 _ (by decide), ← hT.2.1 9 _ (by decide)]; exact p1
  have r2 : M4 14 0 9 (i + 3) = c := by rw [d7 14 0 9 _ (by first | decide | omega), t3.2.1 9 _ (by decide), ← hT.2.1 9 _ (by decide)]; exact p2
  have r3 : B3 3 0 2 x = a := by rw [t3.1 2 x]; exact ea
  have r4 : B4 3 0 3 x = c := by rw [d5 3 0 3 x (by first | decide | omega), t3.1 3 x]; exact ec
  rw [f0, if_pos ⟨Int.le_refl _, h3⟩, r3, e5, zb_s, f0, if_pos ⟨Int.le_refl _, h3⟩, r4, e6, zb_s, f_Walker_goItem_285, r1, e7, zb_s, r2, e8, zb_s, zb_s]
  refine zP_s (WO_close hS' fr W (fun _ _ _ _ => rfl) (fun _ _ _ _ => rfl) (fun c y k j n => by rw [d6 c y k j n, d5 c y k j n]) (fun c y k j n => by rw [d8 c y k j (by first | decide | omega), d7 c y k j (by first | decide | omega)]) ?_ (fun k _ _ => ⟨bn _ _ _ _ (by first | decide | omega), bn _ _ _ _ (by first | decide | omega), bn _ _ _ _ (by first | decide | omega), mn _ _ _ _ (by first | decide | omega), mn _ _ _ _ (by first | decide | omega), mn _ _ _ _ (by first | decide | omega)⟩) (fun k _ _ => ⟨mn _ _ _ _ (by first | decide | omega), mn _ _ _ _ (by first | decide | omega)⟩) (Int.le_refl _) (Int.le_refl _) (fun _ => ⟨rfl, rfl, rfl⟩) rfl)
  intro s kp
  obtain ⟨⟨k5, k6, k9, k10, k18⟩, kw, _⟩ := kp
  obtain ⟨_, _, _, _, ⟨t5, _⟩, ⟨t6, _⟩, _, _, _, _, t11, ⟨t12, _⟩, _⟩ := s
  refine ⟨⟨k5, k6, k9, k10, k18⟩, ⟨by rw [← t5, k5, s5.1], by rw [← t12, k18, z1], by rw [← t6, k6, s6.1]⟩, fun k u t => ?_⟩
  have y1 := (pw k u t).1
  have y2 := (t11 k u t).1
  have y3 := kw k u t
  have y4 := (hm k u t).1
  rw [u6 k u t, u5 k u t, u8 k u t, u7 k u t]
  constructor <;> omega
theorem fdR_i {row : Int → Int} {m w q : Int} : ∀ {f : Nat} {k : Int}, k ≤ q → q < m → q - k < f → row q = w → (∀ p, k ≤ p → p < q → ¬ row p = w) → fdR row m w f k = q := by
  intro f
  induction f with
  | zero => intro k a b c _ _; omega
  | succ f ih =>
    intro k a b c d e
    unfold fdR
    rw [if_neg (by first | decide | omega)]
    by_cases h : k = q
    · rw [h, if_pos d]
    · rw [if_neg (e k (Int.le_refl _) (by first | decide | omega))]
      exact ih (by first | decide | omega) b (by first | decide | omega) d (fun p u t => e p (by first | decide | omega) t)
/-- the lets told so far -/
def LTW (nl : Int) (B0 Bm0 : zB) : Prop := (0 ≤ nl ∧ nl ≤ 6) ∧ ∀ p, 0 ≤ p → p < nl → (0 ≤ B0 3 0 13 p ∧ B0 3 0 13 p < 3000) ∧ r64 (Bm0 14 0 25 p) ∧ 0 ≤ Bm0 14 0 26 p ∧ BKf (IRd p 7) B0 Bm0 (B0 3 0 13 p) (Bm0 14 0 26 p)
theorem P_usI {K : zK} {Km : Nat} {N nl L q v w bar x i : Int} {B0 Bm0 : zB} {D : Nat} {o : oT_CW} {oM oM' : oT_W} {F : zF} {B : zB} {Fm : zF} {Bm : zB} (hL : ∀ p, 0 ≤ p → p < L → LSim K Km N nl q v w bar B0 Bm0 (D + 1) o.1 oM'.1 (IRd p 7)) (hLn : L ≤ nl) (hLT : LTW nl B0 Bm0) (hG : ∀ F B, oM.2.2.2.2.1 i F B = fb_M_goUse oM' Km i F B) (hx : 0 ≤ x ∧ x < 3000) (hi : 0 ≤ i ∧ i < N) (hT : WT N B0 Bm0 B Bm) (hnl : Fm 14 0 27 = nl) (hC : WC K Km N q v w bar B Fm Bm) (hS : WS q v w bar D F B Fm Bm) (hD : D < 64) (k0 : B0 3 0 0 x = 5) (hu : usR L B0 Bm0 x i) : zP (fb_Walker_goItem o K 0 x D F B) (fb_M_go oM Km i Fm Bm) (fun _ F' B' _ Fm' Bm' => WO q v w bar D F B Fm Bm F' B' Fm' Bm') := by
  have hC' := hC
  obtain ⟨hK, hKm, h11, h3, h4, v0, w0, ⟨N0, N1, hTK⟩, _⟩ := hC
  have a1 := hS.1.1
  obtain ⟨hw, p, ⟨p0, p1⟩, pe, px, pn⟩ := hu
  obtain ⟨⟨l0, l6⟩, hLp⟩ := hLT
  obtain ⟨⟨x0, x1⟩, r25, r26, b1, b2, m, hl⟩ := hLp p p0 (by first | decide | omega)
  have m7 : Bm 14 0 7 i = 4 := by rw [hT.2.1 7 i (by decide)]; exact hw.1
  have m11 : Bm 14 0 11 i = 7697253 := by rw [hT.2.1 11 i (by decide)]; exact hw.2
  have fd : fdR (Bm 14 0 25) nl (Bm 14 0 11 (i + 1)) 22 0 = p := by
    refine fdR_i p0 (by first | decide | omega) (by first | decide | omega) ?_ (fun y u t => ?_)
    · rw [hT.2.1 25 p (by decide), hT.2.1 11 _ (by decide)]; exact pe
    · rw [hT.2.1 25 y (by decide), hT.2.1 11 _ (by decide)]; exact pn y u t
  have r11 : r64 (Bm 14 0 11 (i + 1)) := by rw [hT.2.1 11 _ (by decide), ← pe]; exact r25
  have aN : Bm0 14 0 26 p < N := by
    rcases Int.lt_or_le (Bm0 14 0 26 p) N with z | z
    · exact z
    · have := (hT.2.2.2 _ z).1
      omega
  rw [(L_goW (by first | decide | omega) m7).2.1 m11, hG, fb_M_goUse, if_pos (by first | decide | omega), hnl, L_find (by first | decide | omega) (by decide) (by rw [show lnM 14 0 25 = 6 by decide]; omega) (by decide) (by decide) (by first | decide | omega) (fun y u t => by rw [hT.2.1 25 y (by decide)]; exact (hLp y u t).2.1) r11, zb_s, fd, if_pos (by first | decide | omega), hT.2.1 26 p (by decide), if_pos (by first | decide | omega), hT.2.2.1 30 _ (by decide) (by decide) aN]
  rw [fb_Walker_goItem, if_pos ⟨Int.le_refl _, h11⟩, a1, if_pos ⟨Int.le_refl _, h3⟩, if_pos hx, hT.1 0 x, k0, if_pos (by decide), if_neg (by decide), if_neg (by decide), if_neg (by decide), if_neg (by decide), if_neg (by decide), if_pos rfl, hT.1 2 x, px, if_pos ⟨x0, x1⟩, hT.1 4 _]
  have W := (hL p p0 p1).1 m _ _ _ F B Fm Bm hl (by first | decide | omega) b2 hT hnl hC' (WS_up hS)
  obtain ⟨r, F3, B3, r', G3, M3, y1, y2, W⟩ := W
  rw [show ((D + 1 : Nat) : Int) = (D : Int) + 1 by omega] at y1
  rw [y1, y2, zb_s, zb_s, f_Walker_goItem_285, zb_s]
  exact zP_s (WO_same hS W)
end
end
section
section
/-! ===== the walk: repeats ===== -/
/-- what is left of one time through a repeat behind its first walk -/
def rpT (o : oT_CW) (K : zK) (n : Nat) (l4 l3 l1 l2 : Int) (F14 : zF) (B14 : zB) : zO := if r32 l3 then (if l3 = (-1) then f_Walker_goRepeat_121 o (f_Walker_goRepeat_13 o K n) K l4 l3 0 l1 l2 F14 B14 else if 0 ≤ (F14 11 0 0) ∧ (F14 11 0 0) < K.2 3 then zbind (f_Walker_countItem K 0 (B14 3 (F14 11 0 0) 1 l1) F14 B14) (fun r18 F18 B18 => if 0 ≤ (F18 11 0 0) ∧ (F18 11 0 0) < K.2 3 then if 0 ≤ l3 ∧ l3 < 3000 then zbind (o.1 0 (B18 3 (F18 11 0 0) 4 l3) (l2 + 1) F18 B18) (fun r21 F21 B21 => if 0 ≤ (F21 11 0 0) ∧ (F21 11 0 0) < K.2 3 then if r32 (B21 3 (F21 11 0 0) 5 l3) then (if (B21 3 (F21 11 0 0) 5 l3) = (-1) then f_Walker_goRepeat_120 o (f_Walker_goRepeat_13 o K n) K l4 0 l1 l2 l3 F21 B21 else f_Walker_goRepeat_120 o (f_Walker_goRepeat_13 o K n) K l4 0 l1 l2 (B21 3 (F21 11 0 0) 5 l3) F21 B21) else none else none) else none else none) else none) else none
def rpM (o : oT_W) (K : Nat) (n : Nat) (l6 l5 l3 l2 l1 : Int) (F22 : zF) (B22 : zB) : zO := if r32 l5 then (if l5 = 0 then f_M_goRepeat_186 o (f_M_goRepeat_74 o K n) K l6 l5 l3 l2 l1 F22 B22 else zbind (f_M_good K F22 B22) (fun r25 F25 B25 => if r32 r25 then (if r25 = 0 then f_M_goRepeat_186 o (f_M_goRepeat_74 o K n) K l6 l5 l3 l2 l1 F25 B25 else f_M_goRepeat_135 o (f_M_goRepeat_74 o K n) K K 1 (l3 + 1) l6 l5 l3 l2 l1 F25 B25) else none)) else none
theorem rpT_e {o : oT_CW} {K : zK} {n : Nat} {l4 l3 l1 l2 : Int} {F : zF} {B : zB} : f_Walker_goRepeat_13 o K (n + 1) l4 l3 0 l1 l2 F B = (if (0 : Int) ≤ 0 ∧ (0 : Int) < K.2 11 then if 0 ≤ (F 11 0 0) ∧ (F 11 0 0) < K.2 3 then if 0 ≤ l1 ∧ l1 < 3000 then if r32 l4 then if r32 (B 3 (F 11 0 0) 2 l1) then (if (B 3 (F 11 0 0) 2 l1) ≤ l4 then f_Walker_goRepeat_127 o K F B else if r32 (F 11 0 2) then (if (F 11 0 2) = 0 then zbind (f_Walker_countItem K 0 (B 3 (F 11 0 0) 1 l1) F B) (fun r12 F12 B12 => if 0 ≤ (F12 11 0 0) ∧ (F12 11 0 0) < K.2 3 then zbind (o.1 0 (B12 3 (F12 11 0 0) 4 l1) (l2 + 1) F12 B12) (fun r14 F14 B14 => rpT o K n l4 l3 l1 l2 F14 B14) else none) else f_Walker_goRepeat_127 o K F B) else none) else none else none else none else none else none) := rfl
theorem rpM_e {o : oT_W} {K n : Nat} {l6 l5 l3 l2 l1 : Int} {F : zF} {B : zB} : f_M_goRepeat_74 o K (n + 1) l6 l5 l3 l2 l1 F B = (if 0 ≤ (l1 + 1) ∧ (l1 + 1) < 3001 then if r32 l6 then if r32 (B 14 0 9 (l1 + 1)) then (if (B 14 0 9 (l1 + 1)) < l6 then f_M_goRepeat_192 o K F B else zbind (f_M_good K F B) (fun r17 F17 B17 => if r32 r17 then (if r17 = 0 then f_M_goRepeat_192 o K F17 B17 else zbind (f_M_counts K l1 F17 B17) (fun r20 F20 B20 => if 0 ≤ l2 ∧ l2 < 3001 then zbind (o.1 (l2 + 1) (B20 14 0 30 l2) F20 B20) (fun r22 F22 B22 => rpM o K n l6 l5 l3 l2 l1 F22 B22) else none)) else none)) else none else none else none) := rfl
theorem WE_dn {q v w : Int} {D : Nat} {F Fm : zF} (h : WE (D + 1) q v w F Fm) : WE D q v w F Fm := WE_close h (fun _ _ _ _ => rfl) (fun _ _ _ _ => rfl)
theorem C_cntE {K : zK} {q v w p : Int} {D : Nat} {F Fm : zF} {B : zB} (h11 : 0 < K.2 11) (h : WE (D + 1) q v w F Fm) : f_Walker_countItem K 0 p F B = some (0, zup3 F 11 0 3 (F 11 0 3 + 1), B) ∧ WE D q v w (zup3 F 11 0 3 (F 11 0 3 + 1)) Fm := by
  obtain ⟨e1, e2⟩ := WE_n h
  obtain ⟨a1, a2, a3, a4, a5, a6, a7, a8, a9, a10⟩ := h
  constructor
  · unfold f_Walker_countItem
    simp only [f_Walker_countItem_27]
    rw [if_pos ⟨Int.le_refl _, h11⟩, if_pos (show r32 (F 11 0 3 + 1) by unfold r32; omega)]
    by_cases c : F 11 0 3 + 1 ≤ 5000
    · rw [if_pos c]
    · rw [if_neg c]
      unfold f_Walker_refuse f_Walker_refuse_17
      rw [if_pos ⟨Int.le_refl _, h11⟩, show (zup3 F 11 0 3 (F 11 0 3 + 1)) 11 0 2 = F 11 0 2 by rw [zup3_v, if_neg (by decide)], if_pos e1, if_neg e2, zb_s]
  · refine ⟨?_, ?_, ?_, a4, a5, a6, a7, ?_, a9, ?_⟩
    · rw [zup3_v, if_neg (by decide)]; exact a1
    · rw [zup3_v, if_neg (by decide)]; exact a2
    · rw [zup3_v, if_neg (by decide)]; exact a3
    · rw [zup3_v, if_neg (by first | decide | omega)]; exact a8
    · rw [zup3_v, if_pos (by decide)]; omega
theorem C_rpX {K : zK} {o : oT_CW} {D n : Nat} {q v w l4 l3 x l2 : Int} {F Fm : zF} {B : zB} (h11 : 0 < K.2 11) (h3 : 0 < K.2 3) (h : WE D q v w F Fm) (hx : 0 ≤ x ∧ x < 3000) (r4 : r32 l4) (r2 : r32 (B 3 0 2 x)) : f_Walker_goRepeat_13 o K (n + 1) l4 l3 0 x l2 F B = some (0, F, B) := by
  obtain ⟨e1, e2⟩ := WE_n h
  rw [rpT_e, if_pos ⟨Int.le_refl _, h11⟩, h.1, if_pos ⟨Int.le_refl _, h3⟩, if_pos hx, if_pos r4, if_pos r2]
  simp only [f_Walker_goRepeat_127]
  by_cases c : B 3 0 2 x ≤ l4
  · rw [if_pos c]
  · rw [if_neg c, if_pos e1, if_neg e2]
theorem L_rpX {K : Nat} {o : oT_W} {n : Nat} {l6 l5 l3 l2 i : Int} {F : zF} {B : zB} (h : bad F) (hi : 0 ≤ i + 1 ∧ i + 1 < 3001) (r6 : r32 l6) (r9 : r32 (B 14 0 9 (i + 1))) : f_M_goRepeat_74 o K (n + 1) l6 l5 l3 l2 i F B = some (0, F, B) := by
  rw [rpM_e, if_pos hi, if_pos r6, if_pos r9]
  simp only [f_M_goRepeat_192]
  by_cases c : B 14 0 9 (i + 1) < l6
  · rw [if_pos c]
  · rw [if_neg c, L_goodB h, zb_s, if_pos (by decide), if_pos rfl]
def RQ (q v w bar : Int) (D : Nat) (F : zF) (B : zB) (Fm : zF) (Bm : zB) (F' : zF) (B' : zB) (Fm' : zF) (Bm' : zB) : Prop := WFR q v w F B Fm Bm F' B' Fm' Bm' ∧ ((WS q v w bar (D + 1) F' B' Fm' Bm' ∧ WKP q F B Fm Bm F' B' Fm' Bm') ∨ WE D q v w F' Fm')
theorem RQ_t {q v w bar : Int} {D : Nat} {F F1 F2 : zF} {B B1 B2 : zB} {Fm Fm1 Fm2 : zF} {Bm Bm1 Bm2 : zB} (f : WFR q v w F B Fm Bm F1 B1 Fm1 Bm1) (k : WKP q F B Fm Bm F1 B1 Fm1 Bm1) (h : RQ q v w bar D F1 B1 Fm1 Bm1 F2 B2 Fm2 Bm2) : RQ q v w bar D F B Fm Bm F2 B2 Fm2 Bm2 := by
  refine ⟨WFR_t f h.1, ?_⟩
  rcases h.2 with ⟨s, k'⟩ | s
  · exact Or.inl ⟨s, WKP_t k k'⟩
  · exact Or.inr s
theorem RQ_O {q v w bar : Int} {D : Nat} {F F2 : zF} {B B2 : zB} {Fm Fm2 : zF} {Bm Bm2 : zB} (hS : WS q v w bar D F B Fm Bm) (h : RQ q v w bar D F B Fm Bm F2 B2 Fm2 Bm2) : WO q v w bar D F B Fm Bm F2 B2 Fm2 Bm2 := by
  rcases h.2 with s | s
  · exact WO_same hS ⟨h.1, Or.inl s⟩
  · exact ⟨h.1, Or.inr s⟩
theorem P_rl0 {K : zK} {Km : Nat} {N nl q v w bar x i l3 : Int} {B0 Bm0 : zB} {D m T : Nat} {o : oT_CW} {oM : oT_W} {R : zB → zB → Int → Int → Prop} (hL : LSim K Km N nl q v w bar B0 Bm0 (D + 1) o.1 oM.1 R) (hx : 0 ≤ x ∧ x < 3000) (hi : 0 ≤ i ∧ i + 2 < N) (hD : D < 64) (hp : B0 3 0 1 x = Bm0 14 0 8 i) (ht : B0 3 0 2 x = T ∧ Bm0 14 0 9 (i + 1) = T ∧ T ≤ 4) (hb : i + 2 < Bm0 14 0 30 (i + 2) ∧ Bm0 14 0 30 (i + 2) ≤ 3000) (hl : LRf R B0 Bm0 m (B0 3 0 4 x) (i + 2 + 1) (Bm0 14 0 30 (i + 2))) : ∀ (r n n' : Nat) {t : Nat} {F : zF} {B : zB} {Fm : zF} {Bm : zB}, t + r = T → r + 1 < n → r + 1 < n' → WT N B0 Bm0 B Bm → Fm 14 0 27 = nl → WC K Km N q v w bar B Fm Bm → WS q v w bar (D + 1) F B Fm Bm → zP (f_Walker_goRepeat_13 o K n t (-1) 0 x D F B) (f_M_goRepeat_74 oM Km n' (t + 1) 0 l3 (i + 2) i Fm Bm) (fun _ F' B' _ Fm' Bm' => RQ q v w bar D F B Fm Bm F' B' Fm' Bm') := by
  intro r
  induction r with
  | zero =>
    intro n n' t F B Fm Bm tr hn hn' hT hnl hC hS
    obtain ⟨n, rfl⟩ : ∃ m, n = m + 1 := ⟨n - 1, (by first | decide | omega)⟩
    obtain ⟨n', rfl⟩ : ∃ m, n' = m + 1 := ⟨n' - 1, (by first | decide | omega)⟩
    have h11 := hC.2.2.1
    have h3 := hC.2.2.2.1
    have N1 := hC.2.2.2.2.2.2.2.1.2.1
    have rt : r32 (T : Int) := by unfold r32; omega
    have rt1 : r32 ((t : Int) + 1) := by unfold r32; omega
    have rt0 : r32 (t : Int) := by unfold r32; omega
    rw [rpT_e, rpM_e, if_pos ⟨Int.le_refl _, h11⟩, hS.1.1, if_pos ⟨Int.le_refl _, h3⟩, if_pos hx, if_pos rt0, hT.1 2 x, ht.1, if_pos rt, if_pos (by first | decide | omega), if_pos (by first | decide | omega), if_pos rt1, hT.2.1 9 _ (by decide), ht.2.1, if_pos rt, if_pos (by first | decide | omega)]
    exact zP_s ⟨WFR_r, Or.inl ⟨hS, WKP_r⟩⟩
  | succ r ih =>
    intro n n' t F B Fm Bm tr hn hn' hT hnl hC hS
    obtain ⟨n, rfl⟩ : ∃ m, n = m + 1 := ⟨n - 1, (by first | decide | omega)⟩
    obtain ⟨n', rfl⟩ : ∃ m, n' = m + 1 := ⟨n' - 1, (by first | decide | omega)⟩
    have h11 := hC.2.2.1
    have h3 := hC.2.2.2.1
    obtain ⟨N0, N1, hTK⟩ := hC.2.2.2.2.2.2.2.1
    have hpl := (hTK i hi.1 (by first | decide | omega)).2.2.2.2.2.2.2.2.2.1
    have pe : B 3 0 1 x = Bm 14 0 8 i := by rw [hT.1, hT.2.1 8 i (by decide)]; exact hp
    have rt : r32 (T : Int) := by unfold r32; omega
    have rt1 : r32 ((t : Int) + 1) := by unfold r32; omega
    have rt0 : r32 (t : Int) := by unfold r32; omega
    have rt2 : r32 ((t : Int) + 1 + 1) := by unfold r32; omega
    have fin : ∀ (F1 : zF) (B1 : zB) (Fm1 : zF) (Bm1 : zB), WFR q v w F B Fm Bm F1 B1 Fm1 Bm1 → (WS q v w bar (D + 1) F1 B1 Fm1 Bm1 ∧ WKP q F B Fm Bm F1 B1 Fm1 Bm1) ∨ WE (D + 1) q v w F1 Fm1 → zP (rpT o K n t (-1) x D F1 B1) (rpM oM Km n' (t + 1) 0 l3 (i + 2) i Fm1 Bm1) (fun _ F' B' _ Fm' Bm' => RQ q v w bar D F B Fm Bm F' B' Fm' Bm') := by
      intro F1 B1 Fm1 Bm1 f s
      unfold rpT rpM
      rw [if_pos (by decide), if_pos rfl, if_pos (by decide), if_pos rfl, f_Walker_goRepeat_121, f_M_goRepeat_186]
      have T1 := WT_f hT f
      rcases s with ⟨s, k⟩ | s
      · have := ih n n' (t := t + 1) (by first | decide | omega) (by first | decide | omega) (by first | decide | omega) T1 (by rw [f.2.2.2.1 14 0 27 (by first | decide | omega)]; exact hnl) (WC_f hC f) s
        rw [show ((t + 1 : Nat) : Int) = (t : Int) + 1 by omega] at this
        exact zP_m this (fun _ _ _ _ _ _ h => RQ_t f k h)
      · obtain ⟨n, rfl⟩ : ∃ m, n = m + 1 := ⟨n - 1, (by first | decide | omega)⟩
        obtain ⟨n', rfl⟩ : ∃ m, n' = m + 1 := ⟨n' - 1, (by first | decide | omega)⟩
        rw [C_rpX h11 h3 s hx rt1 (by rw [T1.1, ht.1]; exact rt), L_rpX s.2.2.2.1 (by first | decide | omega) rt2 (by rw [T1.2.1 9 _ (by decide), ht.2.1]; exact rt)]
        exact zP_s ⟨f, Or.inr (WE_dn s)⟩
    rw [rpT_e, rpM_e, if_pos ⟨Int.le_refl _, h11⟩, hS.1.1, if_pos ⟨Int.le_refl _, h3⟩, if_pos hx, if_pos rt0, hT.1 2 x, ht.1, if_pos rt, if_neg (by first | decide | omega), hS.1.2.2.1, if_pos (by decide), if_pos rfl, pe, if_pos (by first | decide | omega), if_pos rt1, hT.2.1 9 _ (by decide), ht.2.1, if_pos rt, if_neg (by first | decide | omega), L_good hS.1.2.2.2, zb_s, if_pos (by decide), if_neg (by decide)]
    refine zP_c (P_count h11 hS (by first | decide | omega) (by first | decide | omega) hpl) ?_
    intro r1 F1 B1 r1' Fm1 Bm1 ⟨eB, eM, f, s⟩
    subst eB eM
    have f0 : F1 11 0 0 = 0 := by
      rcases s with ⟨s, _⟩ | s
      · exact s.1.1
      · exact s.1
    rw [f0, if_pos ⟨Int.le_refl _, h3⟩, if_pos (by first | decide | omega), hT.1 4 x, hT.2.2.1 30 _ (by decide) (by decide) hi.2]
    rcases s with ⟨s, _, k⟩ | s
    · have W := hL.1 m _ _ _ F1 B1 Fm1 Bm1 hl (by first | decide | omega) hb.2 hT (by rw [f.2.2.2.1 14 0 27 (by first | decide | omega)]; exact hnl) (WC_f hC f) s
      rw [show ((D + 1 : Nat) : Int) = (D : Int) + 1 by omega] at W
      refine zP_c W ?_
      intro r2 F2 B2 r2' Fm2 Bm2 ⟨g, u⟩
      refine fin F2 B2 Fm2 Bm2 (WFR_t f g) ?_
      rcases u with ⟨u, k'⟩ | u
      · exact Or.inl ⟨u, WKP_t k k'⟩
      · exact Or.inr u
    · rw [hL.2.1 (D + 1) _ _ F1 B1 Fm1 s (LRf_x hl).1, zb_s, hL.2.2 _ _ Fm1 Bm1 s.2.2.2.1, zb_s]
      exact fin F1 B1 Fm1 Bm1 f (Or.inr s)
end
end
section
section
/-! ===== the walk: repeats with alternatives ===== -/
theorem AL_f {R : zB → zB → Int → Int → Prop} {B Bm : zB} {e : Int} : ∀ (n : Nat) {y a : Int}, ALf R B Bm n y a e → ∃ (c : Nat) (ay aa : Nat → Int), 0 < c ∧ ay 0 = y ∧ aa 0 = a ∧ (∀ k, k < c → (0 ≤ ay k ∧ ay k < 3000) ∧ BKf R B Bm (ay k) (aa k) ∧ aa (k + 1) = Bm 14 0 30 (aa k) + 1) ∧ (∀ k, k + 1 < c → B 3 0 5 (ay k) = ay (k + 1)) ∧ B 3 0 5 (ay (c - 1)) = -1 ∧ aa c = e := by
  intro n
  induction n with
  | zero => intro y a h; exact absurd h (fun h => h)
  | succ n ih =>
    intro y a ⟨hy, hb, h⟩
    rcases h with ⟨h5, he⟩ | ⟨he, h⟩
    · refine ⟨1, fun _ => y, fun k => match k with | 0 => a | _ + 1 => Bm 14 0 30 a + 1, by decide, rfl, rfl, fun k hk => ?_, fun k hk => (by first | decide | omega), h5, he⟩
      obtain rfl : k = 0 := by omega
      exact ⟨hy, hb, rfl⟩
    · obtain ⟨c, ay, aa, c0, h1, h2, h3, h4, h5, h6⟩ := ih h
      obtain ⟨c, rfl⟩ : ∃ m, c = m + 1 := ⟨c - 1, (by first | decide | omega)⟩
      refine ⟨c + 1 + 1, fun k => match k with | 0 => y | k + 1 => ay k, fun k => match k with | 0 => a | k + 1 => aa k, (by first | decide | omega), rfl, rfl, fun k hk => ?_, fun k hk => ?_, h5, h6⟩
      · cases k with
        | zero => exact ⟨hy, hb, h2⟩
        | succ k => exact h3 k (by first | decide | omega)
      · cases k with
        | zero => exact h1.symm
        | succ k => exact h4 k (by first | decide | omega)
/-- the alternatives of a repeat as both sides see them -/
def ALS (R : zB → zB → Int → Int → Prop) (N : Int) (c : Nat) (ay aa : Nat → Int) (B0 Bm0 : zB) : Prop := (0 < c ∧ c ≤ 3001) ∧ (∀ k, k < c → (0 ≤ ay k ∧ ay k < 3000) ∧ BKf R B0 Bm0 (ay k) (aa k) ∧ aa (k + 1) = Bm0 14 0 30 (aa k) + 1 ∧ (0 ≤ aa k ∧ aa k < N) ∧ aa k < aa c) ∧ (∀ k, k + 1 < c → B0 3 0 5 (ay k) = ay (k + 1)) ∧ B0 3 0 5 (ay (c - 1)) = -1
theorem AL_s {R : zB → zB → Int → Int → Prop} {B Bm B' Bm' : zB} {N e y a : Int} {n : Nat} (h : ALf R B Bm n y a e) (a0 : 0 ≤ a) (hT : WT N B Bm B' Bm') : ∃ (c : Nat) (ay aa : Nat → Int), ay 0 = y ∧ aa 0 = a ∧ aa c = e ∧ e ≤ 3001 ∧ ALS R N c ay aa B Bm := by
  obtain ⟨c, ay, aa, c0, h1, h2, h3, h4, h5, h6⟩ := AL_f n h
  have st : ∀ k, k < c → aa k + 1 < aa (k + 1) ∧ aa (k + 1) ≤ 3001 := fun k hk => by
    obtain ⟨_, ⟨b1, b2, _⟩, b3⟩ := h3 k hk
    omega
  have lo : ∀ k : Nat, k ≤ c → a + k ≤ aa k := by
    intro k
    induction k with
    | zero => intro _; rw [h2]; omega
    | succ k ih => intro hk; have := ih (by first | decide | omega); have := st k (by first | decide | omega); omega
  have hi : ∀ d k : Nat, k + d = c → aa k + d ≤ aa c := by
    intro d
    induction d with
    | zero => intro k hk; rw [show k = c by omega]; omega
    | succ d ih => intro k hk; have := ih (k + 1) (by first | decide | omega); have := st k (by first | decide | omega); omega
  have top : aa c ≤ 3001 := by
    have := (st (c - 1) (by first | decide | omega)).2
    rwa [show c - 1 + 1 = c by omega] at this
  refine ⟨c, ay, aa, h1, h2, h6, (by first | decide | omega), ⟨c0, by have := lo c (Nat.le_refl _); omega⟩, fun k hk => ?_, h4, h5⟩
  obtain ⟨b0, b1, b3⟩ := h3 k hk
  refine ⟨b0, b1, b3, ⟨by have := lo k (by first | decide | omega); omega, ?_⟩, by have := hi (c - k) k (by first | decide | omega); omega⟩
  rcases Int.lt_or_le (aa k) N with z | z
  · exact z
  · have := (hT.2.2.2 _ z).1
    have := b1.1
    omega
theorem L_38 {R : zB → zB → Int → Int → Prop} {K : Nat} {o : oT_W} {N l3 l2 i : Int} {c : Nat} {ay aa : Nat → Int} {B0 Bm0 B Bm : zB} {F : zF} (hA : ALS R N c ay aa B0 Bm0) (hT : WT N B0 Bm0 B Bm) (hN : N ≤ 3000) (hi : 0 ≤ i ∧ i < N) (he : Bm0 14 0 31 i = aa c) (hc : aa c ≤ 3001) : ∀ (d n k : Nat), k + d = c → d < n → f_M_goRepeat_38 o K n (aa k) k 1 l3 l2 i F Bm = f_M_goRepeat_71 o K c l3 l2 i F Bm := by
  have c0 : 0 ≤ aa c := by
    have := hA.2.1 0 hA.1.1
    omega
  have e31 : Bm 14 0 31 i = aa c := by rw [hT.2.2.1 31 i (by decide) (by decide) hi.2]; exact he
  intro d
  induction d with
  | zero =>
    intro n k hk hn
    obtain ⟨n, rfl⟩ : ∃ m, n = m + 1 := ⟨n - 1, (by first | decide | omega)⟩
    obtain rfl : k = c := by omega
    rw [f_M_goRepeat_38, if_pos (by decide), if_neg (by decide), if_pos (by first | decide | omega), if_pos (by unfold r32; omega), e31, if_pos (by unfold r32; omega), if_pos (Int.le_refl _)]
  | succ d ih =>
    intro n k hk hn
    obtain ⟨n, rfl⟩ : ∃ m, n = m + 1 := ⟨n - 1, (by first | decide | omega)⟩
    obtain ⟨_, _, b3, b4, b5⟩ := hA.2.1 k (by first | decide | omega)
    rw [f_M_goRepeat_38, if_pos (by decide), if_neg (by decide), if_pos (by first | decide | omega), if_pos (by unfold r32; omega), e31, if_pos (by unfold r32; omega), if_neg (by first | decide | omega), if_pos (by first | decide | omega), hT.2.2.1 30 _ (by decide) (by decide) b4.2, ← b3]
    exact ih n (k + 1) (by first | decide | omega) (by first | decide | omega)
theorem L_135 {R : zB → zB → Int → Int → Prop} {K : Nat} {o : oT_W} {rec : Int → Int → Int → Int → Int → zF → zB → zO} {N l6 l3 l2 i : Int} {c j : Nat} {ay aa : Nat → Int} {B0 Bm0 B Bm : zB} {F : zF} (hA : ALS R N c ay aa B0 Bm0) (hT : WT N B0 Bm0 B Bm) (hN : N ≤ 3000) (h6 : l6 ≤ 10) (hj : (j : Int) + 1 ≤ l6 ∧ j + 1 ≤ c) (hj' : l6 = (j : Int) + 1 ∨ c = j + 1) : ∀ (d n k : Nat), k + d = j → d < n → f_M_goRepeat_135 o rec K n ((k : Int) + 1) (aa k) l6 c l3 l2 i F Bm = f_M_goRepeat_166 o rec K (aa j) l6 c l3 l2 i F Bm := by
  have hc := hA.1.2
  intro d
  induction d with
  | zero =>
    intro n k hk hn
    obtain ⟨n, rfl⟩ : ∃ m, n = m + 1 := ⟨n - 1, (by first | decide | omega)⟩
    obtain rfl : k = j := by omega
    rw [f_M_goRepeat_135, if_pos (by unfold r32; omega), if_pos (by unfold r32; omega)]
    by_cases z : l6 ≤ (k : Int) + 1
    · rw [if_pos z]
    · rw [if_neg z, if_pos (by unfold r32; omega), if_pos (by first | decide | omega)]
  | succ d ih =>
    intro n k hk hn
    obtain ⟨n, rfl⟩ : ∃ m, n = m + 1 := ⟨n - 1, (by first | decide | omega)⟩
    obtain ⟨_, _, b3, b4, b5⟩ := hA.2.1 k (by first | decide | omega)
    rw [f_M_goRepeat_135, if_pos (by unfold r32; omega), if_pos (by unfold r32; omega), if_neg (by first | decide | omega), if_pos (by unfold r32; omega), if_neg (by first | decide | omega), if_pos (by first | decide | omega), hT.2.2.1 30 _ (by decide) (by decide) b4.2, ← b3]
    have := ih n (k + 1) (by first | decide | omega) (by first | decide | omega)
    rwa [show ((k + 1 : Nat) : Int) = (k : Int) + 1 by omega] at this
theorem P_rl1 {K : zK} {Km : Nat} {N nl q v w bar x i l3 : Int} {B0 Bm0 : zB} {D m T c : Nat} {ay aa : Nat → Int} {o : oT_CW} {oM : oT_W} {R : zB → zB → Int → Int → Prop} (hL : LSim K Km N nl q v w bar B0 Bm0 (D + 1) o.1 oM.1 R) (hA : ALS R N c ay aa B0 Bm0) (h30 : l3 + 1 = aa 0) (hx : 0 ≤ x ∧ x < 3000) (hi : 0 ≤ i ∧ i + 2 < N) (hD : D < 64) (hp : B0 3 0 1 x = Bm0 14 0 8 i) (ht : B0 3 0 2 x = T ∧ Bm0 14 0 9 (i + 1) = T ∧ T ≤ 4) (hb : i + 2 < Bm0 14 0 30 (i + 2) ∧ Bm0 14 0 30 (i + 2) ≤ 3000) (hl : LRf R B0 Bm0 m (B0 3 0 4 x) (i + 2 + 1) (Bm0 14 0 30 (i + 2))) : ∀ (r n n' : Nat) {t j : Nat} {F : zF} {B : zB} {Fm : zF} {Bm : zB}, t + r = T → (j < c ∧ (j = t ∨ (j < t ∧ j + 1 = c))) → r + 1 < n → r + 1 < n' → WT N B0 Bm0 B Bm → Fm 14 0 27 = nl → WC K Km N q v w bar B Fm Bm → WS q v w bar (D + 1) F B Fm Bm → zP (f_Walker_goRepeat_13 o K n t (ay j) 0 x D F B) (f_M_goRepeat_74 oM Km n' (t + 1) c l3 (i + 2) i Fm Bm) (fun _ F' B' _ Fm' Bm' => RQ q v w bar D F B Fm Bm F' B' Fm' Bm') := by
  have hc := hA.1
  intro r
  induction r with
  | zero =>
    intro n n' t j F B Fm Bm tr hj hn hn' hT hnl hC hS
    obtain ⟨n, rfl⟩ : ∃ m, n = m + 1 := ⟨n - 1, (by first | decide | omega)⟩
    obtain ⟨n', rfl⟩ : ∃ m, n' = m + 1 := ⟨n' - 1, (by first | decide | omega)⟩
    have h11 := hC.2.2.1
    have h3 := hC.2.2.2.1
    have N1 := hC.2.2.2.2.2.2.2.1.2.1
    have rt : r32 (T : Int) := by unfold r32; omega
    have rt1 : r32 ((t : Int) + 1) := by unfold r32; omega
    have rt0 : r32 (t : Int) := by unfold r32; omega
    rw [rpT_e, rpM_e, if_pos ⟨Int.le_refl _, h11⟩, hS.1.1, if_pos ⟨Int.le_refl _, h3⟩, if_pos hx, if_pos rt0, hT.1 2 x, ht.1, if_pos rt, if_pos (by first | decide | omega), if_pos (by first | decide | omega), if_pos rt1, hT.2.1 9 _ (by decide), ht.2.1, if_pos rt, if_pos (by first | decide | omega)]
    exact zP_s ⟨WFR_r, Or.inl ⟨hS, WKP_r⟩⟩
  | succ r ih =>
    intro n n' t j F B Fm Bm tr hj hn hn' hT hnl hC hS
    obtain ⟨n, rfl⟩ : ∃ m, n = m + 1 := ⟨n - 1, (by first | decide | omega)⟩
    obtain ⟨n', rfl⟩ : ∃ m, n' = m + 1 := ⟨n' - 1, (by first | decide | omega)⟩
    have h11 := hC.2.2.1
    have h3 := hC.2.2.2.1
    have hKm := hC.2.1
    obtain ⟨N0, N1, hTK⟩ := hC.2.2.2.2.2.2.2.1
    have hpl := (hTK i hi.1 (by first | decide | omega)).2.2.2.2.2.2.2.2.2.1
    have pe : B 3 0 1 x = Bm 14 0 8 i := by rw [hT.1, hT.2.1 8 i (by decide)]; exact hp
    have rt : r32 (T : Int) := by unfold r32; omega
    have rt1 : r32 ((t : Int) + 1) := by unfold r32; omega
    have rt0 : r32 (t : Int) := by unfold r32; omega
    have rt2 : r32 ((t : Int) + 1 + 1) := by unfold r32; omega
    have rc : r32 (c : Int) := by unfold r32; omega
    obtain ⟨y0, ⟨y1, y2, mj, y3⟩, y4, y5, y6⟩ := hA.2.1 j hj.1
    have ry : r32 (ay j) := by unfold r32; omega
    have nx : ∃ j', (j' < c ∧ (j' = t + 1 ∨ (j' < t + 1 ∧ j' + 1 = c))) ∧ (if B0 3 0 5 (ay j) = -1 then ay j else B0 3 0 5 (ay j)) = ay j' ∧ r32 (B0 3 0 5 (ay j)) := by
      by_cases z : j + 1 < c
      · have e := hA.2.2.1 j z
        have g := (hA.2.1 (j + 1) z).1
        refine ⟨j + 1, (by first | decide | omega), ?_, by rw [e]; unfold r32; omega⟩
        rw [e, if_neg (by first | decide | omega)]
      · have e := hA.2.2.2
        rw [show c - 1 = j by omega] at e
        refine ⟨j, (by first | decide | omega), ?_, by rw [e]; decide⟩
        rw [e, if_pos rfl]
    obtain ⟨j', hj', nx1, nx2⟩ := nx
    -- what comes behind the second walk
    have fin2 : ∀ (F1 : zF) (B1 : zB) (Fm1 : zF) (Bm1 : zB), WFR q v w F B Fm Bm F1 B1 Fm1 Bm1 → (WS q v w bar (D + 1) F1 B1 Fm1 Bm1 ∧ WKP q F B Fm Bm F1 B1 Fm1 Bm1) ∨ WE D q v w F1 Fm1 → zP (if 0 ≤ (F1 11 0 0) ∧ (F1 11 0 0) < K.2 3 then if r32 (B1 3 (F1 11 0 0) 5 (ay j)) then (if (B1 3 (F1 11 0 0) 5 (ay j)) = (-1) then f_Walker_goRepeat_120 o (f_Walker_goRepeat_13 o K n) K t 0 x D (ay j) F1 B1 else f_Walker_goRepeat_120 o (f_Walker_goRepeat_13 o K n) K t 0 x D (B1 3 (F1 11 0 0) 5 (ay j)) F1 B1) else none else none) (f_M_goRepeat_186 oM (f_M_goRepeat_74 oM Km n') Km (t + 1) c l3 (i + 2) i Fm1 Bm1) (fun _ F' B' _ Fm' Bm' => RQ q v w bar D F B Fm Bm F' B' Fm' Bm') := by
      intro F1 B1 Fm1 Bm1 f s
      have T1 := WT_f hT f
      have f0 : F1 11 0 0 = 0 := by
        rcases s with ⟨s, _⟩ | s
        · exact s.1.1
        · exact s.1
      have e : (if (B1 3 0 5 (ay j)) = (-1) then f_Walker_goRepeat_120 o (f_Walker_goRepeat_13 o K n) K t 0 x D (ay j) F1 B1 else f_Walker_goRepeat_120 o (f_Walker_goRepeat_13 o K n) K t 0 x D (B1 3 0 5 (ay j)) F1 B1) = f_Walker_goRepeat_13 o K n ((t : Int) + 1) (ay j') 0 x D F1 B1 := by
        rw [T1.1 5 (ay j), ← nx1]
        by_cases z : B0 3 0 5 (ay j) = -1
        · rw [if_pos z, if_pos z]; rfl
        · rw [if_neg z, if_neg z]; rfl
      rw [f0, if_pos ⟨Int.le_refl _, h3⟩, if_pos (by rw [T1.1]; exact nx2), e, f_M_goRepeat_186]
      rcases s with ⟨s, k⟩ | s
      · have := ih n n' (t := t + 1) (j := j') (by first | decide | omega) hj' (by first | decide | omega) (by first | decide | omega) T1 (by rw [f.2.2.2.1 14 0 27 (by first | decide | omega)]; exact hnl) (WC_f hC f) s
        rw [show ((t + 1 : Nat) : Int) = (t : Int) + 1 by omega] at this
        exact zP_m this (fun _ _ _ _ _ _ h => RQ_t f k h)
      · obtain ⟨n, rfl⟩ : ∃ m, n = m + 1 := ⟨n - 1, (by first | decide | omega)⟩
        obtain ⟨n', rfl⟩ : ∃ m, n' = m + 1 := ⟨n' - 1, (by first | decide | omega)⟩
        rw [C_rpX h11 h3 s hx rt1 (by rw [T1.1, ht.1]; exact rt), L_rpX s.2.2.2.1 (by first | decide | omega) rt2 (by rw [T1.2.1 9 _ (by decide), ht.2.1]; exact rt)]
        exact zP_s ⟨f, Or.inr s⟩
    have fin : ∀ (F1 : zF) (B1 : zB) (Fm1 : zF) (Bm1 : zB), WFR q v w F B Fm Bm F1 B1 Fm1 Bm1 → (WS q v w bar (D + 1) F1 B1 Fm1 Bm1 ∧ WKP q F B Fm Bm F1 B1 Fm1 Bm1) ∨ WE (D + 1) q v w F1 Fm1 → zP (rpT o K n t (ay j) x D F1 B1) (rpM oM Km n' (t + 1) c l3 (i + 2) i Fm1 Bm1) (fun _ F' B' _ Fm' Bm' => RQ q v w bar D F B Fm Bm F' B' Fm' Bm') := by
      intro F1 B1 Fm1 Bm1 f s
      have T1 := WT_f hT f
      have C1 := WC_f hC f
      have n1 : Fm1 14 0 27 = nl := by rw [f.2.2.2.1 14 0 27 (by first | decide | omega)]; exact hnl
      have f0 : F1 11 0 0 = 0 := by
        rcases s with ⟨s, _⟩ | s
        · exact s.1.1
        · exact s.1
      unfold rpT rpM
      rw [if_pos ry, if_neg (by first | decide | omega), f0, if_pos ⟨Int.le_refl _, h3⟩, if_pos rc, if_neg (by first | decide | omega)]
      rcases s with ⟨s, k⟩ | s
      · have pl1 : B1 3 0 1 x = Bm1 14 0 8 i := by rw [T1.1, T1.2.1 8 i (by decide)]; exact hp
        have hp1 : 0 ≤ Bm1 14 0 8 i ∧ Bm1 14 0 8 i ≤ 3000 := by rw [T1.2.1 8 i (by decide), ← hT.2.1 8 i (by decide)]; exact hpl
        have l135 := L_135 (K := Km) (o := oM) (rec := f_M_goRepeat_74 oM Km n') (l6 := (t : Int) + 1) (l3 := l3) (l2 := i + 2) (i := i) (F := Fm1) (j := j) hA T1 N1 (by first | decide | omega) (by first | decide | omega) (by first | decide | omega) j Km 0 (by first | decide | omega) (by first | decide | omega)
        rw [show ((0 : Nat) : Int) + 1 = 1 by decide] at l135
        rw [L_good s.1.2.2.2, zb_s, if_pos (by decide), if_neg (by decide), h30, l135, f_M_goRepeat_166, pl1]
        refine zP_c (P_count h11 s (by first | decide | omega) (by first | decide | omega) hp1) ?_
        intro r1 F2 B2 r1' Fm2 Bm2 ⟨eB, eM, f', s'⟩
        subst eB eM
        have f0' : F2 11 0 0 = 0 := by
          rcases s' with ⟨s, _⟩ | s
          · exact s.1.1
          · exact s.1
        rw [f0', if_pos ⟨Int.le_refl _, h3⟩, if_pos y0, if_pos (by first | decide | omega), T1.1 4 _, T1.2.2.1 30 _ (by decide) (by decide) y5.2]
        rcases s' with ⟨s', _, k'⟩ | s'
        · have W := hL.1 mj _ _ _ F2 B2 Fm2 Bm2 y3 (by first | decide | omega) y2 T1 (by rw [f'.2.2.2.1 14 0 27 (by first | decide | omega)]; exact n1) (WC_f C1 f') s'
          rw [show ((D + 1 : Nat) : Int) = (D : Int) + 1 by omega] at W
          refine zP_c W ?_
          intro r2 F3 B3 r2' Fm3 Bm3 ⟨g, u⟩
          refine fin2 F3 B3 Fm3 Bm3 (WFR_t f (WFR_t f' g)) ?_
          rcases u with ⟨u, k''⟩ | u
          · exact Or.inl ⟨u, WKP_t k (WKP_t k' k'')⟩
          · exact Or.inr (WE_dn u)
        · rw [hL.2.1 (D + 1) _ _ F2 B2 Fm2 s' (LRf_x y3).1, zb_s, hL.2.2 _ _ Fm2 Bm2 s'.2.2.2.1, zb_s]
          exact fin2 F2 B2 Fm2 Bm2 (WFR_t f f') (Or.inr (WE_dn s'))
      · obtain ⟨e1, e2⟩ := C_cntE (K := K) (p := B1 3 0 1 x) (B := B1) h11 s
        have f2 : WFR q v w F1 B1 Fm1 Bm1 (zup3 F1 11 0 3 (F1 11 0 3 + 1)) B1 Fm1 Bm1 := WFR_mk (fun c y k n => by rw [zup3_v, if_neg (by first | decide | omega)]) (fun _ _ _ _ => rfl) (fun _ _ _ _ _ => rfl) (fun _ _ _ _ _ => rfl)
        rw [e1, zb_s, e2.1, if_pos ⟨Int.le_refl _, h3⟩, if_pos y0, T1.1 4 _, hL.2.1 D _ _ _ B1 Fm1 e2 (LRf_x y3).1, zb_s, L_goodB s.2.2.2.1, zb_s, if_pos (show r32 0 by decide), if_pos (show (0 : Int) = 0 from rfl)]
        exact fin2 _ B1 Fm1 Bm1 (WFR_t f f2) (Or.inr e2)
    rw [rpT_e, rpM_e, if_pos ⟨Int.le_refl _, h11⟩, hS.1.1, if_pos ⟨Int.le_refl _, h3⟩, if_pos hx, if_pos rt0, hT.1 2 x, ht.1, if_pos rt, if_neg (by first | decide | omega), hS.1.2.2.1, if_pos (by decide), if_pos rfl, pe, if_pos (by first | decide | omega), if_pos rt1, hT.2.1 9 _ (by decide), ht.2.1, if_pos rt, if_neg (by first | decide | omega), L_good hS.1.2.2.2, zb_s, if_pos (by decide), if_neg (by decide)]
    refine zP_c (P_count h11 hS (by first | decide | omega) (by first | decide | omega) hpl) ?_
    intro r1 F1 B1 r1' Fm1 Bm1 ⟨eB, eM, f, s⟩
    subst eB eM
    have f0 : F1 11 0 0 = 0 := by
      rcases s with ⟨s, _⟩ | s
      · exact s.1.1
      · exact s.1
    rw [f0, if_pos ⟨Int.le_refl _, h3⟩, if_pos (by first | decide | omega), hT.1 4 x, hT.2.2.1 30 _ (by decide) (by decide) hi.2]
    rcases s with ⟨s, _, k⟩ | s
    · have W := hL.1 m _ _ _ F1 B1 Fm1 Bm1 hl (by first | decide | omega) hb.2 hT (by rw [f.2.2.2.1 14 0 27 (by first | decide | omega)]; exact hnl) (WC_f hC f) s
      rw [show ((D + 1 : Nat) : Int) = (D : Int) + 1 by omega] at W
      refine zP_c W ?_
      intro r2 F2 B2 r2' Fm2 Bm2 ⟨g, u⟩
      refine fin F2 B2 Fm2 Bm2 (WFR_t f g) ?_
      rcases u with ⟨u, k'⟩ | u
      · exact Or.inl ⟨u, WKP_t k k'⟩
      · exact Or.inr u
    · rw [hL.2.1 (D + 1) _ _ F1 B1 Fm1 s (LRf_x hl).1, zb_s, hL.2.2 _ _ Fm1 Bm1 s.2.2.2.1, zb_s]
      exact fin F1 B1 Fm1 Bm1 f (Or.inr s)
theorem P_rp {K : zK} {Km : Nat} {N nl q v w bar x i : Int} {B0 Bm0 : zB} {D m : Nat} {o : oT_CW} {oM : oT_W} {R : zB → zB → Int → Int → Prop} {F : zF} {B : zB} {Fm : zF} {Bm : zB} (hL : LSim K Km N nl q v w bar B0 Bm0 (D + 1) o.1 oM.1 R) (hx : 0 ≤ x ∧ x < 3000) (hi : 0 ≤ i ∧ i < N) (hT : WT N B0 Bm0 B Bm) (hnl : Fm 14 0 27 = nl) (hC : WC K Km N q v w bar B Fm Bm) (hS : WS q v w bar D F B Fm Bm) (hD : D < 64) (hp : B0 3 0 1 x = Bm0 14 0 8 i) (n1 : nmAt Bm0 (i + 1) (B0 3 0 2 x) 2 4) (hb : i + 2 < Bm0 14 0 30 (i + 2) ∧ Bm0 14 0 30 (i + 2) ≤ 3000) (hl : LRf R B0 Bm0 m (B0 3 0 4 x) (i + 2 + 1) (Bm0 14 0 30 (i + 2))) (ha : (B0 3 0 3 x = -1 ∧ Bm0 14 0 30 (i + 2) + 1 = Bm0 14 0 31 i) ∨ (∃ n, ALf R B0 Bm0 n (B0 3 0 3 x) (Bm0 14 0 30 (i + 2) + 2) (Bm0 14 0 31 i))) : zP (fb_Walker_goRepeat o K 0 x D F B) (fb_M_goRepeat oM Km i Fm Bm) (fun _ F' B' _ Fm' Bm' => WO q v w bar D F B Fm Bm F' B' Fm' Bm') := by
  have hK := hC.1
  have hKm := hC.2.1
  have h11 := hC.2.2.1
  have h3 := hC.2.2.2.1
  obtain ⟨N0, N1, hTK⟩ := hC.2.2.2.2.2.2.2.1
  have a1 := hS.1.1
  have aN : i + 2 < N := by
    rcases Int.lt_or_le (i + 2) N with z | z
    · exact z
    · have := (hT.2.2.2 _ z).1
      omega
  obtain ⟨T, hTT⟩ : ∃ T : Nat, B0 3 0 2 x = T := ⟨(B0 3 0 2 x).toNat, by have := n1.2.2; omega⟩
  have ht : B0 3 0 2 x = T ∧ Bm0 14 0 9 (i + 1) = T ∧ T ≤ 4 := ⟨hTT, by rw [n1.2.1]; exact hTT, by have := n1.2.2; omega⟩
  have rb : r32 (Bm0 14 0 30 (i + 2) + 1) := by unfold r32; omega
  unfold fb_Walker_goRepeat fb_M_goRepeat
  rw [if_pos ⟨Int.le_refl _, h11⟩, a1, if_pos ⟨Int.le_refl _, h3⟩, if_pos hx, hT.1 3 x, if_pos (by first | decide | omega), if_pos (by first | decide | omega), hT.2.2.1 30 _ (by decide) (by decide) aN, hT.2.2.1 31 _ (by decide) (by decide) hi.2, if_pos rb]
  rcases ha with ⟨h3', he⟩ | ⟨nA, hal⟩
  · rw [← he, if_pos rb, if_pos (Int.le_refl _), h3', f_M_goRepeat_28]
    obtain ⟨k, hk⟩ : ∃ k, Km = k + 1 := ⟨Km - 1, (by first | decide | omega)⟩
    have e38 : ∀ l6 l3 : Int, f_M_goRepeat_38 oM Km Km l6 0 0 l3 (i + 2) i Fm Bm = f_M_goRepeat_71 oM Km 0 l3 (i + 2) i Fm Bm := fun l6 l3 => by
      rw [show f_M_goRepeat_38 oM Km Km = f_M_goRepeat_38 oM Km (k + 1) by rw [← hk], f_M_goRepeat_38, if_pos (by decide), if_pos rfl]
    rw [e38, f_M_goRepeat_71]
    have := P_rl0 (l3 := Bm0 14 0 30 (i + 2) + 1) hL hx ⟨hi.1, aN⟩ hD hp ht hb hl T K.1 Km (t := 0) (by first | decide | omega) (by first | decide | omega) (by first | decide | omega) hT hnl hC (WS_up hS)
    exact zP_m this (fun _ _ _ _ _ _ h => RQ_O hS h)
  · obtain ⟨c, ay, aa, e1, e2, e3, e4, hA⟩ := AL_s hal (by first | decide | omega) hT
    have c0 := hA.1.1
    have c1 := hA.1.2
    have lt := (hA.2.1 0 c0).2.2.2.2
    rw [← e3] at hal ⊢
    rw [if_pos (show r32 (aa c) by unfold r32; omega), if_neg (by first | decide | omega), f_M_goRepeat_28, show Bm0 14 0 30 (i + 2) + 1 + 1 = aa 0 by omega]
    have l38 := L_38 (K := Km) (o := oM) (l3 := Bm0 14 0 30 (i + 2) + 1) (l2 := i + 2) (F := Fm) hA hT N1 hi e3.symm (by first | decide | omega) c Km 0 (by first | decide | omega) (by first | decide | omega)
    rw [show ((0 : Nat) : Int) = 0 by rfl] at l38
    rw [l38, f_M_goRepeat_71, ← e1]
    have := P_rl1 (l3 := Bm0 14 0 30 (i + 2) + 1) hL hA (by first | decide | omega) hx ⟨hi.1, aN⟩ hD hp ht hb hl T K.1 Km (t := 0) (j := 0) (by first | decide | omega) (by first | decide | omega) (by first | decide | omega) (by first | decide | omega) hT hnl hC (WS_up hS)
    exact zP_m this (fun _ _ _ _ _ _ h => RQ_O hS h)
end
end
section
section
/-! ===== the walk: every item, every list ===== -/
theorem C_goK {K : zK} {o : oT_CW} {x l : Int} {F : zF} {B : zB} (h11 : 0 < K.2 11) (h3 : 0 < K.2 3) (f0 : F 11 0 0 = 0) (hx : 0 ≤ x ∧ x < 3000) : (B 3 0 0 x = 3 → fb_Walker_goItem o K 0 x l F B = zbind (o.2.2.1 0 x l F B) (fun _ F1 B1 => some (0, F1, B1))) ∧ (B 3 0 0 x = 4 → fb_Walker_goItem o K 0 x l F B = zbind (o.2.2.2.1 0 x l F B) (fun _ F1 B1 => some (0, F1, B1))) ∧ (B 3 0 0 x = 6 → fb_Walker_goItem o K 0 x l F B = zbind (o.2.2.2.2.1 0 1 x l F B) (fun _ F1 B1 => some (0, F1, B1))) ∧ (B 3 0 0 x = 7 → fb_Walker_goItem o K 0 x l F B = zbind (o.2.2.2.2.1 0 (-1) x l F B) (fun _ F1 B1 => some (0, F1, B1))) ∧ (B 3 0 0 x = 8 → fb_Walker_goItem o K 0 x l F B = zbind (o.2.2.2.2.2 0 (B 3 0 4 x) l F B) (fun _ F1 B1 => some (0, F1, B1))) := by
  unfold fb_Walker_goItem
  simp only [f_Walker_goItem_285]
  rw [if_pos ⟨Int.le_refl _, h11⟩, f0, if_pos ⟨Int.le_refl _, h3⟩, if_pos hx]
  refine ⟨fun h => ?_, fun h => ?_, fun h => ?_, fun h => ?_, fun h => ?_⟩
  · rw [h, if_pos (by decide), if_neg (by decide), if_neg (by decide), if_neg (by decide), if_pos rfl]
  · rw [h, if_pos (by decide), if_neg (by decide), if_neg (by decide), if_neg (by decide), if_neg (by decide), if_pos rfl]
  · rw [h, if_pos (by decide), if_neg (by decide), if_neg (by decide), if_neg (by decide), if_neg (by decide), if_neg (by decide), if_neg (by decide), if_pos rfl]
  · rw [h, if_pos (by decide), if_neg (by decide), if_neg (by decide), if_neg (by decide), if_neg (by decide), if_neg (by decide), if_neg (by decide), if_neg (by decide), if_pos rfl]
  · rw [h, if_pos (by decide), if_neg (by decide), if_neg (by decide), if_neg (by decide), if_neg (by decide), if_neg (by decide), if_neg (by decide), if_neg (by decide), if_neg (by decide), if_pos rfl]
theorem zP_w {x y : zO} {Q : Int → zF → zB → Int → zF → zB → Prop} {P : zF → zB → zF → zB → Prop} (h : zP x y (fun _ F B _ F' B' => P F B F' B')) : zP (zbind x (fun _ F1 B1 => some (0, F1, B1))) (zbind y (fun _ F1 B1 => some (0, F1, B1))) (fun _ F B _ F' B' => P F B F' B') := by
  obtain ⟨r, F, B, r', F', B', e, e', q⟩ := h
  rw [e, e', zb_s, zb_s]
  exact zP_s q
theorem IR_p {L : Int} {d : Nat} {B Bm : zB} {x i : Int} (h : IRd L d B Bm x i) : B 3 0 1 x = Bm 14 0 8 i := by
  cases d with
  | zero => exact h.1
  | succ d =>
    rcases h with h | h
    · exact h.1
    · exact h.1
theorem LS_of {K : zK} {Km : Nat} {N nl q v w bar : Int} {B0 Bm0 : zB} {D g g' : Nat} {R : zB → zB → Int → Int → Prop} (hK : 3002 ≤ K.1) (h11 : 0 < K.2 11) (hKm : 3002 ≤ Km) (hI : ISim K Km N nl q v w bar B0 Bm0 D (gr_CW K g).2.1 (gr_W Km g').2.1 R) (hR : ∀ x i, R B0 Bm0 x i → B0 3 0 1 x = Bm0 14 0 8 i) (hD : D < 64) : LSim K Km N nl q v w bar B0 Bm0 D (gr_CW K (g + 1)).1 (gr_W Km (g' + 1)).1 R := by
  refine ⟨fun m x i e F B Fm Bm hl i0 he hT hnl hC hS => ?_, fun D' x l F B Fm h hx => ?_, fun i e F B h => ?_⟩
  · have ln := LRf_len hl
    exact P_list hI hR hD he m K.1 Km hl (Int.le_refl _) (by first | decide | omega) i0 (by first | decide | omega) (by first | decide | omega) hT hnl hC hS
  · obtain ⟨k, hk⟩ : ∃ k, K.1 = k + 1 := ⟨K.1 - 1, (by first | decide | omega)⟩
    show f_Walker_goThrough_5 (gr_CW K g) K K.1 0 x 0 l F B = _
    rw [show f_Walker_goThrough_5 (gr_CW K g) K K.1 = f_Walker_goThrough_5 (gr_CW K g) K (k + 1) by rw [← hk]]
    exact C_goX h11 h (by decide) hx
  · obtain ⟨k, hk⟩ : ∃ k, Km = k + 1 := ⟨Km - 1, (by first | decide | omega)⟩
    show f_M_walk_2 (gr_W Km g') Km Km i e F B = _
    rw [show f_M_walk_2 (gr_W Km g') Km Km = f_M_walk_2 (gr_W Km g') Km (k + 1) by rw [← hk]]
    exact L_walkX h
theorem P_leaf {K : zK} {Km : Nat} {N nl L q v w bar x i : Int} {B0 Bm0 : zB} {D g g' : Nat} {F : zF} {B : zB} {Fm : zF} {Bm : zB} (hMW : MW Bm0) (hLT : LTW nl B0 Bm0) (hLn : L ≤ nl) (hL : ∀ p, 0 ≤ p → p < L → LSim K Km N nl q v w bar B0 Bm0 (D + 1) (gr_CW K (g + 1)).1 (gr_W Km g').1 (IRd p 7)) (hr : IRl L B0 Bm0 x i) (hx : 0 ≤ x ∧ x < 3000) (hi : 0 ≤ i ∧ i < N) (hT : WT N B0 Bm0 B Bm) (hnl : Fm 14 0 27 = nl) (hC : WC K Km N q v w bar B Fm Bm) (hS : WS q v w bar D F B Fm Bm) (hD : D < 64) : zP (fb_Walker_goItem (gr_CW K (g + 1)) K 0 x D F B) (fb_M_go (gr_W Km (g' + 1)) Km i Fm Bm) (fun _ F' B' _ Fm' Bm' => WO q v w bar D F B Fm Bm F' B' Fm' Bm') := by
  obtain ⟨hp, h⟩ := hr
  rcases h with ⟨k0, h⟩ | ⟨k0, h⟩ | ⟨k0, h, h'⟩ | ⟨k0, h⟩
  · exact P_evI hx hi hT hC hS (by first | decide | omega) k0 hp h
  · exact P_barI (oM' := gr_W Km g') (fun _ _ => rfl) hx hi hT hC hS (by first | decide | omega) k0 hp h
  · exact P_loudI (oM' := gr_W Km g') hMW (fun _ _ => rfl) hx hi hT hC hS k0 h h'
  · exact P_usI (oM' := gr_W Km g') hL hLn hLT (fun _ _ => rfl) hx hi hT hnl hC hS hD k0 h
theorem P_node {K : zK} {Km : Nat} {N nl q v w bar x i : Int} {B0 Bm0 : zB} {D g g' : Nat} {R : zB → zB → Int → Int → Prop} {F : zF} {B : zB} {Fm : zF} {Bm : zB} (hL : LSim K Km N nl q v w bar B0 Bm0 (D + 1) (gr_CW K g).1 (gr_W Km g').1 R) (hL' : LSim K Km N nl q v w bar B0 Bm0 (D + 1) (gr_CW K (g + 1)).1 (gr_W Km g').1 R) (hr : IRn R B0 Bm0 x i) (hx : 0 ≤ x ∧ x < 3000) (hi : 0 ≤ i ∧ i < N) (hT : WT N B0 Bm0 B Bm) (hnl : Fm 14 0 27 = nl) (hC : WC K Km N q v w bar B Fm Bm) (hS : WS q v w bar D F B Fm Bm) (hD : D < 64) (hg : F 11 0 7 < F 11 0 3) : zP (fb_Walker_goItem (gr_CW K (g + 1)) K 0 x D F B) (fb_M_go (gr_W Km (g' + 1)) Km i Fm Bm) (fun _ F' B' _ Fm' Bm' => WO q v w bar D F B Fm Bm F' B' Fm' Bm') := by
  have h11 := hC.2.2.1
  have h3 := hC.2.2.2.1
  obtain ⟨N0, N1, hTK⟩ := hC.2.2.2.2.2.2.2.1
  obtain ⟨c3, c4, c6, c7, c8⟩ := C_goK (K := K) (o := gr_CW K (g + 1)) (x := x) (l := D) (F := F) (B := B) h11 h3 hS.1.1 hx
  rw [hT.1 0 x] at c3 c4 c6 c7 c8
  have z45 := hS.2.2.2.2.2.2.2.2.2.2.2.1
  have f45 : 0 ≤ Fm 14 0 45 ∧ Fm 14 0 45 < 100 := by omega
  have ri : 0 ≤ i ∧ i < 3001 := by omega
  have w7 : ∀ {a : Int}, wdAt Bm0 i a → Bm 14 0 7 i = 4 ∧ Bm 14 0 11 i = a := fun h => by
    rw [hT.2.1 7 i (by decide), hT.2.1 11 i (by decide)]; exact h
  have pt : ∀ {j : Int}, 0 ≤ j → j ≤ N → Bm0 14 0 7 j = 2 → (0 ≤ Bm0 14 0 9 j ∧ Bm0 14 0 9 j ≤ 62) ∧ (-2 ≤ Bm0 14 0 10 j ∧ Bm0 14 0 10 j ≤ 2) ∧ j < N := fun {j} j0 j1 h => by
    have t := hTK j j0 j1
    have t4 := t.2.2.2.1
    have t5 := t.2.2.2.2.1
    rw [hT.2.1 7 j (by decide)] at t4 t5
    rw [hT.2.1 9 j (by decide), hT.2.1 10 j (by decide)] at t5
    have := t5 h
    have : ¬ j = N := fun z => by have := t4.mpr z; omega
    omega
  obtain ⟨hp, h⟩ := hr
  rcases h with ⟨k0, hs, n1, n2, b1, b2, m, hl⟩ | ⟨k0, hw, n1, ⟨b1, b2, m, hl⟩, ha⟩ | ⟨k0, hw, t1, t2, e2, e3, b1, b2, m, hl⟩ | ⟨k0, hw, t1, e2, e3, b1, b2, m, hl⟩ | ⟨k0, hw, b1, b2, m, hl⟩ | ⟨k0, hw, n1, n2, b1, b2, m, hl⟩
  · have m7 : Bm 14 0 7 i = 5 := by rw [hT.2.1 7 i (by decide)]; exact hs.1
    have m9 : Bm 14 0 9 i = 91 := by rw [hT.2.1 9 i (by decide)]; exact hs.2
    rw [c3 k0, L_goS ri m7 (by rw [m9]; decide) (by rw [m9]; decide)]
    exact zP_w (Q := fun _ _ _ _ _ _ => True) (P_br hL hx hi hT hnl hC hS hD hg hp hs n1 n2 ⟨b1, b2⟩ hl)
  · rw [c4 k0, (L_goW ri (w7 hw).1).1 (w7 hw).2]
    exact zP_w (Q := fun _ _ _ _ _ _ => True) (P_rp hL hx hi hT hnl hC hS hD hp n1 ⟨b1, b2⟩ hl ha)
  · have u1 := pt (j := i + 1) (by first | decide | omega) (by first | decide | omega) t1
    have u2 := pt (j := i + 2) (by first | decide | omega) (by first | decide | omega) t2
    have v1 := tnv_b u1.1.1 u1.1.2
    have v2 := tnv_b u2.1.1 u2.1.2
    have e9 : ∀ j, Bm 14 0 9 j = Bm0 14 0 9 j := fun j => hT.2.1 9 j (by decide)
    have em : ∀ j, mvV Bm j = mvV Bm0 j := fun j => by unfold mvV; rw [e9, hT.2.1 10 j (by decide)]
    rw [c6 k0, (L_goW ri (w7 hw).1).2.2.1 (Or.inl (w7 hw).2)]
    refine zP_w (Q := fun _ _ _ _ _ _ => True) ?_
    show zP (fb_Walker_goCarried (gr_CW K g) K 0 1 x D F B) (fb_M_goChange (gr_W Km g') Km i Fm Bm) _
    rw [L_chg0 (by first | decide | omega) (w7 hw).2 f45 (by rw [e9]; exact u1.1) (by rw [e9]; exact u2.1)]
    refine P_car hL hx (by first | decide | omega) hT hnl hC hS hD (Or.inl ⟨rfl, rfl, ?_, ?_⟩) ?_ ?_ ⟨b1, b2⟩ hl
    · rw [e9, e9]; exact e2
    · rw [em, em]; exact e3
    · omega
    · rw [e3]; unfold mvV; omega
  · have u1 := pt (j := i + 1) (by first | decide | omega) (by first | decide | omega) t1
    have v1 := tnv_b u1.1.1 u1.1.2
    have e9 : ∀ j, Bm 14 0 9 j = Bm0 14 0 9 j := fun j => hT.2.1 9 j (by decide)
    have em : ∀ j, mvV Bm j = mvV Bm0 j := fun j => by unfold mvV; rw [e9, hT.2.1 10 j (by decide)]
    rw [c7 k0, (L_goW ri (w7 hw).1).2.2.1 (Or.inr (w7 hw).2)]
    refine zP_w (Q := fun _ _ _ _ _ _ => True) ?_
    show zP (fb_Walker_goCarried (gr_CW K g) K 0 (-1) x D F B) (fb_M_goChange (gr_W Km g') Km i Fm Bm) _
    rw [L_chg1 (by first | decide | omega) (w7 hw).2 f45 (by rw [e9]; exact u1.1)]
    refine P_car hL hx (by first | decide | omega) hT hnl hC hS hD (Or.inr ⟨rfl, rfl, ?_, ?_⟩) ?_ ?_ ⟨b1, b2⟩ hl
    · rw [e9]; exact e2
    · rw [em]; exact e3
    · omega
    · rw [e3]; unfold mvV; omega
  · rw [c8 k0, (L_goW ri (w7 hw).1).2.2.2.1 (w7 hw).2, hT.1 4 x]
    exact zP_w (Q := fun _ _ _ _ _ _ => True) (P_bk hL hi hT hnl hC hS hD ⟨b1, b2⟩ hl)
  · exact P_slI (oM' := gr_W Km g') hL' (fun _ _ => rfl) hx hi hT hnl hC hS hD k0 hw n1 n2 ⟨b1, b2⟩ hl
theorem I_all {K : zK} {Km : Nat} {N nl q v w bar : Int} {B0 Bm0 : zB} (hK : 3002 ≤ K.1) (h11 : 0 < K.2 11) (hKm : 3002 ≤ Km) (hMW : MW Bm0) (hLT : LTW nl B0 Bm0) : ∀ (n : Nat) (L : Int) (d D g g' : Nat), 0 ≤ L → L ≤ nl → d ≤ 7 → d + 8 * L.toNat = n → D + n ≤ 62 → 3 * n + 3 ≤ g → 3 * n + 3 ≤ g' → ISim K Km N nl q v w bar B0 Bm0 D (gr_CW K g).2.1 (gr_W Km g').2.1 (IRd L d) := by
  intro n
  induction n using Nat.strongRecOn with
  | ind n ih =>
    intro L d D g g' L0 Ln d7 hn hD hg hg'
    obtain ⟨g, rfl⟩ : ∃ m, g = m + 1 + 1 := ⟨g - 2, (by first | decide | omega)⟩
    obtain ⟨g', rfl⟩ : ∃ m, g' = m + 1 + 1 := ⟨g' - 2, (by first | decide | omega)⟩
    have ls : ∀ (L2 : Int) (d2 g2 g2' : Nat), 0 ≤ L2 → L2 ≤ nl → d2 ≤ 7 → d2 + 8 * L2.toNat < n → g ≤ g2 → g' ≤ g2' → LSim K Km N nl q v w bar B0 Bm0 (D + 1) (gr_CW K g2).1 (gr_W Km g2').1 (IRd L2 d2) := by
      intro L2 d2 g2 g2' a0 a1 a2 a3 a4 a5
      obtain ⟨g2, rfl⟩ : ∃ m, g2 = m + 1 := ⟨g2 - 1, (by first | decide | omega)⟩
      obtain ⟨g2', rfl⟩ : ∃ m, g2' = m + 1 := ⟨g2' - 1, (by first | decide | omega)⟩
      exact LS_of hK h11 hKm (ih _ a3 L2 d2 (D + 1) g2 g2' a0 a1 a2 rfl (by first | decide | omega) (by first | decide | omega) (by first | decide | omega)) (fun _ _ h => IR_p h) (by first | decide | omega)
    intro x i F B Fm Bm hr hx hi hT hnl hC hS hgo
    show zP (fb_Walker_goItem (gr_CW K (g + 1)) K 0 x D F B) (fb_M_go (gr_W Km (g' + 1)) Km i Fm Bm) _
    have us : ∀ p, 0 ≤ p → p < L → LSim K Km N nl q v w bar B0 Bm0 (D + 1) (gr_CW K (g + 1)).1 (gr_W Km g').1 (IRd p 7) := fun p p0 p1 => ls p 7 (g + 1) g' p0 (by first | decide | omega) (Nat.le_refl _) (by first | decide | omega) (by first | decide | omega) (Nat.le_refl _)
    cases d with
    | zero => exact P_leaf hMW hLT Ln us hr hx hi hT hnl hC hS (by first | decide | omega)
    | succ d =>
      rcases hr with hr | hr
      · exact P_leaf hMW hLT Ln us hr hx hi hT hnl hC hS (by first | decide | omega)
      · exact P_node (ls L d g g' L0 Ln (by first | decide | omega) (by first | decide | omega) (Nat.le_refl _) (Nat.le_refl _)) (ls L d (g + 1) g' L0 Ln (by first | decide | omega) (by first | decide | omega) (by first | decide | omega) (Nat.le_refl _)) hr hx hi hT hnl hC hS (by first | decide | omega) hgo
theorem L_all {K : zK} {Km : Nat} {N nl q v w bar : Int} {B0 Bm0 : zB} (hK : 3002 ≤ K.1) (h11 : 0 < K.2 11) (hKm : 3002 ≤ Km) (hMW : MW Bm0) (hLT : LTW nl B0 Bm0) : LSim K Km N nl q v w bar B0 Bm0 0 (gr_CW K 200).1 (gr_W Km 200).1 (IRd nl 7) :=
  LS_of hK h11 hKm (I_all hK h11 hKm hMW hLT (7 + 8 * nl.toNat) nl 7 0 199 199 hLT.1.1 (Int.le_refl _) (Nat.le_refl _) rfl (by have := hLT.1; omega) (by have := hLT.1; omega) (by have := hLT.1; omega)) (fun _ _ h => IR_p h) (by decide)
end
end
section
section
/-! ===== one voice walked, both sides ===== -/
/-- what follows the walk of a voice -/
def thT (rec5 : zF → zB → zO) (K : Nat) (F22 : zF) (B22 : zB) : zO := if 0 ≤ (F22 14 0 6) ∧ (F22 14 0 6) < 3 then if 0 ≤ (F22 14 0 35) ∧ (F22 14 0 35) < 4 then zbind (f_M_good K F22 (zup4 B22 13 (F22 14 0 6) 12 (F22 14 0 35) (F22 14 0 36))) (fun r26 F26 B26 => if r32 r26 then (if r26 = 0 then f_M_through_148 rec5 K F26 B26 else zbind (f_M_judge K F26 B26) (fun r29 F29 B29 => f_M_through_148 rec5 K F29 B29)) else none) else none else none
def z51 (B : zB) : zB := (zup4 (zup4 (zup4 (zup4 (zup4 (zup4 (zup4 (zup4 B 14 0 51 0 0) 14 0 51 1 0) 14 0 51 2 0) 14 0 51 3 0) 14 0 51 4 0) 14 0 51 5 0) 14 0 51 6 0) 14 0 51 7 0)
def z14 (B : zB) : zB := (zup4 (zup4 (zup4 (zup4 B 11 0 14 0 0) 11 0 14 1 0) 11 0 14 2 0) 11 0 14 3 0)
def vzF (F : zF) : zF := (zup3 (zup3 (zup3 (zup3 (zup3 (zup3 (zup3 (zup3 (zup3 F 14 0 36 0) 14 0 37 0) 14 0 38 0) 14 0 39 1) 14 0 40 4) 14 0 41 0) 14 0 45 0) 14 0 48 0) 14 0 50 0)
def czF (q bar : Int) (F : zF) : zF := (zup3 (zup3 (zup3 (zup3 (zup3 (zup3 (zup3 (zup3 (zup3 (zup3 (zup3 (zup3 (zup3 (zup3 (zup3 F 11 0 0 0) 11 0 1 q) 11 0 2 0) 11 0 3 0) 11 0 4 4) 11 0 5 0) 11 0 6 0) 11 0 7 0) 11 0 8 0) 11 0 9 1) 11 0 10 1) 11 0 11 0) 11 0 13 bar) 11 0 12 (100 * bar)) 11 0 18 0)
theorem z51_n {B : zB} {c k : Nat} {i y : Int} (h : ¬ (c = 14 ∧ i = 0 ∧ k = 51)) : z51 B c i k y = B c i k y := by
  unfold z51
  rw [zup4_v, if_neg (by first | decide | omega), zup4_v, if_neg (by first | decide | omega), zup4_v, if_neg (by first | decide | omega), zup4_v, if_neg (by first | decide | omega), zup4_v, if_neg (by first | decide | omega), zup4_v, if_neg (by first | decide | omega), zup4_v, if_neg (by first | decide | omega), zup4_v, if_neg (by first | decide | omega)]
theorem z51_v {B : zB} {y : Int} (h : y = 2 ∨ y = 3 ∨ y = 5 ∨ y = 7) : z51 B 14 0 51 y = 0 := by
  unfold z51
  rcases h with rfl | rfl | rfl | rfl <;> simp [zup4_v]
theorem z14_n {B : zB} {c k : Nat} {i y : Int} (h : ¬ (c = 11 ∧ i = 0 ∧ k = 14)) : z14 B c i k y = B c i k y := by
  unfold z14
  rw [zup4_v, if_neg (by first | decide | omega), zup4_v, if_neg (by first | decide | omega), zup4_v, if_neg (by first | decide | omega), zup4_v, if_neg (by first | decide | omega)]
theorem z14_v {B : zB} {y : Int} (h0 : 0 ≤ y) (h1 : y < 4) : z14 B 11 0 14 y = 0 := by
  unfold z14
  have : y = 0 ∨ y = 1 ∨ y = 2 ∨ y = 3 := by omega
  rcases this with rfl | rfl | rfl | rfl <;> simp [zup4_v]
theorem vzF_n {F : zF} {c k : Nat} {i : Int} (h : ¬ (c = 14 ∧ i = 0 ∧ 36 ≤ k ∧ k ≤ 50)) : vzF F c i k = F c i k := by
  unfold vzF
  rw [zup3_v, if_neg (by first | decide | omega), zup3_v, if_neg (by first | decide | omega), zup3_v, if_neg (by first | decide | omega), zup3_v, if_neg (by first | decide | omega), zup3_v, if_neg (by first | decide | omega), zup3_v, if_neg (by first | decide | omega), zup3_v, if_neg (by first | decide | omega), zup3_v, if_neg (by first | decide | omega), zup3_v, if_neg (by first | decide | omega)]
theorem vzF_v {F : zF} : vzF F 14 0 36 = 0 ∧ vzF F 14 0 37 = 0 ∧ vzF F 14 0 38 = 0 ∧ vzF F 14 0 39 = 1 ∧ vzF F 14 0 40 = 4 ∧ vzF F 14 0 41 = 0 ∧ vzF F 14 0 45 = 0 ∧ vzF F 14 0 48 = 0 ∧ vzF F 14 0 50 = 0 := by
  simp [vzF, zup3_v]
theorem czF_n {q bar : Int} {F : zF} {c k : Nat} {i : Int} (h : ¬ (c = 11 ∧ i = 0)) : czF q bar F c i k = F c i k := by
  unfold czF
  rw [zup3_v, if_neg (by first | decide | omega), zup3_v, if_neg (by first | decide | omega), zup3_v, if_neg (by first | decide | omega), zup3_v, if_neg (by first | decide | omega), zup3_v, if_neg (by first | decide | omega), zup3_v, if_neg (by first | decide | omega), zup3_v, if_neg (by first | decide | omega), zup3_v, if_neg (by first | decide | omega), zup3_v, if_neg (by first | decide | omega), zup3_v, if_neg (by first | decide | omega), zup3_v, if_neg (by first | decide | omega), zup3_v, if_neg (by first | decide | omega), zup3_v, if_neg (by first | decide | omega), zup3_v, if_neg (by first | decide | omega), zup3_v, if_neg (by first | decide | omega)]
theorem czF_v {q bar : Int} {F : zF} : czF q bar F 11 0 0 = 0 ∧ czF q bar F 11 0 1 = q ∧ czF q bar F 11 0 2 = 0 ∧ czF q bar F 11 0 3 = 0 ∧ czF q bar F 11 0 4 = 4 ∧ czF q bar F 11 0 5 = 0 ∧ czF q bar F 11 0 6 = 0 ∧ czF q bar F 11 0 7 = 0 ∧ czF q bar F 11 0 9 = 1 ∧ czF q bar F 11 0 10 = 1 ∧ czF q bar F 11 0 11 = 0 ∧ czF q bar F 11 0 12 = 100 * bar ∧ czF q bar F 11 0 13 = bar ∧ czF q bar F 11 0 18 = 0 := by
  simp [czF, zup3_v]
def barV (n d : Int) : Int := 812851200 / d * n
theorem bar_v {n d : Int} (hn : 1 ≤ n ∧ n ≤ 12) (hd : d = 2 ∨ d = 4 ∨ d = 8 ∨ d = 16) : FR n d (barV n d) ∧ FR (100 * n) d (100 * barV n d) ∧ 100 * barV n d ≤ 1000000000000 ∧ 0 < barV n d ∧ n * WW = barV n d * d := by
  unfold FR barV WW
  rcases hd with rfl | rfl | rfl | rfl
  · rw [show (812851200 : Int) / 2 = 406425600 by decide]
    exact ⟨⟨(by first | decide | omega), ⟨406425600, by decide⟩, (by first | decide | omega), (by first | decide | omega)⟩, ⟨(by first | decide | omega), ⟨406425600, by decide⟩, (by first | decide | omega), (by first | decide | omega)⟩, (by first | decide | omega), (by first | decide | omega), (by first | decide | omega)⟩
  · rw [show (812851200 : Int) / 4 = 203212800 by decide]
    exact ⟨⟨(by first | decide | omega), ⟨203212800, by decide⟩, (by first | decide | omega), (by first | decide | omega)⟩, ⟨(by first | decide | omega), ⟨203212800, by decide⟩, (by first | decide | omega), (by first | decide | omega)⟩, (by first | decide | omega), (by first | decide | omega), (by first | decide | omega)⟩
  · rw [show (812851200 : Int) / 8 = 101606400 by decide]
    exact ⟨⟨(by first | decide | omega), ⟨101606400, by decide⟩, (by first | decide | omega), (by first | decide | omega)⟩, ⟨(by first | decide | omega), ⟨101606400, by decide⟩, (by first | decide | omega), (by first | decide | omega)⟩, (by first | decide | omega), (by first | decide | omega), (by first | decide | omega)⟩
  · rw [show (812851200 : Int) / 16 = 50803200 by decide]
    exact ⟨⟨(by first | decide | omega), ⟨50803200, by decide⟩, (by first | decide | omega), (by first | decide | omega)⟩, ⟨(by first | decide | omega), ⟨50803200, by decide⟩, (by first | decide | omega), (by first | decide | omega)⟩, (by first | decide | omega), (by first | decide | omega), (by first | decide | omega)⟩
theorem C_bar {K : zK} {p n d : Int} {F : zF} {B : zB} (hp : 0 ≤ p ∧ p < K.2 6) (h4 : F 6 p 4 = n) (h5 : F 6 p 5 = d) (hn : 1 ≤ n ∧ n ≤ 12) (hd : d = 2 ∨ d = 4 ∨ d = 8 ∨ d = 16) : f_Piece_barLength K p F B = some (barV n d, F, B) := by
  have rn : r32 n := by unfold r32; omega
  unfold f_Piece_barLength barV
  rw [if_pos hp, h5, h4]
  rcases hd with rfl | rfl | rfl | rfl
  · rw [if_pos (by decide), if_pos (by decide), if_pos (by decide), if_pos rn]; rfl
  · rw [if_pos (by decide), if_pos (by decide), if_pos (by decide), if_pos rn]; rfl
  · rw [if_pos (by decide), if_pos (by decide), if_pos (by decide), if_pos rn]; rfl
  · rw [if_pos (by decide), if_pos (by decide), if_pos (by decide), if_pos rn]; rfl
theorem C_v88 {K : zK} {q x : Int} {F : zF} {B : zB} (hK : 3002 ≤ K.1) (h11 : 0 < K.2 11) (h3 : 0 < K.2 3) (h4 : 0 ≤ q ∧ q < K.2 4) (f0 : F 11 0 0 = 0) (f1 : F 11 0 1 = q) (hx : F 4 q 4 = x) (x0 : 0 ≤ x ∧ x < 3000) : f_Walker_goVoice_88 K K.1 0 0 F B = zbind (f_Walker_goThrough K 0 (B 3 0 4 x) 0 F (z14 B)) (fun _ F2 B2 => some (F2 11 0 2, F2, B2)) := by
  obtain ⟨n, hn⟩ : ∃ m, K.1 = m + 5 := ⟨K.1 - 5, (by first | decide | omega)⟩
  have st : ∀ (m : Nat) (l : Int) (C : zB), 0 ≤ l → l < 4 → f_Walker_goVoice_88 K (m + 1) l 0 F C = f_Walker_goVoice_88 K m (l + 1) 0 F (zup4 C 11 0 14 l 0) := fun m l C a b => by
    rw [f_Walker_goVoice_88, if_pos ⟨Int.le_refl _, h11⟩, if_pos (by unfold r32; omega), if_neg (by first | decide | omega), if_pos ⟨a, b⟩]
  rw [show f_Walker_goVoice_88 K K.1 = f_Walker_goVoice_88 K (n + 4 + 1) by rw [← hn], st _ _ _ (by decide) (by decide), show n + 4 = n + 3 + 1 by omega, st _ _ _ (by decide) (by decide), show n + 3 = n + 2 + 1 by omega, st _ _ _ (by decide) (by decide), show n + 2 = n + 1 + 1 by omega, st _ _ _ (by decide) (by decide), f_Walker_goVoice_88, if_pos ⟨Int.le_refl _, h11⟩, if_pos (by decide), if_pos (by decide), f0, if_pos ⟨Int.le_refl _, h3⟩, f1, if_pos h4, hx, if_pos x0]
  have e : (z14 B) 3 0 4 x = B 3 0 4 x := z14_n (by first | decide | omega)
  rw [← e]
  rfl
theorem L_t73 {K : Nat} {rec : zF → zB → zO} {v a : Int} {F : zF} {B : zB} (hK : 3002 ≤ K) (h35 : F 14 0 35 = v) (v0 : 0 ≤ v ∧ v < 4) (h29 : B 14 0 29 v = a) (a0 : 0 ≤ a ∧ a < 3000) : f_M_through_73 rec K K 0 F B = zbind (f_M_walk K (a + 1) (B 14 0 30 a) F (z51 B)) (fun _ F2 B2 => thT rec K F2 B2) := by
  obtain ⟨n, hn⟩ : ∃ m, K = m + 9 := ⟨K - 9, (by first | decide | omega)⟩
  have st : ∀ (m : Nat) (l : Int) (C : zB), 0 ≤ l → l < 8 → f_M_through_73 rec K (m + 1) l F C = f_M_through_73 rec K m (l + 1) F (zup4 C 14 0 51 l 0) := fun m l C a b => by
    rw [f_M_through_73, if_pos (by unfold r32; omega), if_neg (by first | decide | omega), if_pos ⟨a, b⟩]
  have e29 : (z51 B) 14 0 29 v = a := by rw [z51_n (by first | decide | omega)]; exact h29
  have e30 : (z51 B) 14 0 30 a = B 14 0 30 a := z51_n (by first | decide | omega)
  rw [show f_M_through_73 rec K K = f_M_through_73 rec K (n + 8 + 1) by rw [← hn], st _ _ _ (by decide) (by decide), show n + 8 = n + 7 + 1 by omega, st _ _ _ (by decide) (by decide), show n + 7 = n + 6 + 1 by omega, st _ _ _ (by decide) (by decide), show n + 6 = n + 5 + 1 by omega, st _ _ _ (by decide) (by decide), show n + 5 = n + 4 + 1 by omega, st _ _ _ (by decide) (by decide), show n + 4 = n + 3 + 1 by omega, st _ _ _ (by decide) (by decide), show n + 3 = n + 2 + 1 by omega, st _ _ _ (by decide) (by decide), show n + 2 = n + 1 + 1 by omega, st _ _ _ (by decide) (by decide)]
  show f_M_through_73 rec K (n + 1) 8 F (z51 B) = _
  rw [f_M_through_73, if_pos (by decide), if_pos (by decide), h35, if_pos v0, e29, if_pos (by first | decide | omega), e30]
  rfl
/-- the frames of a voice's walk, from where both sides begin -/
def WF5 (q v w : Int) (F : zF) (B : zB) (Fm : zF) (Bm : zB) (F' : zF) (B' : zB) (Fm' : zF) (Bm' : zB) : Prop :=
  (∀ c y k, ¬ (c = 11 ∧ y = 0) → ¬ (c = 4 ∧ y = q ∧ k = 6) → ¬ (c = 1 ∧ ownE B q y) → F' c y k = F c y k) ∧
  (∀ c y k x, ¬ (c = 11 ∧ y = 0) → ¬ (c = 4 ∧ y = q ∧ k = 5) → ¬ (c = 1 ∧ ownE B q y) → B' c y k x = B c y k x) ∧
  (∀ y, ownE B' q y ↔ ownE B q y) ∧
  (∀ c i k, ¬ (c = 14 ∧ i = 0 ∧ (k ≤ 1 ∨ k = 17 ∨ k = 18 ∨ (36 ≤ k ∧ k ≤ 50))) → Fm' c i k = Fm c i k) ∧
  (∀ c i k x, ¬ (c = 14 ∧ i = 0 ∧ 42 ≤ k ∧ k ≤ 51) → ¬ inV v w c i k x → Bm' c i k x = Bm c i k x) ∧
  inJ q B'
theorem nd0 : nu 0 = 0 ∧ de 0 = 1 := by decide +kernel
theorem P_walkV {K : zK} {Km : Nat} {N nl p q v w n d x a : Int} {B0 Bm0 : zB} {F : zF} {B : zB} {Fm : zF} {Bm : zB} (hK : 3002 ≤ K.1) (hKm : 812851200 < Km) (h11 : 0 < K.2 11) (h3 : 0 < K.2 3) (h4 : 0 ≤ q ∧ q < K.2 4) (hp : 0 ≤ p ∧ p < K.2 6) (v0 : 0 ≤ v ∧ v < 4) (w0 : 0 ≤ w ∧ w < 3) (hTK : TK B Bm N) (hV : ∀ t, 0 ≤ t → t < 200 → 0 ≤ B 4 q 5 t ∧ B 4 q 5 t < K.2 1) (hI : inJ q B) (e4 : F 6 p 4 = n) (e5 : F 6 p 5 = d) (m4 : Fm 13 w 4 = n) (m5 : Fm 13 w 5 = d) (hn : 1 ≤ n ∧ n ≤ 12) (hd : d = 2 ∨ d = 4 ∨ d = 8 ∨ d = 16) (hT : WT N B0 Bm0 B Bm) (hMW : MW Bm0) (hLT : LTW nl B0 Bm0) (hnl : Fm 14 0 27 = nl) (h17 : Fm 14 0 17 = 0) (h35 : Fm 14 0 35 = v) (h6 : Fm 14 0 6 = w) (hx : F 4 q 4 = x) (x0 : 0 ≤ x ∧ x < 3000) (c6 : F 4 q 6 = 0) (ha : Bm 14 0 29 v = a) (a0 : 0 ≤ a ∧ a < 3000) (hb : BKf (IRd nl 7) B0 Bm0 x a) : zP (f_Walker_goVoice K 0 0 p q F B) (f_M_walk Km (a + 1) (Bm 14 0 30 a) (vzF Fm) (z51 Bm)) (fun r F' B' _ Fm' Bm' => r = F' 11 0 2 ∧ WF5 q v w F B Fm Bm F' B' Fm' Bm' ∧ ((WS q v w (barV n d) 0 F' B' Fm' Bm' ∧ sumZ (fun j => F' 1 (B' 4 q 5 j) 1) (F' 4 q 6).toNat ≤ 100 * barV n d) ∨ WE 0 q v w F' Fm')) := by
  obtain ⟨b1, b2, b3, b4, b5⟩ := bar_v hn hd
  have rn : r32 n := by unfold r32; omega
  have rd : r32 d := by unfold r32; omega
  have d1 : 1 ≤ d ∧ d ≤ 16 := by omega
  have cv := czF_v (q := q) (bar := barV n d) (F := F)
  have cn : ∀ c y k, ¬ (c = 11 ∧ y = 0) → czF q (barV n d) F c y k = F c y k := fun c y k h => czF_n h
  have e : f_Walker_goVoice K 0 0 p q F B = zbind (f_Walker_goThrough K 0 (B 3 0 4 x) 0 (czF q (barV n d) F) (z14 B)) (fun _ F2 B2 => some (F2 11 0 2, F2, B2)) := by
    unfold f_Walker_goVoice
    rw [if_pos ⟨Int.le_refl _, h11⟩, if_pos ⟨Int.le_refl _, h3⟩, if_pos h3, if_pos h4, if_pos h4.2, if_pos hp, C_bar (n := n) (d := d) hp (by rw [zup3_v, if_neg (by first | decide | omega), zup3_v, if_neg (by first | decide | omega), zup3_v, if_neg (by first | decide | omega), zup3_v, if_neg (by first | decide | omega), zup3_v, if_neg (by first | decide | omega), zup3_v, if_neg (by first | decide | omega), zup3_v, if_neg (by first | decide | omega), zup3_v, if_neg (by first | decide | omega), zup3_v, if_neg (by first | decide | omega), zup3_v, if_neg (by first | decide | omega), zup3_v, if_neg (by first | decide | omega), zup3_v, if_neg (by first | decide | omega)]; exact e4) (by rw [zup3_v, if_neg (by first | decide | omega), zup3_v, if_neg (by first | decide | omega), zup3_v, if_neg (by first | decide | omega), zup3_v, if_neg (by first | decide | omega), zup3_v, if_neg (by first | decide | omega), zup3_v, if_neg (by first | decide | omega), zup3_v, if_neg (by first | decide | omega), zup3_v, if_neg (by first | decide | omega), zup3_v, if_neg (by first | decide | omega), zup3_v, if_neg (by first | decide | omega), zup3_v, if_neg (by first | decide | omega), zup3_v, if_neg (by first | decide | omega)]; exact e5) hn hd, zb_s]
    exact C_v88 (F := czF q (barV n d) F) hK h11 h3 h4 cv.1 cv.2.1 (by rw [cn 4 q 4 (by first | decide | omega)]; exact hx) x0
  rw [e, hT.1 4 x]
  generalize hX : czF q (barV n d) F = X at cv cn
  have zv := vzF_v (F := Fm)
  have zn : ∀ c y k, ¬ (c = 14 ∧ y = 0 ∧ 36 ≤ k ∧ k ≤ 50) → vzF Fm c y k = Fm c y k := fun c y k h => vzF_n h
  generalize hY : vzF Fm = Y at zv zn
  have bn : ∀ c i k y, ¬ (c = 11 ∧ i = 0 ∧ k = 14) → z14 B c i k y = B c i k y := fun c i k y h => z14_n h
  have bv : ∀ y, 0 ≤ y → y < 4 → z14 B 11 0 14 y = 0 := fun y h0 h1 => z14_v h0 h1
  generalize hC : z14 B = C at bn bv
  have mn : ∀ c i k y, ¬ (c = 14 ∧ i = 0 ∧ k = 51) → z51 Bm c i k y = Bm c i k y := fun c i k y h => z51_n h
  have mv : ∀ y, y = 2 ∨ y = 3 ∨ y = 5 ∨ y = 7 → z51 Bm 14 0 51 y = 0 := fun y h => z51_v h
  generalize hM : z51 Bm = M at mn mv
  have T1 : WT N B0 Bm0 C M := ⟨fun k y => by rw [bn 3 0 k y (by first | decide | omega)]; exact hT.1 k y, fun k y h => by rw [mn 14 0 k y (by first | decide | omega)]; exact hT.2.1 k y h, fun k y h0 h1 h2 => by rw [mn 14 0 k y (by first | decide | omega)]; exact hT.2.2.1 k y h0 h1 h2, hT.2.2.2⟩
  have tk1 : TK C M N := by
    obtain ⟨t0, t1, t2⟩ := hTK
    refine ⟨t0, t1, fun j u t => ?_⟩
    have := t2 j u t
    unfold TKj at this ⊢
    simp only [bn 10 0 5 _ (by first | decide | omega), bn 10 0 6 _ (by first | decide | omega), bn 10 0 7 _ (by first | decide | omega), mn 14 0 7 _ (by first | decide | omega), mn 14 0 8 _ (by first | decide | omega), mn 14 0 9 _ (by first | decide | omega), mn 14 0 10 _ (by first | decide | omega), mn 14 0 11 _ (by first | decide | omega)]
    exact this
  have iC : inJ q C := fun t t' u v u' v' e => by
    rw [bn 4 q 5 t (by first | decide | omega), bn 4 q 5 t' (by first | decide | omega)] at e
    exact hI t t' u v u' v' e
  have C1 : WC K Km N q v w (barV n d) C Y M := by
    refine ⟨hK, hKm, h11, h3, h4, v0, w0, tk1, fun t u v => by rw [bn 4 q 5 t (by first | decide | omega)]; exact hV t u v, iC, ?_⟩
    rw [zn 13 w 4 (by first | decide | omega), zn 13 w 5 (by first | decide | omega), m4, m5]
    exact ⟨rn, rd, b2, b3, hn, d1, b4⟩
  have S1 : WS q v w (barV n d) 0 X C Y M := by
    refine ⟨⟨cv.1, cv.2.1, cv.2.2.1, by rw [zn 14 0 17 (by first | decide | omega)]; exact h17⟩, ⟨by rw [zn 14 0 35 (by first | decide | omega)]; exact h35, by rw [zn 14 0 6 (by first | decide | omega)]; exact h6, cv.2.2.2.2.2.2.2.2.2.2.2.2.1, cv.2.2.2.2.2.2.2.2.2.2.2.1⟩, ?_, ?_, ?_, ?_, ?_, ?_, ?_, ?_, ?_, ?_, ?_⟩
    · rw [cv.2.2.2.1, zv.2.1]; decide
    · rw [cv.2.2.2.2.1, zv.2.2.2.2.1]; decide
    · rw [cv.2.2.2.2.2.1, zv.2.2.2.2.2.1]; decide
    · rw [cv.2.2.2.2.2.2.1, zv.2.2.2.2.2.2.2.1]; decide
    · rw [cv.2.2.2.2.2.2.2.1, cv.2.2.2.1, zv.2.2.2.2.2.2.2.2]; decide
    · rw [cv.2.2.2.2.2.2.1]; intro u; omega
    · rw [cv.2.2.2.2.2.2.1, cv.2.2.2.2.2.2.2.2.1, cv.2.2.2.2.2.2.2.2.2.1]
      exact ⟨fun k u t => (by first | decide | omega), by decide, by decide, fun _ => ⟨rfl, rfl⟩, fun u => (by first | decide | omega), fun u => (by first | decide | omega)⟩
    · rw [cv.2.2.2.2.2.2.2.2.2.2.1, zv.2.2.1, zv.2.2.2.1, nd0.1, nd0.2]
      exact ⟨rfl, rfl, by decide, (by first | decide | omega)⟩
    · intro k u t
      rw [bv k u t, mv (prN k) (by unfold prN; split <;> omega)]
      exact ⟨rfl, (by first | decide | omega), (by first | decide | omega)⟩
    · rw [cv.2.2.2.2.2.2.2.2.2.2.2.2.2, zv.2.2.2.2.2.2.1]
      exact ⟨rfl, by decide, by decide, fun k u t => (by first | decide | omega)⟩
    · rw [cn 4 q 6 (by first | decide | omega), c6, zv.1]
      exact ⟨rfl, by decide, by decide, fun k u t => (by first | decide | omega)⟩
  obtain ⟨g1, g2, m, hl⟩ := hb
  have aN : a < N := by
    rcases Int.lt_or_le a N with z | z
    · exact z
    · have := (hT.2.2.2 a z).1
      omega
  have W := (L_all (q := q) (v := v) (w := w) (bar := barV n d) (N := N) hK h11 (by first | decide | omega) hMW hLT).1 m (B0 3 0 4 x) (a + 1) (Bm0 14 0 30 a) X C Y M hl (by first | decide | omega) g2 T1 (by rw [zn 14 0 27 (by first | decide | omega)]; exact hnl) C1 S1
  obtain ⟨r, F2, B2, r', Fm2, Bm2, y1, y2, f, s⟩ := W
  have y1' : f_Walker_goThrough K 0 (B0 3 0 4 x) 0 X C = some (r, F2, B2) := y1
  have y2' : f_M_walk Km (a + 1) (Bm0 14 0 30 a) Y M = some (r', Fm2, Bm2) := y2
  rw [y1', zb_s, hT.2.2.1 30 a (by decide) (by decide) aN, y2']
  obtain ⟨f1, f2, f3, f4, f5, f6⟩ := f
  have own : ∀ y, ownE C q y ↔ ownE B q y := fun y => by
    unfold ownE
    simp only [bn 4 q 5 _ (show ¬ (4 = 11 ∧ q = 0 ∧ 5 = 14) by omega)]
  obtain ⟨f7, f8⟩ := f6 iC
  obtain ⟨_, sd⟩ := f8 (by rw [cn 4 q 6 (by first | decide | omega), c6]; decide)
  refine zP_s ⟨rfl, ⟨fun c y k h h' h'' => ?_, fun c y k t h h' h'' => ?_, fun y => (f3 y).trans (own y), fun c i k h => ?_, fun c i k t h h' => ?_, f7⟩, ?_⟩
  · rw [f1 c y k h h' (fun z => h'' ⟨z.1, (own y).mp z.2⟩), cn c y k h]
  · rw [f2 c y k t h h' (fun z => h'' ⟨z.1, (own y).mp z.2⟩), bn c y k t (fun z => h ⟨z.1, z.2.1⟩)]
  · rw [f4 c i k h, zn c i k (by first | decide | omega)]
  · rw [f5 c i k t h h', mn c i k t (by first | decide | omega)]
  · rcases s with ⟨s, _⟩ | s
    · refine Or.inl ⟨s, ?_⟩
      unfold SD at sd
      rw [cv.2.2.2.2.2.2.2.2.2.2.1, cn 4 q 6 (by first | decide | omega), c6] at sd
      have z0 : sumZ (fun j => X 1 (C 4 q 5 j) 1) (0 : Int).toNat = 0 := rfl
      have l4 := s.2.2.2.2.2.2.2.2.2.1.2.2.2
      omega
    · exact Or.inr s
end
end
section
section
/-! ===== the events are placed, both sides ===== -/
theorem EVW_h {w e x : Int} {F F' : zF} {B Bm B' Bm' : zB} (h : EVW w e x F B Bm) (h1 : ∀ k, 1 ≤ k → k ≤ 10 → F' 1 e k = F 1 e k) (h2 : ∀ k y, B' 1 e k y = B 1 e k y) (h3 : ∀ k, 16 ≤ k → k ≤ 26 → Bm' 13 w k x = Bm 13 w k x) (h4 : ∀ k y, 28 ≤ k → k ≤ 29 → 6 * x ≤ y → y < 6 * x + 6 → Bm' 13 w k y = Bm 13 w k y) (h5 : ∀ y, Bm' 14 0 8 y = Bm 14 0 8 y) : EVW w e x F' B' Bm' := by
  unfold EVW EPR at h ⊢
  simp only [h1 1 (by decide) (by decide), h1 2 (by decide) (by decide), h1 3 (by decide) (by decide), h1 4 (by decide) (by decide), h1 5 (by decide) (by decide), h1 6 (by decide) (by decide), h1 7 (by decide) (by decide), h1 8 (by decide) (by decide), h1 9 (by decide) (by decide), h1 10 (by decide) (by decide), h2, h5, h3 16 (by decide) (by decide), h3 17 (by decide) (by decide), h3 18 (by decide) (by decide), h3 19 (by decide) (by decide), h3 20 (by decide) (by decide), h3 21 (by decide) (by decide), h3 22 (by decide) (by decide), h3 23 (by decide) (by decide), h3 24 (by decide) (by decide), h3 25 (by decide) (by decide), h3 26 (by decide) (by decide)]
  obtain ⟨a1, a2, a3, a4, a5, a6, a7, a8, a9, a10, a11, e1, e2, e3, e4, e5⟩ := h
  refine ⟨a1, a2, a3, a4, a5, a6, a7, a8, a9, a10, a11, trivial, e2, e3, fun k u v => ?_, e5⟩
  rw [h4 28 _ (by decide) (by decide) (by first | decide | omega) (by first | decide | omega), h4 29 _ (by decide) (by decide) (by first | decide | omega) (by first | decide | omega)]
  exact e4 k u v
theorem sumZ_m {g : Int → Int} {m : Nat} (h : ∀ j : Int, 0 ≤ j → j < m → 1 ≤ g j) : ∀ (d k : Nat), k + d = m → sumZ g k + d ≤ sumZ g m := by
  intro d
  induction d with
  | zero => intro k hk; rw [show k = m by omega]; omega
  | succ d ih =>
    intro k hk
    have := ih (k + 1) (by first | decide | omega)
    rw [sumZ] at this
    have := h k (by first | decide | omega) (by first | decide | omega)
    omega
theorem sumZ_0 {g : Int → Int} {m : Nat} (h : ∀ j : Int, 0 ≤ j → j < m → 1 ≤ g j) : ∀ (k : Nat), k ≤ m → 0 ≤ sumZ g k := by
  intro k
  induction k with
  | zero => intro _; exact Int.le_refl _
  | succ k ih =>
    intro hk
    have := ih (by first | decide | omega)
    have := h k (by first | decide | omega) (by first | decide | omega)
    rw [sumZ]
    omega
/-- what placing changes -/
def PLF (q v w k m : Int) (B : zB) (F : zF) (Fm : zF) (Bm : zB) (F' : zF) (Fm' : zF) (Bm' : zB) : Prop := (∀ c y t, ¬ (c = 4 ∧ y = q ∧ t = 7) → ¬ (c = 1 ∧ t = 0 ∧ ∃ j, k ≤ j ∧ j < m ∧ B 4 q 5 j = y) → F' c y t = F c y t) ∧ (∀ c y t, ¬ (c = 14 ∧ y = 0 ∧ t ≤ 1) → Fm' c y t = Fm c y t) ∧ (∀ c y t x, ¬ (c = 13 ∧ y = w ∧ (t = 14 ∨ t = 15) ∧ 1000 * v + k ≤ x ∧ x < 1000 * v + m) → Bm' c y t x = Bm c y t x)
theorem P_pl {K : zK} {Km m : Nat} {q v w : Int} {B : zB} {g : Int → Int} (hKm : 812851200 < Km) (h4 : 0 ≤ q ∧ q < K.2 4) (v0 : 0 ≤ v ∧ v < 4) (w0 : 0 ≤ w ∧ w < 3) (hV : ∀ t, 0 ≤ t → t < 200 → 0 ≤ B 4 q 5 t ∧ B 4 q 5 t < K.2 1) (hI : inJ q B) (m1 : m ≤ 200) (hg : ∀ j : Int, 0 ≤ j → j < m → 1 ≤ g j) (hs : sumZ g m ≤ 1000000000000) : ∀ (r n n' k : Nat) {F : zF} {Fm : zF} {Bm : zB}, k + r = m → r < n → r < n' → F 4 q 6 = m → Bm 13 w 12 v = m → F 4 q 7 = sumZ g k → Fm 14 0 0 = nu (sumZ g k) → Fm 14 0 1 = de (sumZ g k) → (∀ j : Int, 0 ≤ j → j < m → F 1 (B 4 q 5 j) 1 = g j ∧ Bm 13 w 16 (1000 * v + j) = nu (g j) ∧ Bm 13 w 17 (1000 * v + j) = de (g j)) → zP (f_Part_placeEvents_7 K n k q F B) (f_M_places_8 Km n' k w v Fm Bm) (fun _ F' B' _ Fm' Bm' => B' = B ∧ F' 4 q 7 = sumZ g m ∧ (∀ j : Nat, k ≤ j → j < m → F' 1 (B 4 q 5 j) 0 = sumZ g j ∧ Bm' 13 w 14 (1000 * v + j) = nu (sumZ g j) ∧ Bm' 13 w 15 (1000 * v + j) = de (sumZ g j)) ∧ PLF q v w k m B F Fm Bm F' Fm' Bm') := by
  intro r
  induction r with
  | zero =>
    intro n n' k F Fm Bm kr hn hn' c6 c12 c7 d0 d1 hl
    obtain ⟨n, rfl⟩ : ∃ m, n = m + 1 := ⟨n - 1, (by first | decide | omega)⟩
    obtain ⟨n', rfl⟩ : ∃ m, n' = m + 1 := ⟨n' - 1, (by first | decide | omega)⟩
    have rk : r32 (k : Int) := by unfold r32; omega
    have rm : r32 (m : Int) := by unfold r32; omega
    rw [f_Part_placeEvents_7, f_M_places_8, if_pos h4, if_pos rk, c6, if_pos rm, if_pos (by first | decide | omega), if_pos w0, if_pos v0, if_pos rk, c12, if_pos rm, if_pos (by first | decide | omega)]
    exact zP_s ⟨rfl, by rw [c7, show k = m by omega], fun j a b => (by first | decide | omega), fun _ _ _ _ _ => rfl, fun _ _ _ _ => rfl, fun _ _ _ _ _ => rfl⟩
  | succ r ih =>
    intro n n' k F Fm Bm kr hn hn' c6 c12 c7 d0 d1 hl
    obtain ⟨n, rfl⟩ : ∃ m, n = m + 1 := ⟨n - 1, (by first | decide | omega)⟩
    obtain ⟨n', rfl⟩ : ∃ m, n' = m + 1 := ⟨n' - 1, (by first | decide | omega)⟩
    have rk : r32 (k : Int) := by unfold r32; omega
    have rm : r32 (m : Int) := by unfold r32; omega
    have he := hV k (by first | decide | omega) (by first | decide | omega)
    obtain ⟨l1, l2, l3⟩ := hl k (by first | decide | omega) (by first | decide | omega)
    have p0 := sumZ_0 hg k (by first | decide | omega)
    have p1 := sumZ_m hg r (k + 1) (by first | decide | omega)
    have g1 := hg k (by first | decide | omega) (by first | decide | omega)
    rw [sumZ] at p1
    rw [f_Part_placeEvents_7, f_M_places_8, if_pos h4, if_pos rk, c6, if_pos rm, if_neg (by first | decide | omega), if_pos (by first | decide | omega), if_pos he, if_pos w0, if_pos v0, if_pos rk, c12, if_pos rm, if_neg (by first | decide | omega), if_pos (by first | decide | omega), l1, c7]
    generalize hM : zup4 (zup4 Bm 13 w 14 (1000 * v + k) (Fm 14 0 0)) 13 w 15 (1000 * v + k) (Fm 14 0 1) = M
    have mn : ∀ c y t x, ¬ (c = 13 ∧ y = w ∧ (t = 14 ∨ t = 15) ∧ x = 1000 * v + k) → M c y t x = Bm c y t x := fun c y t x h => by rw [← hM, zup4_v, if_neg (by first | decide | omega), zup4_v, if_neg (by first | decide | omega)]
    have m14 : M 13 w 14 (1000 * v + k) = nu (sumZ g k) := by rw [← hM, zup4_v, if_neg (by first | decide | omega), zup4_v, if_pos (by first | decide | omega), d0]
    have m15 : M 13 w 15 (1000 * v + k) = de (sumZ g k) := by rw [← hM, zup4_v, if_pos (by first | decide | omega), d1]
    rw [mn 13 w 16 _ (by first | decide | omega), mn 13 w 17 _ (by first | decide | omega), l2, l3, d0, d1, L_plusR hKm (FR_r p0) (FR_r (by first | decide | omega)) (by first | decide | omega), zb_s]
    generalize hX : zup3 (zup3 F 1 (B 4 q 5 k) 0 (sumZ g k)) 4 q 7 (sumZ g k + g k) = X
    have xn : ∀ c y t, ¬ (c = 4 ∧ y = q ∧ t = 7) → ¬ (c = 1 ∧ t = 0 ∧ y = B 4 q 5 k) → X c y t = F c y t := fun c y t h h' => by rw [← hX, zup3_v, if_neg (by first | decide | omega), zup3_v, if_neg (by first | decide | omega)]
    have x7 : X 4 q 7 = sumZ g (k + 1) := by rw [← hX, zup3_v, if_pos (by first | decide | omega), sumZ]
    have x0 : X 1 (B 4 q 5 k) 0 = sumZ g k := by rw [← hX, zup3_v, if_neg (by first | decide | omega), zup3_v, if_pos (by first | decide | omega)]
    have yn : ∀ c y t, ¬ (c = 14 ∧ y = 0 ∧ t ≤ 1) → fr Fm (sumZ g k + g k) c y t = Fm c y t := fun c y t h => fr_n h
    have ih' := ih n n' (k + 1) (F := X) (Fm := fr Fm (sumZ g k + g k)) (Bm := M) (by first | decide | omega) (by first | decide | omega) (by first | decide | omega) (by rw [xn 4 q 6 (by first | decide | omega) (by first | decide | omega)]; exact c6) (by rw [mn 13 w 12 v (by first | decide | omega)]; exact c12) x7 (by rw [fr_0, sumZ]) (by rw [fr_1, sumZ]) (fun j a b => by
      rw [xn 1 _ 1 (by first | decide | omega) (by first | decide | omega), mn 13 w 16 _ (by first | decide | omega), mn 13 w 17 _ (by first | decide | omega)]
      exact hl j a b)
    rw [show ((k + 1 : Nat) : Int) = (k : Int) + 1 by omega] at ih'
    refine zP_m ih' ?_
    intro r1 F' B' r1' Fm' Bm' ⟨q1, q2, q3, q4, q5, q6⟩
    have nk : ¬ ∃ j : Int, (k : Int) + 1 ≤ j ∧ j < m ∧ B 4 q 5 j = B 4 q 5 k := fun ⟨j, j0, j1, j2⟩ => by
      have := hI j k (by first | decide | omega) (by first | decide | omega) (by first | decide | omega) (by first | decide | omega) j2
      omega
    refine ⟨q1, q2, fun j a b => ?_, fun c y t h h' => ?_, fun c y t h => ?_, fun c y t x h => ?_⟩
    · by_cases e : j = k
      · rw [e, q4 1 _ 0 (by first | decide | omega) (fun z => nk z.2.2), x0, q6 13 w 14 _ (by first | decide | omega), q6 13 w 15 _ (by first | decide | omega), m14, m15]
        exact ⟨rfl, rfl, rfl⟩
      · exact q3 j (by first | decide | omega) b
    · rw [q4 c y t h (fun ⟨z1, z2, j, j0, j1, j2⟩ => h' ⟨z1, z2, j, (by first | decide | omega), j1, j2⟩), xn c y t h (fun ⟨z1, z2, z3⟩ => h' ⟨z1, z2, k, (by first | decide | omega), (by first | decide | omega), z3.symm⟩)]
    · rw [q5 c y t h, yn c y t h]
    · rw [q6 c y t x (by first | decide | omega), mn c y t x (by first | decide | omega)]
theorem P_places {K : zK} {Km m : Nat} {q v w : Int} {B : zB} {g : Int → Int} {F : zF} {Fm : zF} {Bm : zB} (hK : 3002 ≤ K.1) (hKm : 812851200 < Km) (h4 : 0 ≤ q ∧ q < K.2 4) (v0 : 0 ≤ v ∧ v < 4) (w0 : 0 ≤ w ∧ w < 3) (hV : ∀ t, 0 ≤ t → t < 200 → 0 ≤ B 4 q 5 t ∧ B 4 q 5 t < K.2 1) (hI : inJ q B) (m1 : m ≤ 200) (hg : ∀ j : Int, 0 ≤ j → j < m → 1 ≤ g j) (hs : sumZ g m ≤ 1000000000000) (c6 : F 4 q 6 = m) (c12 : Bm 13 w 12 v = m) (hl : ∀ j : Int, 0 ≤ j → j < m → F 1 (B 4 q 5 j) 1 = g j ∧ Bm 13 w 16 (1000 * v + j) = nu (g j) ∧ Bm 13 w 17 (1000 * v + j) = de (g j)) : zP (f_Part_placeEvents K q F B) (f_M_places Km w v Fm Bm) (fun _ F' B' _ Fm' Bm' => B' = B ∧ F' 4 q 7 = sumZ g m ∧ (∀ j : Nat, j < m → F' 1 (B 4 q 5 j) 0 = sumZ g j ∧ Bm' 13 w 14 (1000 * v + j) = nu (sumZ g j) ∧ Bm' 13 w 15 (1000 * v + j) = de (sumZ g j)) ∧ PLF q v w 0 m B F Fm Bm F' Fm' Bm') := by
  unfold f_Part_placeEvents f_M_places
  rw [if_pos h4, L_isR hKm (p := 0) ⟨by decide, ⟨WW, by decide⟩, by decide, by decide⟩ (by decide), zb_s]
  have := P_pl (K := K) (Km := Km) (m := m) (q := q) (v := v) (w := w) (B := B) (g := g) hKm h4 v0 w0 hV hI m1 hg hs m K.1 Km 0 (F := zup3 F 4 q 7 0) (Fm := fr Fm 0) (Bm := Bm) (by first | decide | omega) (by first | decide | omega) (by first | decide | omega) (by rw [zup3_v, if_neg (by first | decide | omega)]; exact c6) c12 (by rw [zup3_v, if_pos (by first | decide | omega)]; rfl) (by rw [fr_0]; rfl) (by rw [fr_1]; rfl) (fun j a b => by rw [zup3_v, if_neg (by first | decide | omega)]; exact hl j a b)
  refine zP_m this ?_
  intro r1 F' B' r1' Fm' Bm' ⟨q1, q2, q3, q4, q5, q6⟩
  refine ⟨q1, q2, fun j b => q3 j (by first | decide | omega) b, fun c y t h h' => ?_, fun c y t h => ?_, fun c y t x h => q6 c y t x h⟩
  · rw [q4 c y t h h', zup3_v, if_neg (by first | decide | omega)]
  · rw [q5 c y t h, fr_n h]
end
end
section
section
/-! ===== pitches that two events share, both sides ===== -/
/-- the first of c pitches that is (s, a), from k on -/
def fP (rs ra : Int → Int) (c s a : Int) : Nat → Int → Int
  | 0, _ => -1
  | n + 1, k => if c ≤ k then -1 else if rs k = s ∧ ra k = a then k else fP rs ra c s a n (k + 1)
theorem fP_c {rs ra rs' ra' : Int → Int} {c s a : Int} : ∀ {n : Nat} {k : Int}, (∀ j, k ≤ j → j < c → rs j = rs' j ∧ ra j = ra' j) → fP rs ra c s a n k = fP rs' ra' c s a n k := by
  intro n
  induction n with
  | zero => intro k _; rfl
  | succ n ih =>
    intro k h
    unfold fP
    by_cases z : c ≤ k
    · rw [if_pos z, if_pos z]
    · obtain ⟨h1, h2⟩ := h k (Int.le_refl _) (by first | decide | omega)
      rw [if_neg z, if_neg z, h1, h2, ih (fun j p r => h j (by first | decide | omega) r)]
theorem fP_r {rs ra : Int → Int} {c s a : Int} : ∀ {n : Nat} {k : Int}, 0 ≤ k → c ≤ 6 → -1 ≤ fP rs ra c s a n k ∧ fP rs ra c s a n k < 7 := by
  intro n
  induction n with
  | zero => intro k _ _; unfold fP; omega
  | succ n ih =>
    intro k h0 h1
    unfold fP
    by_cases z : c ≤ k
    · rw [if_pos z]; omega
    · rw [if_neg z]
      by_cases y : rs k = s ∧ ra k = a
      · rw [if_pos y]; omega
      · rw [if_neg y]; exact ih (by first | decide | omega) h1
theorem fP_k {rs ra : Int → Int} {c s a : Int} : ∀ {n : Nat} {k : Int}, 0 ≤ k → fP rs ra c s a n k = -1 ∨ (k ≤ fP rs ra c s a n k ∧ fP rs ra c s a n k < c ∧ rs (fP rs ra c s a n k) = s ∧ ra (fP rs ra c s a n k) = a) := by
  intro n
  induction n with
  | zero => intro k _; exact Or.inl rfl
  | succ n ih =>
    intro k h0
    unfold fP
    by_cases z : c ≤ k
    · rw [if_pos z]; exact Or.inl rfl
    · rw [if_neg z]
      by_cases y : rs k = s ∧ ra k = a
      · rw [if_pos y]; exact Or.inr ⟨Int.le_refl _, (by first | decide | omega), y.1, y.2⟩
      · rw [if_neg y]
        rcases ih (k := k + 1) (by first | decide | omega) with h | ⟨h1, h2, h3⟩
        · exact Or.inl h
        · exact Or.inr ⟨(by first | decide | omega), h2, h3⟩
theorem C_hP2 {K : zK} {e s a c : Int} {F : zF} {B : zB} (he : 0 ≤ e ∧ e < K.2 1) (hc : F 1 e 10 = c) (c6 : c ≤ 6) (c0 : 0 ≤ c) (hr : ∀ k, 0 ≤ k → k < c → r32 (B 1 e 12 k) ∧ r32 (B 1 e 13 k)) (rs : r32 s) (ra : r32 a) : ∀ {n m : Nat} {k : Int}, 0 ≤ k → k ≤ c → c - k < n → c - k < m → f_Event_hasPitch_2 K n k e s a F B = some (if fP (B 1 e 12) (B 1 e 13) c s a m k < 0 then 0 else 1, F, B) := by
  intro n
  induction n with
  | zero => intro m k h0 h1 h2 h3; omega
  | succ n ih =>
    intro m k h0 h1 h2 h3
    obtain ⟨m, rfl⟩ : ∃ j, m = j + 1 := ⟨m - 1, (by first | decide | omega)⟩
    have rk : r32 k := by unfold r32; omega
    have rc : r32 c := by unfold r32; omega
    rw [f_Event_hasPitch_2, if_pos he, if_pos rk, hc, if_pos rc]
    unfold fP
    by_cases z : c ≤ k
    · rw [if_pos z, if_pos z]; rfl
    · obtain ⟨r1, r2⟩ := hr k h0 (by first | decide | omega)
      simp only [f_Event_hasPitch_32]
      rw [if_neg z, if_neg z, if_pos (by first | decide | omega), if_pos r1, if_pos rs]
      by_cases y : B 1 e 12 k = s
      · rw [if_pos y, if_pos r2, if_pos ra]
        by_cases y' : B 1 e 13 k = a
        · rw [if_pos y', if_pos (show B 1 e 12 k = s ∧ B 1 e 13 k = a from ⟨y, y'⟩), if_neg (by first | decide | omega)]
        · rw [if_neg y', if_neg (show ¬ (B 1 e 12 k = s ∧ B 1 e 13 k = a) from fun h => y' h.2)]
          exact ih (by first | decide | omega) (by first | decide | omega) (by first | decide | omega) (by first | decide | omega)
      · rw [if_neg y, if_neg (show ¬ (B 1 e 12 k = s ∧ B 1 e 13 k = a) from fun h => y h.1)]
        exact ih (by first | decide | omega) (by first | decide | omega) (by first | decide | omega) (by first | decide | omega)
theorem C_hasP {K : zK} {e s a c : Int} {F : zF} {B : zB} (hK : 3002 ≤ K.1) (he : 0 ≤ e ∧ e < K.2 1) (hc : F 1 e 10 = c) (c6 : c ≤ 6) (c0 : 0 ≤ c) (hr : ∀ k, 0 ≤ k → k < c → r32 (B 1 e 12 k) ∧ r32 (B 1 e 13 k)) (rs : r32 s) (ra : r32 a) : f_Event_hasPitch K e s a F B = some (if fP (B 1 e 12) (B 1 e 13) c s a 7 0 < 0 then 0 else 1, F, B) := C_hP2 he hc c6 c0 hr rs ra (Int.le_refl _) c0 (by first | decide | omega) (by first | decide | omega)
theorem L_hP3 {K : Nat} {w x s a c : Int} {F : zF} {B : zB} (w0 : 0 ≤ w ∧ w < 3) (hx : 0 ≤ x ∧ x < 4000) (hc : B 13 w 21 x = c) (c6 : c ≤ 6) (c0 : 0 ≤ c) (hr : ∀ k, 0 ≤ k → k < c → r32 (B 13 w 28 (6 * x + k)) ∧ r32 (B 13 w 29 (6 * x + k))) (rs : r32 s) (ra : r32 a) : ∀ {n m : Nat} {k : Int}, 0 ≤ k → k ≤ c → c - k < n → c - k < m → f_M_has_3 K n k w x s a F B = some (fP (fun k => B 13 w 28 (6 * x + k)) (fun k => B 13 w 29 (6 * x + k)) c s a m k, F, B) := by
  intro n
  induction n with
  | zero => intro m k h0 h1 h2 h3; omega
  | succ n ih =>
    intro m k h0 h1 h2 h3
    obtain ⟨m, rfl⟩ : ∃ j, m = j + 1 := ⟨m - 1, (by first | decide | omega)⟩
    have rk : r32 k := by unfold r32; omega
    have rc : r32 c := by unfold r32; omega
    rw [f_M_has_3, if_pos w0, if_pos hx, if_pos rk, hc, if_pos rc]
    unfold fP
    by_cases z : c ≤ k
    · rw [if_pos z, if_pos z]
    · obtain ⟨r1, r2⟩ := hr k h0 (by first | decide | omega)
      simp only [f_M_has_49]
      rw [if_neg z, if_neg z, if_pos (by first | decide | omega), if_pos r1, if_pos rs]
      by_cases y : B 13 w 28 (6 * x + k) = s
      · rw [if_pos y, if_pos r2, if_pos ra]
        by_cases y' : B 13 w 29 (6 * x + k) = a
        · rw [if_pos y', if_pos ⟨y, y'⟩]
        · rw [if_neg y', if_neg (fun h => y' h.2)]
          exact ih (by first | decide | omega) (by first | decide | omega) (by first | decide | omega) (by first | decide | omega)
      · rw [if_neg y, if_neg (fun h => y h.1)]
        exact ih (by first | decide | omega) (by first | decide | omega) (by first | decide | omega) (by first | decide | omega)
theorem L_hasM {K : Nat} {w x s a c : Int} {F : zF} {B : zB} (hK : 3002 ≤ K) (w0 : 0 ≤ w ∧ w < 3) (hx : 0 ≤ x ∧ x < 4000) (hc : B 13 w 21 x = c) (c6 : c ≤ 6) (c0 : 0 ≤ c) (hr : ∀ k, 0 ≤ k → k < c → r32 (B 13 w 28 (6 * x + k)) ∧ r32 (B 13 w 29 (6 * x + k))) (rs : r32 s) (ra : r32 a) : f_M_has K w x s a F B = some (fP (fun k => B 13 w 28 (6 * x + k)) (fun k => B 13 w 29 (6 * x + k)) c s a 7 0, F, B) := L_hP3 w0 hx hc c6 c0 hr rs ra (Int.le_refl _) c0 (by first | decide | omega) (by first | decide | omega)
theorem zsh_f : ∀ k : Fin 6, ∀ a : Fin 64, a.val < 2 ^ k.val → zor (a.val : Int) (zshl 1 (k.val : Int)) = (a.val : Int) + 2 ^ k.val ∧ zor (a.val : Int) 0 = (a.val : Int) := by decide +kernel
/-- a bit for each of the first n for which h holds -/
def shM (h : Int → Bool) : Nat → Int
  | 0 => 0
  | n + 1 => shM h n + (if h n = true then 2 ^ n else 0)
theorem shM_b {h : Int → Bool} : ∀ (n : Nat), 0 ≤ shM h n ∧ shM h n < 2 ^ n := by
  intro n
  induction n with
  | zero => exact ⟨Int.le_refl _, by rw [shM]; decide⟩
  | succ n ih =>
    have p : (2 : Int) ^ (n + 1) = 2 ^ n * 2 := Int.pow_succ 2 n
    have q : (0 : Int) < 2 ^ n := Int.pow_pos (by decide)
    rw [shM, p]
    split <;> omega
theorem shM_0 {h : Int → Bool} : ∀ (n : Nat), shM h n = 0 ↔ ∀ j : Int, 0 ≤ j → j < n → h j = false := by
  intro n
  induction n with
  | zero => exact ⟨fun _ j a b => (by first | decide | omega), fun _ => rfl⟩
  | succ n ih =>
    have b := shM_b (h := h) n
    have q : (0 : Int) < 2 ^ n := Int.pow_pos (by decide)
    rw [shM]
    cases e : h n with
    | true =>
      rw [if_pos rfl]
      exact ⟨fun z => (by first | decide | omega), fun z => by have := z n (by first | decide | omega) (by first | decide | omega); rw [e] at this; exact absurd this (by decide)⟩
    | false =>
      rw [if_neg (by decide)]
      constructor
      · intro z j a b'
        by_cases y : j = n
        · rw [y]; exact e
        · exact ih.mp (by first | decide | omega) j a (by first | decide | omega)
      · intro z
        have := ih.mpr (fun j a b' => z j a (by first | decide | omega))
        omega
theorem zsh_i {k : Nat} {a : Int} (hk : k < 6) (h0 : 0 ≤ a) (h1 : a < 2 ^ k) : zor a (zshl 1 (k : Int)) = a + 2 ^ k ∧ zor a 0 = a := by
  have l : (2 : Int) ^ k ≤ 32 := by
    have : k = 0 ∨ k = 1 ∨ k = 2 ∨ k = 3 ∨ k = 4 ∨ k = 5 := by omega
    rcases this with rfl | rfl | rfl | rfl | rfl | rfl <;> decide
  have h := zsh_f ⟨k, hk⟩ ⟨a.toNat, (by first | decide | omega)⟩ (by
    show a.toNat < 2 ^ k
    have : ((2 ^ k : Nat) : Int) = (2 : Int) ^ k := by
      have : k = 0 ∨ k = 1 ∨ k = 2 ∨ k = 3 ∨ k = 4 ∨ k = 5 := by omega
      rcases this with rfl | rfl | rfl | rfl | rfl | rfl <;> decide
    omega)
  rw [show (((⟨a.toNat, (by first | decide | omega)⟩ : Fin 64).val : Nat) : Int) = a by show ((a.toNat : Nat) : Int) = a; omega] at h
  exact h
/-- whether pitch k of event e is one of event e' -/
def shB (e e' c' : Int) (B : zB) (k : Int) : Bool := decide (0 ≤ fP (B 1 e' 12) (B 1 e' 13) c' (B 1 e 12 k) (B 1 e 13 k) 7 0)
theorem C_sh4 {K : zK} {e e' c c' : Int} {F : zF} {B : zB} (hK : 3002 ≤ K.1) (he : 0 ≤ e ∧ e < K.2 1) (he' : 0 ≤ e' ∧ e' < K.2 1) (hc : F 1 e 10 = c) (c0 : 0 ≤ c ∧ c ≤ 6) (hc' : F 1 e' 10 = c') (c0' : 0 ≤ c' ∧ c' ≤ 6) (hr : ∀ k, 0 ≤ k → k < c → r32 (B 1 e 12 k) ∧ r32 (B 1 e 13 k)) (hr' : ∀ k, 0 ≤ k → k < c' → r32 (B 1 e' 12 k) ∧ r32 (B 1 e' 13 k)) : ∀ (d n k : Nat), (k : Int) + d = c → d < n → f_Event_sharedWith_4 K n k (shM (shB e e' c' B) k) e e' F B = some (shM (shB e e' c' B) c.toNat, F, B) := by
  intro d
  induction d with
  | zero =>
    intro n k hk hn
    obtain ⟨n, rfl⟩ : ∃ m, n = m + 1 := ⟨n - 1, (by first | decide | omega)⟩
    rw [f_Event_sharedWith_4, if_pos he, if_pos (by unfold r32; omega), hc, if_pos (by unfold r32; omega), if_pos (by first | decide | omega), show c.toNat = k by omega]
  | succ d ih =>
    intro n k hk hn
    obtain ⟨n, rfl⟩ : ∃ m, n = m + 1 := ⟨n - 1, (by first | decide | omega)⟩
    obtain ⟨r1, r2⟩ := hr k (by first | decide | omega) (by first | decide | omega)
    have b := shM_b (h := shB e e' c' B) k
    obtain ⟨z1, z2⟩ := zsh_i (k := k) (by first | decide | omega) b.1 b.2
    have ih' := ih n (k + 1) (by first | decide | omega) (by first | decide | omega)
    rw [shM, show ((k + 1 : Nat) : Int) = (k : Int) + 1 by omega] at ih'
    rw [f_Event_sharedWith_4, if_pos he, if_pos (by unfold r32; omega), hc, if_pos (by unfold r32; omega), if_neg (by first | decide | omega), if_pos (by first | decide | omega), if_pos he', C_hasP hK he' hc' c0'.2 c0'.1 hr' r1 r2, zb_s]
    simp only [f_Event_sharedWith_39]
    by_cases y : fP (B 1 e' 12) (B 1 e' 13) c' (B 1 e 12 k) (B 1 e 13 k) 7 0 < 0
    · have : shB e e' c' B k = false := by unfold shB; exact decide_eq_false (by first | decide | omega)
      rw [this, if_neg (by decide), Int.add_zero] at ih'
      rw [if_pos y, if_pos (by decide), if_pos rfl, z2]
      exact ih'
    · have : shB e e' c' B k = true := by unfold shB; exact decide_eq_true (by first | decide | omega)
      rw [this, if_pos rfl] at ih'
      rw [if_neg y, if_pos (by decide), if_neg (by decide), z1]
      exact ih'
theorem C_shared {K : zK} {e e' c c' : Int} {F : zF} {B : zB} (hK : 3002 ≤ K.1) (he : 0 ≤ e ∧ e < K.2 1) (he' : 0 ≤ e' ∧ e' < K.2 1) (hc : F 1 e 10 = c) (c0 : 0 ≤ c ∧ c ≤ 6) (hc' : F 1 e' 10 = c') (c0' : 0 ≤ c' ∧ c' ≤ 6) (hr : ∀ k, 0 ≤ k → k < c → r32 (B 1 e 12 k) ∧ r32 (B 1 e 13 k)) (hr' : ∀ k, 0 ≤ k → k < c' → r32 (B 1 e' 12 k) ∧ r32 (B 1 e' 13 k)) : f_Event_sharedWith K e e' F B = some (shM (shB e e' c' B) c.toNat, F, B) :=
  C_sh4 hK he he' hc c0 hc' c0' hr hr' c.toNat K.1 0 (by first | decide | omega) (by first | decide | omega)
theorem L_sh5 {K : Nat} {w x y c : Int} {F : zF} {B : zB} {h : Int → Bool} (w0 : 0 ≤ w ∧ w < 3) (hx : 0 ≤ x ∧ x < 4000) (hc : B 13 w 21 x = c) (c0 : 0 ≤ c ∧ c ≤ 6) (hh : ∀ k, 0 ≤ k → k < c → ∃ r, f_M_has K w y (B 13 w 28 (6 * x + k)) (B 13 w 29 (6 * x + k)) F B = some (r, F, B) ∧ r32 r ∧ (h k = true ↔ 0 ≤ r)) : ∀ (d n k : Nat), (k : Int) + d = c → d < n → f_M_share_5 K n k (if shM h k = 0 then 0 else 1) w x y F B = some (if shM h c.toNat = 0 then 0 else 1, F, B) := by
  intro d
  induction d with
  | zero =>
    intro n k hk hn
    obtain ⟨n, rfl⟩ : ∃ m, n = m + 1 := ⟨n - 1, (by first | decide | omega)⟩
    rw [f_M_share_5, if_pos w0, if_pos hx, if_pos (by unfold r32; omega), hc, if_pos (by unfold r32; omega), if_pos (by first | decide | omega), show c.toNat = k by omega, if_pos]
    split
    · exact Or.inl rfl
    · exact Or.inr rfl
  | succ d ih =>
    intro n k hk hn
    obtain ⟨n, rfl⟩ : ∃ m, n = m + 1 := ⟨n - 1, (by first | decide | omega)⟩
    obtain ⟨r, e, rr, hr⟩ := hh k (by first | decide | omega) (by first | decide | omega)
    have b := shM_b (h := h) k
    have q : (0 : Int) < 2 ^ k := Int.pow_pos (by decide)
    have ih' := ih n (k + 1) (by first | decide | omega) (by first | decide | omega)
    rw [shM, show ((k + 1 : Nat) : Int) = (k : Int) + 1 by omega] at ih'
    rw [f_M_share_5, if_pos w0, if_pos hx, if_pos (by unfold r32; omega), hc, if_pos (by unfold r32; omega), if_neg (by first | decide | omega)]
    simp only [f_M_share_52, f_M_share_57]
    by_cases z : shM h k = 0
    · rw [if_pos z, if_pos (by decide), if_pos rfl, if_pos (by first | decide | omega), e, zb_s, if_pos rr]
      rw [z] at ih'
      by_cases y : r < 0
      · rw [if_pos y]
        have : ¬ h k = true := fun t => by have := hr.mp t; omega
        rw [if_neg this, if_pos (by decide)] at ih'
        exact ih'
      · rw [if_neg y]
        rw [if_pos (hr.mpr (by first | decide | omega)), if_neg (by first | decide | omega)] at ih'
        exact ih'
    · rw [if_neg z, if_pos (by decide), if_neg (by decide)]
      rw [if_neg (show ¬ shM h k + (if h k = true then 2 ^ k else 0) = 0 by split <;> omega)] at ih'
      exact ih'
theorem P_share {K : zK} {Km : Nat} {w e e' x y : Int} {F : zF} {B : zB} {Fm : zF} {Bm : zB} (hK : 3002 ≤ K.1) (hKm : 3002 ≤ Km) (w0 : 0 ≤ w ∧ w < 3) (he : 0 ≤ e ∧ e < K.2 1) (he' : 0 ≤ e' ∧ e' < K.2 1) (hx : 0 ≤ x ∧ x < 4000) (hy : 0 ≤ y ∧ y < 4000) (h1 : EVW w e x F B Bm) (h2 : EVW w e' y F B Bm) : f_Event_sharedWith K e e' F B = some (shM (shB e e' (F 1 e' 10) B) (F 1 e 10).toNat, F, B) ∧ f_M_share Km w x y Fm Bm = some (if shM (shB e e' (F 1 e' 10) B) (F 1 e 10).toNat = 0 then 0 else 1, Fm, Bm) := by
  obtain ⟨_, _, _, _, _, _, _, _, _, _, _, _, a2, a3, a4, a5⟩ := h1
  obtain ⟨_, _, _, _, _, _, _, _, _, _, _, _, b2, b3, b4, b5⟩ := h2
  have ra : ∀ k, 0 ≤ k → k < F 1 e 10 → r32 (B 1 e 12 k) ∧ r32 (B 1 e 13 k) := fun k u t => by
    have := a4 k u t
    unfold r32
    omega
  have rb : ∀ k, 0 ≤ k → k < F 1 e' 10 → r32 (B 1 e' 12 k) ∧ r32 (B 1 e' 13 k) := fun k u t => by
    have := b4 k u t
    unfold r32
    omega
  refine ⟨C_shared hK he he' rfl a3 rfl b3 ra rb, ?_⟩
  refine L_sh5 w0 hx a2 a3 (fun k u t => ?_) (F 1 e 10).toNat Km 0 (by first | decide | omega) (by first | decide | omega)
  obtain ⟨c1, c2, c3, c4⟩ := a4 k u t
  have rk := ra k u t
  refine ⟨_, L_hasM hKm w0 hy b2 b3.2 b3.1 (fun j p r => ?_) (by rw [← c1]; exact rk.1) (by rw [← c2]; exact rk.2), ?_, ?_⟩
  · obtain ⟨d1, d2, _⟩ := b4 j p r
    rw [← d1, ← d2]
    exact rb j p r
  · have := fP_r (rs := fun k => Bm 13 w 28 (6 * y + k)) (ra := fun k => Bm 13 w 29 (6 * y + k)) (c := F 1 e' 10) (s := Bm 13 w 28 (6 * x + k)) (a := Bm 13 w 29 (6 * x + k)) (n := 7) (k := 0) (Int.le_refl _) b3.2
    unfold r32
    omega
  · unfold shB
    rw [c1, c2, fP_c (rs' := fun k => Bm 13 w 28 (6 * y + k)) (ra' := fun k => Bm 13 w 29 (6 * y + k)) (fun j p r => ⟨(b4 j p r).1, (b4 j p r).2.1⟩)]
    exact decide_eq_true_iff
end
end
section
section
/-! ===== brackets judged, both sides ===== -/
theorem de_128 {D : Int} (h0 : 0 < D) : 0 < de D ∧ de D ≤ WW ∧ (128 % de D = 0 ↔ D % 6350400 = 0) := by
  unfold de gc WW
  obtain ⟨d, hd⟩ : ∃ d : Nat, D = d := ⟨D.toNat, (by first | decide | omega)⟩
  rw [show D.toNat = d by omega, show (812851200 : Int).toNat = 812851200 by decide, hd]
  have g0 : 0 < Nat.gcd d 812851200 := Nat.gcd_pos_of_pos_right _ (by decide)
  obtain ⟨x, hx⟩ := Nat.gcd_dvd_right d 812851200
  obtain ⟨y, hy⟩ := Nat.gcd_dvd_left d 812851200
  generalize hg : Nat.gcd d 812851200 = g at *
  have e : (812851200 : Int) / (g : Int) = x := by
    have : (812851200 : Int) = (g : Int) * (x : Int) := by
      have := congrArg (fun n : Nat => (n : Int)) hx
      simpa using this
    rw [this]
    exact Int.mul_ediv_cancel_left _ (by first | decide | omega)
  rw [e]
  have x0 : 0 < x := by
    rcases Nat.eq_zero_or_pos x with z | z
    · rw [z, Nat.mul_zero] at hx; exact absurd hx (by decide)
    · exact z
  have xl : x ≤ 812851200 := by
    rw [hx]
    exact Nat.le_mul_of_pos_left _ g0
  refine ⟨(by first | decide | omega), (by first | decide | omega), ?_⟩
  constructor
  · intro h
    have h1 : x ∣ 128 := Int.natCast_dvd_natCast.mp (show ((x : Nat) : Int) ∣ ((128 : Nat) : Int) from Int.dvd_of_emod_eq_zero h)
    obtain ⟨t, ht⟩ := h1
    have h2 : 6350400 * t = g := by
      have : x * (6350400 * t) = x * g := by
        calc x * (6350400 * t) = 6350400 * (x * t) := by ac_rfl
          _ = 6350400 * 128 := by rw [← ht]
          _ = g * x := by rw [← hx]
          _ = x * g := Nat.mul_comm _ _
      exact Nat.eq_of_mul_eq_mul_left x0 this
    have h3 : 6350400 ∣ d := ⟨t * y, by rw [hy, ← h2]; ac_rfl⟩
    have := Nat.mod_eq_zero_of_dvd h3
    omega
  · intro h
    have h1 : 6350400 ∣ d := Nat.dvd_of_mod_eq_zero (by first | decide | omega)
    have h2 : 6350400 ∣ g := by rw [← hg]; exact Nat.dvd_gcd h1 ⟨128, by decide⟩
    obtain ⟨t, ht⟩ := h2
    have h3 : t * x = 128 := by
      have : 6350400 * (t * x) = 6350400 * 128 := by
        calc 6350400 * (t * x) = 6350400 * t * x := by ac_rfl
          _ = g * x := by rw [ht]
          _ = 6350400 * 128 := by rw [← hx]
      exact Nat.eq_of_mul_eq_mul_left (by decide) this
    have h4 : x ∣ 128 := ⟨t, by rw [← h3]; exact Nat.mul_comm _ _⟩
    exact Int.emod_eq_zero_of_dvd (show ((x : Nat) : Int) ∣ ((128 : Nat) : Int) from Int.natCast_dvd_natCast.mpr h4)
theorem bar_e {a b bar : Int} (a0 : 0 ≤ a) (h : a < b) (hb : 0 < bar) : a / bar = (b - 1) / bar ↔ b ≤ (a / bar + 1) * bar := by
  have e1 := Int.mul_ediv_add_emod a bar
  have e2 := Int.emod_nonneg a (show bar ≠ 0 by omega)
  have e3 := Int.emod_lt_of_pos a hb
  have f1 := Int.mul_ediv_add_emod (b - 1) bar
  have f2 := Int.emod_nonneg (b - 1) (show bar ≠ 0 by omega)
  have f3 := Int.emod_lt_of_pos (b - 1) hb
  have g : a / bar ≤ (b - 1) / bar := Int.ediv_le_ediv hb (by first | decide | omega)
  rw [Int.add_mul, Int.one_mul, Int.mul_comm (a / bar) bar]
  constructor
  · intro z; rw [← z] at f1; omega
  · intro z
    have : (b - 1) / bar < a / bar + 1 := by
      apply Int.ediv_lt_of_lt_mul hb
      rw [Int.add_mul, Int.one_mul, Int.mul_comm (a / bar) bar]
      omega
    omega
/-- a voice's events and places as both sides have them, ready to be judged -/
def JS (K : zK) (q v w : Int) (m : Nat) (bar : Int) (g : Int → Int) (F : zF) (B : zB) (Fm : zF) (Bm : zB) : Prop := (F 4 q 6 = m ∧ Fm 14 0 36 = m ∧ Fm 14 0 35 = v ∧ Fm 14 0 6 = w ∧ 1 ≤ m ∧ m ≤ 200) ∧ (∀ j : Int, 0 ≤ j → j < m → 1 ≤ g j) ∧ sumZ g m ≤ 100 * bar ∧ (∀ i : Nat, i < m → EVW w (B 4 q 5 i) (1000 * v + i) F B Bm ∧ F 1 (B 4 q 5 i) 0 = sumZ g i ∧ Bm 13 w 14 (1000 * v + i) = nu (sumZ g i) ∧ Bm 13 w 15 (1000 * v + i) = de (sumZ g i) ∧ F 1 (B 4 q 5 i) 1 = g i) ∧ (∀ t, 0 ≤ t → t < 200 → 0 ≤ B 4 q 5 t ∧ B 4 q 5 t < K.2 1)
/-- the bracket at event i stands -/
def BSk (q : Int) (m : Nat) (bar : Int) (g : Int → Int) (F : zF) (B : zB) (i : Nat) : Prop := F 1 (B 4 q 5 i) 5 = 0 ∨ (∃ i' : Nat, i = i' + 1 ∧ F 1 (B 4 q 5 i') 5 = F 1 (B 4 q 5 i) 5) ∨ ∃ j : Nat, i < j ∧ j ≤ m ∧ (∀ t : Nat, i ≤ t → t < j → F 1 (B 4 q 5 t) 5 = F 1 (B 4 q 5 i) 5) ∧ (j = m ∨ ¬ F 1 (B 4 q 5 j) 5 = F 1 (B 4 q 5 i) 5) ∧ sumZ g j ≤ (sumZ g i / bar + 1) * bar ∧ (sumZ g j - sumZ g i) % 6350400 = 0
theorem BSk_f {q bar : Int} {m i : Nat} {g : Int → Int} {F F' : zF} {B : zB} (h : BSk q m bar g F B i) (f : ∀ y, F' 1 y 5 = F 1 y 5) : BSk q m bar g F' B i := by
  unfold BSk at h ⊢
  simp only [f]
  exact h
/-- the bracket that begins at i ends ahead of j, for both loops -/
theorem br_j {K : zK} {Km m i : Nat} {q v w bar : Int} {g : Int → Int} {F : zF} {B : zB} {Fm : zF} {Bm : zB} (h4 : 0 ≤ q ∧ q < K.2 4) (v0 : 0 ≤ v ∧ v < 4) (w0 : 0 ≤ w ∧ w < 3) (hJ : JS K q v w m bar g F B Fm Bm) (hi : i < m) : ∀ (d n n' k : Nat), k + d = m → i < k → d < n → d < n' → ∃ j : Nat, k ≤ j ∧ j ≤ m ∧ f_Part_bracketStands_62 K n k (sumZ g k) (sumZ g i) (F 1 (B 4 q 5 i) 5) q bar F B = f_Part_bracketStands_107 K (sumZ g j) (sumZ g i) bar F B ∧ f_M_lastOuter_2 Km n' (1000 * v + k - 1) w (1000 * v + i) (1000 * v + m) Fm Bm = some (1000 * v + j - 1, Fm, Bm) ∧ (∀ t : Nat, k ≤ t → t < j → F 1 (B 4 q 5 t) 5 = F 1 (B 4 q 5 i) 5) ∧ (j = m ∨ ¬ F 1 (B 4 q 5 j) 5 = F 1 (B 4 q 5 i) 5) := by
  obtain ⟨⟨c6, c36, c35, cw, m0, m1⟩, hg, hs, he, hV⟩ := hJ
  obtain ⟨ei, _⟩ := he i hi
  have b5 := ei.2.2.2.2.2.1
  intro d
  induction d with
  | zero =>
    intro n n' k hk ik hn hn'
    obtain ⟨n, rfl⟩ : ∃ m, n = m + 1 := ⟨n - 1, (by first | decide | omega)⟩
    obtain ⟨n', rfl⟩ : ∃ m, n' = m + 1 := ⟨n' - 1, (by first | decide | omega)⟩
    refine ⟨k, (by first | decide | omega), (by first | decide | omega), ?_, ?_, fun t a b => (by first | decide | omega), Or.inl (by first | decide | omega)⟩
    · rw [f_Part_bracketStands_62, if_pos h4, if_pos (by unfold r32; omega), c6, if_pos (by unfold r32; omega), if_pos (by first | decide | omega)]
    · rw [f_M_lastOuter_2, if_pos (by unfold r32; omega), if_pos (by unfold r32; omega), if_pos (by first | decide | omega), f_M_lastOuter_32]
  | succ d ih =>
    intro n n' k hk ik hn hn'
    obtain ⟨n, rfl⟩ : ∃ m, n = m + 1 := ⟨n - 1, (by first | decide | omega)⟩
    obtain ⟨n', rfl⟩ : ∃ m, n' = m + 1 := ⟨n' - 1, (by first | decide | omega)⟩
    obtain ⟨ek, _, _, _, gk⟩ := he k (by first | decide | omega)
    have k5 := ek.2.2.2.2.2.1
    have hk' := hV k (by first | decide | omega) (by first | decide | omega)
    have r1 : r32 (F 1 (B 4 q 5 k) 5) := by unfold r32; omega
    have r2 : r32 (F 1 (B 4 q 5 i) 5) := by unfold r32; omega
    have e : 1000 * v + (k : Int) - 1 + 1 = 1000 * v + k := by omega
    have cE : f_Part_bracketStands_62 K (n + 1) k (sumZ g k) (sumZ g i) (F 1 (B 4 q 5 i) 5) q bar F B = if F 1 (B 4 q 5 k) 5 = F 1 (B 4 q 5 i) 5 then f_Part_bracketStands_62 K n ((k : Int) + 1) (sumZ g k + F 1 (B 4 q 5 k) 1) (sumZ g i) (F 1 (B 4 q 5 i) 5) q bar F B else f_Part_bracketStands_107 K (sumZ g k) (sumZ g i) bar F B := by
      rw [f_Part_bracketStands_62, if_pos h4, if_pos (by unfold r32; omega), c6, if_pos (by unfold r32; omega), if_neg (by first | decide | omega), if_pos (by first | decide | omega), if_pos hk', if_pos r1, if_pos r2]
    have mE : f_M_lastOuter_2 Km (n' + 1) (1000 * v + k - 1) w (1000 * v + i) (1000 * v + m) Fm Bm = if F 1 (B 4 q 5 k) 5 = F 1 (B 4 q 5 i) 5 then f_M_lastOuter_2 Km n' (1000 * v + k) w (1000 * v + i) (1000 * v + m) Fm Bm else some (1000 * v + k - 1, Fm, Bm) := by
      rw [f_M_lastOuter_2, e, if_pos (by unfold r32; omega), if_pos (by unfold r32; omega), if_neg (by first | decide | omega), if_pos w0, if_pos (by first | decide | omega), if_pos (by first | decide | omega), ← k5.1, ← b5.1, if_pos r1, if_pos r2]
      rfl
    rw [cE, mE]
    by_cases z : F 1 (B 4 q 5 k) 5 = F 1 (B 4 q 5 i) 5
    · rw [if_pos z, if_pos z, gk]
      obtain ⟨j, j0, j1, j2, j3, j4, j5⟩ := ih n n' (k + 1) (by first | decide | omega) (by first | decide | omega) (by first | decide | omega) (by first | decide | omega)
      rw [sumZ, show ((k + 1 : Nat) : Int) = (k : Int) + 1 by omega] at j2
      rw [show 1000 * v + ((k + 1 : Nat) : Int) - 1 = 1000 * v + k by omega] at j3
      refine ⟨j, (by first | decide | omega), j1, j2, j3, fun t a b => ?_, j5⟩
      by_cases y : t = k
      · rw [y]; exact z
      · exact j4 t (by first | decide | omega) b
    · rw [if_neg z, if_neg z]
      exact ⟨k, (by first | decide | omega), (by first | decide | omega), rfl, rfl, fun t a b => (by first | decide | omega), Or.inr z⟩
/-- what the class answers of the bracket at i -/
theorem C_107 {K : zK} {a b bar : Int} {F : zF} {B : zB} (a0 : 0 ≤ a) (h : a < b) (hb : 0 < bar) (b1 : b ≤ 1000000000000) (br : bar ≤ 1000000000000) : f_Part_bracketStands_107 K b a bar F B = some (if b ≤ (a / bar + 1) * bar ∧ (b - a) % 6350400 = 0 then 1 else 0, F, B) := by
  have q1 : 0 ≤ a / bar := Int.ediv_nonneg a0 (by first | decide | omega)
  have q2 : a / bar ≤ a := Int.ediv_le_self _ a0
  have q3 : 0 ≤ (b - 1) / bar := Int.ediv_nonneg (by first | decide | omega) (by first | decide | omega)
  have q4 : (b - 1) / bar ≤ b - 1 := Int.ediv_le_self _ (by first | decide | omega)
  have q5 := Int.emod_nonneg (b - a) (show (6350400 : Int) ≠ 0 by decide)
  have q6 := Int.emod_lt_of_pos (b - a) (show (0 : Int) < 6350400 by decide)
  unfold f_Part_bracketStands_107 f_Part_bracketStands_139 f_Part_bracketStands_140
  rw [zldv_e a0 (by first | decide | omega) hb (by first | decide | omega), zldv_e (by first | decide | omega) (by first | decide | omega) hb (by first | decide | omega), zlrm_e (by first | decide | omega) (by first | decide | omega) (by decide) (by decide), if_pos (lI_n0 hb (by unfold r64; omega)), if_pos (by unfold r64; omega), if_pos (by unfold r64; omega)]
  by_cases z : a / bar = (b - 1) / bar
  · rw [if_pos (zcmp_0.mpr z), if_pos (by unfold r64; omega)]
    have z' := (bar_e a0 h hb).mp z
    by_cases y : (b - a) % 6350400 = 0
    · rw [if_pos (zcmp_0.mpr y), if_pos (by decide), if_pos ⟨z', y⟩]
    · rw [if_neg (fun t => y (zcmp_0.mp t)), if_pos (by decide), if_neg (fun t => y t.2)]
  · rw [if_neg (fun t => z (zcmp_0.mp t)), if_pos (by decide), if_neg (fun t => z ((bar_e a0 h hb).mpr t.1))]
end
end
section
section
/-! ===== brackets judged: the reference ===== -/
theorem FR_k {n d bar r : Int} (h : FR n d bar) (r0 : 0 ≤ r) : FR (r * n) d (r * bar) := by
  obtain ⟨a, b, c, e⟩ := h
  exact ⟨a, b, Int.mul_nonneg r0 c, by rw [Int.mul_assoc, e, Int.mul_assoc]⟩
/-- the step of the reference's loop ahead of the ties -/
def joS (rec : Int → Int → Int → zF → zB → zO) (K : Nat) (l3 l2 l1 : Int) (F10 : zF) (B10 : zB) : zO := if 0 ≤ (F10 14 0 6) ∧ (F10 14 0 6) < 3 then if 0 ≤ (l1 + l3) ∧ (l1 + l3) < 4000 then if r32 (B10 13 (F10 14 0 6) 25 (l1 + l3)) then (if (B10 13 (F10 14 0 6) 25 (l1 + l3)) ≤ 0 then f_M_judge_115 rec K (l1 + l3) l3 l2 l1 F10 B10 else (if l3 = 0 then f_M_judge_110 rec K (l1 + l3) l3 l2 l1 F10 B10 else if 0 ≤ ((l1 + l3) - 1) ∧ ((l1 + l3) - 1) < 4000 then if r32 (B10 13 (F10 14 0 6) 25 ((l1 + l3) - 1)) then (if (B10 13 (F10 14 0 6) 25 ((l1 + l3) - 1)) = (B10 13 (F10 14 0 6) 25 (l1 + l3)) then f_M_judge_115 rec K (l1 + l3) l3 l2 l1 F10 B10 else f_M_judge_110 rec K (l1 + l3) l3 l2 l1 F10 B10) else none else none)) else none else none else none
theorem joS_e {K n : Nat} {l3 l2 l1 : Int} {F : zF} {B : zB} : f_M_judge_48 K (n + 1) l3 l2 l1 F B = if r32 l3 then if r32 (F 14 0 36) then (if (F 14 0 36) ≤ l3 then f_M_judge_265 K l2 F B else zbind (f_M_good K F B) (fun r10 F10 B10 => if r32 r10 then (if r10 = 0 then f_M_judge_265 K l2 F10 B10 else joS (f_M_judge_48 K n) K l3 l2 l1 F10 B10) else none)) else none else none := rfl
theorem L_jo {K : zK} {Km m i j : Nat} {q v w n d : Int} {g : Int → Int} {F : zF} {B : zB} {Fm : zF} {Bm : zB} (hKm : 812851200 < Km) (v0 : 0 ≤ v ∧ v < 4) (w0 : 0 ≤ w ∧ w < 3) (hn : 1 ≤ n ∧ n ≤ 12) (hd : d = 2 ∨ d = 4 ∨ d = 8 ∨ d = 16) (m4 : Fm 13 w 4 = n) (m5 : Fm 13 w 5 = d) (hJ : JS K q v w m (barV n d) g F B Fm Bm) (h17 : Fm 14 0 17 = 0) (hi : i < m) (ij : i < j) (jm : j ≤ m) (hl : f_M_lastOuter Km w (1000 * v + i) (1000 * v + m) Fm Bm = some (1000 * v + j - 1, Fm, Bm)) (h26 : 0 ≤ Bm 13 w 26 (1000 * v + i) ∧ Bm 13 w 26 (1000 * v + i) ≤ 3000) : ∃ G, (∀ c y k, ¬ (c = 14 ∧ y = 0 ∧ k ≤ 1) → G c y k = Fm c y k) ∧ f_M_judgeOuter Km i Fm Bm = some (0, if sumZ g j ≤ (sumZ g i / barV n d + 1) * barV n d ∧ (sumZ g j - sumZ g i) % 6350400 = 0 then G else flM G Bm 13 (Bm 13 w 26 (1000 * v + i)), Bm) := by
  obtain ⟨⟨c6, c36, c35, cw, mm0, mm1⟩, hg, hs, he, hV⟩ := hJ
  obtain ⟨b1, b2, b3, b4, b5⟩ := bar_v hn hd
  have ei := he i hi
  obtain ⟨k, rfl⟩ : ∃ k, j = k + 1 := ⟨j - 1, (by first | decide | omega)⟩
  have ek := he k (by first | decide | omega)
  have ek5 := ek.1.2.2.2.2.1
  have gk := hg k (by first | decide | omega) (by first | decide | omega)
  have s0 := sumZ_0 hg i (by first | decide | omega)
  have s1 := sumZ_0 hg k (by first | decide | omega)
  have s2 := sumZ_m hg (m - (k + 1)) (k + 1) (by first | decide | omega)
  have s3 : sumZ g i < sumZ g (k + 1) := by
    have := sumZ_m (m := k + 1) (fun j a b => hg j a (by first | decide | omega)) (k + 1 - i) i (by first | decide | omega)
    omega
  have e1 : sumZ g (k + 1) = sumZ g k + g k := rfl
  generalize hbar : barV n d = bar at *
  generalize hP : sumZ g i = P at *
  generalize hQ : sumZ g (k + 1) = Q at *
  have q0 : 0 ≤ P / bar := Int.ediv_nonneg s0 (by first | decide | omega)
  have q1 := Int.mul_ediv_add_emod P bar
  have q2 := Int.emod_nonneg P (show bar ≠ 0 by omega)
  have q3 := Int.emod_lt_of_pos P b4
  have q4 : (P / bar + 1) * bar = bar * (P / bar) + bar := by rw [Int.add_mul, Int.one_mul, Int.mul_comm]
  have rn : r32 n := by unfold r32; omega
  have rd : r32 d := by unfold r32; omega
  unfold f_M_judgeOuter
  rw [cw, if_pos w0, c35, c36, hl, zb_s, cw, if_pos w0, if_pos (by first | decide | omega), show 1000 * v + ((k + 1 : Nat) : Int) - 1 = 1000 * v + k by omega, ek.2.2.1, ek.2.2.2.1, ek5.1, ek5.2.1, ek.2.2.2.2, L_plusR hKm (FR_r s1) (FR_r (by first | decide | omega)) (by first | decide | omega), zb_s, ← e1]
  have f6 : fr Fm Q 14 0 6 = w := by rw [fr_n (by first | decide | omega)]; exact cw
  have f4 : fr Fm Q 13 w 4 = n := by rw [fr_n (by first | decide | omega)]; exact m4
  have f5 : fr Fm Q 13 w 5 = d := by rw [fr_n (by first | decide | omega)]; exact m5
  rw [f6, if_pos w0, if_pos (by first | decide | omega), f4, f5, if_pos rn, if_pos rd, ei.2.2.1, ei.2.2.2.1, L_oftR (FR_r s0) b5 (by first | decide | omega) (by first | decide | omega) (by first | decide | omega) (by first | decide | omega) b4 (by first | decide | omega), zb_s, f6, if_pos w0, f4, f5, if_pos rn, if_pos rd, fr_0, fr_1, L_cmpR hKm (FR_r (by first | decide | omega)) (FR_k b1 (by first | decide | omega)) (by first | decide | omega) (by first | decide | omega), zb_s]
  have e160 : ∀ s : Int, s = 0 ∨ s = 1 → f_M_judgeOuter_160 Km (de Q) (nu Q) (1000 * v + i) s (fr Fm Q) Bm = some (0, if s = 1 ∧ (Q - P) % 6350400 = 0 then fr (fr Fm Q) (Q - P) else flM (fr (fr Fm Q) (Q - P)) Bm 13 (Bm 13 w 26 (1000 * v + i)), Bm) := by
    intro s hs'
    have g17 : fr (fr Fm Q) (Q - P) 14 0 17 = 0 := by rw [fr_n (by first | decide | omega), fr_n (by first | decide | omega)]; exact h17
    have g6 : fr (fr Fm Q) (Q - P) 14 0 6 = w := by rw [fr_n (by first | decide | omega), fr_n (by first | decide | omega)]; exact cw
    obtain ⟨d0, d1, d2⟩ := de_128 (D := Q - P) (by first | decide | omega)
    have WWe : WW = 812851200 := rfl
    have rz : 0 ≤ 128 % de (Q - P) ∧ 128 % de (Q - P) < de (Q - P) := ⟨Int.emod_nonneg _ (by first | decide | omega), Int.emod_lt_of_pos _ d0⟩
    have fail : f_M_judgeOuter_206 Km (1000 * v + i) (fr (fr Fm Q) (Q - P)) Bm = some (0, flM (fr (fr Fm Q) (Q - P)) Bm 13 (Bm 13 w 26 (1000 * v + i)), Bm) := by
      unfold f_M_judgeOuter_206 f_M_judgeOuter_221
      rw [g6, if_pos w0, if_pos (by first | decide | omega), L_failAt g17 (by first | decide | omega), zb_s]
    unfold f_M_judgeOuter_160
    rw [f6, if_pos w0, if_pos (by first | decide | omega), ei.2.2.1, ei.2.2.2.1, L_minusR hKm (FR_r (by first | decide | omega)) (FR_r s0) (by first | decide | omega) (by first | decide | omega), zb_s, fr_1]
    rcases hs' with rfl | rfl
    · rw [if_pos (by decide), if_pos rfl, if_neg (fun z => absurd z.1 (by decide))]
      exact fail
    · rw [if_pos (by decide), if_neg (by decide), if_pos (lI_n0 d0 (by unfold r64; omega)), zlrm_e (by decide) (by decide) d0 (by first | decide | omega), if_pos (by unfold r64; omega)]
      by_cases z : 128 % de (Q - P) = 0
      · rw [if_pos (zcmp_0.mpr z), f_M_judgeOuter_221, if_pos ⟨rfl, d2.mp z⟩]
      · rw [if_neg (fun t => z (zcmp_0.mp t)), if_neg (fun t => z (d2.mpr t.2))]
        exact fail
  refine ⟨fr (fr Fm Q) (Q - P), fun c y k h => by rw [fr_n h, fr_n h], ?_⟩
  by_cases z : Q ≤ (P / bar + 1) * bar
  · have r14 : ¬ 0 < (if Q < (P / bar + 1) * bar then (-1 : Int) else if Q = (P / bar + 1) * bar then 0 else 1) := by
      by_cases y : Q < (P / bar + 1) * bar
      · rw [if_pos y]; decide
      · rw [if_neg y, if_pos (by first | decide | omega)]; decide
    rw [if_pos (by split; decide; split <;> decide), if_neg r14, e160 1 (Or.inr rfl)]
    by_cases y : (Q - P) % 6350400 = 0
    · rw [if_pos ⟨rfl, y⟩, if_pos ⟨z, y⟩]
    · rw [if_neg (fun t => y t.2), if_neg (fun t => y t.2)]
  · have r14 : 0 < (if Q < (P / bar + 1) * bar then (-1 : Int) else if Q = (P / bar + 1) * bar then 0 else 1) := by
      rw [if_neg (by first | decide | omega), if_neg (by first | decide | omega)]; decide
    rw [if_pos (by split; decide; split <;> decide), if_pos r14, e160 0 (Or.inl rfl), if_neg (fun t => absurd t.1 (by decide)), if_neg (fun t => z t.1)]
/-- the bracket at event i, both sides -/
theorem P_outer {K : zK} {Km m i : Nat} {q v w n d op : Int} {g : Int → Int} {rec : Int → Int → Int → zF → zB → zO} {F : zF} {B : zB} {Fm : zF} {Bm : zB} (hK : 3002 ≤ K.1) (hKm : 812851200 < Km) (h4 : 0 ≤ q ∧ q < K.2 4) (v0 : 0 ≤ v ∧ v < 4) (w0 : 0 ≤ w ∧ w < 3) (hn : 1 ≤ n ∧ n ≤ 12) (hd : d = 2 ∨ d = 4 ∨ d = 8 ∨ d = 16) (m4 : Fm 13 w 4 = n) (m5 : Fm 13 w 5 = d) (hJ : JS K q v w m (barV n d) g F B Fm Bm) (h17 : Fm 14 0 17 = 0) (hi : i < m) : ∃ b G, f_Part_bracketStands K q i (barV n d) F B = some (b, F, B) ∧ (∀ c y k, ¬ (c = 14 ∧ y = 0 ∧ k ≤ 1) → G c y k = Fm c y k) ∧ ((b = 1 ∧ joS rec Km i op (1000 * v) Fm Bm = f_M_judge_115 rec Km (1000 * v + i) i op (1000 * v) G Bm ∧ BSk q m (barV n d) g F B i) ∨ (b = 0 ∧ joS rec Km i op (1000 * v) Fm Bm = f_M_judge_115 rec Km (1000 * v + i) i op (1000 * v) (flM G Bm 13 (Bm 13 w 26 (1000 * v + i))) Bm ∧ F 1 (B 4 q 5 i) 6 = Bm 14 0 8 (Bm 13 w 26 (1000 * v + i)) ∧ (0 ≤ Bm 13 w 26 (1000 * v + i) ∧ Bm 13 w 26 (1000 * v + i) ≤ 3000) ∧ (0 ≤ F 1 (B 4 q 5 i) 6 ∧ F 1 (B 4 q 5 i) 6 ≤ 3000))) := by
  have hJ' := hJ
  obtain ⟨⟨c6, c36, c35, cw, mm0, mm1⟩, hg, hs, he, hV⟩ := hJ
  obtain ⟨b1, b2, b3, b4, b5⟩ := bar_v hn hd
  obtain ⟨ei, p0, p14, p15, pg⟩ := he i hi
  have e5 := ei.2.2.2.2.2.1
  have e8 := ei.2.2.2.2.2.2.2.1
  have hie := hV i (by first | decide | omega) (by first | decide | omega)
  have r5 : r32 (F 1 (B 4 q 5 i) 5) := by unfold r32; omega
  have ri : r32 (i : Int) := by unfold r32; omega
  have s0 := sumZ_0 hg i (by first | decide | omega)
  by_cases z5 : F 1 (B 4 q 5 i) 5 = 0
  · refine ⟨1, Fm, ?_, fun _ _ _ _ => rfl, Or.inl ⟨rfl, ?_, Or.inl z5⟩⟩
    · unfold f_Part_bracketStands f_Part_bracketStands_42
      rw [if_pos h4, if_pos (by first | decide | omega), if_pos hie, if_pos r5, if_pos z5]
    · unfold joS
      rw [cw, if_pos w0, if_pos (by first | decide | omega), ← e5.1, if_pos r5, if_pos (by first | decide | omega)]
  · -- a bracket is asked for: its loop, and the reference's
    have go : ∃ b G, f_Part_bracketStands_36 K (F 1 (B 4 q 5 i) 5) q i (barV n d) F B = some (b, F, B) ∧ (∀ c y k, ¬ (c = 14 ∧ y = 0 ∧ k ≤ 1) → G c y k = Fm c y k) ∧ ((b = 1 ∧ f_M_judgeOuter Km i Fm Bm = some (0, G, Bm) ∧ BSk q m (barV n d) g F B i) ∨ (b = 0 ∧ f_M_judgeOuter Km i Fm Bm = some (0, flM G Bm 13 (Bm 13 w 26 (1000 * v + i)), Bm))) := by
      obtain ⟨k1, hk1⟩ : ∃ k, K.1 = k + 1 := ⟨K.1 - 1, (by first | decide | omega)⟩
      obtain ⟨j, j0, j1, j2, j3, j4, j5⟩ := br_j (Km := Km) h4 v0 w0 hJ' hi (m - (i + 1)) k1 Km (i + 1) (by first | decide | omega) (by first | decide | omega) (by first | decide | omega) (by first | decide | omega)
      rw [show 1000 * v + ((i + 1 : Nat) : Int) - 1 = 1000 * v + i by omega] at j3
      obtain ⟨G, gn, jo⟩ := L_jo (K := K) (Km := Km) (i := i) (j := j) hKm v0 w0 hn hd m4 m5 hJ' h17 hi (by first | decide | omega) j1 j3 ⟨(e8 (by first | decide | omega)).2.1, (e8 (by first | decide | omega)).2.2.1⟩
      have lt : sumZ g i < sumZ g j := by
        have := sumZ_m (m := j) (fun t a b => hg t a (by first | decide | omega)) (j - i) i (by first | decide | omega)
        omega
      have le := sumZ_m hg (m - j) j (by first | decide | omega)
      have c62 : f_Part_bracketStands_36 K (F 1 (B 4 q 5 i) 5) q i (barV n d) F B = f_Part_bracketStands_107 K (sumZ g j) (sumZ g i) (barV n d) F B := by
        unfold f_Part_bracketStands_36
        rw [if_pos (by unfold r64; omega), if_pos (zcmp_g.mpr b4), if_pos h4, if_pos (by first | decide | omega), if_pos hie, p0, show f_Part_bracketStands_62 K K.1 = f_Part_bracketStands_62 K (k1 + 1) by rw [← hk1], f_Part_bracketStands_62, if_pos h4, if_pos ri, c6, if_pos (by unfold r32; omega), if_neg (by first | decide | omega), if_pos (by first | decide | omega), if_pos hie, if_pos r5, if_pos r5, if_pos rfl, pg, ← j2]
        rfl
      rw [c62, C_107 s0 lt b4 (by first | decide | omega) (by first | decide | omega), jo]
      by_cases y : sumZ g j ≤ (sumZ g i / barV n d + 1) * barV n d ∧ (sumZ g j - sumZ g i) % 6350400 = 0
      · refine ⟨1, G, by rw [if_pos y], gn, Or.inl ⟨rfl, by rw [if_pos y], Or.inr (Or.inr ⟨j, (by first | decide | omega), j1, fun t a b => ?_, j5, y.1, y.2⟩)⟩⟩
        by_cases e : t = i
        · rw [e]
        · exact j4 t (by first | decide | omega) b
      · exact ⟨0, G, by rw [if_neg y], gn, Or.inr ⟨rfl, by rw [if_neg y]⟩⟩
    obtain ⟨b, G, g1, g2, g3⟩ := go
    have e110 : ∀ G', f_M_judgeOuter Km i Fm Bm = some (0, G', Bm) → f_M_judge_110 rec Km (1000 * v + i) i op (1000 * v) Fm Bm = f_M_judge_115 rec Km (1000 * v + i) i op (1000 * v) G' Bm := fun G' h => by
      unfold f_M_judge_110
      rw [h, zb_s]
    have fin : ∀ (cl : f_Part_bracketStands K q i (barV n d) F B = f_Part_bracketStands_36 K (F 1 (B 4 q 5 i) 5) q i (barV n d) F B) (mr : joS rec Km i op (1000 * v) Fm Bm = f_M_judge_110 rec Km (1000 * v + i) i op (1000 * v) Fm Bm), ∃ b G, f_Part_bracketStands K q i (barV n d) F B = some (b, F, B) ∧ (∀ c y k, ¬ (c = 14 ∧ y = 0 ∧ k ≤ 1) → G c y k = Fm c y k) ∧ ((b = 1 ∧ joS rec Km i op (1000 * v) Fm Bm = f_M_judge_115 rec Km (1000 * v + i) i op (1000 * v) G Bm ∧ BSk q m (barV n d) g F B i) ∨ (b = 0 ∧ joS rec Km i op (1000 * v) Fm Bm = f_M_judge_115 rec Km (1000 * v + i) i op (1000 * v) (flM G Bm 13 (Bm 13 w 26 (1000 * v + i))) Bm ∧ F 1 (B 4 q 5 i) 6 = Bm 14 0 8 (Bm 13 w 26 (1000 * v + i)) ∧ (0 ≤ Bm 13 w 26 (1000 * v + i) ∧ Bm 13 w 26 (1000 * v + i) ≤ 3000) ∧ (0 ≤ F 1 (B 4 q 5 i) 6 ∧ F 1 (B 4 q 5 i) 6 ≤ 3000))) := by
      intro cl mr
      refine ⟨b, G, by rw [cl]; exact g1, g2, ?_⟩
      rcases g3 with ⟨h1, h2, h3⟩ | ⟨h1, h2⟩
      · exact Or.inl ⟨h1, by rw [mr]; exact e110 _ h2, h3⟩
      · have e8' := e8 (by first | decide | omega)
        exact Or.inr ⟨h1, by rw [mr]; exact e110 _ h2, e8'.1, ⟨e8'.2.1, e8'.2.2.1⟩, e8'.2.2.2⟩
    by_cases i0 : i = 0
    · refine fin ?_ ?_
      · unfold f_Part_bracketStands
        rw [if_pos h4, if_pos (by first | decide | omega), if_pos hie, if_pos r5, if_neg z5, if_pos ri, if_pos (by first | decide | omega)]
      · unfold joS
        rw [cw, if_pos w0, if_pos (by first | decide | omega), ← e5.1, if_pos r5, if_neg (by first | decide | omega), if_pos (by first | decide | omega)]
    · obtain ⟨i', rfl⟩ : ∃ k, i = k + 1 := ⟨i - 1, (by first | decide | omega)⟩
      obtain ⟨ep, _⟩ := he i' (by first | decide | omega)
      have ep5 := ep.2.2.2.2.2.1
      have hpe := hV i' (by first | decide | omega) (by first | decide | omega)
      have rp : r32 (F 1 (B 4 q 5 i') 5) := by unfold r32; omega
      have x1 : ((i' + 1 : Nat) : Int) - 1 = i' := by omega
      have x2 : 1000 * v + ((i' + 1 : Nat) : Int) - 1 = 1000 * v + i' := by omega
      by_cases y : F 1 (B 4 q 5 i') 5 = F 1 (B 4 q 5 ((i' + 1 : Nat) : Int)) 5
      · refine ⟨1, Fm, ?_, fun _ _ _ _ => rfl, Or.inl ⟨rfl, ?_, Or.inr (Or.inl ⟨i', rfl, y⟩)⟩⟩
        · unfold f_Part_bracketStands f_Part_bracketStands_42
          rw [if_pos h4, if_pos (by first | decide | omega), if_pos hie, if_pos r5, if_neg z5, if_pos ri, if_neg (by first | decide | omega), x1, if_pos (by first | decide | omega), if_pos hpe, if_pos rp, if_pos y]
        · unfold joS
          rw [cw, if_pos w0, if_pos (by first | decide | omega), ← e5.1, if_pos r5, if_neg (by first | decide | omega), if_neg (by first | decide | omega), x2, if_pos (by first | decide | omega), ← ep5.1, if_pos rp, if_pos y]
      · refine fin ?_ ?_
        · unfold f_Part_bracketStands
          rw [if_pos h4, if_pos (by first | decide | omega), if_pos hie, if_pos r5, if_neg z5, if_pos ri, if_neg (by first | decide | omega), x1, if_pos (by first | decide | omega), if_pos hpe, if_pos rp, if_neg y]
        · unfold joS
          rw [cw, if_pos w0, if_pos (by first | decide | omega), ← e5.1, if_pos r5, if_neg (by first | decide | omega), if_neg (by first | decide | omega), x2, if_pos (by first | decide | omega), ← ep5.1, if_pos rp, if_neg y]
end
end
section
section
/-! ===== ties and slurs judged, both sides ===== -/
theorem mkb_f : ∀ a : Fin 128, (zand (a.val : Int) 1 = 0 ∨ zand (a.val : Int) 1 = 1) ∧ (zand (a.val : Int) 2 = 0 ∨ zand (a.val : Int) 2 = 2) ∧ (zand (a.val : Int) 4 = 0 ∨ zand (a.val : Int) 4 = 4) := by decide +kernel
theorem mkb_i {a : Int} (h0 : 0 ≤ a) (h1 : a < 128) : (zand a 1 = 0 ∨ zand a 1 = 1) ∧ (zand a 2 = 0 ∨ zand a 2 = 2) ∧ (zand a 4 = 0 ∨ zand a 4 = 4) := by
  have h := mkb_f ⟨a.toNat, (by first | decide | omega)⟩
  rw [show (((⟨a.toNat, (by first | decide | omega)⟩ : Fin 128).val : Nat) : Int) = a by show ((a.toNat : Nat) : Int) = a; omega] at h
  exact h
/-- whether a slur is open behind an event with marks a -/
def opN (a op : Int) : Int := if zand a 2 = 0 then (if zand a 4 = 0 then op else 0) else 1
/-- the event's slurs don't stand -/
def slX (a op : Int) : Prop := (¬ zand a 4 = 0 ∧ op = 0) ∨ (¬ zand a 2 = 0 ∧ ¬ op = 0 ∧ zand a 4 = 0)
theorem opN_b {a op : Int} (h : op = 0 ∨ op = 1) : opN a op = 0 ∨ opN a op = 1 := by
  unfold opN
  split
  · split
    · exact h
    · exact Or.inl rfl
  · exact Or.inr rfl
theorem L_176 {K : Nat} {rec : Int → Int → Int → zF → zB → zO} {a x i op l1 w : Int} {F : zF} {B : zB} (a0 : 0 ≤ a) (a1 : a < 128) (hop : op = 0 ∨ op = 1) (hw : F 14 0 6 = w) (w0 : 0 ≤ w ∧ w < 3) (hx : 0 ≤ x ∧ x < 4000) (h20 : 0 ≤ B 13 w 20 x ∧ B 13 w 20 x ≤ 3000) (hb : F 14 0 17 = 0 ∨ bad F) : ∃ G, f_M_judge_176 rec K a x i op l1 F B = rec (i + 1) (opN a op) l1 G (zup4 B 13 w 27 x (opN a op)) ∧ ((bad F → G = F) ∧ (F 14 0 17 = 0 → ¬ slX a op → G = F) ∧ (F 14 0 17 = 0 → slX a op → G = flM F B 11 (B 13 w 20 x))) := by
  obtain ⟨_, h2, h4⟩ := mkb_i a0 a1
  have ro : r32 op := by unfold r32; omega
  have r2 : r32 (zand a 2) := by unfold r32; omega
  have r4 : r32 (zand a 4) := by unfold r32; omega
  have f20 : 0 ≤ B 13 w 20 x ∧ B 13 w 20 x < 3001 := by omega
  have fl : ∀ G : zF, G 14 0 17 = 0 ∨ bad G → f_M_failAt K 11 (B 13 w 20 x) G B = some (0, if G 14 0 17 = 0 then flM G B 11 (B 13 w 20 x) else G, B) := fun G h => by
    rcases h with h | h
    · rw [L_failAt h f20, if_pos h]
    · rw [L_failAtB h, if_neg (by unfold bad at h; omega)]
  have nb : ∀ {G : zF}, bad G → ¬ G 14 0 17 = 0 := fun h => by unfold bad at h; omega
  have e239 : ∀ (G : zF) (op' : Int), G 14 0 6 = w → op' = 0 ∨ op' = 1 → f_M_judge_239 rec K a x i op' l1 G B = rec (i + 1) (if zand a 2 = 0 then op' else 1) l1 G (zup4 B 13 w 27 x (if zand a 2 = 0 then op' else 1)) := fun G op' hG ho => by
    unfold f_M_judge_239 f_M_judge_248
    rw [if_pos r2, hG, if_pos w0, if_pos hx, if_pos ho, if_pos w0, if_pos hx, if_pos (Or.inr rfl)]
    rcases h2 with y | y
    · rw [y, if_pos (Int.le_refl _), if_pos rfl]
    · rw [y, if_neg (by decide), if_neg (by decide)]
  rcases h4 with y4 | y4
  · -- it closes no slur
    have e176 : f_M_judge_176 rec K a x i op l1 F B = f_M_judge_212 rec K a x i op l1 F B := by
      unfold f_M_judge_176 f_M_judge_203
      rw [if_pos r4, y4, if_pos (Int.le_refl _), if_pos (by decide), if_pos (Int.le_refl _)]
    rw [e176]
    unfold f_M_judge_212
    rw [if_pos r2]
    rcases h2 with y2 | y2
    · refine ⟨F, ?_, fun _ => rfl, fun _ _ => rfl, fun _ h => ?_⟩
      · rw [y2, if_pos (Int.le_refl _), e239 F op hw hop]
        unfold opN
        rw [if_pos y2, if_pos y2, if_pos y4]
      · rcases h with h | h
        · exact absurd y4 h.1
        · exact absurd y2 h.1
    · have ex : opN a op = 1 := by unfold opN; rw [if_neg (by first | decide | omega)]
      have n2 : ¬ zand a 2 = 0 := by omega
      rcases hop with rfl | rfl
      · refine ⟨F, ?_, fun _ => rfl, fun _ _ => rfl, fun _ h => ?_⟩
        · rw [if_neg (by first | decide | omega), if_pos (by decide), if_pos rfl, e239 F 0 hw (Or.inl rfl), if_neg n2, ex]
        · rcases h with h | h
          · exact absurd y4 h.1
          · exact absurd rfl h.2.1
      · rw [if_neg (by first | decide | omega), if_pos (by decide), if_neg (by decide), hw, if_pos w0, if_pos hx, fl F hb, zb_s, e239 _ 1 (by split; rw [flM_n (by decide)]; exact hw; exact hw) (Or.inr rfl), if_neg n2, ex]
        refine ⟨_, rfl, fun h => if_neg (nb h), fun _ h => absurd (Or.inr ⟨n2, by decide, y4⟩) h, fun h _ => if_pos h⟩
  · have n4 : ¬ zand a 4 = 0 := by omega
    -- a slur closes
    have e203 : ∀ G : zF, G 14 0 6 = w → f_M_judge_203 rec K a x i op l1 G B = rec (i + 1) (opN a op) l1 G (zup4 B 13 w 27 x (opN a op)) := fun G hG => by
      unfold f_M_judge_203 f_M_judge_212
      rw [if_pos r4, if_neg (by first | decide | omega), if_pos r2]
      rcases h2 with y2 | y2
      · rw [if_pos (by first | decide | omega), e239 G 0 hG (Or.inl rfl)]
        unfold opN
        rw [if_pos y2, if_pos y2, if_neg n4]
      · rw [if_neg (by first | decide | omega), if_pos (by decide), if_pos rfl, e239 G 0 hG (Or.inl rfl)]
        unfold opN
        rw [if_neg (by first | decide | omega), if_neg (by first | decide | omega)]
    unfold f_M_judge_176
    rw [if_pos r4, if_neg (by first | decide | omega), if_pos ro]
    rcases hop with rfl | rfl
    · rw [if_pos rfl, hw, if_pos w0, if_pos hx, fl F hb, zb_s, e203 _ (by split; rw [flM_n (by decide)]; exact hw; exact hw)]
      exact ⟨_, rfl, fun h => if_neg (nb h), fun _ h => absurd (Or.inl ⟨n4, rfl⟩) h, fun h _ => if_pos h⟩
    · rw [if_neg (by decide), e203 F hw]
      refine ⟨F, rfl, fun _ => rfl, fun _ _ => rfl, fun _ h => ?_⟩
      rcases h with h | h
      · exact absurd h.2 (by decide)
      · exact absurd h.2.2 n4
theorem L_48X {K n : Nat} {i op l1 v : Int} {F : zF} {B : zB} (hb : bad F) (hop : op = 0 ∨ op = 1) (ri : r32 i) (r36 : r32 (F 14 0 36)) (h35 : F 14 0 35 = v) (v0 : 0 ≤ v ∧ v < 4) : f_M_judge_48 K (n + 1) i op l1 F B = some (0, F, B) := by
  have e265 : f_M_judge_265 K op F B = some (0, F, B) := by
    have e284 : f_M_judge_284 K F B = some (0, F, B) := by
      unfold f_M_judge_284 f_M_judge_325
      rw [L_goodB hb, zb_s, if_pos (by decide), if_pos rfl]
    unfold f_M_judge_265
    rcases hop with rfl | rfl
    · rw [if_pos (by decide), if_pos rfl, e284]
    · rw [if_pos (by decide), if_neg (by decide), h35, if_pos v0, L_failAtB hb, zb_s, e284]
  rw [joS_e, if_pos ri, if_pos r36]
  by_cases c : F 14 0 36 ≤ i
  · rw [if_pos c, e265]
  · rw [if_neg c, L_goodB hb, zb_s, if_pos (by decide), if_pos rfl, e265]
/-- the class's part of the step behind the tie -/
theorem C_95 {K : zK} {rec : Int → Int → Int → Int → zF → zB → zO} {e i op q p : Int} {F : zF} {B : zB} (he : 0 ≤ e ∧ e < K.2 1) (a0 : 0 ≤ F 1 e 7) (a1 : F 1 e 7 < 128) (hop : op = 0 ∨ op = 1) : (¬ slX (F 1 e 7) op → f_Part_judge_95 rec K e i op q p F B = rec (i + 1) (opN (F 1 e 7) op) q p (zup3 F 1 e 11 (opN (F 1 e 7) op)) B) ∧ (slX (F 1 e 7) op → f_Part_judge_95 rec K e i op q p F B = some (11 + 16 * F 1 e 9, F, B)) := by
  obtain ⟨_, h2, h4⟩ := mkb_i a0 a1
  unfold f_Part_judge_95 f_Part_judge_112 f_Part_judge_113 f_Part_judge_128 f_Part_judge_154 f_Part_judge_168 f_Part_judge_173 f_Part_judge_142
  simp only [C_has he, zb_s, if_pos he]
  generalize F 1 e 7 = a at *
  have n24 : ¬ (2 : Int) = 0 := by decide
  have n44 : ¬ (4 : Int) = 0 := by decide
  have n1 : ¬ (1 : Int) = 0 := by decide
  have r0 : r32 0 := by decide
  have r1 : r32 1 := by decide
  rcases hop with rfl | rfl
  · rcases h4 with y4 | y4
    · rcases h2 with y2 | y2
      · have sx : ¬ slX a 0 := fun h => by rcases h with h | h; exact h.1 y4; exact h.1 y2
        have ox : opN a 0 = 0 := by unfold opN; rw [if_pos y2, if_pos y4]
        refine ⟨fun _ => ?_, fun h => absurd h sx⟩
        rw [ox, y4, y2]
        simp
        simp only [if_pos r0, if_pos r1]
      · have sx : ¬ slX a 0 := fun h => by rcases h with h | h; exact h.1 y4; exact h.2.1 rfl
        have ox : opN a 0 = 1 := by unfold opN; rw [if_neg (by first | decide | omega)]
        refine ⟨fun _ => ?_, fun h => absurd h sx⟩
        rw [ox, y4, y2]
        simp
        simp only [if_pos r0, if_pos r1]
    · have sx : slX a 0 := Or.inl ⟨(by first | decide | omega), rfl⟩
      refine ⟨fun h => absurd sx h, fun _ => ?_⟩
      rw [y4]
      simp
      decide
  · rcases h4 with y4 | y4
    · rcases h2 with y2 | y2
      · have sx : ¬ slX a 1 := fun h => by rcases h with h | h; exact h.1 y4; exact h.1 y2
        have ox : opN a 1 = 1 := by unfold opN; rw [if_pos y2, if_pos y4]
        refine ⟨fun _ => ?_, fun h => absurd h sx⟩
        rw [ox, y4, y2]
        simp
        simp only [if_pos r0, if_pos r1]
      · have sx : slX a 1 := Or.inr ⟨(by first | decide | omega), by decide, y4⟩
        refine ⟨fun h => absurd sx h, fun _ => ?_⟩
        rw [y4, y2]
        simp
        decide
    · have n4 : ¬ zand a 4 = 0 := by omega
      rcases h2 with y2 | y2
      · have sx : ¬ slX a 1 := fun h => by rcases h with h | h; exact absurd h.2 (by decide); exact n4 h.2.2
        have ox : opN a 1 = 0 := by unfold opN; rw [if_pos y2, if_neg n4]
        refine ⟨fun _ => ?_, fun h => absurd h sx⟩
        rw [ox, y4, y2]
        simp
        simp only [if_pos r0, if_pos r1]
      · have sx : ¬ slX a 1 := fun h => by rcases h with h | h; exact absurd h.2 (by decide); exact n4 h.2.2
        have ox : opN a 1 = 1 := by unfold opN; rw [if_neg (by first | decide | omega)]
        refine ⟨fun _ => ?_, fun h => absurd h sx⟩
        rw [ox, y4, y2]
        simp
        simp only [if_pos r0, if_pos r1]
end
end
section
section
/-! ===== a voice's events judged in turn, both sides ===== -/
theorem JS_f {K : zK} {q v w bar : Int} {m : Nat} {g : Int → Int} {F F' : zF} {B : zB} {Fm Fm' : zF} {Bm Bm' : zB} (h : JS K q v w m bar g F B Fm Bm) (f4 : F' 4 q 6 = F 4 q 6) (f1 : ∀ y k, k ≤ 10 → F' 1 y k = F 1 y k) (g36 : Fm' 14 0 36 = Fm 14 0 36) (g35 : Fm' 14 0 35 = Fm 14 0 35) (g6 : Fm' 14 0 6 = Fm 14 0 6) (mB : ∀ k x, ¬ k = 27 → Bm' 13 w k x = Bm 13 w k x) (m8 : ∀ y, Bm' 14 0 8 y = Bm 14 0 8 y) : JS K q v w m bar g F' B Fm' Bm' := by
  obtain ⟨a, b, c, d, e⟩ := h
  refine ⟨by rw [f4, g36, g35, g6]; exact a, b, c, fun i hi => ?_, e⟩
  obtain ⟨d1, d2, d3, d4, d5⟩ := d i hi
  rw [f1 _ 0 (by decide), f1 _ 1 (by decide), mB 14 _ (by decide), mB 15 _ (by decide)]
  exact ⟨EVW_h d1 (fun k _ h => f1 _ k h) (fun _ _ => rfl) (fun k _ h => mB k _ (by first | decide | omega)) (fun k y h _ _ _ => mB k y (by first | decide | omega)) m8, d2, d3, d4, d5⟩
/-- what judging changes -/
def JFr (q v w : Int) (m : Nat) (B : zB) (F : zF) (Fm : zF) (Bm : zB) (F' : zF) (Fm' : zF) (Bm' : zB) : Prop := (∀ c y k, ¬ (c = 1 ∧ k = 11 ∧ ∃ j : Int, 0 ≤ j ∧ j < m ∧ B 4 q 5 j = y) → F' c y k = F c y k) ∧ (∀ c y k, ¬ (c = 14 ∧ y = 0 ∧ (k ≤ 1 ∨ k = 17 ∨ k = 18)) → Fm' c y k = Fm c y k) ∧ (∀ c y k x, ¬ (c = 13 ∧ y = w ∧ k = 27 ∧ 1000 * v ≤ x ∧ x < 1000 * v + m) → Bm' c y k x = Bm c y k x)
theorem JFr_r {q v w : Int} {m : Nat} {B : zB} {F : zF} {Fm : zF} {Bm : zB} : JFr q v w m B F Fm Bm F Fm Bm := ⟨fun _ _ _ _ => rfl, fun _ _ _ _ => rfl, fun _ _ _ _ _ => rfl⟩
theorem JFr_t {q v w : Int} {m : Nat} {B : zB} {F F1 F2 : zF} {Fm Fm1 Fm2 : zF} {Bm Bm1 Bm2 : zB} (h : JFr q v w m B F Fm Bm F1 Fm1 Bm1) (h' : JFr q v w m B F1 Fm1 Bm1 F2 Fm2 Bm2) : JFr q v w m B F Fm Bm F2 Fm2 Bm2 := ⟨fun c y k n => by rw [h'.1 c y k n, h.1 c y k n], fun c y k n => by rw [h'.2.1 c y k n, h.2.1 c y k n], fun c y k x n => by rw [h'.2.2 c y k x n, h.2.2 c y k x n]⟩
def SLs (q v w : Int) (i : Nat) (B : zB) (F : zF) (Bm : zB) : Prop := ∀ j : Nat, j < i → F 1 (B 4 q 5 j) 11 = Bm 13 w 27 (1000 * v + j) ∧ (F 1 (B 4 q 5 j) 11 = 0 ∨ F 1 (B 4 q 5 j) 11 = 1)
/-- a tie has an event behind it -/
def TIk (q : Int) (m : Nat) (F : zF) (B : zB) (i : Nat) : Prop := zand (F 1 (B 4 q 5 i) 7) 1 ≤ 0 ∨ i + 1 < m
theorem L_176X {K n m i : Nat} {a op v w : Int} {F : zF} {B : zB} (a0 : 0 ≤ a) (a1 : a < 128) (hop : op = 0 ∨ op = 1) (hw : F 14 0 6 = w) (w0 : 0 ≤ w ∧ w < 3) (hi : i < m) (m1 : m ≤ 200) (h35 : F 14 0 35 = v) (v0 : 0 ≤ v ∧ v < 4) (h36 : F 14 0 36 = m) (h20 : 0 ≤ B 13 w 20 (1000 * v + i) ∧ B 13 w 20 (1000 * v + i) ≤ 3000) (hb : bad F) : ∃ B', f_M_judge_176 (f_M_judge_48 K (n + 1)) K a (1000 * v + i) i op (1000 * v) F B = some (0, F, B') ∧ (∀ c y k x, ¬ (c = 13 ∧ y = w ∧ k = 27 ∧ 1000 * v ≤ x ∧ x < 1000 * v + m) → B' c y k x = B c y k x) := by
  obtain ⟨G, e, g1, _⟩ := L_176 (K := K) (rec := f_M_judge_48 K (n + 1)) (i := i) (l1 := 1000 * v) a0 a1 hop hw w0 (x := 1000 * v + i) (by first | decide | omega) h20 (Or.inr hb)
  rw [g1 hb] at e
  refine ⟨_, by rw [e]; exact L_48X hb (opN_b hop) (by unfold r32; omega) (by rw [h36]; unfold r32; omega) h35 v0, fun c y k x h => by rw [zup4_v, if_neg (by first | decide | omega)]⟩
theorem P_jl {K : zK} {Km m : Nat} {q p v w n d : Int} {g : Int → Int} {B : zB} {F0 : zF} {Fm0 : zF} {Bm0 : zB} {Q : Int → zF → zB → Int → zF → zB → Prop} (hK : 3002 ≤ K.1) (hKm : 812851200 < Km) (h4 : 0 ≤ q ∧ q < K.2 4) (hp : 0 ≤ p ∧ p < K.2 6) (v0 : 0 ≤ v ∧ v < 4) (w0 : 0 ≤ w ∧ w < 3) (hn : 1 ≤ n ∧ n ≤ 12) (hd : d = 2 ∨ d = 4 ∨ d = 8 ∨ d = 16) (e4 : F0 6 p 4 = n) (e5 : F0 6 p 5 = d) (m4 : Fm0 13 w 4 = n) (m5 : Fm0 13 w 5 = d) (hI : inJ q B)
  (hEnd : ∀ (n1 n2 : Nat) op F Fm Bm, op = 0 ∨ op = 1 → JS K q v w m (barV n d) g F B Fm Bm → Fm 14 0 17 = 0 → JFr q v w m B F0 Fm0 Bm0 F Fm Bm → SLs q v w m B F Bm → (∀ i : Nat, i < m → BSk q m (barV n d) g F B i ∧ TIk q m F B i) → zP (f_Part_judge_26 K (n1 + 1) m op q p F B) (f_M_judge_48 Km (n2 + 1) m op (1000 * v) Fm Bm) Q)
  (hX : ∀ r F r' Fm Bm, JFr q v w m B F0 Fm0 Bm0 F Fm Bm → bad Fm → r = Fm 14 0 17 + 16 * Fm 14 0 18 → 0 ≤ Fm 14 0 18 ∧ Fm 14 0 18 ≤ 3000 → Q r F B r' Fm Bm) : ∀ (r n1 n2 i : Nat) {op : Int} {F : zF} {Fm : zF} {Bm : zB}, i + r = m → r + 1 < n1 → r + 1 < n2 → op = 0 ∨ op = 1 → JS K q v w m (barV n d) g F B Fm Bm → Fm 14 0 17 = 0 → JFr q v w m B F0 Fm0 Bm0 F Fm Bm → SLs q v w i B F Bm → (∀ t : Nat, t < i → BSk q m (barV n d) g F B t ∧ TIk q m F B t) → zP (f_Part_judge_26 K n1 i op q p F B) (f_M_judge_48 Km n2 i op (1000 * v) Fm Bm) Q := by
  intro r
  induction r with
  | zero =>
    intro n1 n2 i op F Fm Bm ir hn1 hn2 hop hJ h17 hf hsl hbs
    obtain ⟨n1, rfl⟩ : ∃ k, n1 = k + 1 := ⟨n1 - 1, (by first | decide | omega)⟩
    obtain ⟨n2, rfl⟩ : ∃ k, n2 = k + 1 := ⟨n2 - 1, (by first | decide | omega)⟩
    obtain rfl : i = m := by omega
    exact hEnd n1 n2 op F Fm Bm hop hJ h17 hf hsl hbs
  | succ r ih =>
    intro n1 n2 i op F Fm Bm ir hn1 hn2 hop hJ h17 hf hsl hbs
    obtain ⟨n1, rfl⟩ : ∃ k, n1 = k + 1 := ⟨n1 - 1, (by first | decide | omega)⟩
    obtain ⟨n2, rfl⟩ : ∃ k, n2 = k + 1 + 1 := ⟨n2 - 2, (by first | decide | omega)⟩
    have hi : i < m := by omega
    have c4 : F 6 p 4 = n := by rw [hf.1 6 p 4 (by first | decide | omega)]; exact e4
    have c5 : F 6 p 5 = d := by rw [hf.1 6 p 5 (by first | decide | omega)]; exact e5
    have d4 : Fm 13 w 4 = n := by rw [hf.2.1 13 w 4 (by first | decide | omega)]; exact m4
    have d5 : Fm 13 w 5 = d := by rw [hf.2.1 13 w 5 (by first | decide | omega)]; exact m5
    obtain ⟨b, G, bs, gn, hh⟩ := P_outer (rec := f_M_judge_48 Km (n2 + 1)) (op := op) hK hKm h4 v0 w0 hn hd d4 d5 hJ h17 hi
    have hJ' := hJ
    obtain ⟨⟨c6, c36, c35, cw, mm0, mm1⟩, hg, hs, he, hV⟩ := hJ
    obtain ⟨ei, p0, p14, p15, pg⟩ := he i hi
    have hie := hV i (by first | decide | omega) (by first | decide | omega)
    have ri : r32 (i : Int) := by unfold r32; omega
    have rm : r32 (m : Int) := by unfold r32; omega
    have e7 := ei.2.2.2.2.2.2.2.2.1
    have e9 := ei.2.2.2.2.2.2.2.2.2.2.1
    have a0 := e7.2.1
    have a1 := e7.2.2
    have h20 : 0 ≤ Bm 13 w 20 (1000 * v + i) ∧ Bm 13 w 20 (1000 * v + i) ≤ 3000 := ⟨e9.2.1, e9.2.2.1⟩
    have p20 : 0 ≤ Bm 14 0 8 (Bm 13 w 20 (1000 * v + i)) ∧ Bm 14 0 8 (Bm 13 w 20 (1000 * v + i)) ≤ 3000 := by rw [← e9.1]; exact e9.2.2.2
    have gf : JFr q v w m B F Fm Bm F G Bm := ⟨fun _ _ _ _ => rfl, fun c y k h => gn c y k (by first | decide | omega), fun _ _ _ _ _ => rfl⟩
    have g17 : G 14 0 17 = 0 := by rw [gn _ _ _ (by first | decide | omega)]; exact h17
    have g6 : G 14 0 6 = w := by rw [gn _ _ _ (by first | decide | omega)]; exact cw
    have g35 : G 14 0 35 = v := by rw [gn _ _ _ (by first | decide | omega)]; exact c35
    have g36 : G 14 0 36 = m := by rw [gn _ _ _ (by first | decide | omega)]; exact c36
    have hx : 0 ≤ 1000 * v + (i : Int) ∧ 1000 * v + (i : Int) < 4000 := by omega
    -- a fault told: what is left comes to nothing
    have fl : ∀ (s t : Int) (Bm' : zB) (r : Int), 1 ≤ s → s ≤ 15 → 0 ≤ Bm 14 0 8 t ∧ Bm 14 0 8 t ≤ 3000 → r = s + 16 * Bm 14 0 8 t → (∀ c y k x, ¬ (c = 13 ∧ y = w ∧ k = 27 ∧ 1000 * v ≤ x ∧ x < 1000 * v + m) → Bm' c y k x = Bm c y k x) → zP (some (r, F, B)) (some (0, flM G Bm s t, Bm')) Q := fun s t Bm' r s0 s1 t0 e hB => by
      refine zP_s (hX r F 0 (flM G Bm s t) Bm' (JFr_t hf ⟨fun _ _ _ _ => rfl, fun c y k h => by rw [flM_n (by first | decide | omega), gn c y k (by first | decide | omega)], hB⟩) (flM_b s0 s1) (by rw [flM_17, flM_18]; exact e) (by rw [flM_18]; exact t0))
    have flw : ∀ s t, flM G Bm s t 14 0 6 = w ∧ flM G Bm s t 14 0 35 = v ∧ flM G Bm s t 14 0 36 = m := fun s t => by rw [flM_n (by decide), flM_n (by decide), flM_n (by decide)]; exact ⟨g6, g35, g36⟩
    rw [f_Part_judge_26, if_pos h4, if_pos ri, c6, if_pos rm, if_neg (by first | decide | omega), if_pos (by first | decide | omega), if_pos hp, C_bar hp c4 c5 hn hd, zb_s, bs, zb_s, joS_e, if_pos ri, c36, if_pos rm, if_neg (show ¬ (m : Int) ≤ (i : Int) by omega), L_good h17, zb_s, if_pos (show r32 1 by decide), if_neg (show ¬ (1 : Int) = 0 by decide)]
    rcases hh with ⟨rfl, hm, hbk⟩ | ⟨rfl, hm, h6, h26, h6b⟩
    case inr =>
      rw [if_pos (show r32 0 by decide), if_pos (show (0 : Int) = 0 from rfl), if_pos hie, hm]
      have bd : bad (flM G Bm 13 (Bm 13 w 26 (1000 * v + i))) := flM_b (by decide) (by decide)
      obtain ⟨w6, w35, w36⟩ := flw 13 (Bm 13 w 26 (1000 * v + i))
      obtain ⟨Bm', t1, t2⟩ := L_176X (K := Km) (n := n2) (op := op) a0 a1 hop w6 w0 hi mm1 w35 v0 w36 (B := Bm) h20 bd
      have e115 : f_M_judge_115 (f_M_judge_48 Km (n2 + 1)) Km (1000 * v + i) i op (1000 * v) (flM G Bm 13 (Bm 13 w 26 (1000 * v + i))) Bm = some (0, flM G Bm 13 (Bm 13 w 26 (1000 * v + i)), Bm') := by
        unfold f_M_judge_115 f_M_judge_160
        obtain ⟨y1, _, _⟩ := mkb_i a0 a1
        rw [w6, if_pos w0, if_pos hx, ← e7.1, if_pos (show r32 (zand (F 1 (B 4 q 5 i) 7) 1) by unfold r32; omega)]
        rcases y1 with y1 | y1
        · rw [if_pos (by first | decide | omega), t1]
        · rw [if_neg (by first | decide | omega), if_pos (show r32 ((i : Int) + 1) by unfold r32; omega), w36, if_pos rm, if_pos w0, if_pos hx, L_failAtB bd, zb_s]
          by_cases z : (i : Int) + 1 = m
          · rw [if_pos z, t1]
          · rw [if_neg z]
            have hne := hV ((i + 1 : Nat) : Int) (by first | decide | omega) (by first | decide | omega)
            have en := (he (i + 1) (by first | decide | omega)).1
            have sh := (P_share (Km := Km) (Fm := flM G Bm 13 (Bm 13 w 26 (1000 * v + i))) hK (by first | decide | omega) w0 hie hne hx (y := 1000 * v + ((i + 1 : Nat) : Int)) (by first | decide | omega) ei en).2
            rw [show 1000 * v + (i : Int) + 1 = 1000 * v + ((i + 1 : Nat) : Int) by omega, sh, zb_s]
            by_cases y : shM (shB (B 4 q 5 i) (B 4 q 5 ((i + 1 : Nat) : Int)) (F 1 (B 4 q 5 ((i + 1 : Nat) : Int)) 10) B) (F 1 (B 4 q 5 i) 10).toNat = 0
            · rw [if_pos y, if_pos (show r32 0 by decide), if_pos (show (0 : Int) = 0 from rfl), w6, if_pos w0, if_pos hx, L_failAtB bd, zb_s, t1]
            · rw [if_neg y, if_pos (show r32 1 by decide), if_neg (show ¬ (1 : Int) = 0 by decide), t1]
      rw [e115]
      exact fl 13 _ Bm' _ (by decide) (by decide) (by rw [← h6]; exact h6b) (by rw [h6]) t2
    case inl =>
      rw [if_pos (show r32 1 by decide), if_neg (show ¬ (1 : Int) = 0 by decide), if_pos hie, hm]
      -- behind the tie
      have tail : TIk q m F B i → zP (f_Part_judge_95 (f_Part_judge_26 K n1) K (B 4 q 5 i) i op q p F B) (f_M_judge_176 (f_M_judge_48 Km (n2 + 1)) Km (F 1 (B 4 q 5 i) 7) (1000 * v + i) i op (1000 * v) G Bm) Q := by
        intro hti
        obtain ⟨c1, c2⟩ := C_95 (K := K) (rec := f_Part_judge_26 K n1) (i := i) (op := op) (q := q) (p := p) (B := B) hie a0 a1 hop
        obtain ⟨G', e, _, k1, k2⟩ := L_176 (K := Km) (rec := f_M_judge_48 Km (n2 + 1)) (i := i) (l1 := 1000 * v) (op := op) a0 a1 hop g6 w0 hx (B := Bm) h20 (Or.inl g17)
        by_cases sx : slX (F 1 (B 4 q 5 i) 7) op
        · rw [c2 sx, e, k2 g17 sx, L_48X (flM_b (by decide) (by decide)) (opN_b hop) (by unfold r32; omega) (by rw [(flw _ _).2.2]; exact rm) (flw _ _).2.1 v0]
          exact fl 11 _ _ _ (by decide) (by decide) p20 (by rw [e9.1]) (fun c y k x h => by rw [zup4_v, if_neg (by first | decide | omega)])
        · rw [c1 sx, e, k1 g17 sx]
          have own : ∃ j : Int, 0 ≤ j ∧ j < m ∧ B 4 q 5 j = B 4 q 5 i := ⟨i, (by first | decide | omega), (by first | decide | omega), rfl⟩
          have fr2 : JFr q v w m B F G Bm (zup3 F 1 (B 4 q 5 i) 11 (opN (F 1 (B 4 q 5 i) 7) op)) G (zup4 Bm 13 w 27 (1000 * v + i) (opN (F 1 (B 4 q 5 i) 7) op)) := ⟨fun c y k h => by rw [zup3_v, if_neg (fun z => h ⟨z.1, z.2.2, by rw [z.2.1]; exact own⟩)], fun _ _ _ _ => rfl, fun c y k x h => by rw [zup4_v, if_neg (by first | decide | omega)]⟩
          have ih' := ih n1 (n2 + 1) (i + 1) (op := opN (F 1 (B 4 q 5 i) 7) op) (F := zup3 F 1 (B 4 q 5 i) 11 (opN (F 1 (B 4 q 5 i) 7) op)) (Fm := G) (Bm := zup4 Bm 13 w 27 (1000 * v + i) (opN (F 1 (B 4 q 5 i) 7) op)) (by first | decide | omega) (by first | decide | omega) (by first | decide | omega) (opN_b hop) (JS_f hJ' (by rw [zup3_v, if_neg (by first | decide | omega)]) (fun y k h => by rw [zup3_v, if_neg (by first | decide | omega)]) (by rw [g36, c36]) (by rw [g35, c35]) (by rw [g6, cw]) (fun k x h => by rw [zup4_v, if_neg (by first | decide | omega)]) (fun y => by rw [zup4_v, if_neg (by first | decide | omega)])) g17 (JFr_t hf (JFr_t gf fr2)) (fun j hj => by
            by_cases z : j = i
            · rw [z, zup3_v, if_pos (by first | decide | omega), zup4_v, if_pos (by first | decide | omega)]
              exact ⟨rfl, opN_b hop⟩
            · have ne : ¬ B 4 q 5 j = B 4 q 5 i := fun y => by
                have := hI j i (by first | decide | omega) (by first | decide | omega) (by first | decide | omega) (by first | decide | omega) y
                omega
              rw [zup3_v, if_neg (fun y => ne y.2.1), zup4_v, if_neg (by first | decide | omega)]
              exact hsl j (by first | decide | omega)) (fun t ht => by
            refine ⟨BSk_f (F := F) ?_ (fun y => by rw [zup3_v, if_neg (by first | decide | omega)]), ?_⟩
            · by_cases z : t = i
              · rw [z]; exact hbk
              · exact (hbs t (by first | decide | omega)).1
            · unfold TIk
              rw [zup3_v, if_neg (by first | decide | omega)]
              by_cases z : t = i
              · rw [z]; exact hti
              · exact (hbs t (by first | decide | omega)).2)
          rw [show ((i + 1 : Nat) : Int) = (i : Int) + 1 by omega] at ih'
          exact ih'
      -- a tie that holds nothing
      have tieX : zP (some (10 + 16 * F 1 (B 4 q 5 i) 9, F, B)) (f_M_judge_160 (f_M_judge_48 Km (n2 + 1)) Km (F 1 (B 4 q 5 i) 7) (1000 * v + i) i op (1000 * v) G Bm) Q := by
        obtain ⟨w6, w35, w36⟩ := flw 10 (Bm 13 w 20 (1000 * v + i))
        obtain ⟨Bm', t1, t2⟩ := L_176X (K := Km) (n := n2) (op := op) a0 a1 hop w6 w0 hi mm1 w35 v0 w36 (B := Bm) h20 (flM_b (by decide) (by decide))
        unfold f_M_judge_160
        rw [g6, if_pos w0, if_pos hx, L_failAt g17 (by first | decide | omega), zb_s, t1]
        exact fl 10 _ Bm' _ (by decide) (by decide) p20 (by rw [e9.1]) t2
      rw [C_has hie, zb_s]
      unfold f_M_judge_115
      obtain ⟨y1, _, _⟩ := mkb_i a0 a1
      rw [g6, if_pos w0, if_pos hx, ← e7.1, if_pos (show r32 (zand (F 1 (B 4 q 5 i) 7) 1) by unfold r32; omega)]
      rcases y1 with y1 | y1
      · rw [if_pos y1, if_pos (show r32 0 by decide), if_pos (show (0 : Int) = 0 from rfl), if_pos (show zand (F 1 (B 4 q 5 i) 7) 1 ≤ 0 by omega)]
        exact tail (Or.inl (by first | decide | omega))
      · rw [if_neg (show ¬ zand (F 1 (B 4 q 5 i) 7) 1 = 0 by omega), if_pos (show r32 1 by decide), if_neg (show ¬ (1 : Int) = 0 by decide), if_neg (show ¬ zand (F 1 (B 4 q 5 i) 7) 1 ≤ 0 by omega), if_pos (show r32 ((i : Int) + 1) by unfold r32; omega), g36, if_pos rm]
        unfold f_Part_tiedPitches f_Part_tiedPitches_27
        rw [if_pos ri, if_neg (show ¬ (i : Int) < 0 by omega), if_pos h4, if_pos (show r32 ((i : Int) + 1) by unfold r32; omega), c6, if_pos rm]
        by_cases z : (i : Int) + 1 = m
        · rw [if_pos (show (m : Int) ≤ (i : Int) + 1 by omega), zb_s, if_pos (show r32 0 by decide), if_pos (show (0 : Int) = 0 from rfl), if_pos z]
          exact tieX
        · have hne := hV ((i + 1 : Nat) : Int) (by first | decide | omega) (by first | decide | omega)
          have en := (he (i + 1) (by first | decide | omega)).1
          obtain ⟨sc, sm⟩ := P_share (Km := Km) (Fm := G) hK (show 3002 ≤ Km by omega) w0 hie hne hx (y := 1000 * v + ((i + 1 : Nat) : Int)) (by first | decide | omega) ei en
          have sb := shM_b (h := shB (B 4 q 5 i) (B 4 q 5 ((i + 1 : Nat) : Int)) (F 1 (B 4 q 5 ((i + 1 : Nat) : Int)) 10) B) (F 1 (B 4 q 5 i) 10).toNat
          have c10 := ei.2.2.2.2.2.2.2.2.2.2.2.2.2.1
          have p64 : (2 : Int) ^ (F 1 (B 4 q 5 i) 10).toNat ≤ 64 := by
            obtain ⟨k, hk⟩ : ∃ k : Nat, F 1 (B 4 q 5 i) 10 = k := ⟨(F 1 (B 4 q 5 i) 10).toNat, (by first | decide | omega)⟩
            have : k = 0 ∨ k = 1 ∨ k = 2 ∨ k = 3 ∨ k = 4 ∨ k = 5 ∨ k = 6 := by omega
            rw [hk]
            rcases this with rfl | rfl | rfl | rfl | rfl | rfl | rfl <;> decide
          rw [if_neg (show ¬ (m : Int) ≤ (i : Int) + 1 by omega), if_pos (show 0 ≤ (i : Int) ∧ (i : Int) < 200 by omega), if_pos hie, C_has hie, zb_s, if_neg (show ¬ zand (F 1 (B 4 q 5 i) 7) 1 = 0 by omega), if_pos (show r32 1 by decide), if_neg (show ¬ (1 : Int) = 0 by decide), if_pos (show 0 ≤ (i : Int) + 1 ∧ (i : Int) + 1 < 200 by omega), if_pos hie, show (i : Int) + 1 = ((i + 1 : Nat) : Int) by omega, if_pos hne, sc, zb_s, zb_s, if_neg (show ¬ ((i + 1 : Nat) : Int) = m by omega), show 1000 * v + (i : Int) + 1 = 1000 * v + ((i + 1 : Nat) : Int) by omega, sm, zb_s]
          generalize shM (shB (B 4 q 5 i) (B 4 q 5 ((i + 1 : Nat) : Int)) (F 1 (B 4 q 5 ((i + 1 : Nat) : Int)) 10) B) (F 1 (B 4 q 5 i) 10).toNat = sv at sb
          rw [if_pos (show r32 sv by unfold r32; omega)]
          by_cases y : sv = 0
          · rw [if_pos y, if_pos y, if_pos (show r32 0 by decide), if_pos (show (0 : Int) = 0 from rfl)]
            exact tieX
          · rw [if_neg y, if_neg y, if_pos (show r32 1 by decide), if_neg (show ¬ (1 : Int) = 0 by decide)]
            exact tail (Or.inr (by first | decide | omega))
end
end
section
section
/-! ===== values of notes: strengths and choice, as the class has them ===== -/
/-- the value k in parts of 512 of a whole -/
def fv (k : Int) : Int := (512 / 2 ^ (k / 3).toNat) * (if k % 3 = 0 then 7 else if k % 3 = 1 then 6 else 4) / 4
def bc (n d : Int) : Int := if 8 ≤ d ∧ n % 3 = 0 then 3 else if d ≤ 4 then 1 else 2
def st5 (u a : Int) : Int := if a % u = 0 then 6 else if a % (u / 2) = 0 then 5 else if a % (u / 4) = 0 then 4 else if a % (u / 8) = 0 then 3 else if a % (u / 16) = 0 then 2 else 1
/-- the strength of the place a -/
def st (n d a : Int) : Int := if a = 0 ∨ a = 512 / d * n then 9 else if n % 2 = 0 ∧ 2 * a = 512 / d * n then 8 else if a % (512 / d * bc n d) = 0 then 7 else st5 (512 / d) a
abbrev bw (p f t : Int) : Prop := (f / p + 1) * p < t
def bt5 (u f t : Int) : Int := if bw u f t then 6 else if bw (u / 2) f t then 5 else if bw (u / 4) f t then 4 else if bw (u / 8) f t then 3 else if bw (u / 16) f t then 2 else 1
/-- the greatest strength between f and t -/
def bt (n d f t : Int) : Int := if n % 2 = 0 ∧ 2 * f < 512 / d * n ∧ 512 / d * n < 2 * t then 8 else if bw (512 / d * bc n d) f t then 7 else bt5 (512 / d) f t
def mx (a b : Int) : Int := if a ≤ b then b else a
abbrev stnd (n d f k : Int) : Prop := bt n d f (f + fv k) ≤ mx (st n d f) (st n d (f + fv k))
/-- the first of m from k on for which P holds -/
def fsN (P : Int → Bool) : Nat → Int → Int
  | 0, _ => -1
  | m + 1, k => if P k = true then k else fsN P m (k + 1)
def gvF (l : Int) : Int := if fsN (fun k => decide (fv k ≤ l)) 24 0 < 0 then 23 else fsN (fun k => decide (fv k ≤ l)) 24 0
def nvF (n d f l : Int) : Int := if fsN (fun k => decide (fv k ≤ l ∧ stnd n d f k)) 24 0 < 0 then gvF l else fsN (fun k => decide (fv k ≤ l ∧ stnd n d f k)) 24 0
theorem fv_f : ∀ k : Fin 24, (0 ≤ 2 - zrm (k.val : Int) 3 ∧ 2 - zrm (k.val : Int) 3 < ztl 4) ∧ zdv ((zshr 512 (zdv (k.val : Int) 3)) * (ztv 4 (2 - zrm (k.val : Int) 3))) 4 = fv (k.val : Int) ∧ 4 ≤ fv (k.val : Int) ∧ fv (k.val : Int) ≤ 896 := by decide +kernel
theorem C_fine {K : zK} {k : Int} {F : zF} {B : zB} (h0 : 0 ≤ k) (h1 : k < 24) : f_S_fineValue K k F B = some (fv k, F, B) := by
  have h := fv_f ⟨k.toNat, (by first | decide | omega)⟩
  rw [show (((⟨k.toNat, (by first | decide | omega)⟩ : Fin 24).val : Nat) : Int) = k by show ((k.toNat : Nat) : Int) = k; omega] at h
  unfold f_S_fineValue
  rw [if_pos h.1, h.2.1]
theorem fv_b {k : Int} (h0 : 0 ≤ k) (h1 : k < 24) : 4 ≤ fv k ∧ fv k ≤ 896 := by
  have h := fv_f ⟨k.toNat, (by first | decide | omega)⟩
  rw [show (((⟨k.toNat, (by first | decide | omega)⟩ : Fin 24).val : Nat) : Int) = k by show ((k.toNat : Nat) : Int) = k; omega] at h
  exact h.2.2
theorem fsN_r {P : Int → Bool} : ∀ (m : Nat) {k : Int}, 0 ≤ k → fsN P m k = -1 ∨ (k ≤ fsN P m k ∧ fsN P m k < k + m ∧ P (fsN P m k) = true) := by
  intro m
  induction m with
  | zero => intro k _; exact Or.inl rfl
  | succ m ih =>
    intro k h0
    unfold fsN
    by_cases c : P k = true
    · rw [if_pos c]; exact Or.inr ⟨Int.le_refl _, (by first | decide | omega), c⟩
    · rw [if_neg c]
      rcases ih (k := k + 1) (by first | decide | omega) with h | ⟨h1, h2, h3⟩
      · exact Or.inl h
      · exact Or.inr ⟨(by first | decide | omega), (by first | decide | omega), h3⟩
theorem fsN_n {P : Int → Bool} : ∀ (m : Nat) {k : Int}, 0 ≤ k → ∀ j, k ≤ j → j < k + m → (j < fsN P m k ∨ fsN P m k < 0) → P j = false := by
  intro m
  induction m with
  | zero => intro k _ j a b; omega
  | succ m ih =>
    intro k h0 j a b c
    unfold fsN at c
    by_cases e : P k = true
    · rw [if_pos e] at c; omega
    · rw [if_neg e] at c
      by_cases z : j = k
      · rw [z]; cases h : P k with
        | true => exact absurd h e
        | false => rfl
      · exact ih (by first | decide | omega) j (by first | decide | omega) (by first | decide | omega) c
theorem gvF_b {l : Int} : 0 ≤ gvF l ∧ gvF l < 24 := by
  unfold gvF
  rcases fsN_r (P := fun k => decide (fv k ≤ l)) 24 (k := 0) (Int.le_refl _) with h | ⟨h1, h2, _⟩
  · rw [h, if_pos (by decide)]; decide
  · rw [if_neg (by first | decide | omega)]; omega
theorem nvF_b {n d f l : Int} : 0 ≤ nvF n d f l ∧ nvF n d f l < 24 := by
  unfold nvF
  rcases fsN_r (P := fun k => decide (fv k ≤ l ∧ stnd n d f k)) 24 (k := 0) (Int.le_refl _) with h | ⟨h1, h2, _⟩
  · rw [h, if_pos (by decide)]; exact gvF_b
  · rw [if_neg (by first | decide | omega)]; omega
theorem C_gv2 {K : zK} {l : Int} {F : zF} {B : zB} (rl : r32 l) : ∀ (d n : Nat) {k : Int}, 0 ≤ k → k + d = 24 → d < n → f_S_greatestValue_2 K n k l F B = some (if fsN (fun k => decide (fv k ≤ l)) d k < 0 then 23 else fsN (fun k => decide (fv k ≤ l)) d k, F, B) := by
  intro d
  induction d with
  | zero =>
    intro n k h0 hk hn
    obtain ⟨n, rfl⟩ : ∃ m, n = m + 1 := ⟨n - 1, (by first | decide | omega)⟩
    rw [f_S_greatestValue_2, if_pos (by unfold r32; omega), if_pos (by first | decide | omega)]
    rfl
  | succ d ih =>
    intro n k h0 hk hn
    obtain ⟨n, rfl⟩ : ∃ m, n = m + 1 := ⟨n - 1, (by first | decide | omega)⟩
    have b := fv_b (k := k) h0 (by first | decide | omega)
    rw [f_S_greatestValue_2, if_pos (by unfold r32; omega), if_neg (by first | decide | omega), C_fine h0 (by first | decide | omega), zb_s, if_pos (by unfold r32; omega), if_pos rl]
    unfold fsN
    by_cases c : fv k ≤ l
    · rw [if_neg (by first | decide | omega), if_pos (decide_eq_true c), if_neg (by first | decide | omega)]
    · rw [if_pos (by first | decide | omega), if_neg (show ¬ decide (fv k ≤ l) = true from fun h => c (of_decide_eq_true h))]
      exact ih n (by first | decide | omega) (by first | decide | omega) (by first | decide | omega)
theorem C_great {K : zK} {l : Int} {F : zF} {B : zB} (hK : 3002 ≤ K.1) (rl : r32 l) : f_S_greatestValue K l F B = some (gvF l, F, B) := C_gv2 rl 24 K.1 (Int.le_refl _) (by decide) (by first | decide | omega)
theorem un_z {u : Int} (hu : u = 256 ∨ u = 128 ∨ u = 64 ∨ u = 32) : (zshr u 0 = u ∧ zshr u 1 = u / 2 ∧ zshr u 2 = u / 4 ∧ zshr u 3 = u / 8 ∧ zshr u 4 = u / 16) ∧ (2 ≤ u / 16 ∧ u / 16 ≤ 256 ∧ 2 ≤ u / 8 ∧ u / 8 ≤ 256 ∧ 2 ≤ u / 4 ∧ u / 4 ≤ 256 ∧ 2 ≤ u / 2 ∧ u / 2 ≤ 256) := by
  rcases hu with rfl | rfl | rfl | rfl <;> decide
theorem C_st5 {K : zK} {u a : Int} {F : zF} {B : zB} (hK : 3002 ≤ K.1) (hu : u = 256 ∨ u = 128 ∨ u = 64 ∨ u = 32) (a0 : 0 ≤ a) (a1 : a ≤ 100000) : f_S_strength_42 K K.1 0 u a F B = some (st5 u a, F, B) := by
  obtain ⟨⟨z0, z1, z2, z3, z4⟩, zz⟩ := un_z hu
  obtain ⟨m, hm⟩ : ∃ m, K.1 = m + 6 := ⟨K.1 - 6, (by first | decide | omega)⟩
  have stp : ∀ (m : Nat) (k k' r p : Int), 0 ≤ k → k < 5 → k + 1 = k' → 6 - k = r → zshr u k = p → 2 ≤ p → p ≤ 256 → f_S_strength_42 K (m + 1) k u a F B = if a % p = 0 then some (r, F, B) else f_S_strength_42 K m k' u a F B := fun m k k' r p h0 h1 ek er e p0 p1 => by
    have q1 := Int.emod_nonneg a (show p ≠ 0 by omega)
    have q2 := Int.emod_lt_of_pos a (show 0 < p by omega)
    rw [f_S_strength_42, if_pos (by unfold r32; omega), if_neg (by first | decide | omega), e, if_pos (iI_n0 (by first | decide | omega) (by unfold r32; omega)), zrm_e a0 (by unfold r32; omega) (by first | decide | omega) (by unfold r32; omega), if_pos (by unfold r32; omega), ek, er]
  have s5 : f_S_strength_42 K (m + 1) 5 u a F B = some (1, F, B) := by rw [f_S_strength_42, if_pos (by decide), if_pos (by decide)]
  have s4 := stp (m + 1) 4 5 2 _ (by decide) (by decide) (by decide) (by decide) z4 (by first | decide | omega) (by first | decide | omega)
  have s3 := stp (m + 1 + 1) 3 4 3 _ (by decide) (by decide) (by decide) (by decide) z3 (by first | decide | omega) (by first | decide | omega)
  have s2 := stp (m + 1 + 1 + 1) 2 3 4 _ (by decide) (by decide) (by decide) (by decide) z2 (by first | decide | omega) (by first | decide | omega)
  have s1 := stp (m + 1 + 1 + 1 + 1) 1 2 5 _ (by decide) (by decide) (by decide) (by decide) z1 (by first | decide | omega) (by first | decide | omega)
  have s0 := stp (m + 1 + 1 + 1 + 1 + 1) 0 1 6 _ (by decide) (by decide) (by decide) (by decide) z0 (by first | decide | omega) (by first | decide | omega)
  rw [show K.1 = m + 1 + 1 + 1 + 1 + 1 + 1 by omega, s0, s1, s2, s3, s4, s5]
  unfold st5
  by_cases c0 : a % u = 0
  · rw [if_pos c0, if_pos c0]
  rw [if_neg c0, if_neg c0]
  by_cases c1 : a % (u / 2) = 0
  · rw [if_pos c1, if_pos c1]
  rw [if_neg c1, if_neg c1]
  by_cases c2 : a % (u / 4) = 0
  · rw [if_pos c2, if_pos c2]
  rw [if_neg c2, if_neg c2]
  by_cases c3 : a % (u / 8) = 0
  · rw [if_pos c3, if_pos c3]
  rw [if_neg c3, if_neg c3]
  by_cases c4 : a % (u / 16) = 0
  · rw [if_pos c4, if_pos c4]
  rw [if_neg c4, if_neg c4]
theorem bw_e {p f t : Int} (hp : 0 < p) (f0 : 0 ≤ f) (ft : f < t) : f < (t - 1) / p * p ↔ bw p f t := by
  have e1 := Int.mul_ediv_add_emod f p
  have e2 := Int.emod_nonneg f (show p ≠ 0 by omega)
  have e3 := Int.emod_lt_of_pos f hp
  have g1 := Int.mul_ediv_add_emod (t - 1) p
  have g2 := Int.emod_nonneg (t - 1) (show p ≠ 0 by omega)
  have g3 := Int.emod_lt_of_pos (t - 1) hp
  show _ ↔ (f / p + 1) * p < t
  constructor
  · intro h
    have : f / p < (t - 1) / p := Int.ediv_lt_of_lt_mul hp h
    have m : (f / p + 1) * p ≤ (t - 1) / p * p := Int.mul_le_mul_of_nonneg_right (by first | decide | omega) (by first | decide | omega)
    rw [Int.mul_comm p] at g1
    omega
  · intro h
    have : f / p + 1 ≤ (t - 1) / p := Int.le_ediv_of_mul_le hp (by first | decide | omega)
    have m : (f / p + 1) * p ≤ (t - 1) / p * p := Int.mul_le_mul_of_nonneg_right this (by first | decide | omega)
    rw [Int.add_mul, Int.one_mul] at m
    rw [Int.mul_comm p] at e1
    omega
theorem C_bt5 {K : zK} {u f t : Int} {F : zF} {B : zB} (hK : 3002 ≤ K.1) (hu : u = 256 ∨ u = 128 ∨ u = 64 ∨ u = 32) (f0 : 0 ≤ f) (ft : f < t) (t1 : t ≤ 100000) : f_S_strengthBetween_44 K K.1 0 u f t F B = some (bt5 u f t, F, B) := by
  obtain ⟨⟨z0, z1, z2, z3, z4⟩, zz⟩ := un_z hu
  obtain ⟨m, hm⟩ : ∃ m, K.1 = m + 6 := ⟨K.1 - 6, (by first | decide | omega)⟩
  have stp : ∀ (m : Nat) (k k' r p : Int), 0 ≤ k → k < 5 → k + 1 = k' → 6 - k = r → zshr u k = p → 2 ≤ p → p ≤ 256 → f_S_strengthBetween_44 K (m + 1) k u f t F B = if bw p f t then some (r, F, B) else f_S_strengthBetween_44 K m k' u f t F B := fun m k k' r p h0 h1 ek er e p0 p1 => by
    have q1 : 0 ≤ (t - 1) / p := Int.ediv_nonneg (by first | decide | omega) (by first | decide | omega)
    have q2 : (t - 1) / p * p ≤ t - 1 := Int.ediv_mul_le _ (by first | decide | omega)
    have q3 : 0 ≤ (t - 1) / p * p := Int.mul_nonneg q1 (by first | decide | omega)
    rw [f_S_strengthBetween_44, if_pos (by unfold r32; omega), if_neg (by first | decide | omega), e, if_pos (iI_n0 (by first | decide | omega) (by unfold r32; omega)), zdv_e (by first | decide | omega) (by unfold r32; omega) (by first | decide | omega) (by unfold r32; omega), if_pos (by unfold r32; omega), if_pos (by unfold r32; omega), ek, er]
    by_cases c : bw p f t
    · rw [if_pos c, if_neg (by have := (bw_e (by first | decide | omega) f0 ft).mpr c; omega)]
    · rw [if_neg c, if_pos (by
        rcases Int.lt_or_le f ((t - 1) / p * p) with y | y
        · exact absurd ((bw_e (by first | decide | omega) f0 ft).mp y) c
        · exact y)]
  have s5 : f_S_strengthBetween_44 K (m + 1) 5 u f t F B = some (1, F, B) := by rw [f_S_strengthBetween_44, if_pos (by decide), if_pos (by decide)]
  have s4 := stp (m + 1) 4 5 2 _ (by decide) (by decide) (by decide) (by decide) z4 (by first | decide | omega) (by first | decide | omega)
  have s3 := stp (m + 1 + 1) 3 4 3 _ (by decide) (by decide) (by decide) (by decide) z3 (by first | decide | omega) (by first | decide | omega)
  have s2 := stp (m + 1 + 1 + 1) 2 3 4 _ (by decide) (by decide) (by decide) (by decide) z2 (by first | decide | omega) (by first | decide | omega)
  have s1 := stp (m + 1 + 1 + 1 + 1) 1 2 5 _ (by decide) (by decide) (by decide) (by decide) z1 (by first | decide | omega) (by first | decide | omega)
  have s0 := stp (m + 1 + 1 + 1 + 1 + 1) 0 1 6 _ (by decide) (by decide) (by decide) (by decide) z0 (by first | decide | omega) (by first | decide | omega)
  rw [show K.1 = m + 1 + 1 + 1 + 1 + 1 + 1 by omega, s0, s1, s2, s3, s4, s5]
  unfold bt5
  by_cases c0 : bw u f t
  · rw [if_pos c0, if_pos c0]
  rw [if_neg c0, if_neg c0]
  by_cases c1 : bw (u / 2) f t
  · rw [if_pos c1, if_pos c1]
  rw [if_neg c1, if_neg c1]
  by_cases c2 : bw (u / 4) f t
  · rw [if_pos c2, if_pos c2]
  rw [if_neg c2, if_neg c2]
  by_cases c3 : bw (u / 8) f t
  · rw [if_pos c3, if_pos c3]
  rw [if_neg c3, if_neg c3]
  by_cases c4 : bw (u / 16) f t
  · rw [if_pos c4, if_pos c4]
  rw [if_neg c4, if_neg c4]
end
end
