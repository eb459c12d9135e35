section
section
/-! ===== the walk: a list of items ===== -/
theorem WS_mk {q v w bar : Int} {D D' : Nat} {F F' : zF} {B B' : zB} {Fm Fm' : zF} {Bm Bm' : zB} (hS : WS q v w bar D F B Fm Bm) (fn : ∀ c y k, ¬ (c = 11 ∧ y = 0 ∧ (4 ≤ k ∧ k ≤ 10 ∨ 14 ≤ k)) → F' c y k = F c y k) (gn : ∀ c y k, ¬ (c = 14 ∧ y = 0 ∧ (40 ≤ k ∧ k ≤ 50)) → Fm' c y k = Fm c y k) (bn : ∀ c y k x, ¬ (c = 11 ∧ y = 0) → B' c y k x = B c y k x) (mn : ∀ c y k x, ¬ (c = 14 ∧ y = 0 ∧ 42 ≤ k ∧ k ≤ 51) → Bm' c y k x = Bm c y k x) (h4 : F' 11 0 4 = Fm' 14 0 40 ∧ 0 ≤ F' 11 0 4 ∧ F' 11 0 4 ≤ 7) (h5 : F' 11 0 5 = Fm' 14 0 41 ∧ 0 ≤ F' 11 0 5 ∧ F' 11 0 5 ≤ D') (h6 : F' 11 0 6 = Fm' 14 0 48 ∧ 0 ≤ F' 11 0 6 ∧ F' 11 0 6 ≤ D') (h7 : F' 11 0 7 = Fm' 14 0 50 ∧ 0 ≤ F' 11 0 7 ∧ F' 11 0 7 ≤ F' 11 0 3) (h8 : 0 < F' 11 0 6 → 1 ≤ F' 11 0 7 ∧ F' 11 0 8 = Bm' 14 0 8 (Fm' 14 0 49) ∧ 0 ≤ Fm' 14 0 49 ∧ Fm' 14 0 49 ≤ 3000 ∧ 0 ≤ F' 11 0 8 ∧ F' 11 0 8 ≤ 3000) (h9 : TPL (F' 11 0 6) (F' 11 0 9) (F' 11 0 10) Bm') (h11 : ∀ k, 0 ≤ k → k < 4 → B' 11 0 14 k = Bm' 14 0 51 (prN k) ∧ -(3 * (D' : Int)) ≤ B' 11 0 14 k ∧ B' 11 0 14 k ≤ 3 * (D' : Int)) (h12 : F' 11 0 18 = Fm' 14 0 45 ∧ 0 ≤ F' 11 0 18 ∧ F' 11 0 18 ≤ D' ∧ ∀ k, 0 ≤ k → k < F' 11 0 18 → CRk B' Bm' k) : WS q v w bar D' F' B' Fm' Bm' := by
  obtain ⟨⟨a1, a2, a3, a4⟩, ⟨b1, b2, b3, b4⟩, c, _, _, _, _, _, _, s10, _, _, s13⟩ := hS
  refine ⟨?_, ?_, ?_, h4, h5, h6, h7, h8, h9, ?_, h11, h12, ?_⟩
  · rw [fn 11 0 0 (by first | decide | omega), fn 11 0 1 (by first | decide | omega), fn 11 0 2 (by first | decide | omega), gn 14 0 17 (by first | decide | omega)]; exact ⟨a1, a2, a3, a4⟩
  · rw [fn 11 0 13 (by first | decide | omega), fn 11 0 12 (by first | decide | omega), gn 14 0 35 (by first | decide | omega), gn 14 0 6 (by first | decide | omega)]; exact ⟨b1, b2, b3, b4⟩
  · rw [fn 11 0 3 (by first | decide | omega), gn 14 0 37 (by first | decide | omega)]; exact c
  · rw [fn 11 0 11 (by first | decide | omega), gn 14 0 38 (by first | decide | omega), gn 14 0 39 (by first | decide | omega)]; exact s10
  · rw [fn 4 q 6 (by first | decide | omega), gn 14 0 36 (by first | decide | omega)]
    refine ⟨s13.1, s13.2.1, s13.2.2.1, fun j u t => ?_⟩
    rw [bn 4 q 5 j (by first | decide | omega)]
    exact EVW_f (s13.2.2.2 j u t) (fun k => fn 1 _ k (by first | decide | omega)) (fun k y => bn 1 _ k y (by first | decide | omega)) (fun k _ _ => mn 13 w k _ (by first | decide | omega)) (fun k y _ _ _ _ => mn 13 w k y (by first | decide | omega)) (fun y => mn 14 0 8 y (by first | decide | omega))
theorem WFR_mk {q v w : Int} {F F' : zF} {B B' : zB} {Fm Fm' : zF} {Bm Bm' : zB} (fn : ∀ c y k, ¬ (c = 11 ∧ y = 0 ∧ ¬ k = 11) → F' c y k = F c y k) (gn : ∀ c y k, ¬ (c = 14 ∧ y = 0 ∧ (k ≤ 1 ∨ k = 17 ∨ k = 18 ∨ 36 ≤ k ∧ k ≤ 50)) → Fm' c y k = Fm c y k) (bn : ∀ c y k x, ¬ (c = 11 ∧ y = 0) → B' c y k x = B c y k x) (mn : ∀ c y k x, ¬ (c = 14 ∧ y = 0 ∧ 42 ≤ k ∧ k ≤ 51) → Bm' c y k x = Bm c y k x) : WFR q v w F B Fm Bm F' B' Fm' Bm' := by
  refine ⟨fun c y k a _ _ => fn c y k (by first | decide | omega), fun c y k x a _ _ => bn c y k x a, fun y => ?_, gn, fun c i k x a _ => mn c i k x a, fun h => ⟨fun t t' a b a' b' e => ?_, fun c => ⟨by rw [fn 4 q 6 (by first | decide | omega)]; exact c, SD_c (fn 11 0 11 (by first | decide | omega)) (fn 4 q 6 (by first | decide | omega)) c (fun j _ _ => by rw [fn 1 _ 1 (by first | decide | omega), bn 4 q 5 j (by first | decide | omega)])⟩⟩⟩
  · unfold ownE
    simp only [bn 4 q 5 _ (by first | decide | omega)]
  · rw [bn 4 q 5 t (by first | decide | omega), bn 4 q 5 t' (by first | decide | omega)] at e
    exact h t t' a b a' b' e
def ISim (K : zK) (Km : Nat) (N nl q v w bar : Int) (B0 Bm0 : zB) (D : Nat) (cI : Int → Int → Int → zF → zB → zO) (mI : Int → zF → zB → zO) (R : zB → zB → Int → Int → Prop) : Prop := ∀ x i F B Fm Bm, R B0 Bm0 x i → 0 ≤ x ∧ x < 3000 → 0 ≤ i ∧ i < N → WT N B0 Bm0 B Bm → Fm 14 0 27 = nl → WC K Km N q v w bar B Fm Bm → WS q v w bar D F B Fm Bm → F 11 0 7 < F 11 0 3 → zP (cI 0 x D F B) (mI i Fm Bm) (fun _ F' B' _ Fm' Bm' => WO q v w bar D F B Fm Bm F' B' Fm' Bm')
theorem LRf_len {R : zB → zB → Int → Int → Prop} {B Bm : zB} : ∀ {m : Nat} {x i e : Int}, LRf R B Bm m x i e → (m : Int) ≤ e - i := by
  intro m
  induction m with
  | zero => intro x i e h; have := h.2; omega
  | succ m ih =>
    intro x i e h
    have := ih h.2.2.2
    have := h.2.1.1
    omega
theorem LRf_x {R : zB → zB → Int → Int → Prop} {B Bm : zB} {m : Nat} {x i e : Int} (h : LRf R B Bm m x i e) : r32 x ∧ i ≤ e := by
  cases m with
  | zero => exact ⟨by rw [h.1]; decide, by have := h.2; omega⟩
  | succ m => exact ⟨by have := h.1; unfold r32; omega, by have := h.2.1; omega⟩
theorem WE_n {D : Nat} {q v w : Int} {F Fm : zF} (h : WE D q v w F Fm) : r32 (F 11 0 2) ∧ ¬ F 11 0 2 = 0 := by
  obtain ⟨a1, a2, a3, a4, a5, _⟩ := h
  unfold bad at a4
  unfold r32
  omega
theorem C_goX {K : zK} {o : oT_CW} {D n : Nat} {q v w cnt x l2 : Int} {F Fm : zF} {B : zB} (h11 : 0 < K.2 11) (h : WE D q v w F Fm) (hc : r32 cnt) (hx : r32 x) : f_Walker_goThrough_5 o K (n + 1) cnt x 0 l2 F B = some (0, F, B) := by
  obtain ⟨e1, e2⟩ := WE_n h
  rw [f_Walker_goThrough_5]
  simp only [f_Walker_goThrough_73]
  rw [if_pos hc]
  by_cases c1 : 3000 ≤ cnt
  · rw [if_pos c1]
  rw [if_neg c1, if_pos hx]
  by_cases c2 : x = -1
  · rw [if_pos c2]
  rw [if_neg c2, if_pos ⟨Int.le_refl _, h11⟩, if_pos e1, if_neg e2]
theorem L_walkX {K : Nat} {o : oT_W} {n : Nat} {i e : Int} {F : zF} {B : zB} (h : bad F) : f_M_walk_2 o K (n + 1) i e F B = some (0, F, B) := by
  rw [f_M_walk_2, L_goodB h, zb_s, if_pos (by decide), if_pos rfl, f_M_walk_41]
theorem P_list {K : zK} {Km : Nat} {N nl q v w bar e : Int} {B0 Bm0 : zB} {D : Nat} {o : oT_CW} {oM : oT_W} {R : zB → zB → Int → Int → Prop} (hI : ISim K Km N nl q v w bar B0 Bm0 D o.2.1 oM.2.1 R) (hR : ∀ x i, R B0 Bm0 x i → B0 3 0 1 x = Bm0 14 0 8 i) (hD : D < 64) (he : e ≤ 3000) : ∀ (m n n' : Nat) {cnt x i : Int} {F : zF} {B : zB} {Fm : zF} {Bm : zB}, LRf R B0 Bm0 m x i e → 0 ≤ cnt → cnt + m ≤ 3000 → 0 ≤ i → m + 1 < n → m + 1 < n' → WT N B0 Bm0 B Bm → Fm 14 0 27 = nl → WC K Km N q v w bar B Fm Bm → WS q v w bar D F B Fm Bm → zP (f_Walker_goThrough_5 o K n cnt x 0 D F B) (f_M_walk_2 oM Km n' i e Fm Bm) (fun _ F' B' _ Fm' Bm' => WO q v w bar D F B Fm Bm F' B' Fm' Bm') := by
  intro m
  induction m with
  | zero =>
    intro n n' cnt x i F B Fm Bm h c0 c1 i0 hn hn' hT hnl hC hS
    obtain ⟨n, rfl⟩ : ∃ m, n = m + 1 := ⟨n - 1, (by first | decide | omega)⟩
    obtain ⟨n', rfl⟩ : ∃ m, n' = m + 1 := ⟨n' - 1, (by first | decide | omega)⟩
    have hN := hC.2.2.2.2.2.2.2.1.2.1
    have c : f_Walker_goThrough_5 o K (n + 1) cnt x 0 D F B = some (0, F, B) := by
      rw [f_Walker_goThrough_5, if_pos (by unfold r32; omega), h.1]
      by_cases c1 : 3000 ≤ cnt
      · rw [if_pos c1, f_Walker_goThrough_73]
      · rw [if_neg c1, if_pos (by decide), if_pos rfl, f_Walker_goThrough_73]
    rw [c, f_M_walk_2, L_good hS.1.2.2.2, zb_s, if_pos (by decide), if_neg (by decide), h.2, if_pos (by unfold r32; have := h.2; omega), if_pos (by unfold r32; have := h.2; omega), if_pos (Int.le_refl _), f_M_walk_41]
    exact zP_s ⟨WFR_r, Or.inl ⟨hS, WKP_r⟩⟩
  | succ m ih =>
    intro n n' cnt x i F B Fm Bm h c0 c1 i0 hn hn' hT hnl hC hS
    obtain ⟨n, rfl⟩ : ∃ m, n = m + 1 := ⟨n - 1, (by first | decide | omega)⟩
    obtain ⟨n', rfl⟩ : ∃ m, n' = m + 1 := ⟨n' - 1, (by first | decide | omega)⟩
    obtain ⟨hx, hi, hr, hl⟩ := h
    have h11 := hC.2.2.1
    have h3 := hC.2.2.2.1
    obtain ⟨N0, N1, hTK⟩ := hC.2.2.2.2.2.2.2.1
    obtain ⟨lx, _⟩ := LRf_x hl
    have iN : i < N := by
      rcases Int.lt_or_le i N with z | z
      · exact z
      · have := (hT.2.2.2 i z).2
        omega
    have a1 := hS.1.1
    have a3 := hS.1.2.2.1
    have a4 := hS.1.2.2.2
    have hp := (hTK i i0 (by first | decide | omega)).2.2.2.2.2.2.2.2.2.1
    have pe : B 3 0 1 x = Bm 14 0 8 i := by rw [hT.1, hT.2.1 8 i (by decide)]; exact hR x i hr
    have nx : ∀ (F1 : zF) (B1 : zB) (Fm1 : zF) (Bm1 : zB), WT N B0 Bm0 B1 Bm1 → F1 11 0 0 = 0 → f_Walker_goThrough_57 o (f_Walker_goThrough_5 o K n) K cnt x 0 D F1 B1 = f_Walker_goThrough_5 o K n (cnt + 1) (B0 3 0 5 x) 0 D F1 B1 ∧ f_M_walk_31 oM (f_M_walk_2 oM Km n') Km i e Fm1 Bm1 = f_M_walk_2 oM Km n' (Bm0 14 0 31 i) e Fm1 Bm1 := by
      intro F1 B1 Fm1 Bm1 t z
      unfold f_Walker_goThrough_57 f_M_walk_31
      rw [if_pos ⟨Int.le_refl _, h11⟩, z, if_pos ⟨Int.le_refl _, h3⟩, if_pos hx, t.1, if_pos ⟨i0, (by first | decide | omega)⟩, t.2.2.1 31 i (by decide) (by decide) iN]
      exact ⟨rfl, rfl⟩
    obtain ⟨n1, rfl⟩ : ∃ m, n = m + 1 := ⟨n - 1, (by first | decide | omega)⟩
    obtain ⟨n2, rfl⟩ : ∃ m, n' = m + 1 := ⟨n' - 1, (by first | decide | omega)⟩
    have fin : ∀ (F1 : zF) (B1 : zB) (Fm1 : zF) (Bm1 : zB), WO q v w bar D F B Fm Bm F1 B1 Fm1 Bm1 → zP (f_Walker_goThrough_57 o (f_Walker_goThrough_5 o K (n1 + 1)) K cnt x 0 D F1 B1) (f_M_walk_31 oM (f_M_walk_2 oM Km (n2 + 1)) Km i e Fm1 Bm1) (fun _ F' B' _ Fm' Bm' => WO q v w bar D F B Fm Bm F' B' Fm' Bm') := by
      intro F1 B1 Fm1 Bm1 ⟨f, s⟩
      have t := WT_f hT f
      rcases s with ⟨s, k⟩ | s
      · obtain ⟨y1, y2⟩ := nx F1 B1 Fm1 Bm1 t s.1.1
        rw [y1, y2]
        refine zP_m (ih (n1 + 1) (n2 + 1) hl (by first | decide | omega) (by first | decide | omega) (by first | decide | omega) (by first | decide | omega) (by first | decide | omega) t (by rw [f.2.2.2.1 14 0 27 (by first | decide | omega)]; exact hnl) (WC_f hC f) s) ?_
        intro r F2 B2 r' Fm2 Bm2 ⟨g, u⟩
        refine ⟨WFR_t f g, ?_⟩
        rcases u with ⟨u, k'⟩ | u
        · exact Or.inl ⟨u, WKP_t k k'⟩
        · exact Or.inr u
      · obtain ⟨y1, y2⟩ := nx F1 B1 Fm1 Bm1 t s.1
        rw [y1, y2, C_goX h11 s (by unfold r32; omega) lx, L_walkX s.2.2.2.1]
        exact zP_s ⟨f, Or.inr s⟩
    rw [f_Walker_goThrough_5, f_M_walk_2]
    rw [if_pos (by unfold r32; omega), if_neg (by first | decide | omega), if_pos (by unfold r32; omega), if_neg (by first | decide | omega), if_pos ⟨Int.le_refl _, h11⟩, a3, if_pos (by decide), if_pos rfl, if_pos (by unfold r32; omega), if_neg (by first | decide | omega), a1, if_pos ⟨Int.le_refl _, h3⟩, if_pos hx, L_good a4, zb_s, if_pos (by decide), if_neg (by decide), if_pos (by unfold r32; omega), if_pos (by unfold r32; omega), if_neg (by first | decide | omega), pe]
    refine zP_c (P_count h11 hS (by first | decide | omega) (by first | decide | omega) hp) ?_
    intro r F1 B1 r' Fm1 Bm1 ⟨eB, eM, f, s⟩
    subst eB eM
    rcases s with ⟨s, lt, k⟩ | s
    · rw [s.1.2.2.1, if_pos (by decide), if_pos rfl, L_good s.1.2.2.2, zb_s, if_pos (by decide), if_neg (by decide)]
      refine zP_c (hI x i F1 B1 Fm1 Bm1 hr hx (by first | decide | omega) hT (by rw [f.2.2.2.1 14 0 27 (by first | decide | omega)]; exact hnl) (WC_f hC f) s lt) ?_
      intro r F2 B2 r' Fm2 Bm2 ⟨g, u⟩
      refine fin F2 B2 Fm2 Bm2 ⟨WFR_t f g, ?_⟩
      rcases u with ⟨u, k'⟩ | u
      · exact Or.inl ⟨u, WKP_t k k'⟩
      · exact Or.inr u
    · obtain ⟨z1, z2⟩ := WE_n s
      rw [if_pos z1, if_neg z2, L_goodB s.2.2.2.1, zb_s, if_pos (by decide), if_pos rfl]
      exact fin F1 B1 Fm1 Bm1 ⟨f, Or.inr s⟩
end
end
section
section
/-! ===== the walk: events, bar lines, loudness ===== -/
theorem wL_r {w : Int} (h : w ∈ wL) : r64 w := by
  unfold wL at h
  simp only [List.mem_cons, List.not_mem_nil, or_false] at h
  unfold r64
  omega
theorem evR_t {N : Int} {B0 Bm0 B Bm : zB} {x i : Int} (h : evR B0 Bm0 x i) (t : WT N B0 Bm0 B Bm) (hi : i < N) : evR B Bm x i := by
  unfold evR pitR wdAt sgAt at h ⊢
  simp only [t.1, t.2.1 7 _ (by decide), t.2.1 8 _ (by decide), t.2.1 9 _ (by decide), t.2.1 10 _ (by decide), t.2.1 11 _ (by decide), t.2.2.1 32 i (by decide) (by decide) hi, t.2.2.1 33 i (by decide) (by decide) hi, t.2.2.1 34 i (by decide) (by decide) hi]
  exact h
theorem MW_t {N : Int} {B0 Bm0 B Bm : zB} (h : MW Bm0) (t : WT N B0 Bm0 B Bm) : MW Bm := by
  have e : ∀ (k : Nat), k < 30 → Bm 14 0 k = Bm0 14 0 k := fun k n => funext (fun y => t.2.1 k y (Or.inl n))
  unfold MW at h ⊢
  rw [e 13 (by decide), e 14 (by decide), e 15 (by decide)]
  exact h
theorem L_goS {K : Nat} {o : oT_W} {i : Int} {F : zF} {B : zB} (hi : 0 ≤ i ∧ i < 3001) (h5 : B 14 0 7 i = 5) (h9 : ¬ B 14 0 9 i = 60) (hr : r32 (B 14 0 9 i)) : fb_M_go o K i F B = zbind (o.2.2.1 i F B) (fun _ F1 B1 => some (0, F1, B1)) := by
  unfold fb_M_go f_M_go_31 f_M_go_62
  simp only [f_M_go_182]
  rw [if_pos hi, h5, if_pos (by decide), if_neg (by decide), if_pos rfl, if_pos hr, if_neg h9, if_pos hi, if_pos (by decide), if_neg (by decide), if_pos hi, if_pos (by decide), if_pos rfl]
theorem L_goE {K : Nat} {o : oT_W} {i : Int} {F : zF} {B : zB} (hi : 0 ≤ i ∧ i < 3001) (h : B 14 0 7 i = 2 ∨ (B 14 0 7 i = 5 ∧ B 14 0 9 i = 60) ∨ (B 14 0 7 i = 4 ∧ B 14 0 11 i = 114)) : fb_M_go o K i F B = zbind (f_M_event_0 K i F B) (fun _ F1 B1 => some (0, F1, B1)) := by
  unfold fb_M_go f_M_go_54
  simp only [f_M_go_182]
  rcases h with h | ⟨h, h'⟩ | ⟨h, h'⟩
  · rw [if_pos hi, h, if_pos (by decide), if_pos rfl]
  · rw [if_pos hi, h, if_pos (by decide), if_neg (by decide), if_pos rfl, h', if_pos (by decide), if_pos rfl]
  · unfold f_M_go_31 f_M_go_54
    rw [if_pos hi, h, if_pos (by decide), if_neg (by decide), if_neg (by decide), if_pos hi, if_pos (by decide), if_pos rfl, h', if_pos (by decide), if_pos (by decide)]
    rfl
theorem P_evI {K : zK} {Km : Nat} {N q v w bar x i : Int} {B0 Bm0 : zB} {D : Nat} {o : oT_CW} {oM : oT_W} {F : zF} {B : zB} {Fm : zF} {Bm : zB} (hx : 0 ≤ x ∧ x < 3000) (hi : 0 ≤ i ∧ i < N) (hT : WT N B0 Bm0 B Bm) (hC : WC K Km N q v w bar B Fm Bm) (hS : WS q v w bar D F B Fm Bm) (hD : D ≤ 64) (k0 : B0 3 0 0 x = 0) (hp : B0 3 0 1 x = Bm0 14 0 8 i) (he : evR B0 Bm0 x i) : zP (fb_Walker_goItem o K 0 x D F B) (fb_M_go oM Km i Fm Bm) (fun _ F' B' _ Fm' Bm' => WO q v w bar D F B Fm Bm F' B' Fm' Bm') := by
  have ev := evR_t he hT hi.2
  have h11 := hC.2.2.1
  have h3 := hC.2.2.2.1
  have N1 := hC.2.2.2.2.2.2.2.1.2.1
  have kd : Bm 14 0 7 i = 2 ∨ (Bm 14 0 7 i = 5 ∧ Bm 14 0 9 i = 60) ∨ (Bm 14 0 7 i = 4 ∧ Bm 14 0 11 i = 114) := by
    rcases ev.2.2.2.2.2.2 with ⟨p, _⟩ | ⟨_, p⟩ | ⟨p, _⟩
    · exact Or.inr (Or.inr p)
    · have := (p 0 (by decide) (by decide)).2.2.2
      rw [Int.add_zero] at this
      exact Or.inl this
    · exact Or.inr (Or.inl p)
  rw [L_goE (by first | decide | omega) kd, fb_Walker_goItem, if_pos ⟨Int.le_refl _, h11⟩, hS.1.1, if_pos ⟨Int.le_refl _, h3⟩, if_pos hx, hT.1, k0, if_pos (by decide), if_pos rfl]
  refine zP_c (P_event hC hS hD hx hi (by rw [hT.1, hT.2.1 8 i (by decide)]; exact hp) ev) ?_
  intro r F1 B1 r' Fm1 Bm1 h
  rw [f_Walker_goItem_285]
  exact zP_s h
end
end
