section
/-! ===== the walk: events, bar lines, loudness ===== -/
theorem wL_r {w : Int} (h : w ∈ wL) : r64 w := by
  unfold wL at h
  simp only [List.mem_cons, List.not_mem_nil, or_false] at h
  unfold r64
  omega
theorem evR_t {N : Int} {B0 Bm0 B Bm : zB} {x i : Int} (h : evR B0 Bm0 x i) (t : WT N B0 Bm0 B Bm) (hi : i < N) : evR B Bm x i := by
  unfold evR pitR wdAt sgAt at h ⊢
  simp only [t.1, t.2.1 7 _ (by decide), t.2.1 8 _ (by decide), t.2.1 9 _ (by decide), t.2.1 10 _ (by decide), t.2.1 11 _ (by decide), t.2.2.1 32 i (by decide) (by decide) hi, t.2.2.1 33 i (by decide) (by decide) hi, t.2.2.1 34 i (by decide) (by decide) hi]
  exact h
theorem MW_t {N : Int} {B0 Bm0 B Bm : zB} (h : MW Bm0) (t : WT N B0 Bm0 B Bm) : MW Bm := by
  have e : ∀ (k : Nat), k < 30 → Bm 14 0 k = Bm0 14 0 k := fun k n => funext (fun y => t.2.1 k y (Or.inl n))
  unfold MW at h ⊢
  rw [e 13 (by decide), e 14 (by decide), e 15 (by decide)]
  exact h
theorem L_goS {K : Nat} {o : oT_W} {i : Int} {F : zF} {B : zB} (hi : 0 ≤ i ∧ i < 3001) (h5 : B 14 0 7 i = 5) (h9 : ¬ B 14 0 9 i = 60) (hr : r32 (B 14 0 9 i)) : fb_M_go o K i F B = zbind (o.2.2.1 i F B) (fun _ F1 B1 => some (0, F1, B1)) := by
  unfold fb_M_go f_M_go_31 f_M_go_62
  simp only [f_M_go_182]
  rw [if_pos hi, h5, if_pos (by decide), if_neg (by decide), if_pos rfl, if_pos hr, if_neg h9, if_pos hi, if_pos (by decide), if_neg (by decide), if_pos hi, if_pos (by decide), if_pos rfl]
theorem L_goE {K : Nat} {o : oT_W} {i : Int} {F : zF} {B : zB} (hi : 0 ≤ i ∧ i < 3001) (h : B 14 0 7 i = 2 ∨ (B 14 0 7 i = 5 ∧ B 14 0 9 i = 60) ∨ (B 14 0 7 i = 4 ∧ B 14 0 11 i = 114)) : fb_M_go o K i F B = zbind (f_M_event_0 K i F B) (fun _ F1 B1 => some (0, F1, B1)) := by
  unfold fb_M_go f_M_go_54
  simp only [f_M_go_182]
  rcases h with h | ⟨h, h'⟩ | ⟨h, h'⟩
  · rw [if_pos hi, h, if_pos (by decide), if_pos rfl]
  · rw [if_pos hi, h, if_pos (by decide), if_neg (by decide), if_pos rfl, h', if_pos (by decide), if_pos rfl]
  · unfold f_M_go_31 f_M_go_54
    rw [if_pos hi, h, if_pos (by decide), if_neg (by decide), if_neg (by decide), if_pos hi, if_pos (by decide), if_pos rfl, h', if_pos (by decide), if_pos (by decide)]
    rfl
theorem P_evI {K : zK} {Km : Nat} {N q v w bar x i : Int} {B0 Bm0 : zB} {D : Nat} {o : oT_CW} {oM : oT_W} {F : zF} {B : zB} {Fm : zF} {Bm : zB} (hx : 0 ≤ x ∧ x < 3000) (hi : 0 ≤ i ∧ i < N) (hT : WT N B0 Bm0 B Bm) (hC : WC K Km N q v w bar B Fm Bm) (hS : WS q v w bar D F B Fm Bm) (hD : D ≤ 64) (k0 : B0 3 0 0 x = 0) (hp : B0 3 0 1 x = Bm0 14 0 8 i) (he : evR B0 Bm0 x i) : zP (fb_Walker_goItem o K 0 x D F B) (fb_M_go oM Km i Fm Bm) (fun _ F' B' _ Fm' Bm' => WO q v w bar D F B Fm Bm F' B' Fm' Bm') := by
  have ev := evR_t he hT hi.2
  have h11 := hC.2.2.1
  have h3 := hC.2.2.2.1
  have N1 := hC.2.2.2.2.2.2.2.1.2.1
  have kd : Bm 14 0 7 i = 2 ∨ (Bm 14 0 7 i = 5 ∧ Bm 14 0 9 i = 60) ∨ (Bm 14 0 7 i = 4 ∧ Bm 14 0 11 i = 114) := by
    rcases ev.2.2.2.2.2.2 with ⟨p, _⟩ | ⟨_, p⟩ | ⟨p, _⟩
    · exact Or.inr (Or.inr p)
    · have := (p 0 (by decide) (by decide)).2.2.2
      rw [Int.add_zero] at this
      exact Or.inl this
    · exact Or.inr (Or.inl p)
  rw [L_goE (by omega) kd, fb_Walker_goItem, if_pos ⟨Int.le_refl _, h11⟩, hS.1.1, if_pos ⟨Int.le_refl _, h3⟩, if_pos hx, hT.1, k0, if_pos (by decide), if_pos rfl]
  refine zP_c (P_event hC hS hD hx hi (by rw [hT.1, hT.2.1 8 i (by decide)]; exact hp) ev) ?_
  intro r F1 B1 r' Fm1 Bm1 h
  rw [f_Walker_goItem_285]
  exact zP_s h
end
