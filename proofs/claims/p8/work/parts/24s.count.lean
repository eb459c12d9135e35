section
/-! ===== the walk: what stands fast, counting ===== -/
theorem WC_f {K : zK} {Km : Nat} {N q v w bar : Int} {F F' : zF} {B B' : zB} {Fm Fm' : zF} {Bm Bm' : zB} (h : WC K Km N q v w bar B Fm Bm) (f : WFR q v w F B Fm Bm F' B' Fm' Bm') : WC K Km N q v w bar B' Fm' Bm' := by
  obtain ⟨a1, a2, a3, a4, a5, a6, a7, ⟨t0, t1, t2⟩, a9, a10, a11⟩ := h
  obtain ⟨f1, f2, f3, f4, f5, f6⟩ := f
  have b10 : ∀ k y, B' 10 0 k y = B 10 0 k y := fun k y => f2 10 0 k y (by first | decide | omega) (by first | decide | omega) (by first | decide | omega)
  have m14 : ∀ (k : Nat) y, k < 42 → Bm' 14 0 k y = Bm 14 0 k y := fun k y n => f5 14 0 k y (by first | decide | omega) (by unfold inV; omega)
  refine ⟨a1, a2, a3, a4, a5, a6, a7, ⟨t0, t1, fun j u v => ?_⟩, fun t u v => ?_, (f6 a10).1, ?_⟩
  · have := t2 j u v
    unfold TKj at this ⊢
    simp only [b10, m14 7 _ (by decide), m14 8 _ (by decide), m14 9 _ (by decide), m14 10 _ (by decide), m14 11 _ (by decide)]
    exact this
  · obtain ⟨j, j0, j1, j2⟩ := (f3 (B' 4 q 5 t)).mp ⟨t, u, v, rfl⟩
    rw [← j2]
    exact a9 j j0 j1
  · rw [f4 13 w 4 (by first | decide | omega), f4 13 w 5 (by first | decide | omega)]
    exact a11
/-- the tree as it was parsed -/
def WT (N : Int) (B0 Bm0 B Bm : zB) : Prop := (∀ k y, B 3 0 k y = B0 3 0 k y) ∧ (∀ (k : Nat) y, k < 30 ∨ (34 < k ∧ k < 42) → Bm 14 0 k y = Bm0 14 0 k y) ∧ (∀ (k : Nat) y, 30 ≤ k → k ≤ 34 → y < N → Bm 14 0 k y = Bm0 14 0 k y) ∧ (∀ y, N ≤ y → Bm0 14 0 30 y ≤ y ∧ Bm0 14 0 31 y ≤ y)
theorem WT_f {N q v w : Int} {F F' : zF} {B B' : zB} {Fm Fm' : zF} {B0 Bm0 Bm Bm' : zB} (h : WT N B0 Bm0 B Bm) (f : WFR q v w F B Fm Bm F' B' Fm' Bm') : WT N B0 Bm0 B' Bm' := by
  obtain ⟨f1, f2, f3, f4, f5, f6⟩ := f
  exact ⟨fun k y => by rw [f2 3 0 k y (by first | decide | omega) (by first | decide | omega) (by first | decide | omega)]; exact h.1 k y, fun k y n => by rw [f5 14 0 k y (by first | decide | omega) (by unfold inV; omega)]; exact h.2.1 k y n, fun k y n n' u => by rw [f5 14 0 k y (by first | decide | omega) (by unfold inV; omega)]; exact h.2.2.1 k y n n' u, h.2.2.2⟩
theorem P_count {K : zK} {Km : Nat} {q v w bar i : Int} {D : Nat} {F : zF} {B : zB} {Fm : zF} {Bm : zB} (h11 : 0 < K.2 11) (hS : WS q v w bar D F B Fm Bm) (hD : D ≤ 64) (hi : 0 ≤ i ∧ i < 3001) (hp : 0 ≤ Bm 14 0 8 i ∧ Bm 14 0 8 i ≤ 3000) : zP (f_Walker_countItem K 0 (Bm 14 0 8 i) F B) (f_M_counts Km i Fm Bm) (fun _ F' B' _ Fm' Bm' => B' = B ∧ Bm' = Bm ∧ WFR q v w F B Fm Bm F' B' Fm' Bm' ∧ ((WS q v w bar D F' B' Fm' Bm' ∧ F' 11 0 7 < F' 11 0 3 ∧ WKP q F B Fm Bm F' B' Fm' Bm') ∨ WE D q v w F' Fm')) := by
  have hS' := hS
  obtain ⟨⟨a1, a2, a3, a4⟩, ⟨b1, b2, b3, b4⟩, ⟨c1, c2, c3⟩, s4, s5, s6, s7, s8, s9, s10, s11, s12, s13⟩ := hS
  unfold f_Walker_countItem f_M_counts f_Walker_countItem_27 f_M_counts_30
  have r0 : r32 (F 11 0 3) := by unfold r32; omega
  have r1 : r32 (F 11 0 3 + 1) := by unfold r32; omega
  rw [if_pos ⟨Int.le_refl _, h11⟩, if_pos r1, ← c1, if_pos r0]
  by_cases c : F 11 0 3 = 5000
  · rw [if_neg (show ¬ F 11 0 3 + 1 ≤ 5000 by omega), if_pos c, C_wref h11 (by rw [zup3_v, if_neg (by decide)]; exact a3), zb_s, L_failAt a4 hi, zb_s]
    refine zP_s ⟨rfl, rfl, ⟨fun c y k n _ _ => by rw [zup3_v, if_neg (by first | decide | omega), zup3_v, if_neg (by first | decide | omega)], fun _ _ _ _ _ _ _ => rfl, fun _ => Iff.rfl, fun c y k n => by rw [flM_n (by first | decide | omega)], fun _ _ _ _ _ _ => rfl, fun h => ⟨h, fun c => ⟨by rw [zup3_v, if_neg (by first | decide | omega), zup3_v, if_neg (by first | decide | omega)]; exact c, SD_c (by rw [zup3_v, if_neg (by first | decide | omega), zup3_v, if_neg (by first | decide | omega)]) (by rw [zup3_v, if_neg (by first | decide | omega), zup3_v, if_neg (by first | decide | omega)]) c (fun j _ _ => by rw [zup3_v, if_neg (by first | decide | omega), zup3_v, if_neg (by first | decide | omega)])⟩⟩⟩, Or.inr ⟨?_, ?_, ?_, flM_b (by decide) (by decide), ?_, ?_, ?_, ?_, ?_, ?_⟩⟩
    · rw [zup3_v, if_neg (by decide), zup3_v, if_neg (by decide)]; exact a1
    · rw [zup3_v, if_neg (by decide), zup3_v, if_neg (by decide)]; exact a2
    · rw [zup3_v, if_pos (by decide), flM_17, flM_18]
    · rw [flM_18]; exact hp
    · rw [flM_n (by decide)]; exact b1
    · rw [flM_n (by decide)]; exact b2
    · rw [zup3_v, if_neg (by first | decide | omega), zup3_v, if_neg (by first | decide | omega)]; omega
    · rw [flM_n (by decide)]; omega
    · rw [zup3_v, if_neg (by decide), zup3_v, if_pos (by decide)]; omega
  · rw [if_pos (show F 11 0 3 + 1 ≤ 5000 by omega), if_neg c]
    have fn : ∀ c y k, ¬ (c = 11 ∧ y = 0 ∧ k = 3) → zup3 F 11 0 3 (F 11 0 3 + 1) c y k = F c y k := fun c y k n => by rw [zup3_v, if_neg n]
    have f3 : zup3 F 11 0 3 (F 11 0 3 + 1) 11 0 3 = F 11 0 3 + 1 := by rw [zup3_v, if_pos (by decide)]
    have gn : ∀ c y k, ¬ (c = 14 ∧ y = 0 ∧ k = 37) → zup3 Fm 14 0 37 (F 11 0 3 + 1) c y k = Fm c y k := fun c y k n => by rw [zup3_v, if_neg n]
    have g3 : zup3 Fm 14 0 37 (F 11 0 3 + 1) 14 0 37 = F 11 0 3 + 1 := by rw [zup3_v, if_pos (by decide)]
    generalize zup3 F 11 0 3 (F 11 0 3 + 1) = X at fn f3 ⊢
    generalize zup3 Fm 14 0 37 (F 11 0 3 + 1) = Y at gn g3 ⊢
    have e1 : ∀ y k, X 1 y k = F 1 y k := fun y k => fn 1 y k (by first | decide | omega)
    refine zP_s ⟨rfl, rfl, ⟨fun c y k n _ _ => fn c y k (by first | decide | omega), fun _ _ _ _ _ _ _ => rfl, fun _ => Iff.rfl, fun c y k n => gn c y k (by first | decide | omega), fun _ _ _ _ _ _ => rfl, fun h => ⟨h, fun c => ⟨by rw [fn 4 q 6 (by first | decide | omega)]; exact c, SD_c (fn 11 0 11 (by first | decide | omega)) (fn 4 q 6 (by first | decide | omega)) c (fun j _ _ => fn 1 _ 1 (by first | decide | omega))⟩⟩⟩, Or.inl ⟨?_, ?_, ?_⟩⟩
    · refine ⟨?_, ?_, ?_, ?_, ?_, ?_, ?_, ?_, ?_, ?_, s11, ?_, ?_⟩
      · rw [fn 11 0 0 (by decide), fn 11 0 1 (by decide), fn 11 0 2 (by decide), gn 14 0 17 (by decide)]; exact ⟨a1, a2, a3, a4⟩
      · rw [fn 11 0 13 (by decide), fn 11 0 12 (by decide), gn 14 0 35 (by decide), gn 14 0 6 (by decide)]; exact ⟨b1, b2, b3, b4⟩
      · rw [f3, g3]; omega
      · rw [fn 11 0 4 (by decide), gn 14 0 40 (by decide)]; exact s4
      · rw [fn 11 0 5 (by decide), gn 14 0 41 (by decide)]; exact s5
      · rw [fn 11 0 6 (by decide), gn 14 0 48 (by decide)]; exact s6
      · rw [fn 11 0 7 (by decide), f3, gn 14 0 50 (by decide)]; omega
      · rw [fn 11 0 6 (by decide), fn 11 0 7 (by decide), fn 11 0 8 (by decide), gn 14 0 49 (by decide)]; exact s8
      · rw [fn 11 0 6 (by decide), fn 11 0 9 (by decide), fn 11 0 10 (by decide)]; exact s9
      · rw [fn 11 0 11 (by decide), gn 14 0 38 (by decide), gn 14 0 39 (by decide)]; exact s10
      · rw [fn 11 0 18 (by decide), gn 14 0 45 (by decide)]; exact s12
      · rw [fn 4 q 6 (by first | decide | omega), gn 14 0 36 (by decide)]
        exact ⟨s13.1, s13.2.1, s13.2.2.1, fun j u t => EVW_f (s13.2.2.2 j u t) (fun k => e1 _ k) (fun _ _ => rfl) (fun _ _ _ => rfl) (fun _ _ _ _ _ _ => rfl) (fun _ => rfl)⟩
    · rw [fn 11 0 7 (by decide), f3]; omega
    · exact ⟨⟨fn _ _ _ (by decide), fn _ _ _ (by decide), fn _ _ _ (by decide), fn _ _ _ (by decide), fn _ _ _ (by decide)⟩, fun _ _ _ => rfl, fun _ _ _ => ⟨rfl, rfl, rfl, rfl, rfl, rfl⟩, fun _ _ _ => ⟨rfl, rfl⟩, fun _ => ⟨fn _ _ _ (by decide), fn _ _ _ (by decide), gn _ _ _ (by decide)⟩, by rw [fn 4 q 6 (by first | decide | omega)]; exact Int.le_refl _⟩
end
