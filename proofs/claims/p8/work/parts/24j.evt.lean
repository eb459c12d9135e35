section
/-! ===== the walker: an event's pitches one after another ===== -/
def PLH (x s0 cnt p0 : Int) (nn : Nat) (F : zF) (B Bm : zB) : Prop := F 11 0 0 = 0 ∧ F 11 0 2 = 0 ∧ F 11 0 18 = nn ∧ B 3 0 6 x = cnt ∧ B 3 0 3 x = p0 ∧ (∀ k, 0 ≤ k → k < nn → CRk B Bm k) ∧ (∀ t, 0 ≤ t → t < cnt → B 3 0 8 (p0 + t) = Bm 14 0 9 (s0 + t) ∧ B 3 0 9 (p0 + t) = Bm 14 0 10 (s0 + t) ∧ B 3 0 10 (p0 + t) = Bm 14 0 8 (s0 + t) ∧ (0 ≤ Bm 14 0 9 (s0 + t) ∧ Bm 14 0 9 (s0 + t) ≤ 62) ∧ (-2 ≤ Bm 14 0 10 (s0 + t) ∧ Bm 14 0 10 (s0 + t) ≤ 2))
/-- what the pitches of event e (x) may change -/
def lFr (e x w : Int) (F : zF) (B Bm : zB) (F' : zF) (B' Bm' : zB) : Prop := (∀ c y k, ¬ (c = 1 ∧ y = e ∧ k = 10) → ¬ (c = 11 ∧ y = 0 ∧ k = 2) → F' c y k = F c y k) ∧ (∀ c i k y, ¬ (c = 1 ∧ i = e ∧ (k = 12 ∨ k = 13)) → B' c i k y = B c i k y) ∧ (∀ c i k y, ¬ (c = 13 ∧ i = w ∧ (((k = 28 ∨ k = 29) ∧ 6 * x ≤ y ∧ y < 6 * x + 6) ∨ (k = 21 ∧ y = x))) → Bm' c i k y = Bm c i k y)
theorem lFr_r {e x w : Int} {F : zF} {B Bm : zB} : lFr e x w F B Bm F B Bm := ⟨fun _ _ _ _ _ => rfl, fun _ _ _ _ _ => rfl, fun _ _ _ _ _ => rfl⟩
theorem lFr_t {e x w : Int} {F F' F'' : zF} {B Bm B' Bm' B'' Bm'' : zB} (h : lFr e x w F B Bm F' B' Bm') (h' : lFr e x w F' B' Bm' F'' B'' Bm'') : lFr e x w F B Bm F'' B'' Bm'' := ⟨fun c y k a b => by rw [h'.1 c y k a b, h.1 c y k a b], fun c i k y a => by rw [h'.2.1 c i k y a, h.2.1 c i k y a], fun c i k y a => by rw [h'.2.2 c i k y a, h.2.2 c i k y a]⟩
theorem PLH_f {x s0 cnt p0 e xx w : Int} {nn : Nat} {F F' : zF} {B Bm B' Bm' : zB} (h : PLH x s0 cnt p0 nn F B Bm) (f : lFr e xx w F B Bm F' B' Bm') (h2 : F' 11 0 2 = 0) : PLH x s0 cnt p0 nn F' B' Bm' := by
  obtain ⟨a1, a2, a3, a4, a5, a6, a7⟩ := h
  have b1 : ∀ (c : Nat) i k y, ¬ c = 1 → B' c i k y = B c i k y := fun c i k y n => f.2.1 c i k y (fun z => n z.1)
  have m1 : ∀ (c : Nat) i k y, ¬ c = 13 → Bm' c i k y = Bm c i k y := fun c i k y n => f.2.2 c i k y (fun z => n z.1)
  refine ⟨by rw [f.1 11 0 0 (by first | decide | omega) (by first | decide | omega)]; exact a1, h2, by rw [f.1 11 0 18 (by first | decide | omega) (by first | decide | omega)]; exact a3, by rw [b1 _ _ _ _ (by decide)]; exact a4, by rw [b1 _ _ _ _ (by decide)]; exact a5, fun k u v => ?_, fun t u v => ?_⟩
  · have := a6 k u v
    unfold CRk at this ⊢
    rw [b1 11 0 15 k (by decide), b1 11 0 16 k (by decide), b1 11 0 17 k (by decide), m1 14 0 42 k (by decide), m1 14 0 43 k (by decide), m1 14 0 44 k (by decide)]
    exact this
  · rw [b1 3 0 8 _ (by decide), b1 3 0 9 _ (by decide), b1 3 0 10 _ (by decide), m1 14 0 9 _ (by decide), m1 14 0 10 _ (by decide), m1 14 0 8 _ (by decide)]
    exact a7 t u v
theorem P_ploop {K : zK} {Km : Nat} {e xx w x s0 cnt p0 len dn nm l4 l3 i N : Int} {nn : Nat} {Fm : zF} {Q : Int → zF → zB → Int → zF → zB → Prop} {F0 : zF} {B0 Bm0 : zB} (hK : 100 < K.1) (hKm : 100 < Km) (h11 : 0 < K.2 11) (h3 : 0 < K.2 3) (he : 0 ≤ e ∧ e < K.2 1) (hxx : 0 ≤ xx ∧ xx < 4000) (hx : 0 ≤ x ∧ x < 3000) (h17 : Fm 14 0 17 = 0) (hw : Fm 14 0 6 = w) (h6 : 0 ≤ w ∧ w < 3) (hn' : Fm 14 0 45 = nn) (n64 : nn ≤ 64) (hc6 : cnt ≤ 6) (hp0 : 0 ≤ p0 ∧ p0 + cnt ≤ 1500) (hs0 : 0 ≤ s0 ∧ s0 + cnt ≤ N) (hN : N ≤ 3000) (ok : ∀ F' B' Bm', lFr e xx w F0 B0 Bm0 F' B' Bm' → F' 11 0 2 = 0 → EPR e xx w cnt F' B' Bm' → zP (f_Walker_makeEvent_273 K len 0 F' B') (f_M_event_0_277 Km xx dn nm l4 l3 i Fm Bm') Q) (no : ∀ F' B' Bm' p, lFr e xx w F0 B0 Bm0 F' B' Bm' → 0 ≤ p ∧ p ≤ N → F' 11 0 2 = 9 + 16 * Bm' 14 0 8 p → zP (f_Walker_makeEvent_273 K len 0 F' B') (f_M_event_0_277 Km xx dn nm l4 l3 i (flM Fm Bm' 9 p) Bm') Q) (h8 : ∀ t, 0 ≤ t → t ≤ N → 0 ≤ Bm0 14 0 8 t ∧ Bm0 14 0 8 t ≤ 3000) : ∀ (j n n' : Nat) {k : Int} {F : zF} {B Bm : zB}, (cnt - k).toNat = j → 0 ≤ k → k ≤ cnt → j < n → j < n' → EPR e xx w k F B Bm → PLH x s0 cnt p0 nn F B Bm → lFr e xx w F0 B0 Bm0 F B Bm → zP (f_Walker_makeEvent_228 K n k e len 0 x F B) (f_M_event_0_249 Km n' (s0 + k) (s0 + cnt) xx dn nm l4 l3 i Fm Bm) Q := by
  intro j
  induction j with
  | zero =>
    intro n n' k F B Bm hj k0 k1 hn hn2 hE hP hf
    obtain ⟨n, rfl⟩ : ∃ m, n = m + 1 := ⟨n - 1, (by first | decide | omega)⟩
    obtain ⟨n', rfl⟩ : ∃ m, n' = m + 1 := ⟨n' - 1, (by first | decide | omega)⟩
    obtain ⟨a1, a2, a3, a4, a5, a6, a7⟩ := hP
    have hk : k = cnt := by omega
    subst hk
    unfold f_Walker_makeEvent_228 f_M_event_0_249
    rw [if_pos ⟨Int.le_refl _, h11⟩, a1, if_pos ⟨Int.le_refl _, h3⟩, if_pos hx, a4, if_pos (by unfold r32; omega), if_pos (by unfold r32; omega), if_pos (Int.le_refl _), if_pos (by unfold r32; omega), if_pos (by unfold r32; omega), if_pos (Int.le_refl _)]
    exact ok F B Bm hf a2 hE
  | succ j ih =>
    intro n n' k F B Bm hj k0 k1 hn hn2 hE hP hf
    obtain ⟨n, rfl⟩ : ∃ m, n = m + 1 := ⟨n - 1, (by first | decide | omega)⟩
    obtain ⟨n', rfl⟩ : ∃ m, n' = m + 1 := ⟨n' - 1, (by first | decide | omega)⟩
    have hP' := hP
    obtain ⟨a1, a2, a3, a4, a5, a6, a7⟩ := hP
    obtain ⟨t1, t2, t3, t4, t5⟩ := a7 k k0 (by first | decide | omega)
    rw [f_Walker_makeEvent_228, f_M_event_0_249]
    rw [if_pos ⟨Int.le_refl _, h11⟩, a1, if_pos ⟨Int.le_refl _, h3⟩, if_pos hx, a4, a5, if_pos (by unfold r32; omega), if_pos (by unfold r32; omega), if_neg (by first | decide | omega), a2, if_pos (by decide), if_pos rfl, if_pos he, if_pos (by unfold r32; omega), if_pos (by unfold r32; omega), if_neg (by first | decide | omega), L_good h17, zb_s, if_pos (by decide), if_neg (by decide)]
    refine zP_c (P_pitch hK hKm h11 h3 hE (by first | decide | omega) he hxx a1 a2 h17 hw h6 a3 hn' n64 a6 (by first | decide | omega) (by first | decide | omega) t1 t2 t3 t4 t5) ?_
    intro r F1 B1 r' Fm1 Bm1 h
    rcases h with ⟨g1, g2, g3, g4, g5⟩ | ⟨g1, g2, g3, g4⟩
    · subst g2
      have f1 : lFr e xx w F B Bm F1 B1 Bm1 := ⟨fun c y k' u v => by rw [g1, zup3_v, if_neg u], g4, g5⟩
      rw [show s0 + k + 1 = s0 + (k + 1) by omega]
      exact ih n n' (by first | decide | omega) (by first | decide | omega) (by first | decide | omega) (by first | decide | omega) (by first | decide | omega) g3 (PLH_f hP' f1 (by rw [g1, zup3_v, if_neg (by first | decide | omega)]; exact a2)) (lFr_t hf f1)
    · obtain ⟨n, rfl⟩ : ∃ m, n = m + 1 := ⟨n - 1, (by first | decide | omega)⟩
      obtain ⟨n', rfl⟩ : ∃ m, n' = m + 1 := ⟨n' - 1, (by first | decide | omega)⟩
      subst g2 g3 g4
      have f1 : lFr e xx w F B1 Bm1 F1 B1 Bm1 := ⟨fun c y k' u v => by rw [g1, zup3_v, if_neg v], fun _ _ _ _ _ => rfl, fun _ _ _ _ _ => rfl⟩
      have f2 := lFr_t hf f1
      have e2 : F1 11 0 2 = 9 + 16 * Bm1 14 0 8 (s0 + k) := by rw [g1, zup3_v, if_pos (by decide)]
      have e0 : F1 11 0 0 = 0 := by rw [g1, zup3_v, if_neg (by decide)]; exact a1
      have b8 := h8 (s0 + k) (by first | decide | omega) (by first | decide | omega)
      rw [← hf.2.2 14 0 8 (s0 + k) (by first | decide | omega)] at b8
      have N := no F1 B1 Bm1 (s0 + k) f2 (by first | decide | omega) e2
      have c1 : f_Walker_makeEvent_228 K (n + 1) (k + 1) e len 0 x F1 B1 = f_Walker_makeEvent_273 K len 0 F1 B1 := by
        rw [f_Walker_makeEvent_228, if_pos ⟨Int.le_refl _, h11⟩, e0, if_pos ⟨Int.le_refl _, h3⟩, if_pos hx, a4, if_pos (by unfold r32; omega), if_pos (by unfold r32; omega)]
        by_cases z : cnt ≤ k + 1
        · rw [if_pos z]
        · rw [if_neg z, if_pos (by unfold r32; omega), if_neg (by first | decide | omega)]
      have m1 : f_M_event_0_249 Km (n' + 1) (s0 + k + 1) (s0 + cnt) xx dn nm l4 l3 i (flM Fm Bm1 9 (s0 + k)) Bm1 = f_M_event_0_277 Km xx dn nm l4 l3 i (flM Fm Bm1 9 (s0 + k)) Bm1 := by
        rw [f_M_event_0_249, if_pos (by unfold r32; omega), if_pos (by unfold r32; omega)]
        by_cases z : s0 + cnt ≤ s0 + k + 1
        · rw [if_pos z]
        · rw [if_neg z, L_goodB (flM_b (by decide) (by decide)), zb_s, if_pos (by decide), if_pos rfl]
      rw [c1, m1]
      exact N
end
