section
/-! ===== the reference: places of the events of a voice ===== -/
/-- spans that follow one another from p on -/
def CHN : Int → List (Int × Int × Int × (Int → Int) × (Int → Int)) → Prop
  | _, [] => True
  | p, r :: rs => r.1 = p ∧ p < r.2.1 ∧ CHN r.2.1 rs
def endN : Int → List (Int × Int × Int × (Int → Int) × (Int → Int)) → Int
  | p, [] => p
  | _, r :: rs => endN r.2.1 rs
theorem CHN_e : ∀ (EL : List (Int × Int × Int × (Int → Int) × (Int → Int))) (p : Int), CHN p EL → p ≤ endN p EL := by
  intro EL
  induction EL with
  | nil => intro p _; exact Int.le_refl _
  | cons r rs ih =>
    intro p h
    have := ih r.2.1 h.2.2
    have := h.2.1
    show p ≤ endN r.2.1 rs
    omega
theorem GL_c {K : zK} {o f g D N : Int} {bg en tn tk : Int → Int} {z s0 : Int} (dq : DTq g D N bg en tn tk) (hz : z ≤ N) (mono : ∀ i, s0 ≤ i → i + 1 < z → bg i ≤ bg (i + 1)) : ∀ (fu : Nat) (s come : Int) (EL : List (Int × Int × Int × (Int → Int) × (Int → Int))), z - s ≤ fu → 0 ≤ s → s0 ≤ s → (s < z → come ≤ gplF g D (bg s)) → GLp K o f (fun i => gplF g D (bg i)) (fun i => gplF g D (en i)) tn z fu s come EL → CHN come EL ∧ endN come EL = lsG (fun i => gplF g D (bg i)) (fun i => gplF g D (en i)) z fu s come := by
  have hN := dq.2.2.1
  intro fu
  induction fu with
  | zero =>
    intro s come EL hf s0' ss hc h
    rw [GLp] at h
    subst h
    exact ⟨trivial, rfl⟩
  | succ fu ih =>
    intro s come EL hf s0' ss hc h
    rw [GLp] at h
    rw [lsG]
    by_cases c : s < z
    · rw [if_pos c] at h ⊢
      obtain ⟨m, st, al, rest, e, _, h'⟩ := h
      obtain ⟨tg1, tg2⟩ := to_g dq hz ⟨s0', c⟩ ss mono
      obtain ⟨p1, p2, _, _⟩ := nxG_p (gB := fun i => gplF g D (bg i)) c (by first | decide | omega) s0'
      obtain ⟨i1, i2⟩ := ih _ _ rest (by first | decide | omega) (by first | decide | omega) (by first | decide | omega) tg2 h'
      have hc' := hc c
      subst e
      by_cases y : come < gplF g D (bg s)
      · rw [if_pos y]
        exact ⟨⟨rfl, y, rfl, tg1, i1⟩, i2⟩
      · rw [if_neg y]
        exact ⟨⟨by show gplF g D (bg s) = come; omega, by show come < toG _ _ s z; omega, i1⟩, i2⟩
    · rw [if_neg c] at h ⊢
      subst h
      exact ⟨trivial, rfl⟩
/-- rows of events with lengths as places; u is the grid's step -/
def EVn (u w v : Int) (B : zB) : Int → List (Int × Int × Int × (Int → Int) × (Int → Int)) → Prop
  | _, [] => True
  | j, r :: rs => ((0 ≤ r.2.2.1 ∧ r.2.2.1 ≤ 6) ∧ B 13 w 16 (1000 * v + j) = nu (X5 * (u * (r.2.1 - r.1))) ∧ B 13 w 17 (1000 * v + j) = de (X5 * (u * (r.2.1 - r.1))) ∧ B 13 w 22 (1000 * v + j) = 0 ∧ B 13 w 21 (1000 * v + j) = r.2.2.1 ∧ ∀ k, 0 ≤ k → k < r.2.2.1 → B 13 w 28 (6 * (1000 * v + j) + k) = r.2.2.2.1 k ∧ B 13 w 29 (6 * (1000 * v + j) + k) = r.2.2.2.2 k ∧ (0 ≤ r.2.2.2.1 k ∧ r.2.2.2.1 k ≤ 62) ∧ (-7 ≤ r.2.2.2.2 k ∧ r.2.2.2.2 k ≤ 7)) ∧ EVn u w v B (j + 1) rs
def PLn (u w v : Int) (B : zB) : Int → List (Int × Int × Int × (Int → Int) × (Int → Int)) → Prop
  | _, [] => True
  | j, r :: rs => (B 13 w 14 (1000 * v + j) = nu (X5 * (u * r.1)) ∧ B 13 w 15 (1000 * v + j) = de (X5 * (u * r.1))) ∧ PLn u w v B (j + 1) rs
theorem gu {g : Int} (hg : g = 4 ∨ g = 8 ∨ g = 16 ∨ g = 32) : (512 / g) * g = 512 ∧ (512 / g = 128 ∨ 512 / g = 64 ∨ 512 / g = 32 ∨ 512 / g = 16) := by
  rcases hg with rfl | rfl | rfl | rfl <;> decide
theorem len_f {g len : Int} (hg : g = 4 ∨ g = 8 ∨ g = 16 ∨ g = 32) (hl : 0 ≤ len) : len / gc len g = nu (X5 * (512 / g * len)) ∧ g / gc len g = de (X5 * (512 / g * len)) := by
  have xa : X5 * (512 / g * len) = 1587600 * (512 / g * len) := rfl
  have e : len * WW = X5 * (512 / g * len) * g := by
    have WWe : WW = 812851200 := rfl
    rcases hg with rfl | rfl | rfl | rfl
    · show len * 812851200 = 1587600 * (128 * len) * 4; omega
    · show len * 812851200 = 1587600 * (64 * len) * 8; omega
    · show len * 812851200 = 1587600 * (32 * len) * 16; omega
    · show len * 812851200 = 1587600 * (16 * len) * 32; omega
  have p0 : 0 ≤ X5 * (512 / g * len) := by
    rcases hg with rfl | rfl | rfl | rfl
    · show 0 ≤ 1587600 * (128 * len); omega
    · show 0 ≤ 1587600 * (64 * len); omega
    · show 0 ≤ 1587600 * (32 * len); omega
    · show 0 ≤ 1587600 * (16 * len); omega
  exact red_u (W := WW) (by decide) p0 hl (by first | decide | omega) e
theorem EVL_n {g w v : Int} {B : zB} (hg : g = 4 ∨ g = 8 ∨ g = 16 ∨ g = 32) : ∀ (EL : List (Int × Int × Int × (Int → Int) × (Int → Int))) (j p : Int), CHN p EL → EVL g w v B j EL → EVn (512 / g) w v B j EL := by
  intro EL
  induction EL with
  | nil => intro j p _ _; trivial
  | cons r rs ih =>
    intro j p hc h
    obtain ⟨h0, h1, h2, h3, h4, h5, h6⟩ := h.1
    have := hc.1
    have := hc.2.1
    obtain ⟨l1, l2⟩ := len_f (len := r.2.1 - r.1) hg (by first | decide | omega)
    exact ⟨⟨h0, by rw [h1, l1], by rw [h2, l2], h4, h5, h6⟩, ih (j + 1) r.2.1 hc.2.2 h.2⟩
theorem EVn_f {u w v : Int} {B B' : zB} : ∀ (EL : List (Int × Int × Int × (Int → Int) × (Int → Int))) (j : Int), EVn u w v B j EL → (∀ k y, k = 16 ∨ k = 17 ∨ k = 21 ∨ k = 22 → 1000 * v + j ≤ y → y < 1000 * v + j + (EL.length : Int) → B' 13 w k y = B 13 w k y) → (∀ k y, k = 28 ∨ k = 29 → 6 * (1000 * v + j) ≤ y → y < 6 * (1000 * v + j + (EL.length : Int)) → B' 13 w k y = B 13 w k y) → EVn u w v B' j EL := by
  intro EL
  induction EL with
  | nil => intro j _ _ _; trivial
  | cons r rs ih =>
    intro j h e e2
    have ll : ((r :: rs).length : Int) = (rs.length : Int) + 1 := by rw [List.length_cons]; omega
    rw [ll] at e e2
    obtain ⟨⟨h0, h1, h2, h4, h5, h6⟩, h'⟩ := h
    refine ⟨⟨h0, by rw [e 16 _ (by first | decide | omega) (by first | decide | omega) (by first | decide | omega)]; exact h1, by rw [e 17 _ (by first | decide | omega) (by first | decide | omega) (by first | decide | omega)]; exact h2, by rw [e 22 _ (by first | decide | omega) (by first | decide | omega) (by first | decide | omega)]; exact h4, by rw [e 21 _ (by first | decide | omega) (by first | decide | omega) (by first | decide | omega)]; exact h5, fun k k0 k1 => ?_⟩, ih (j + 1) h' (fun k y hk a b => e k y hk (by first | decide | omega) (by first | decide | omega)) (fun k y hk a b => e2 k y hk (by first | decide | omega) (by first | decide | omega))⟩
    rw [e2 28 _ (by first | decide | omega) (by first | decide | omega) (by first | decide | omega), e2 29 _ (by first | decide | omega) (by first | decide | omega) (by first | decide | omega)]
    exact h6 k k0 k1
theorem EVn_a {u w v : Int} {B : zB} : ∀ (EL : List (Int × Int × Int × (Int → Int) × (Int → Int))) (j : Int) (r : Int × Int × Int × (Int → Int) × (Int → Int)), EVn u w v B j EL → EVn u w v B (j + (EL.length : Int)) [r] → EVn u w v B j (EL ++ [r]) := by
  intro EL
  induction EL with
  | nil =>
    intro j r _ h
    rw [List.length_nil, show j + ((0 : Nat) : Int) = j by omega] at h
    exact h
  | cons s rs ih =>
    intro j r h h'
    rw [List.length_cons, show j + ((rs.length + 1 : Nat) : Int) = j + 1 + (rs.length : Int) by omega] at h'
    exact ⟨h.1, ih (j + 1) r h.2 h'⟩
theorem CHN_a : ∀ (EL : List (Int × Int × Int × (Int → Int) × (Int → Int))) (p : Int) (r : Int × Int × Int × (Int → Int) × (Int → Int)), CHN p EL → r.1 = endN p EL → r.1 < r.2.1 → CHN p (EL ++ [r]) ∧ endN p (EL ++ [r]) = r.2.1 := by
  intro EL
  induction EL with
  | nil => intro p r _ h1 h2; exact ⟨⟨h1, by have : r.1 = p := h1; omega, trivial⟩, rfl⟩
  | cons s rs ih =>
    intro p r h h1 h2
    obtain ⟨a, b⟩ := ih s.2.1 r h.2.2 h1 h2
    exact ⟨⟨h.1, h.2.1, a⟩, b⟩
/-- places written: the reference alone -/
theorem M_pl8 {Km : Nat} {u w v M : Int} (hKm : 812851200 < Km) (v0 : 0 ≤ v ∧ v < 4) (w0 : 0 ≤ w ∧ w < 3) (hu : u = 128 ∨ u = 64 ∨ u = 32 ∨ u = 16) (hM : u * M ≤ 400000) : ∀ (EL : List (Int × Int × Int × (Int → Int) × (Int → Int))) (m : Nat) (j p : Int) (F : zF) (B : zB), EL.length < m → 0 ≤ j → j + (EL.length : Int) ≤ 1000 → 0 ≤ p → CHN p EL → endN p EL ≤ M → B 13 w 12 v = j + (EL.length : Int) → F 14 0 0 = nu (X5 * (u * p)) → F 14 0 1 = de (X5 * (u * p)) → EVn u w v B j EL → ∃ F' B', f_M_places_8 Km m j w v F B = some (0, F', B') ∧ (∀ c y k, ¬ (c = 14 ∧ y = 0 ∧ k ≤ 1) → F' c y k = F c y k) ∧ F' 14 0 0 = nu (X5 * (u * endN p EL)) ∧ F' 14 0 1 = de (X5 * (u * endN p EL)) ∧ (∀ c i k y, ¬ (c = 13 ∧ i = w ∧ (k = 14 ∨ k = 15) ∧ 1000 * v + j ≤ y ∧ y < 1000 * v + 1000) → B' c i k y = B c i k y) ∧ PLn u w v B' j EL := by
  have xa : ∀ y : Int, X5 * y = 1587600 * y := fun _ => rfl
  intro EL
  induction EL with
  | nil =>
    intro m j p F B hm j0 jl p0 hc hE h12 f0 f1 hv
    obtain ⟨q, rfl⟩ : ∃ q, m = q + 1 := ⟨m - 1, by simp at hm; omega⟩
    rw [List.length_nil] at h12 jl
    refine ⟨F, B, ?_, fun _ _ _ _ => rfl, f0, f1, fun _ _ _ _ _ => rfl, trivial⟩
    rw [f_M_places_8, if_pos w0, if_pos v0, if_pos (by unfold r32; omega), h12, if_pos (by unfold r32; omega), if_pos (by first | decide | omega)]
  | cons r rs ih =>
    intro m j p F B hm j0 jl p0 hc hE h12 f0 f1 hv
    rw [List.length_cons] at hm jl h12
    obtain ⟨q, rfl⟩ : ∃ q, m = q + 1 := ⟨m - 1, (by first | decide | omega)⟩
    obtain ⟨c1, c2, c3⟩ := hc
    have ce := CHN_e rs r.2.1 c3
    have hE' : endN r.2.1 rs ≤ M := hE
    obtain ⟨⟨h0, h1, h2, h4, h5, h6⟩, h'⟩ := hv
    have pb : 0 ≤ u * p ∧ 0 ≤ u * (r.2.1 - r.1) ∧ u * p + u * (r.2.1 - r.1) = u * r.2.1 ∧ u * r.2.1 ≤ 400000 := by rcases hu with rfl | rfl | rfl | rfl <;> omega
    have x1 := xa (u * p)
    have x2 := xa (u * (r.2.1 - r.1))
    have x3 := xa (u * r.2.1)
    generalize hB1 : zup4 (zup4 B 13 w 14 (1000 * v + j) (F 14 0 0)) 13 w 15 (1000 * v + j) (F 14 0 1) = B1
    have bn : ∀ c i k y, ¬ (c = 13 ∧ i = w ∧ (k = 14 ∨ k = 15) ∧ y = 1000 * v + j) → B1 c i k y = B c i k y := fun c i k y n => by rw [← hB1, zup4_v, if_neg (by first | decide | omega), zup4_v, if_neg (by first | decide | omega)]
    have b14 : B1 13 w 14 (1000 * v + j) = F 14 0 0 := by rw [← hB1]; simp [zup4_v]
    have b15 : B1 13 w 15 (1000 * v + j) = F 14 0 1 := by rw [← hB1]; simp [zup4_v]
    have fn : ∀ c y k, ¬ (c = 14 ∧ y = 0 ∧ k ≤ 1) → fr F (X5 * (u * r.2.1)) c y k = F c y k := fun c y k n => fr_n n
    obtain ⟨F2, B2, u1, u2, u3, u4, u5, u6⟩ := ih q (j + 1) r.2.1 (fr F (X5 * (u * r.2.1))) B1 (by first | decide | omega) (by first | decide | omega) (by first | decide | omega) (by first | decide | omega) c3 hE' (by rw [bn 13 w 12 v (by first | decide | omega), h12]; omega) (by rw [fr_0]) (by rw [fr_1]) (EVn_f rs (j + 1) h' (fun k y hk a b => bn 13 w k y (by first | decide | omega)) (fun k y hk a b => bn 13 w k y (by first | decide | omega)))
    refine ⟨F2, B2, ?_, fun c y k n => by rw [u2 c y k n, fn c y k n], u3, u4, fun c i k y n => by rw [u5 c i k y (by first | decide | omega), bn c i k y (by first | decide | omega)], ?_, u6⟩
    · rw [f_M_places_8, if_pos w0, if_pos v0, if_pos (by unfold r32; omega), h12, if_pos (by unfold r32; omega), if_neg (by first | decide | omega), if_pos (by first | decide | omega), hB1, bn 13 w 16 _ (by first | decide | omega), bn 13 w 17 _ (by first | decide | omega), h1, h2, f0, f1, L_plusR hKm (FR_r (by first | decide | omega)) (FR_r (by first | decide | omega)) (by first | decide | omega), zb_s, show X5 * (u * p) + X5 * (u * (r.2.1 - r.1)) = X5 * (u * r.2.1) by omega]
      exact u1
    · rw [u5 13 w 14 _ (by first | decide | omega), u5 13 w 15 _ (by first | decide | omega), b14, b15, f0, f1, c1]
      exact ⟨rfl, rfl⟩
end
