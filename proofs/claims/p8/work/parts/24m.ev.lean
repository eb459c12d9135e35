section
/-! ===== an event made: both sides ===== -/
theorem EVW_f {w e x : Int} {F F' : zF} {B Bm B' Bm' : zB} (h : EVW w e x F B Bm) (h1 : ∀ k, F' 1 e k = F 1 e k) (h2 : ∀ k y, B' 1 e k y = B 1 e k y) (h3 : ∀ k, 16 ≤ k → k ≤ 26 → Bm' 13 w k x = Bm 13 w k x) (h4 : ∀ k y, 28 ≤ k → k ≤ 29 → 6 * x ≤ y → y < 6 * x + 6 → Bm' 13 w k y = Bm 13 w k y) (h5 : ∀ y, Bm' 14 0 8 y = Bm 14 0 8 y) : EVW w e x F' B' Bm' := by
  unfold EVW EPR at h ⊢
  simp only [h1, h2, h5, h3 16 (by decide) (by decide), h3 17 (by decide) (by decide), h3 18 (by decide) (by decide), h3 19 (by decide) (by decide), h3 20 (by decide) (by decide), h3 21 (by decide) (by decide), h3 22 (by decide) (by decide), h3 23 (by decide) (by decide), h3 24 (by decide) (by decide), h3 25 (by decide) (by decide), h3 26 (by decide) (by decide)]
  obtain ⟨a1, a2, a3, a4, a5, a6, a7, a8, a9, a10, a11, e1, e2, e3, e4, e5⟩ := h
  refine ⟨a1, a2, a3, a4, a5, a6, a7, a8, a9, a10, a11, trivial, e2, e3, fun k u v => ?_, e5⟩
  rw [h4 28 _ (by decide) (by decide) (by first | decide | omega) (by first | decide | omega), h4 29 _ (by decide) (by decide) (by first | decide | omega) (by first | decide | omega)]
  exact e4 k u v
def evB (w x a b mk ld tk ins up dn out ot : Int) (B : zB) : zB := zup4 (zup4 (zup4 (zup4 (zup4 (zup4 (zup4 (zup4 (zup4 (zup4 B 13 w 16 x a) 13 w 17 x b) 13 w 18 x mk) 13 w 19 x ld) 13 w 20 x tk) 13 w 22 x ins) 13 w 23 x up) 13 w 24 x dn) 13 w 25 x out) 13 w 26 x ot
theorem evB_n {w x a b mk ld tk ins up dn out ot : Int} {B : zB} {c k : Nat} {i y : Int} (h : ¬ (c = 13 ∧ i = w ∧ y = x ∧ 16 ≤ k ∧ k ≤ 26 ∧ ¬ k = 21)) : evB w x a b mk ld tk ins up dn out ot B c i k y = B c i k y := by
  unfold evB
  rw [zup4_v, if_neg (by first | decide | omega), zup4_v, if_neg (by first | decide | omega), zup4_v, if_neg (by first | decide | omega), zup4_v, if_neg (by first | decide | omega), zup4_v, if_neg (by first | decide | omega), zup4_v, if_neg (by first | decide | omega), zup4_v, if_neg (by first | decide | omega), zup4_v, if_neg (by first | decide | omega), zup4_v, if_neg (by first | decide | omega), zup4_v, if_neg (by first | decide | omega)]
theorem evB_v {w x a b mk ld tk ins up dn out ot : Int} {B : zB} : evB w x a b mk ld tk ins up dn out ot B 13 w 16 x = a ∧ evB w x a b mk ld tk ins up dn out ot B 13 w 17 x = b ∧ evB w x a b mk ld tk ins up dn out ot B 13 w 18 x = mk ∧ evB w x a b mk ld tk ins up dn out ot B 13 w 19 x = ld ∧ evB w x a b mk ld tk ins up dn out ot B 13 w 20 x = tk ∧ evB w x a b mk ld tk ins up dn out ot B 13 w 22 x = ins ∧ evB w x a b mk ld tk ins up dn out ot B 13 w 23 x = up ∧ evB w x a b mk ld tk ins up dn out ot B 13 w 24 x = dn ∧ evB w x a b mk ld tk ins up dn out ot B 13 w 25 x = out ∧ evB w x a b mk ld tk ins up dn out ot B 13 w 26 x = ot := by
  simp [evB, zup4_v]
theorem C273 {K : zK} {F : zF} {B : zB} {len q : Int} (h11 : 0 < K.2 11) (h4 : 0 ≤ q ∧ q < K.2 4) (h1 : F 11 0 1 = q) : f_Walker_makeEvent_273 K len 0 F B = some (0, zup3 (zup3 F 4 q 6 (F 4 q 6 + 1)) 11 0 11 (F 11 0 11 + len), B) := by
  unfold f_Walker_makeEvent_273
  rw [if_pos ⟨Int.le_refl _, h11⟩, h1, if_pos h4]
def evG (p : Int) (F : zF) : zF := zup3 (zup3 (zup3 (fr F p) 14 0 38 (nu p)) 14 0 39 (de p)) 14 0 36 (F 14 0 36 + 1)
theorem evG_n {p : Int} {F : zF} {c k : Nat} {y : Int} (h : ¬ (c = 14 ∧ y = 0 ∧ (k ≤ 1 ∨ k = 36 ∨ k = 38 ∨ k = 39))) : evG p F c y k = F c y k := by
  unfold evG
  rw [zup3_v, if_neg (by first | decide | omega), zup3_v, if_neg (by first | decide | omega), zup3_v, if_neg (by first | decide | omega), fr_n (by first | decide | omega)]
theorem evG_v {p : Int} {F : zF} : evG p F 14 0 36 = F 14 0 36 + 1 ∧ evG p F 14 0 38 = nu p ∧ evG p F 14 0 39 = de p := by
  simp [evG, zup3_v]
theorem L277 {K : Nat} {F : zF} {B : zB} {x l4 l3 i come len w : Int} (hK : 812851200 < K) (h17 : F 14 0 17 = 0) (c38 : F 14 0 38 = nu come) (c39 : F 14 0 39 = de come) (c0 : 0 ≤ come ∧ come ≤ 1000000000000) (l0 : 0 ≤ len ∧ len ≤ 1000000000000) (hw : F 14 0 6 = w) (w0 : 0 ≤ w ∧ w < 3) (hx : 0 ≤ x ∧ x < 4000) (hi : 0 ≤ i ∧ i < 3001) (hb : 0 ≤ F 14 0 48 ∧ F 14 0 48 ≤ 100) : f_M_event_0_277 K x (de len) (nu len) l4 l3 i F B = some (0, evG (come + len) F, evB w x (nu len) (de len) (B 14 0 34 i) (F 14 0 40) i (F 14 0 48) l3 l4 (if F 14 0 48 ≤ 0 then 0 else F 14 0 50) (F 14 0 49) B) := by
  unfold f_M_event_0_277
  rw [L_good h17, zb_s, if_pos (by decide), if_neg (by decide), c38, c39, L_plusR hK (FR_r c0.1) (FR_r l0.1) (by first | decide | omega), zb_s]
  generalize hG : fr F (come + len) = G
  have g : ∀ (k : Nat), ¬ k ≤ 1 → G 14 0 k = F 14 0 k := fun k n => by rw [← hG, fr_n (by first | decide | omega)]
  have g0 : G 14 0 0 = nu (come + len) := by rw [← hG, fr_0]
  have g1 : G 14 0 1 = de (come + len) := by rw [← hG, fr_1]
  rw [g 6 (by first | decide | omega), hw, if_pos w0, if_pos hx, if_pos hi, g 48 (by first | decide | omega), if_pos (by unfold r32; omega), g0, g1, g 40 (by first | decide | omega), g 50 (by first | decide | omega)]
  have q : ∀ (k : Nat), ¬ (k ≤ 1 ∨ k = 38 ∨ k = 39) → (zup3 (zup3 G 14 0 38 (nu (come + len))) 14 0 39 (de (come + len))) 14 0 k = F 14 0 k := fun k n => by
    rw [zup3_v, if_neg (by first | decide | omega), zup3_v, if_neg (by first | decide | omega), g k (by first | decide | omega)]
  have z : ∀ out C, f_M_event_0_443 K x w x out (zup3 (zup3 G 14 0 38 (nu (come + len))) 14 0 39 (de (come + len))) C = some (0, evG (come + len) F, zup4 (zup4 C 13 w 25 x out) 13 w 26 x (F 14 0 49)) := fun out C => by
    unfold f_M_event_0_443 evG
    rw [hG, if_pos w0, if_pos hx, q 6 (by first | decide | omega), hw, if_pos w0, if_pos hx, q 36 (by first | decide | omega), q 49 (by first | decide | omega)]
  have m34 : (zup4 (zup4 B 13 w 16 x (nu len)) 13 w 17 x (de len)) 14 0 34 i = B 14 0 34 i := by
    rw [zup4_v, if_neg (by first | decide | omega), zup4_v, if_neg (by first | decide | omega)]
  rw [m34, z, z]
  by_cases c : F 14 0 48 ≤ 0
  · rw [if_pos c, if_pos c]
    rfl
  · rw [if_neg c, if_neg c]
    rfl
theorem L277b {K : Nat} {F : zF} {B : zB} {x l4 l3 i a b : Int} (h : bad F) : f_M_event_0_277 K x a b l4 l3 i F B = some (0, F, B) := by
  unfold f_M_event_0_277
  rw [L_goodB h, zb_s, if_pos (by decide), if_pos rfl]
end
