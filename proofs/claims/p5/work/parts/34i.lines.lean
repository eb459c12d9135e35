section
section
/-! ===== lines: the reference's side ===== -/
section
variable {K : Nat} {w : Int}
theorem L_ahd {F : zF} {B : zB} {a : Int} (w0 : 0 ≤ w ∧ w < 3) (h2 : -7 ≤ F 13 w 2 ∧ F 13 w 2 ≤ 7) (ha : r32 a) : ∃ r, f_M_ahead K w a F B = some (r, F, B) ∧ 0 ≤ r ∧ r ≤ 100 := by
  have key : ∀ s : Int, 0 ≤ s ∧ s ≤ 7 → ∃ r, f_M_ahead_22 K a 24 5 s F B = some (r, F, B) ∧ 0 ≤ r ∧ r ≤ 100 := fun s hs => by
    unfold f_M_ahead_22 f_M_ahead_34
    rw [if_pos ha]
    by_cases c : a = 0
    · rw [if_pos c]; exact ⟨_, rfl, by omega, by omega⟩
    · rw [if_neg c]; exact ⟨_, rfl, by omega, by omega⟩
  unfold f_M_ahead
  rw [if_pos w0, if_pos (by unfold r32; omega)]
  by_cases c : 0 ≤ F 13 w 2
  · rw [if_pos c]; exact key _ (by omega)
  · rw [if_neg c]; exact key _ (by omega)
theorem L_lw9 {F : zF} {B : zB} {a b : Int} (w0 : 0 ≤ w ∧ w < 3) (h46 : ∀ x, 0 ≤ B 13 w 46 x ∧ B 13 w 46 x ≤ 400000) (ha : 0 ≤ a) (hb : 0 ≤ b) (hab : a + b ≤ 100) : ∀ (d N : Nat) (j v : Int), a + b ≤ j + d → 0 ≤ j → j ≤ 100 → d < N → (0 ≤ v ∧ v ≤ 100 + 400000 * j) → ∃ r, f_M_lineWide_9 K N j v w a b F B = some (r, F, B) ∧ 0 ≤ r ∧ r ≤ 50000000 := by
  intro d
  induction d with
  | zero =>
    intro N j v hj j0 j1 hN hv
    obtain ⟨n, rfl⟩ : ∃ n, N = n + 1 := ⟨N - 1, by omega⟩
    rw [f_M_lineWide_9, if_pos (by unfold r32; omega), if_pos (by unfold r32; omega), if_pos (by omega)]
    exact ⟨v, rfl, by omega, by omega⟩
  | succ d ih =>
    intro N j v hj j0 j1 hN hv
    obtain ⟨n, rfl⟩ : ∃ n, N = n + 1 := ⟨N - 1, by omega⟩
    rw [f_M_lineWide_9, if_pos (by unfold r32; omega), if_pos (by unfold r32; omega)]
    by_cases c : a + b ≤ j
    · rw [if_pos c]; exact ⟨v, rfl, by omega, by omega⟩
    · have k := h46 j
      rw [if_neg c, if_pos w0, if_pos (by omega)]
      exact ih n (j + 1) _ (by omega) (by omega) (by omega) (by omega) (by omega)
theorem L_lw {F : zF} {B : zB} {a b : Int} (hK : 200 ≤ K) (w0 : 0 ≤ w ∧ w < 3) (h2 : -7 ≤ F 13 w 2 ∧ F 13 w 2 ≤ 7) (h46 : ∀ x, 0 ≤ B 13 w 46 x ∧ B 13 w 46 x ≤ 400000) (ha : 0 ≤ a) (hb : 0 ≤ b) (hab : a + b ≤ 100) : ∃ r, f_M_lineWide K w a b F B = some (r, F, B) ∧ 0 ≤ r ∧ r ≤ 50000000 := by
  obtain ⟨r, e, r0, r1⟩ := L_ahd (K := K) (B := B) w0 h2 (a := a) (by unfold r32; omega)
  unfold f_M_lineWide
  rw [e, zb_s]
  exact L_lw9 w0 h46 ha hb hab 100 K a r (by omega) ha (by omega) (by omega) (by omega)
theorem L_prc {F : zF} {B : zB} {a b wd : Int} (hK : 200 ≤ K) (w0 : 0 ≤ w ∧ w < 3) (h2 : -7 ≤ F 13 w 2 ∧ F 13 w 2 ≤ 7) (h7 : 0 ≤ F 13 w 7 ∧ F 13 w 7 ≤ 100) (h46 : ∀ x, 0 ≤ B 13 w 46 x ∧ B 13 w 46 x ≤ 400000) (ha : 0 ≤ a) (hb : 0 ≤ b) (hab : a + b ≤ 100) (hw : 0 ≤ wd ∧ wd ≤ 2000) : ∃ r, f_M_price K w a b wd F B = some (r, F, B) ∧ -1 ≤ r ∧ r ≤ 10000000000000000 ∧ (b ≤ 1 → 0 ≤ r) := by
  obtain ⟨r, e, r0, r1⟩ := L_lw hK w0 h2 h46 ha hb hab
  unfold f_M_price f_M_price_43 f_M_price_69
  rw [e, zb_s, if_pos (by unfold r32; omega), if_pos (by unfold r32; omega), if_pos (by unfold r64; omega), if_pos (by unfold r64; omega)]
  by_cases c : zcmp r wd ≤ 0
  · have le : r ≤ wd := by unfold zcmp at c; split at c <;> omega
    have m1 : 0 ≤ (wd - r) * (wd - r) := Int.mul_nonneg (by omega) (by omega)
    have m2 : (wd - r) * (wd - r) ≤ 2000 * 2000 := Int.mul_le_mul (by omega) (by omega) (by omega) (by omega)
    rw [if_pos c, if_pos w0, if_pos (by unfold r32; omega), if_pos (by unfold r32; omega)]
    by_cases c' : a + b = F 13 w 7
    · rw [if_pos c']; exact ⟨0, rfl, by omega, by omega, fun _ => by omega⟩
    · rw [if_neg c']; exact ⟨_, rfl, by omega, by omega, fun _ => by omega⟩
  · have le : wd < r := by unfold zcmp at c; split at c <;> omega
    have m1 : 0 ≤ 4 * (r - wd) * (r - wd) := Int.mul_nonneg (by omega) (by omega)
    have m2 : 4 * (r - wd) * (r - wd) ≤ 200000000 * 50000000 := Int.mul_le_mul (by omega) (by omega) (by omega) (by omega)
    rw [if_neg c, if_pos (by unfold r32; omega)]
    by_cases c' : b ≤ 1
    · rw [if_pos c']; exact ⟨_, rfl, by omega, by omega, fun _ => m1⟩
    · rw [if_neg c']; exact ⟨_, rfl, by omega, by omega, fun z => absurd z c'⟩
/-- what choosing may change -/
noncomputable def lcB (B B' : zB) : Prop := ∀ c y k x, ¬ (c = 14 ∧ y = 0 ∧ (k = 59 ∨ k = 60)) → B' c y k x = B c y k x
theorem lcB_t {B B1 B2 : zB} (h : lcB B B1) (h' : lcB B1 B2) : lcB B B2 := fun c y k x n => by rw [h' c y k x n, h c y k x n]
theorem lcB_w {B : zB} {k : Nat} {i x : Int} (hk : k = 59 ∨ k = 60) : lcB B (zup4 B 14 0 k i x) := fun c y j z n => by rw [zup4_v, if_neg (by omega)]
theorem L_l60 {F : zF} {nb wd a : Int} {rec : Int → Int → Int → zF → zB → zO} (hK : 200 ≤ K) (w0 : 0 ≤ w ∧ w < 3) (h2 : -7 ≤ F 13 w 2 ∧ F 13 w 2 ≤ 7) (h7 : F 13 w 7 = nb) (n0 : 0 ≤ nb ∧ nb ≤ 100) (ha : 0 ≤ a ∧ a < nb) (hw : 0 ≤ wd ∧ wd ≤ 2000) : ∀ (d N : Nat) (j : Int) (B : zB), nb + 1 ≤ a + j + d → 1 ≤ j → j ≤ 101 → d < N → (∀ x, 0 ≤ B 13 w 46 x ∧ B 13 w 46 x ≤ 400000) → (∀ i, a < i → i ≤ nb → 0 ≤ B 14 0 59 i ∧ B 14 0 59 i ≤ 10000000000000000 * (nb - i)) → ((j = 1 ∧ B 14 0 60 a = 0) ∨ (1 ≤ B 14 0 60 a ∧ B 14 0 60 a ≤ nb - a ∧ 0 ≤ B 14 0 59 a ∧ B 14 0 59 a ≤ 10000000000000000 * (nb - a))) → ∃ B', f_M_lines_60 rec K N j a w wd F B = rec (a - 1) w wd F B' ∧ lcB B B' ∧ (∀ k x, ¬ x = a → B' 14 0 k x = B 14 0 k x) ∧ (1 ≤ B' 14 0 60 a ∧ B' 14 0 60 a ≤ nb - a) ∧ (0 ≤ B' 14 0 59 a ∧ B' 14 0 59 a ≤ 10000000000000000 * (nb - a)) := by
  intro d
  induction d with
  | zero =>
    intro N j B hj j0 j1 hN h46 h59 hs
    obtain ⟨n, rfl⟩ : ∃ n, N = n + 1 := ⟨N - 1, by omega⟩
    rw [f_M_lines_60, if_pos w0, if_pos (by unfold r32; omega), h7, if_pos (by unfold r32; omega), if_pos (by omega)]
    exact ⟨B, rfl, fun _ _ _ _ _ => rfl, fun _ _ _ => rfl, by omega, by omega⟩
  | succ d ih =>
    intro N j B hj j0 j1 hN h46 h59 hs
    obtain ⟨n, rfl⟩ : ∃ n, N = n + 1 := ⟨N - 1, by omega⟩
    rw [f_M_lines_60, if_pos w0, if_pos (by unfold r32; omega), h7, if_pos (by unfold r32; omega)]
    by_cases c : nb < a + j
    · rw [if_pos c]
      exact ⟨B, rfl, fun _ _ _ _ _ => rfl, fun _ _ _ => rfl, by omega, by omega⟩
    obtain ⟨r, e, r0, r1, r2⟩ := L_prc hK w0 h2 (by omega) h46 ha.1 (b := j) (by omega) (by omega) hw
    have k59 := h59 (a + j) (by omega) (by omega)
    rw [if_neg c, e, zb_s, if_pos (by unfold r64; omega)]
    have o134 : 0 ≤ r → ∃ B', f_M_lines_134 rec (f_M_lines_60 rec K n) K (r + B 14 0 59 (a + j)) j a w wd F B = rec (a - 1) w wd F B' ∧ lcB B B' ∧ (∀ k x, ¬ x = a → B' 14 0 k x = B 14 0 k x) ∧ (1 ≤ B' 14 0 60 a ∧ B' 14 0 60 a ≤ nb - a) ∧ (0 ≤ B' 14 0 59 a ∧ B' 14 0 59 a ≤ 10000000000000000 * (nb - a)) := fun rp => by
      unfold f_M_lines_134 f_M_lines_152
      rw [if_pos (by omega)]
      obtain ⟨B', g1, g2, g3, g4, g5⟩ := ih n (j + 1) (zup4 (zup4 B 14 0 59 a (r + B 14 0 59 (a + j))) 14 0 60 a j) (by omega) (by omega) (by omega) (by omega) (fun x => by rw [zup4_v, if_neg (by omega), zup4_v, if_neg (by omega)]; exact h46 x) (fun i i0 i1 => by rw [zup4_v, if_neg (by omega), zup4_v, if_neg (by omega)]; exact h59 i i0 i1) (Or.inr (by
        rw [zup4_v, if_pos ⟨rfl, rfl, rfl, rfl⟩, zup4_v, if_neg (by omega), zup4_v, if_pos ⟨rfl, rfl, rfl, rfl⟩]
        omega))
      exact ⟨B', g1, lcB_t (lcB_t (lcB_w (by omega)) (lcB_w (by omega))) g2, fun k x hx => by rw [g3 k x hx, zup4_v, if_neg (by omega), zup4_v, if_neg (by omega)], g4, g5⟩
    by_cases c1 : 0 ≤ zcmp r 0
    · have rp : 0 ≤ r := by unfold zcmp at c1; split at c1 <;> omega
      have r60 : r32 (B 14 0 60 a) := by
        clear o134 ih
        rcases hs with z | z
        · unfold r32; omega
        · unfold r32; omega
      rw [if_pos c1, if_pos (by clear o134; omega), if_pos (by clear o134; omega), if_pos r60]
      by_cases c2 : B 14 0 60 a ≤ 0
      · rw [if_pos c2]; exact o134 rp
      · have q : 1 ≤ B 14 0 60 a ∧ B 14 0 60 a ≤ nb - a ∧ 0 ≤ B 14 0 59 a ∧ B 14 0 59 a ≤ 10000000000000000 * (nb - a) := by
          rcases hs with z | z
          · omega
          · exact z
        rw [if_neg c2, if_pos (by unfold r64; omega), if_pos (by unfold r64; omega)]
        by_cases c3 : zcmp (r + B 14 0 59 (a + j)) (B 14 0 59 a) ≤ 0
        · rw [if_pos c3]; exact o134 rp
        · rw [if_neg c3]
          exact ih n (j + 1) B (by omega) (by omega) (by omega) (by omega) h46 h59 (Or.inr q)
    · have rn : r < 0 := by
        rcases Int.lt_or_le r 0 with z | z
        · exact z
        · refine absurd ?_ c1
          unfold zcmp
          split
          · omega
          · split <;> omega
      rw [if_neg c1]
      refine ih n (j + 1) B (by omega) (by omega) (by omega) (by omega) h46 h59 (Or.inr ?_)
      rcases hs with ⟨z, _⟩ | z
      · have := r2 (by omega); omega
      · exact z
theorem L_l44 {F : zF} {nb wd : Int} (hK : 200 ≤ K) (w0 : 0 ≤ w ∧ w < 3) (h2 : -7 ≤ F 13 w 2 ∧ F 13 w 2 ≤ 7) (h7 : F 13 w 7 = nb) (n0 : 0 ≤ nb ∧ nb ≤ 100) (hw : 0 ≤ wd ∧ wd ≤ 2000) : ∀ (d N : Nat) (a : Int) (B : zB), a + 1 = d → a < nb → d < N → (∀ x, 0 ≤ B 13 w 46 x ∧ B 13 w 46 x ≤ 400000) → (∀ i, a < i → i ≤ nb → 0 ≤ B 14 0 59 i ∧ B 14 0 59 i ≤ 10000000000000000 * (nb - i)) → (∀ i, a < i → i < nb → 1 ≤ B 14 0 60 i ∧ B 14 0 60 i ≤ nb - i) → ∃ B', f_M_lines_44 K N a w wd F B = f_M_lines_177 K K 0 w wd (zup3 (zup3 F 13 w 48 0) 13 w 47 wd) B' ∧ lcB B B' ∧ (∀ i, 0 ≤ i → i < nb → 1 ≤ B' 14 0 60 i ∧ B' 14 0 60 i ≤ nb - i) := by
  intro d
  induction d with
  | zero =>
    intro N a B ha a1 hN h46 h59 h60
    obtain ⟨n, rfl⟩ : ∃ n, N = n + 1 := ⟨N - 1, by omega⟩
    rw [f_M_lines_44, if_pos (by unfold r32; omega), if_pos (by omega), if_pos w0]
    exact ⟨B, rfl, fun _ _ _ _ _ => rfl, fun i i0 i1 => h60 i (by omega) i1⟩
  | succ d ih =>
    intro N a B ha a1 hN h46 h59 h60
    obtain ⟨n, rfl⟩ : ∃ n, N = n + 1 := ⟨N - 1, by omega⟩
    rw [f_M_lines_44, if_pos (by unfold r32; omega), if_neg (by omega), if_pos (by omega)]
    obtain ⟨B1, g1, g2, g3, g4, g5⟩ := L_l60 (F := F) (nb := nb) (wd := wd) (a := a) (rec := f_M_lines_44 K n) hK w0 h2 h7 n0 (by omega) hw 101 K 1 (zup4 B 14 0 60 a 0) (by omega) (by omega) (by omega) (by omega) (fun x => by rw [zup4_v, if_neg (by omega)]; exact h46 x) (fun i i0 i1 => by rw [zup4_v, if_neg (by omega)]; exact h59 i i0 i1) (Or.inl ⟨rfl, by rw [zup4_v, if_pos ⟨rfl, rfl, rfl, rfl⟩]⟩)
    have e1 : ∀ k i, ¬ i = a → B1 14 0 k i = B 14 0 k i := fun k i hi => by rw [g3 k i hi, zup4_v, if_neg (by omega)]
    rw [g1]
    obtain ⟨B2, k1, k2, k3⟩ := ih n (a - 1) B1 (by omega) (by omega) (by omega) (fun x => by rw [g2 13 w 46 x (by omega), zup4_v, if_neg (by omega)]; exact h46 x) (fun i i0 i1 => by
      by_cases e : i = a
      · rw [e]; exact g5
      · rw [e1 59 i e]; exact h59 i (by omega) i1) (fun i i0 i1 => by
      by_cases e : i = a
      · rw [e]; exact g4
      · rw [e1 60 i e]; exact h60 i (by omega) i1)
    exact ⟨B2, k1, lcB_t (lcB_w (by omega)) (lcB_t g2 k2), k3⟩
/-- lines told so far -/
noncomputable def LNp (w nb i a : Int) (B : zB) : Prop := (0 ≤ i ∧ i ≤ a ∧ a ≤ nb) ∧ (∀ j, 0 ≤ j → j < i → 0 ≤ B 13 w 49 j ∧ 1 ≤ B 13 w 50 j ∧ B 13 w 49 j + B 13 w 50 j ≤ nb ∧ r32 (B 13 w 51 j)) ∧ (0 < i → B 13 w 49 0 = 0) ∧ (∀ j, 0 ≤ j → j + 1 < i → B 13 w 49 (j + 1) = B 13 w 49 j + B 13 w 50 j) ∧ (0 < i → B 13 w 49 (i - 1) + B 13 w 50 (i - 1) = a) ∧ (i = 0 → a = 0)
theorem L_l177 {nb wd : Int} {F0 : zF} {B0 : zB} (hK : 200 ≤ K) (w0 : 0 ≤ w ∧ w < 3) (h2 : -7 ≤ F0 13 w 2 ∧ F0 13 w 2 ≤ 7) (h7 : F0 13 w 7 = nb) (n0 : 0 ≤ nb ∧ nb ≤ 100) (hw : 0 ≤ wd ∧ wd ≤ 2000) (h46 : ∀ x, 0 ≤ B0 13 w 46 x ∧ B0 13 w 46 x ≤ 400000) (h60 : ∀ i, 0 ≤ i → i < nb → 1 ≤ B0 14 0 60 i ∧ B0 14 0 60 i ≤ nb - i) : ∀ (d N : Nat) (a i : Int) (F : zF) (B : zB), nb ≤ a + d → d < N → 0 ≤ a → F 13 w 48 = i → (∀ c y k, ¬ (c = 13 ∧ y = w ∧ k = 48) → F c y k = F0 c y k) → (∀ c y k x, ¬ (c = 13 ∧ y = w ∧ 49 ≤ k ∧ k ≤ 52) → B c y k x = B0 c y k x) → LNp w nb i a B → ∃ r F' B', f_M_lines_177 K N a w wd F B = some (r, F', B') ∧ (∀ c y k, ¬ (c = 13 ∧ y = w ∧ k = 48) → F' c y k = F0 c y k) ∧ (∀ c y k x, ¬ (c = 13 ∧ y = w ∧ 49 ≤ k ∧ k ≤ 52) → B' c y k x = B0 c y k x) ∧ ∃ i', F' 13 w 48 = i' ∧ LNp w nb i' nb B' := by
  intro d
  induction d with
  | zero =>
    intro N a i F B hd hN a0 h48 f b hp
    obtain ⟨n, rfl⟩ : ∃ n, N = n + 1 := ⟨N - 1, by omega⟩
    have ea : a = nb := by have := hp.1; omega
    rw [f_M_lines_177, if_pos w0, if_pos (by unfold r32; omega), f 13 w 7 (by omega), h7, if_pos (by unfold r32; omega), if_pos (by omega)]
    exact ⟨_, F, B, rfl, f, b, i, h48, by rw [ea] at hp; exact hp⟩
  | succ d ih =>
    intro N a i F B hd hN a0 h48 f b hp
    obtain ⟨n, rfl⟩ : ∃ n, N = n + 1 := ⟨N - 1, by omega⟩
    have hp1 := hp.1
    rw [f_M_lines_177, if_pos w0, if_pos (by unfold r32; omega), f 13 w 7 (by omega), h7, if_pos (by unfold r32; omega)]
    by_cases c : nb ≤ a
    · have ea : a = nb := by have := hp.1; omega
      rw [if_pos c]
      exact ⟨_, F, B, rfl, f, b, i, h48, by rw [ea] at hp; exact hp⟩
    obtain ⟨⟨p1, p2, p3⟩, p4, p5, p6, p7, p8⟩ := hp
    have k60 := h60 a a0 (by omega)
    have b60 : B 14 0 60 a = B0 14 0 60 a := b 14 0 60 a (by omega)
    have u1 : (zup4 B 13 w 49 i a) 14 0 60 a = B0 14 0 60 a := by rw [zup4_v, if_neg (by omega), b60]
    generalize hz : B0 14 0 60 a = z at *
    have u2 : (zup4 (zup4 B 13 w 49 i a) 13 w 50 i z) 14 0 60 a = z := by rw [zup4_v, if_neg (by omega)]; exact u1
    rw [if_neg c, h48, if_pos (by omega), if_pos (by omega), u1, u2]
    have hB1 : ∀ c y k x, ¬ (c = 13 ∧ y = w ∧ 49 ≤ k ∧ k ≤ 52) → (zup4 (zup4 B 13 w 49 i a) 13 w 50 i z) c y k x = B0 c y k x := fun c y k x q => by rw [zup4_v, if_neg (by omega), zup4_v, if_neg (by omega)]; exact b c y k x q
    have e49 : ∀ j, (zup4 (zup4 B 13 w 49 i a) 13 w 50 i z) 13 w 49 j = if j = i then a else B 13 w 49 j := fun j => by
      rw [zup4_v, if_neg (by omega), zup4_v]
      by_cases q : j = i
      · rw [if_pos ⟨rfl, rfl, rfl, q⟩, if_pos q]
      · rw [if_neg (fun k => q k.2.2.2), if_neg q]
    have e50 : ∀ j, (zup4 (zup4 B 13 w 49 i a) 13 w 50 i z) 13 w 50 j = if j = i then z else B 13 w 50 j := fun j => by
      rw [zup4_v]
      by_cases q : j = i
      · rw [if_pos ⟨rfl, rfl, rfl, q⟩, if_pos q]
      · rw [if_neg (fun k => q k.2.2.2), if_neg q, zup4_v, if_neg (by omega)]
    have e51 : ∀ j, (zup4 (zup4 B 13 w 49 i a) 13 w 50 i z) 13 w 51 j = B 13 w 51 j := fun j => by rw [zup4_v, if_neg (by omega), zup4_v, if_neg (by omega)]
    generalize zup4 (zup4 B 13 w 49 i a) 13 w 50 i z = B1 at hB1 e49 e50 e51 u2 ⊢
    have f2 : -7 ≤ F 13 w 2 ∧ F 13 w 2 ≤ 7 := by rw [f 13 w 2 (by omega)]; exact h2
    have f7 : 0 ≤ F 13 w 7 ∧ F 13 w 7 ≤ 100 := by rw [f 13 w 7 (by omega), h7]; exact n0
    obtain ⟨t, e, t0, t1⟩ := L_lw (K := K) (F := F) (B := B1) (a := a) (b := z) hK w0 f2 (fun x => by rw [hB1 13 w 46 x (by omega)]; exact h46 x) a0 (by omega) (by omega)
    rw [e, zb_s]
    have v2 : (zup4 B1 13 w 51 i t) 14 0 60 a = z := by rw [zup4_v, if_neg (by omega)]; exact u2
    rw [v2]
    obtain ⟨r, e', _⟩ := L_prc (K := K) (F := F) (B := zup4 B1 13 w 51 i t) (a := a) (b := z) hK w0 f2 f7 (fun x => by rw [zup4_v, if_neg (by omega), hB1 13 w 46 x (by omega)]; exact h46 x) a0 (by omega) (by omega) hw
    have v3 : (zup4 (zup4 B1 13 w 51 i t) 13 w 52 i r) 14 0 60 a = z := by rw [zup4_v, if_neg (by omega)]; exact v2
    rw [e', zb_s, h48, if_pos (by omega), v3]
    have x49 : ∀ j, (zup4 (zup4 B1 13 w 51 i t) 13 w 52 i r) 13 w 49 j = B1 13 w 49 j := fun j => by rw [zup4_v, if_neg (by omega), zup4_v, if_neg (by omega)]
    have x50 : ∀ j, (zup4 (zup4 B1 13 w 51 i t) 13 w 52 i r) 13 w 50 j = B1 13 w 50 j := fun j => by rw [zup4_v, if_neg (by omega), zup4_v, if_neg (by omega)]
    have x51 : ∀ j, (zup4 (zup4 B1 13 w 51 i t) 13 w 52 i r) 13 w 51 j = if j = i then t else B1 13 w 51 j := fun j => by
      rw [zup4_v, if_neg (by omega), zup4_v]
      by_cases q : j = i
      · rw [if_pos ⟨rfl, rfl, rfl, q⟩, if_pos q]
      · rw [if_neg (fun k => q k.2.2.2), if_neg q]
    have hB3 : ∀ c y k x, ¬ (c = 13 ∧ y = w ∧ 49 ≤ k ∧ k ≤ 52) → (zup4 (zup4 B1 13 w 51 i t) 13 w 52 i r) c y k x = B0 c y k x := fun c y k x q => by rw [zup4_v, if_neg (by omega), zup4_v, if_neg (by omega)]; exact hB1 c y k x q
    generalize zup4 (zup4 B1 13 w 51 i t) 13 w 52 i r = B3 at x49 x50 x51 hB3 ⊢
    refine ih n (a + z) (i + 1) _ B3 (by omega) (by omega) (by omega) (by rw [zup3_v, if_pos ⟨rfl, rfl, rfl⟩]) (fun c y k q => by rw [zup3_v, if_neg (by omega)]; exact f c y k q) hB3 ⟨by omega, fun j j0 j1 => ?_, fun _ => ?_, fun j j0 j1 => ?_, fun _ => ?_, fun q => by omega⟩
    · rw [x49, x50, x51, e49, e50, e51]
      by_cases q : j = i
      · rw [if_pos q, if_pos q, if_pos q]
        exact ⟨a0, k60.1, by omega, by unfold r32; omega⟩
      · rw [if_neg q, if_neg q, if_neg q]
        exact p4 j j0 (by omega)
    · rw [x49, e49]
      by_cases q : (0 : Int) = i
      · rw [if_pos q]; exact p8 q.symm
      · rw [if_neg q]; exact p5 (by omega)
    · rw [x49, x49, x50, e49, e49, e50]
      by_cases q : j + 1 = i
      · rw [if_pos q, if_neg (by omega), if_neg (by omega)]
        have := p7 (by omega)
        rw [show i - 1 = j by omega] at this
        omega
      · rw [if_neg q, if_neg (by omega), if_neg (by omega)]
        exact p6 j j0 (by omega)
    · rw [x49, x50, e49, e50, if_pos (by omega), if_pos (by omega)]
end
end
end
section
section
/-! ===== the columns of a piece, class: exactly ===== -/
variable {K : zK} {V p l w : Int}
/-- the notes of both sides, and their order -/
noncomputable def ENl (V p w : Int) (F : zF) (B Bm : zB) : Prop := ∀ u, 0 ≤ u → u < V → Bm 13 w 13 u = F 4 (B 6 p 0 u) 10 ∧ ∀ i, 0 ≤ i → i < F 4 (B 6 p 0 u) 10 → Bm 13 w 31 (800 * u + i) = B 4 (B 6 p 0 u) 361 i ∧ Bm 13 w 32 (800 * u + i) = nu (B 4 (B 6 p 0 u) 9 i) ∧ Bm 13 w 33 (800 * u + i) = de (B 4 (B 6 p 0 u) 9 i) ∧ Bm 13 w 35 (800 * u + i) = B 4 (B 6 p 0 u) 365 i ∧ (Bm 13 w 37 (800 * u + i) = B 4 (B 6 p 0 u) 367 i ∧ 0 ≤ B 4 (B 6 p 0 u) 367 i) ∧ (0 < i → LX (B 4 (B 6 p 0 u) 361 (i - 1)) (B 4 (B 6 p 0 u) 9 (i - 1)) (B 4 (B 6 p 0 u) 361 i) (B 4 (B 6 p 0 u) 9 i))
theorem EN_f {F F' : zF} {B B' Bm : zB} (h : ENl V p w F B Bm) (f : lyF l F F') (b : lyB l B B') : ENl V p w F' B' Bm := by
  have b6 : ∀ x, B' 6 p 0 x = B 6 p 0 x := fun x => b 6 p 0 x (by omega)
  have f4 : ∀ q k, F' 4 q k = F 4 q k := fun q k => f 4 q k (by omega)
  have b4 : ∀ q k x, B' 4 q k x = B 4 q k x := fun q k x => b 4 q k x (by omega)
  unfold ENl at *
  simp only [b6, f4, b4]
  exact h
theorem EN_d {F : zF} {B Bm : zB} (h : ENl V p w F B Bm) {u : Int} (u0 : 0 ≤ u) (u1 : u < V) : ∀ (d : Nat) (i : Int), 0 ≤ i → i + d + 1 < F 4 (B 6 p 0 u) 10 → LX (B 4 (B 6 p 0 u) 361 i) (B 4 (B 6 p 0 u) 9 i) (B 4 (B 6 p 0 u) 361 (i + d + 1)) (B 4 (B 6 p 0 u) 9 (i + d + 1)) := by
  intro d
  induction d with
  | zero =>
    intro i i0 i1
    have := ((h u u0 u1).2 (i + ((0 : Nat) : Int) + 1) (by omega) i1).2.2.2.2.2 (by omega)
    rw [show i + ((0 : Nat) : Int) + 1 - 1 = i by omega] at this
    exact this
  | succ d ih =>
    intro i i0 i1
    have h1 := ih i i0 (by omega)
    have h2 := ((h u u0 u1).2 (i + ((d + 1 : Nat) : Int) + 1) (by omega) i1).2.2.2.2.2 (by omega)
    rw [show i + ((d + 1 : Nat) : Int) + 1 - 1 = i + (d : Int) + 1 by omega] at h2
    unfold LX at *
    omega
theorem EN_m {F : zF} {B Bm : zB} (h : ENl V p w F B Bm) {u i j : Int} (u0 : 0 ≤ u) (u1 : u < V) (i0 : 0 ≤ i) (ij : i < j) (j1 : j < F 4 (B 6 p 0 u) 10) : LX (B 4 (B 6 p 0 u) 361 i) (B 4 (B 6 p 0 u) 9 i) (B 4 (B 6 p 0 u) 361 j) (B 4 (B 6 p 0 u) 9 j) := by
  have := EN_d h u0 u1 (j - i - 1).toNat i i0 (by omega)
  rw [show i + ((j - i - 1).toNat : Int) + 1 = j by omega] at this
  exact this
/-- a note of bar b at place x, as the reference sees it -/
theorem EN_s {F : zF} {B Bm : zB} (h : ENl V p w F B Bm) (hP : PQl K V p F B) {b x U y : Int} (x0 : 0 ≤ x) : sNt V w b x U Bm y ↔ ∃ u i, 0 ≤ u ∧ u < V ∧ 0 ≤ i ∧ i < F 4 (B 6 p 0 u) 10 ∧ y = 800 * u + i ∧ B 4 (B 6 p 0 u) 361 i = b ∧ B 4 (B 6 p 0 u) 9 i = x ∧ y < U := by
  constructor
  · rintro ⟨u, a0, a1, a2, a3, a4, a5, a6, a7⟩
    obtain ⟨h1, h2⟩ := h u a0 a1
    rw [h1] at a3
    obtain ⟨k1, k2, k3, _⟩ := h2 (y - 800 * u) (by omega) (by omega)
    rw [show 800 * u + (y - 800 * u) = y by omega] at k1 k2 k3
    obtain ⟨_, p9, _⟩ := (hP.2.2.2.2.2.2 u a0 a1).2.2 (y - 800 * u) (by omega) (by omega)
    exact ⟨u, y - 800 * u, a0, a1, by omega, by omega, by omega, by rw [← k1]; exact a4, nd_inj p9.1 x0 (by rw [← k2]; exact a5) (by rw [← k3]; exact a6), a7⟩
  · rintro ⟨u, i, a0, a1, a2, a3, rfl, a5, a6, a7⟩
    obtain ⟨h1, h2⟩ := h u a0 a1
    obtain ⟨k1, k2, k3, _⟩ := h2 i a2 a3
    exact ⟨u, a0, a1, by omega, by rw [h1]; omega, by rw [k1]; exact a5, by rw [k2, a6], by rw [k3, a6], a7⟩
/-- where each voice stands: all notes up to place X of bar b are behind -/
noncomputable def NXs (V p l b X : Int) (F : zF) (B : zB) : Prop := ∀ u, 0 ≤ u → u < V → (0 ≤ B 2 l 12 u ∧ B 2 l 12 u ≤ F 4 (B 6 p 0 u) 10) ∧ (∀ i, 0 ≤ i → i < B 2 l 12 u → B 4 (B 6 p 0 u) 361 i < b ∨ (B 4 (B 6 p 0 u) 361 i = b ∧ B 4 (B 6 p 0 u) 9 i ≤ X)) ∧ (B 2 l 12 u < F 4 (B 6 p 0 u) 10 → b < B 4 (B 6 p 0 u) 361 (B 2 l 12 u) ∨ (B 4 (B 6 p 0 u) 361 (B 2 l 12 u) = b ∧ X < B 4 (B 6 p 0 u) 9 (B 2 l 12 u)))
theorem C_begX {F : zF} {B : zB} {u i b : Int} (h : PQl K V p F B) (u0 : 0 ≤ u) (u1 : u < V) (i0 : 0 ≤ i ∧ i ≤ 800) (rb : r32 b) : ∃ r, f_Layout_beginsIn K (B 6 p 0 u) i b F B = some (r, F, B) ∧ ((r = 0 ∧ ¬ (i < F 4 (B 6 p 0 u) 10 ∧ B 4 (B 6 p 0 u) 361 i = b)) ∨ (r = 1 ∧ i < F 4 (B 6 p 0 u) 10 ∧ B 4 (B 6 p 0 u) 361 i = b)) := by
  obtain ⟨hq, hc, hi⟩ := h.2.2.2.2.2.2 u u0 u1
  unfold f_Layout_beginsIn f_Layout_beginsIn_24 f_Layout_beginsIn_25
  rw [if_pos hq, if_pos (by unfold r32; omega), if_pos (by unfold r32; omega)]
  by_cases c : F 4 (B 6 p 0 u) 10 ≤ i
  · rw [if_pos c, if_pos (Or.inl rfl)]; exact ⟨0, rfl, Or.inl ⟨rfl, by omega⟩⟩
  · have k := (hi i i0.1 (by omega)).1
    rw [if_neg c, if_pos (by omega), if_pos (by unfold r32; omega), if_pos rb]
    by_cases c' : B 4 (B 6 p 0 u) 361 i = b
    · rw [if_pos c', if_pos (Or.inr rfl)]; exact ⟨1, rfl, Or.inr ⟨rfl, by omega, c'⟩⟩
    · rw [if_neg c', if_pos (Or.inl rfl)]; exact ⟨0, rfl, Or.inl ⟨rfl, fun z => c' z.2⟩⟩
/-- the nearest place of bar b among the voices before u -/
noncomputable def NPq (p l b u v : Int) (F : zF) (B : zB) : Prop := (v = -1 ∧ ∀ t, 0 ≤ t → t < u → ¬ (B 2 l 12 t < F 4 (B 6 p 0 t) 10 ∧ B 4 (B 6 p 0 t) 361 (B 2 l 12 t) = b)) ∨ ((0 ≤ v ∧ v ≤ 1000000000000) ∧ (∃ t, 0 ≤ t ∧ t < u ∧ B 2 l 12 t < F 4 (B 6 p 0 t) 10 ∧ B 4 (B 6 p 0 t) 361 (B 2 l 12 t) = b ∧ B 4 (B 6 p 0 t) 9 (B 2 l 12 t) = v) ∧ ∀ t, 0 ≤ t → t < u → B 2 l 12 t < F 4 (B 6 p 0 t) 10 → B 4 (B 6 p 0 t) 361 (B 2 l 12 t) = b → v ≤ B 4 (B 6 p 0 t) 9 (B 2 l 12 t))
theorem C_npX {F : zF} {B : zB} {b : Int} (h : PQl K V p F B) (hl : 0 ≤ l ∧ l < K.2 2) (hB : ∀ u, 0 ≤ u → u < V → 0 ≤ B 2 l 12 u ∧ B 2 l 12 u ≤ F 4 (B 6 p 0 u) 10) (rb : r32 b) : ∀ (d N : Nat) (u v : Int), u + d = V → 0 ≤ u → d < N → NPq p l b u v F B → ∃ r, f_Layout_nextPlace_7 K N u v l p b F B = some (r, F, B) ∧ NPq p l b V r F B := by
  have hV := h.2.1
  intro d
  induction d with
  | zero =>
    intro N u v hu u0 hN hv
    obtain ⟨n, rfl⟩ : ∃ n, N = n + 1 := ⟨N - 1, by omega⟩
    have e : u = V := by omega
    rw [e] at hv
    rw [f_Layout_nextPlace_7, if_pos h.1, if_pos (by unfold r32; omega), if_pos (by unfold r32; omega), if_pos (by omega)]
    exact ⟨v, rfl, hv⟩
  | succ d ih =>
    intro N u v hu u0 hN hv
    obtain ⟨n, rfl⟩ : ∃ n, N = n + 1 := ⟨N - 1, by omega⟩
    obtain ⟨hq, hc, hi⟩ := h.2.2.2.2.2.2 u u0 (by omega)
    have b12 := hB u u0 (by omega)
    obtain ⟨r, e, r01⟩ := C_begX h u0 (by omega) (i := B 2 l 12 u) ⟨b12.1, by omega⟩ rb
    have nxt : ∀ v', NPq p l b (u + 1) v' F B → ∃ r, f_Layout_nextPlace_79 (f_Layout_nextPlace_7 K n) K u v' l p b F B = some (r, F, B) ∧ NPq p l b V r F B := fun v' hv' => ih n (u + 1) v' (by omega) (by omega) (by omega) hv'
    have st : ∀ t, t < u + 1 → ¬ t < u → t = u := fun t a c => by omega
    rw [f_Layout_nextPlace_7, if_pos h.1, if_pos (by unfold r32; omega), if_pos (by unfold r32; omega), if_neg (by omega), if_pos (by omega), if_pos hl, if_pos hq, e, zb_s, if_pos (by unfold r32; omega)]
    rcases r01 with ⟨rz, nb⟩ | ⟨r1, nc, nb⟩
    · rw [if_pos rz]
      refine nxt v ?_
      rcases hv with ⟨v1, hv⟩ | ⟨v1, ⟨t, t0, t1, t2⟩, hv⟩
      · refine Or.inl ⟨v1, fun t t0 t1 => ?_⟩
        by_cases c : t < u
        · exact hv t t0 c
        · rw [st t t1 c]; exact nb
      · refine Or.inr ⟨v1, ⟨t, t0, by omega, t2⟩, fun t t0 t1 t2 t3 => ?_⟩
        by_cases c : t < u
        · exact hv t t0 c t2 t3
        · rw [st t t1 c] at t2 t3
          exact absurd ⟨t2, t3⟩ nb
    have k9 := (hi (B 2 l 12 u) b12.1 nc).2.1
    have o65 : (∀ t, 0 ≤ t → t < u → B 2 l 12 t < F 4 (B 6 p 0 t) 10 → B 4 (B 6 p 0 t) 361 (B 2 l 12 t) = b → B 4 (B 6 p 0 u) 9 (B 2 l 12 u) ≤ B 4 (B 6 p 0 t) 9 (B 2 l 12 t)) → ∃ r, f_Layout_nextPlace_65 (f_Layout_nextPlace_7 K n) K (B 6 p 0 u) u l p b F B = some (r, F, B) ∧ NPq p l b V r F B := fun hm => by
      unfold f_Layout_nextPlace_65
      rw [if_pos hq, if_pos hl, if_pos (by omega), if_pos (by omega)]
      refine nxt _ (Or.inr ⟨k9, ⟨u, u0, by omega, nc, nb, rfl⟩, fun t t0 t1 t2 t3 => ?_⟩)
      by_cases c : t < u
      · exact hm t t0 c t2 t3
      · rw [st t t1 c]; exact Int.le_refl _
    have vb : -1 ≤ v ∧ v ≤ 1000000000000 := by
      rcases hv with h' | h'
      · have v1 := h'.1
        clear h'
        omega
      · have v1 := h'.1
        clear h'
        omega
    rw [if_neg (by omega), if_pos (by unfold r64; omega)]
    by_cases c1 : zcmp v 0 < 0
    · rw [if_pos c1]
      have := zcmp_lt.mp c1
      rcases hv with ⟨_, hv⟩ | h'
      · exact o65 (fun t t0 t1 t2 t3 => absurd ⟨t2, t3⟩ (hv t t0 t1))
      · have v1 := h'.1
        clear h'
        omega
    rw [if_neg c1, if_pos (by omega), if_pos (by unfold r64; omega)]
    have v0 : 0 ≤ v := by
      by_cases z : 0 ≤ v
      · exact z
      · exact absurd (zcmp_lt.mpr (by omega)) c1
    rcases hv with ⟨v1, _⟩ | ⟨v1, ⟨s, s0, s1, s2⟩, hv⟩
    · omega
    by_cases c2 : 0 ≤ zcmp (B 4 (B 6 p 0 u) 9 (B 2 l 12 u)) v
    · rw [if_pos c2]
      have le : v ≤ B 4 (B 6 p 0 u) 9 (B 2 l 12 u) := by
        by_cases z : v ≤ B 4 (B 6 p 0 u) 9 (B 2 l 12 u)
        · exact z
        · have := zcmp_lt.mpr (show B 4 (B 6 p 0 u) 9 (B 2 l 12 u) < v by omega)
          omega
      refine nxt v (Or.inr ⟨v1, ⟨s, s0, by omega, s2⟩, fun t t0 t1 t2 t3 => ?_⟩)
      by_cases c : t < u
      · exact hv t t0 c t2 t3
      · rw [st t t1 c]; exact le
    · rw [if_neg c2]
      have lt : B 4 (B 6 p 0 u) 9 (B 2 l 12 u) < v := zcmp_lt.mp (by omega)
      exact o65 (fun t t0 t1 t2 t3 => by have := hv t t0 t1 t2 t3; omega)
/-- whether voice u has a note at place x of bar b just ahead -/
noncomputable def mtX (p l b x u : Int) (F : zF) (B : zB) : Prop := B 2 l 12 u < F 4 (B 6 p 0 u) 10 ∧ B 4 (B 6 p 0 u) 361 (B 2 l 12 u) = b ∧ B 4 (B 6 p 0 u) 9 (B 2 l 12 u) = x
/-- the notes of voice u at place x of bar b -/
theorem NX_1 {F : zF} {B Bm : zB} {b X x u : Int} (hE : ENl V p w F B Bm) (h : PQl K V p F B) (hN : NXs V p l b X F B) (Xx : X < x) (x0 : 0 ≤ x) (hm : ∀ t, 0 ≤ t → t < V → B 2 l 12 t < F 4 (B 6 p 0 t) 10 → B 4 (B 6 p 0 t) 361 (B 2 l 12 t) = b → x ≤ B 4 (B 6 p 0 t) 9 (B 2 l 12 t)) (u0 : 0 ≤ u) (u1 : u < V) : ∀ i, 0 ≤ i → i < F 4 (B 6 p 0 u) 10 → B 4 (B 6 p 0 u) 361 i = b → B 4 (B 6 p 0 u) 9 i = x → i = B 2 l 12 u := fun i i0 i1 e1 e2 => by
  obtain ⟨n1, n2, n3⟩ := hN u u0 u1
  by_cases c1 : i < B 2 l 12 u
  · have := n2 i i0 c1
    omega
  by_cases c2 : i = B 2 l 12 u
  · exact c2
  exfalso
  have o := EN_m hE u0 u1 n1.1 (show B 2 l 12 u < i by omega) i1
  have g := n3 (by omega)
  have m := hm u u0 u1 (by omega)
  unfold LX at o
  rcases g with g | ⟨g, _⟩
  · omega
  · have := m g
    omega
theorem NX_a {F : zF} {B Bm : zB} {b X x u : Int} (hE : ENl V p w F B Bm) (h : PQl K V p F B) (hN : NXs V p l b X F B) (Xx : X < x) (x0 : 0 ≤ x) (hm : ∀ t, 0 ≤ t → t < V → B 2 l 12 t < F 4 (B 6 p 0 t) 10 → B 4 (B 6 p 0 t) 361 (B 2 l 12 t) = b → x ≤ B 4 (B 6 p 0 t) 9 (B 2 l 12 t)) (u0 : 0 ≤ u) (u1 : u < V) (y : Int) : (mtX p l b x u F B → (sNt V w b x (800 * (u + 1)) Bm y ↔ sNt V w b x (800 * u) Bm y ∨ y = 800 * u + B 2 l 12 u)) ∧ (¬ mtX p l b x u F B → (sNt V w b x (800 * (u + 1)) Bm y ↔ sNt V w b x (800 * u) Bm y)) := by
  have n1 := NX_1 hE h hN Xx x0 hm u0 u1
  have ct : ∀ t, 0 ≤ t → t < V → F 4 (B 6 p 0 t) 10 ≤ 800 := fun t t0 t1 => (h.2.2.2.2.2.2 t t0 t1).2.1.2
  have key : sNt V w b x (800 * (u + 1)) Bm y → sNt V w b x (800 * u) Bm y ∨ (y = 800 * u + B 2 l 12 u ∧ mtX p l b x u F B) := fun hy => by
    obtain ⟨t, i, a0, a1, a2, a3, a4, a5, a6, a7⟩ := (EN_s hE h x0).mp hy
    by_cases c : t = u
    · subst c
      have e := n1 i a2 a3 a5 a6
      rw [e] at a3 a4 a5 a6
      exact Or.inr ⟨a4, a3, a5, a6⟩
    · have := ct t a0 a1
      exact Or.inl ((EN_s hE h x0).mpr ⟨t, i, a0, a1, a2, a3, a4, a5, a6, by omega⟩)
  have bk : sNt V w b x (800 * u) Bm y → sNt V w b x (800 * (u + 1)) Bm y := fun hy => by
    obtain ⟨t, a0, a1, a2, a3, a4, a5, a6, a7⟩ := hy
    exact ⟨t, a0, a1, a2, a3, a4, a5, a6, by omega⟩
  refine ⟨fun m => ⟨fun hy => (key hy).imp id (fun z => z.1), fun hy => ?_⟩, fun m => ⟨fun hy => ?_, bk⟩⟩
  · rcases hy with hy | e
    · exact bk hy
    · obtain ⟨m1, m2, m3⟩ := m
      have := ct u u0 u1
      exact (EN_s hE h x0).mpr ⟨u, B 2 l 12 u, u0, u1, (hN u u0 u1).1.1, m1, e, m2, m3, by omega⟩
  · rcases key hy with z | z
    · exact z
    · exact absurd z.2 m
theorem C_ac34X {F : zF} {B0 Bm : zB} {b X x : Int} (hl : 0 ≤ l ∧ l < K.2 2) (hF : 0 ≤ F 2 l 4 ∧ F 2 l 4 < 3200) (rb : r32 b) (h0 : PQl K V p F B0) (hE : ENl V p w F B0 Bm) (hN : NXs V p l b X F B0) (Xx : X < x) (x0 : 0 ≤ x ∧ x ≤ 1000000000000) (hm : ∀ t, 0 ≤ t → t < V → B0 2 l 12 t < F 4 (B0 6 p 0 t) 10 → B0 4 (B0 6 p 0 t) 361 (B0 2 l 12 t) = b → x ≤ B0 4 (B0 6 p 0 t) 9 (B0 2 l 12 t)) : ∀ (d N : Nat) (u f l6 : Int) (B : zB), u + d = V → 0 ≤ u → d < N → FQy V w b x (800 * u) Bm f l6 → (∀ c y k z, ¬ (c = 2 ∧ y = l ∧ k = 12) → B c y k z = B0 c y k z) → (∀ t, u ≤ t → B 2 l 12 t = B0 2 l 12 t) → (∀ t, 0 ≤ t → t < u → (mtX p l b x t F B0 → B 2 l 12 t = B0 2 l 12 t + 1) ∧ (¬ mtX p l b x t F B0 → B 2 l 12 t = B0 2 l 12 t)) → ∃ f' dt' B', f_Layout_addColumn_34 K N u l6 (if f = 0 then 0 else 6) x l p b F B = some (1, F, zup4 (zup4 B' 2 l 1 (F 2 l 4) x) 2 l 2 (F 2 l 4) (8 + (if f' = 0 then 0 else 6) + 3 * dt')) ∧ FQy V w b x (800 * V) Bm f' dt' ∧ (∀ c y k z, ¬ (c = 2 ∧ y = l ∧ k = 12) → B' c y k z = B0 c y k z) ∧ (∀ t, 0 ≤ t → t < V → (mtX p l b x t F B0 → B' 2 l 12 t = B0 2 l 12 t + 1) ∧ (¬ mtX p l b x t F B0 → B' 2 l 12 t = B0 2 l 12 t)) := by
  have hV := h0.2.1
  intro d
  induction d with
  | zero =>
    intro N u f l6 B hu u0 hN' hf hb h1 h2
    obtain ⟨n, rfl⟩ : ∃ n, N = n + 1 := ⟨N - 1, by omega⟩
    have e : u = V := by omega
    rw [e] at hf h2
    rw [f_Layout_addColumn_34, if_pos h0.1, if_pos (by unfold r32; omega), if_pos (by unfold r32; omega), if_pos (by omega), if_pos hl, if_pos hF]
    exact ⟨f, l6, B, rfl, hf, hb, h2⟩
  | succ d ih =>
    intro N u f l6 B hu u0 hN' hf hb h1 h2
    obtain ⟨n, rfl⟩ : ∃ n, N = n + 1 := ⟨N - 1, by omega⟩
    have hq0 := h0.2.2.2.2.2.2 u u0 (by omega)
    obtain ⟨hq, hc, hi⟩ := hq0
    have e6 : ∀ z, B 6 p 0 z = B0 6 p 0 z := fun z => hb 6 p 0 z (by omega)
    have e4 : ∀ q k z, B 4 q k z = B0 4 q k z := fun q k z => hb 4 q k z (by omega)
    have h : PQl K V p F B := by
      unfold PQl at *
      simp only [e6, e4]
      exact h0
    have e12 : B 2 l 12 u = B0 2 l 12 u := h1 u (Int.le_refl _)
    have b12 := (hN u u0 (by omega)).1
    obtain ⟨r, e, r01⟩ := C_begX h u0 (by omega) (i := B0 2 l 12 u) ⟨b12.1, by omega⟩ rb
    rw [e6, e4] at r01
    rw [e6] at e
    have nxa := fun y => NX_a hE h0 hN Xx x0.1 hm u0 (show u < V by omega) y
    have fr := hf.2.1
    -- nothing there
    have same : ¬ mtX p l b x u F B0 → ∃ f' dt' B', f_Layout_addColumn_136 (f_Layout_addColumn_34 K n) K u l6 (if f = 0 then 0 else 6) x l p b F B = some (1, F, zup4 (zup4 B' 2 l 1 (F 2 l 4) x) 2 l 2 (F 2 l 4) (8 + (if f' = 0 then 0 else 6) + 3 * dt')) ∧ FQy V w b x (800 * V) Bm f' dt' ∧ (∀ c y k z, ¬ (c = 2 ∧ y = l ∧ k = 12) → B' c y k z = B0 c y k z) ∧ (∀ t, 0 ≤ t → t < V → (mtX p l b x t F B0 → B' 2 l 12 t = B0 2 l 12 t + 1) ∧ (¬ mtX p l b x t F B0 → B' 2 l 12 t = B0 2 l 12 t)) := fun nm => by
      rw [f_Layout_addColumn_136]
      refine ih n (u + 1) f l6 B (by omega) (by omega) (by omega) (FQy_c hf (fun y => (nxa y).2 nm)) hb (fun t t0 => h1 t (by omega)) (fun t t0 t1 => ?_)
      by_cases c : t < u
      · exact h2 t t0 c
      · rw [show t = u by omega]
        exact ⟨fun m => absurd m nm, fun _ => e12⟩
    rw [f_Layout_addColumn_34, if_pos h0.1, if_pos (by unfold r32; omega), if_pos (by unfold r32; omega), if_neg (by omega), if_pos (by omega), if_pos hl, e6, if_pos hq, e12, e, zb_s, if_pos (by unfold r32; omega)]
    rcases r01 with ⟨rz, nb⟩ | ⟨r1, nc, nb⟩
    · rw [if_pos rz]
      exact same (fun m => nb ⟨m.1, m.2.1⟩)
    obtain ⟨k1, k9, k5, k7⟩ := hi (B0 2 l 12 u) b12.1 nc
    rw [if_neg (by omega), if_pos (by omega), e4, if_pos (by unfold r64; omega), if_pos (by unfold r64; omega)]
    by_cases c1 : zcmp (B0 4 (B0 6 p 0 u) 9 (B0 2 l 12 u)) x = 0
    case neg =>
      rw [if_neg c1]
      exact same (fun m => c1 (zcmp_0.mpr m.2.2))
    have m : mtX p l b x u F B0 := ⟨nc, nb, zcmp_0.mp c1⟩
    obtain ⟨g1, g2⟩ := hE u u0 (by omega)
    obtain ⟨_, _, _, g5, ⟨g7, g0⟩, _⟩ := g2 (B0 2 l 12 u) b12.1 nc
    rw [if_pos c1, e4, if_pos k7]
    have o106 : ∀ f2 : Int, ((f = 0 ∧ Bm 13 w 37 (800 * u + B0 2 l 12 u) ≤ 0 ∧ f2 = 0) ∨ (f2 = 1 ∧ (f = 1 ∨ 0 < Bm 13 w 37 (800 * u + B0 2 l 12 u)))) → ∃ f' dt' B', f_Layout_addColumn_106 (f_Layout_addColumn_34 K n) K (B0 2 l 12 u) (B0 6 p 0 u) u l6 x l p b (if f2 = 0 then 0 else 6) F B = some (1, F, zup4 (zup4 B' 2 l 1 (F 2 l 4) x) 2 l 2 (F 2 l 4) (8 + (if f' = 0 then 0 else 6) + 3 * dt')) ∧ FQy V w b x (800 * V) Bm f' dt' ∧ (∀ c y k z, ¬ (c = 2 ∧ y = l ∧ k = 12) → B' c y k z = B0 c y k z) ∧ (∀ t, 0 ≤ t → t < V → (mtX p l b x t F B0 → B' 2 l 12 t = B0 2 l 12 t + 1) ∧ (¬ mtX p l b x t F B0 → B' 2 l 12 t = B0 2 l 12 t)) := fun f2 hf2 => by
      unfold f_Layout_addColumn_106
      rw [if_pos hq, if_pos (by omega), if_pos (by unfold r32; omega), e4, if_pos (by unfold r32; omega), if_pos hl, if_pos (by omega), f_Layout_addColumn_136, e12]
      refine ih n (u + 1) f2 (zmax l6 (B0 4 (B0 6 p 0 u) 365 (B0 2 l 12 u))) (zup4 B 2 l 12 u (B0 2 l 12 u + 1)) (by omega) (by omega) (by omega) (FQy_a hf (fun y => (nxa y).1 m) hf2 ?_) (fun c y k z nn => by rw [zup4_v, if_neg (by omega)]; exact hb c y k z nn) (fun t t0 => by rw [zup4_v, if_neg (by omega)]; exact h1 t (by omega)) (fun t t0 t1 => ?_)
      · rw [g5]
        unfold zmax
        split <;> omega
      · by_cases c : t < u
        · rw [zup4_v, if_neg (by omega)]
          exact h2 t t0 c
        · rw [show t = u by omega, zup4_v, if_pos ⟨rfl, rfl, rfl, rfl⟩]
          exact ⟨fun _ => rfl, fun nm => absurd m nm⟩
    by_cases c2 : B0 4 (B0 6 p 0 u) 367 (B0 2 l 12 u) = 0
    · rw [if_pos c2]
      refine o106 f ?_
      rw [g7]
      rcases hf.1 with ⟨z, _⟩ | ⟨z, _⟩
      · exact Or.inl ⟨z, by omega, z⟩
      · exact Or.inr ⟨z, Or.inl z⟩
    · rw [if_neg c2]
      have := o106 1 (Or.inr ⟨rfl, Or.inr (by rw [g7]; omega)⟩)
      rw [if_neg (show ¬ (1 : Int) = 0 by decide)] at this
      exact this
theorem smR_le {f g : Int → Int} : ∀ (n : Nat) (a : Int), (∀ j, a ≤ j → j < a + n → f j ≤ g j) → smR f a n ≤ smR g a n := by
  intro n
  induction n with
  | zero => intro a _; exact Int.le_refl _
  | succ n ih =>
    intro a h
    have h1 := h a (Int.le_refl _) (by omega)
    have h2 := ih (a + 1) (fun j j0 j1 => h j (by omega) (by omega))
    rw [smR, smR]
    omega
theorem smR_lt {f g : Int → Int} : ∀ (n : Nat) (a t : Int), (∀ j, a ≤ j → j < a + n → f j ≤ g j) → a ≤ t → t < a + n → f t + 1 ≤ g t → smR f a n + 1 ≤ smR g a n := by
  intro n
  induction n with
  | zero => intro a t _ _ _ _; exfalso; omega
  | succ n ih =>
    intro a t h t0 t1 ht
    rw [smR, smR]
    by_cases c : t = a
    · have h2 := smR_le (f := f) (g := g) n (a + 1) (fun j j0 j1 => h j (by omega) (by omega))
      rw [c] at ht
      omega
    · have h1 := h a (Int.le_refl _) (by omega)
      have h2 := ih (a + 1) t (fun j j0 j1 => h j (by omega) (by omega)) (by omega) (by omega) ht
      omega
theorem smR_k {c : Int} : ∀ (n : Nat) (a : Int), smR (fun _ => c) a n = c * n := by
  intro n
  induction n with
  | zero => intro a; rw [smR]; omega
  | succ n ih =>
    intro a
    rw [smR, ih (a + 1), show ((n + 1 : Nat) : Int) = (n : Int) + 1 by omega, Int.mul_add, Int.mul_one]
    omega
/-- how many notes are behind -/
noncomputable def nxS (V l : Int) (B : zB) : Int := smR (fun u => B 2 l 12 u) 0 V.toNat
theorem C_addX {F : zF} {B Bm : zB} {b X : Int} (hK : 60000 ≤ K.1) (h : PQl K V p F B) (hl : 0 ≤ l ∧ l < K.2 2) (hE : ENl V p w F B Bm) (hN : NXs V p l b X F B) (X0 : -1 ≤ X) (hF : 0 ≤ F 2 l 4 ∧ F 2 l 4 ≤ nxS V l B) (rb : r32 b) : (f_Layout_addColumn K l p b F B = some (0, F, B) ∧ NXs V p l (b + 1) (-1) F B ∧ ∀ x, aNt V w b (800 * V) Bm x → x ≤ X) ∨ (∃ x f dt B', f_Layout_addColumn K l p b F B = some (1, F, B') ∧ (X < x ∧ x ≤ 1000000000000) ∧ F 2 l 4 < 3200 ∧ FQy V w b x (800 * V) Bm f dt ∧ (B' 2 l 1 (F 2 l 4) = x ∧ B' 2 l 2 (F 2 l 4) = 8 + (if f = 0 then 0 else 6) + 3 * dt) ∧ (∀ c y k z, ¬ (c = 2 ∧ y = l ∧ (k = 12 ∨ ((k = 1 ∨ k = 2) ∧ z = F 2 l 4))) → B' c y k z = B c y k z) ∧ NXs V p l b x F B' ∧ F 2 l 4 + 1 ≤ nxS V l B' ∧ ∀ y, (aNt V w b (800 * V) Bm y ∧ y ≤ x) ↔ (aNt V w b (800 * V) Bm y ∧ y ≤ X) ∨ y = x) := by
  have hV := h.2.1
  have ct : ∀ t, 0 ≤ t → t < V → F 4 (B 6 p 0 t) 10 ≤ 800 := fun t t0 t1 => (h.2.2.2.2.2.2 t t0 t1).2.1.2
  obtain ⟨r, e, hr⟩ := C_npX h hl (fun u u0 u1 => (hN u u0 u1).1) rb V.toNat K.1 0 (-1) (by omega) (by decide) (by omega) (Or.inl ⟨rfl, fun t a c => by omega⟩)
  have e' : f_Layout_nextPlace K l p b F B = some (r, F, B) := e
  -- every note of the bar that is not behind
  have nt : ∀ y, aNt V w b (800 * V) Bm y → y ≤ X ∨ ∃ t, 0 ≤ t ∧ t < V ∧ B 2 l 12 t < F 4 (B 6 p 0 t) 10 ∧ B 4 (B 6 p 0 t) 361 (B 2 l 12 t) = b ∧ B 4 (B 6 p 0 t) 9 (B 2 l 12 t) ≤ y := fun y hy => by
    obtain ⟨y0, z, hz⟩ := hy
    obtain ⟨t, i, a0, a1, a2, a3, a4, a5, a6, a7⟩ := (EN_s hE h y0).mp hz
    obtain ⟨n1, n2, n3⟩ := hN t a0 a1
    by_cases c : i < B 2 l 12 t
    · have := n2 i a2 c
      exact Or.inl (by omega)
    · by_cases c2 : i = B 2 l 12 t
      · rw [c2] at a3 a5 a6
        exact Or.inr ⟨t, a0, a1, a3, a5, by omega⟩
      · have o := EN_m hE a0 a1 n1.1 (show B 2 l 12 t < i by omega) a3
        have g := n3 (by omega)
        unfold LX at o
        exact Or.inr ⟨t, a0, a1, by omega, by omega, by omega⟩
  unfold f_Layout_addColumn f_Layout_addColumn_23
  rw [if_pos hl, e', zb_s]
  rcases hr with ⟨r1, hr⟩ | ⟨r1, ⟨s, s0, s1, s2, s3, s4⟩, hm⟩
  · rw [if_pos (by unfold r64; omega), if_pos (zcmp_lt.mpr (by omega))]
    refine Or.inl ⟨rfl, fun u u0 u1 => ?_, fun y hy => ?_⟩
    · obtain ⟨n1, n2, n3⟩ := hN u u0 u1
      refine ⟨n1, fun i i0 i1 => Or.inl ?_, fun c => ?_⟩
      · have := n2 i i0 i1
        omega
      · have g := n3 c
        have ne := hr u u0 u1
        have k := ((h.2.2.2.2.2.2 u u0 u1).2.2 (B 2 l 12 u) n1.1 c).2.1.1
        rcases g with g | g
        · by_cases z : B 4 (B 6 p 0 u) 361 (B 2 l 12 u) = b + 1
          · exact Or.inr ⟨z, by omega⟩
          · exact Or.inl (by omega)
        · exact absurd ⟨c, g.1⟩ ne
    · rcases nt y hy with z | ⟨t, t0, t1, t2, t3, _⟩
      · exact z
      · exact absurd ⟨t2, t3⟩ (hr t t0 t1)
  · have Xr : X < r := by
      have g := (hN s s0 s1).2.2 s2
      omega
    have hm' : ∀ t, 0 ≤ t → t < V → B 2 l 12 t < F 4 (B 6 p 0 t) 10 → B 4 (B 6 p 0 t) 361 (B 2 l 12 t) = b → r ≤ B 4 (B 6 p 0 t) 9 (B 2 l 12 t) := hm
    have up : nxS V l B + 1 ≤ 800 * V := by
      have a1 := smR_lt (f := fun u => B 2 l 12 u) (g := fun _ => (800 : Int)) V.toNat 0 s (fun j j0 j1 => by
        have := ct j j0 (by omega)
        have := (hN j j0 (by omega)).1
        show B 2 l 12 j ≤ 800
        omega) s0 (by omega) (by
        have := ct s s0 s1
        show B 2 l 12 s + 1 ≤ 800
        omega)
      rw [smR_k] at a1
      unfold nxS
      omega
    rw [if_pos (by unfold r64; omega), if_neg (fun z => by have := zcmp_lt.mp z; omega), if_pos (by unfold r32; omega), if_pos (by omega)]
    obtain ⟨f, dt, B', g1, g2, g3, g4⟩ := C_ac34X (b := b) (X := X) (x := r) (B0 := B) (Bm := Bm) (w := w) hl ⟨hF.1, by omega⟩ rb h hE hN Xr r1 hm' V.toNat K.1 0 0 0 B (by omega) (by decide) (by omega) ⟨Or.inl ⟨rfl, fun y hy => by
      obtain ⟨u', a0, a1, a2, a3, a4, a5, a6, a7⟩ := hy
      omega⟩, by decide, fun y hy => by
      obtain ⟨u', a0, a1, a2, a3, a4, a5, a6, a7⟩ := hy
      omega, Or.inl rfl⟩ (fun _ _ _ _ _ => rfl) (fun _ _ => rfl) (fun t a c => by omega)
    rw [if_pos (show (0 : Int) = 0 from rfl)] at g1
    generalize hB2 : zup4 (zup4 B' 2 l 1 (F 2 l 4) r) 2 l 2 (F 2 l 4) (8 + (if f = 0 then 0 else 6) + 3 * dt) = B2 at g1
    have bn : ∀ c y k z, ¬ (c = 2 ∧ y = l ∧ (k = 12 ∨ ((k = 1 ∨ k = 2) ∧ z = F 2 l 4))) → B2 c y k z = B c y k z := fun c y k z nn => by rw [← hB2, zup4_v, if_neg (by omega), zup4_v, if_neg (by omega)]; exact g3 c y k z (by omega)
    have b12 : ∀ t, B2 2 l 12 t = B' 2 l 12 t := fun t => by rw [← hB2, zup4_v, if_neg (by omega), zup4_v, if_neg (by omega)]
    have e6 : ∀ t, B2 6 p 0 t = B 6 p 0 t := fun t => bn 6 p 0 t (by omega)
    have e4 : ∀ q k z, B2 4 q k z = B 4 q k z := fun q k z => bn 4 q k z (by omega)
    have up12 : ∀ t, 0 ≤ t → t < V → (mtX p l b r t F B ∧ B2 2 l 12 t = B 2 l 12 t + 1) ∨ (¬ mtX p l b r t F B ∧ B2 2 l 12 t = B 2 l 12 t) := fun t t0 t1 => by
      rw [b12]
      by_cases m : mtX p l b r t F B
      · exact Or.inl ⟨m, (g4 t t0 t1).1 m⟩
      · exact Or.inr ⟨m, (g4 t t0 t1).2 m⟩
    refine Or.inr ⟨r, f, dt, B2, g1, ⟨Xr, r1.2⟩, by omega, g2, ⟨by rw [← hB2, zup4_v, if_neg (by omega), zup4_v, if_pos ⟨rfl, rfl, rfl, rfl⟩], by rw [← hB2, zup4_v, if_pos ⟨rfl, rfl, rfl, rfl⟩]⟩, bn, fun u u0 u1 => ?_, ?_, fun y => ⟨fun hy => ?_, fun hy => ?_⟩⟩
    · obtain ⟨n1, n2, n3⟩ := hN u u0 u1
      rw [e6]
      simp only [e4]
      rcases up12 u u0 u1 with ⟨m, eu⟩ | ⟨m, eu⟩
      · rw [eu]
        obtain ⟨m1, m2, m3⟩ := m
        refine ⟨by omega, fun i i0 i1 => ?_, fun c => ?_⟩
        · by_cases z : i = B 2 l 12 u
          · rw [z]; exact Or.inr ⟨m2, by omega⟩
          · have := n2 i i0 (by omega)
            omega
        · have o := EN_m hE u0 u1 n1.1 (show B 2 l 12 u < B 2 l 12 u + 1 by omega) c
          unfold LX at o
          rw [m2, m3] at o
          omega
      · rw [eu]
        refine ⟨n1, fun i i0 i1 => ?_, fun c => ?_⟩
        · have := n2 i i0 i1
          omega
        · have g := n3 c
          by_cases z : B 4 (B 6 p 0 u) 361 (B 2 l 12 u) = b
          · have k := hm u u0 u1 c z
            have ne : ¬ B 4 (B 6 p 0 u) 9 (B 2 l 12 u) = r := fun q => m ⟨c, z, q⟩
            exact Or.inr ⟨z, by omega⟩
          · exact Or.inl (by omega)
    · have a1 := smR_lt (f := fun u => B 2 l 12 u) (g := fun u => B2 2 l 12 u) V.toNat 0 s (fun j j0 j1 => by
        show B 2 l 12 j ≤ B2 2 l 12 j
        rcases up12 j j0 (by omega) with ⟨_, q⟩ | ⟨_, q⟩ <;> omega) s0 (by omega) (by
        show B 2 l 12 s + 1 ≤ B2 2 l 12 s
        rcases up12 s s0 s1 with ⟨_, q⟩ | ⟨q, _⟩
        · omega
        · exact absurd ⟨s2, s3, s4⟩ q)
      unfold nxS at hF ⊢
      omega
    · obtain ⟨y1, y2⟩ := hy
      rcases nt y y1 with z | ⟨t, t0, t1, t2, t3, t4⟩
      · exact Or.inl ⟨y1, z⟩
      · have := hm t t0 t1 t2 t3
        exact Or.inr (by omega)
    · rcases hy with ⟨y1, y2⟩ | e
      · exact ⟨y1, by omega⟩
      · rw [e]
        refine ⟨⟨r1.1, 800 * s + B 2 l 12 s, (EN_s hE h r1.1).mpr ⟨s, B 2 l 12 s, s0, s1, (hN s s0 s1).1.1, s2, rfl, s3, s4, ?_⟩⟩, Int.le_refl _⟩
        have := ct s s0 s1
        omega
end
end
section
section
/-! ===== the columns of a piece, class: exactly, whole ===== -/
variable {K : zK} {V p l w : Int}
theorem C_wd57X {F : zF} {j b : Int} {rec : Int → Int → Int → zF → zB → zO} (hl : 0 ≤ l ∧ l < K.2 2) (hj : 0 ≤ j ∧ j < 3200) : ∀ (d N : Nat) (i v : Int) (B : zB), i + d = 40 → 0 ≤ i → d < N → (0 ≤ v ∧ v ≤ 1000000000000) → ∃ B', f_Layout_widen_57 rec K N i v j l b F B = f_Layout_widen_98 rec K j l b F B' ∧ B' 2 l 2 j = B 2 l 2 j + 4 * lw2 d v ∧ ∀ c y k x, ¬ (c = 2 ∧ y = l ∧ k = 2 ∧ x = j) → B' c y k x = B c y k x := by
  intro d
  induction d with
  | zero =>
    intro N i v B hi i0 hN hv
    obtain ⟨n, rfl⟩ : ∃ n, N = n + 1 := ⟨N - 1, by omega⟩
    rw [f_Layout_widen_57, if_pos (by unfold r32; omega), if_pos (by omega)]
    exact ⟨B, rfl, by rw [lw2]; omega, fun _ _ _ _ _ => rfl⟩
  | succ d ih =>
    intro N i v B hi i0 hN hv
    obtain ⟨n, rfl⟩ : ∃ n, N = n + 1 := ⟨N - 1, by omega⟩
    rw [f_Layout_widen_57, if_pos (by unfold r32; omega), if_neg (by omega), if_pos (show r64 v by unfold r64; omega)]
    by_cases c : v < 2
    · rw [if_pos (zcmp_lt.mpr c)]
      exact ⟨B, rfl, by rw [lw2, if_pos c]; omega, fun _ _ _ _ _ => rfl⟩
    rw [if_neg (fun z => c (zcmp_lt.mp z)), if_pos hl, if_pos hj, zldv_e hv.1 (by omega) (by decide) (by decide)]
    obtain ⟨B', g1, g2, g3⟩ := ih n (i + 1) (v / 2) (zup4 B 2 l 2 j (B 2 l 2 j + 4)) (by omega) (by omega) (by omega) (by omega)
    refine ⟨B', g1, ?_, fun c y k x nn => by rw [g3 c y k x nn, zup4_v, if_neg nn]⟩
    rw [g2, lw2, if_neg c, up_s]
    omega
theorem C_wd3X {F : zF} {b : Int} (hK : 60000 ≤ K.1) (hl : 0 ≤ l ∧ l < K.2 2) (hF : 0 ≤ F 2 l 4 ∧ F 2 l 4 ≤ 3200) : ∀ (d N : Nat) (j : Int) (B : zB), j + d = F 2 l 4 → 0 ≤ j → d < N → (∀ x, j ≤ x → x < F 2 l 4 → 0 ≤ B 2 l 1 x ∧ B 2 l 1 x ≤ (if x + 1 = F 2 l 4 then b else B 2 l 1 (x + 1)) ∧ (if x + 1 = F 2 l 4 then b else B 2 l 1 (x + 1)) ≤ 1000000000000) → ∃ B', f_Layout_widen_3 K N j l b F B = some (0, F, B') ∧ (∀ x, j ≤ x → x < F 2 l 4 → B' 2 l 2 x = B 2 l 2 x + 4 * lw2 40 (((if x + 1 = F 2 l 4 then b else B 2 l 1 (x + 1)) - B 2 l 1 x) / 6350400)) ∧ ∀ c y k x, ¬ (c = 2 ∧ y = l ∧ k = 2 ∧ j ≤ x ∧ x < F 2 l 4) → B' c y k x = B c y k x := by
  intro d
  induction d with
  | zero =>
    intro N j B hj j0 hN h2
    obtain ⟨n, rfl⟩ : ∃ n, N = n + 1 := ⟨N - 1, by omega⟩
    rw [f_Layout_widen_3, if_pos hl, if_pos (by unfold r32; omega), if_pos (by unfold r32; omega), if_pos (by omega)]
    exact ⟨B, rfl, fun x a c => by omega, fun _ _ _ _ _ => rfl⟩
  | succ d ih =>
    intro N j B hj j0 hN h2
    obtain ⟨n, rfl⟩ : ∃ n, N = n + 1 := ⟨N - 1, by omega⟩
    obtain ⟨q0, q1, q2⟩ := h2 j (Int.le_refl _) (by omega)
    have o : ∀ s, s = (if j + 1 = F 2 l 4 then b else B 2 l 1 (j + 1)) → ∃ B', f_Layout_widen_36 (f_Layout_widen_3 K n) K j l b s F B = some (0, F, B') ∧ (∀ x, j ≤ x → x < F 2 l 4 → B' 2 l 2 x = B 2 l 2 x + 4 * lw2 40 (((if x + 1 = F 2 l 4 then b else B 2 l 1 (x + 1)) - B 2 l 1 x) / 6350400)) ∧ ∀ c y k x, ¬ (c = 2 ∧ y = l ∧ k = 2 ∧ j ≤ x ∧ x < F 2 l 4) → B' c y k x = B c y k x := fun s hs => by
      rw [← hs] at q1 q2
      have dv : zldv (s - B 2 l 1 j) 6350400 = (s - B 2 l 1 j) / 6350400 := zldv_e (by omega) (by omega) (by decide) (by decide)
      have d0 : 0 ≤ (s - B 2 l 1 j) / 6350400 := Int.ediv_nonneg (by omega) (by decide)
      have d1 : (s - B 2 l 1 j) / 6350400 ≤ s - B 2 l 1 j := Int.ediv_le_self _ (by omega)
      obtain ⟨B1, g1, g2, g3⟩ := C_wd57X (K := K) (F := F) (j := j) (b := b) (rec := f_Layout_widen_3 K n) hl (by omega) 40 K.1 0 ((s - B 2 l 1 j) / 6350400) B (by omega) (by decide) (by omega) ⟨d0, by omega⟩
      have e1 : ∀ x, B1 2 l 1 x = B 2 l 1 x := fun x => g3 2 l 1 x (by omega)
      obtain ⟨B2, k1, k2, k3⟩ := ih n (j + 1) B1 (by omega) (by omega) (by omega) (fun x x0 x1 => by rw [e1, e1]; exact h2 x (by omega) x1)
      unfold f_Layout_widen_36
      rw [if_pos hl, if_pos (by omega), dv, g1, f_Layout_widen_98, k1]
      refine ⟨B2, rfl, fun x x0 x1 => ?_, fun c y k x nn => by rw [k3 c y k x (by omega), g3 c y k x (by omega)]⟩
      by_cases z : x = j
      · rw [z, k3 2 l 2 j (by omega), g2, hs]
      · rw [k2 x (by omega) x1, e1, e1, g3 2 l 2 x (by omega)]
    rw [f_Layout_widen_3, if_pos hl, if_pos (by unfold r32; omega), if_pos (by unfold r32; omega), if_neg (by omega), if_pos (by unfold r32; omega)]
    by_cases c1 : F 2 l 4 ≤ j + 1
    · rw [if_pos c1]; exact o b (by rw [if_pos (by omega)])
    · rw [if_neg c1, if_pos (by omega)]; exact o _ (by rw [if_neg (by omega)])
theorem C_sc108X {F : zF} {a nb : Int} {rec : Int → Int → Int → Int → zF → zB → zO} (hl : 0 ≤ l ∧ l < K.2 2) (hF : 0 ≤ F 2 l 4 ∧ F 2 l 4 ≤ 3200) (ha : 0 ≤ a ∧ a < 100) : ∀ (d N : Nat) (j : Int) (B : zB), j + d = F 2 l 4 → 0 ≤ j → d < N → ∃ B', f_Layout_setColumns_108 rec K N j a l p nb F B = rec (a + 1) l p nb F B' ∧ B' 2 l 6 a = B 2 l 6 a + smR (fun x => B 2 l 2 x) j d ∧ ∀ c y k x, ¬ (c = 2 ∧ y = l ∧ k = 6 ∧ x = a) → B' c y k x = B c y k x := by
  intro d
  induction d with
  | zero =>
    intro N j B hj j0 hN
    obtain ⟨n, rfl⟩ : ∃ n, N = n + 1 := ⟨N - 1, by omega⟩
    rw [f_Layout_setColumns_108, if_pos hl, if_pos (by unfold r32; omega), if_pos (by unfold r32; omega), if_pos (by omega)]
    exact ⟨B, rfl, by rw [smR]; omega, fun _ _ _ _ _ => rfl⟩
  | succ d ih =>
    intro N j B hj j0 hN
    obtain ⟨n, rfl⟩ : ∃ n, N = n + 1 := ⟨N - 1, by omega⟩
    rw [f_Layout_setColumns_108, if_pos hl, if_pos (by unfold r32; omega), if_pos (by unfold r32; omega), if_neg (by omega), if_pos ha, if_pos (by omega)]
    obtain ⟨B', g1, g2, g3⟩ := ih n (j + 1) (zup4 B 2 l 6 a (B 2 l 6 a + B 2 l 2 j)) (by omega) (by omega) (by omega)
    refine ⟨B', g1, ?_, fun c y k x nn => by rw [g3 c y k x nn, zup4_v, if_neg nn]⟩
    rw [g2, smR, up_s, smR_c (f := fun x => B 2 l 2 x) (f' := fun x => (zup4 B 2 l 6 a (B 2 l 6 a + B 2 l 2 j)) 2 l 2 x) d (j + 1) (fun x _ _ => up_o (by decide))]
    omega
/-- bar b's columns so far: from s on, up to place X -/
noncomputable def CC1 (V l w b s X : Int) (F : zF) (B Bm : zB) : Prop := (0 ≤ s ∧ s ≤ F 2 l 4 ∧ F 2 l 4 ≤ nxS V l B) ∧ B 2 l 5 b = s ∧ SI (F 2 l 4 - s) (fun t => B 2 l 1 (s + t)) ∧ RS (F 2 l 4 - s) (fun t => B 2 l 1 (s + t)) (fun y => aNt V w b (800 * V) Bm y ∧ y ≤ X) ∧ (s < F 2 l 4 → B 2 l 1 (F 2 l 4 - 1) = X) ∧ ∀ j, s ≤ j → j < F 2 l 4 → (0 ≤ B 2 l 1 j ∧ B 2 l 1 j ≤ 1000000000000) ∧ ∃ f dt, FQy V w b (B 2 l 1 j) (800 * V) Bm f dt ∧ B 2 l 2 j = 8 + (if f = 0 then 0 else 6) + 3 * dt
theorem nx_all {F : zF} {B Bm : zB} {b X : Int} (h : PQl K V p F B) (hE : ENl V p w F B Bm) (hN : NXs V p l b X F B) (hc : 3200 ≤ nxS V l B) : NXs V p l (b + 1) (-1) F B ∧ ∀ x, aNt V w b (800 * V) Bm x → x ≤ X := by
  have hV := h.2.1
  have ct : ∀ t, 0 ≤ t → t < V → F 4 (B 6 p 0 t) 10 ≤ 800 := fun t t0 t1 => (h.2.2.2.2.2.2 t t0 t1).2.1.2
  have al : ∀ t, 0 ≤ t → t < V → ¬ B 2 l 12 t < F 4 (B 6 p 0 t) 10 := fun t t0 t1 c => by
    have a1 := smR_lt (f := fun u => B 2 l 12 u) (g := fun _ => (800 : Int)) V.toNat 0 t (fun j j0 j1 => by
      have := ct j j0 (by omega)
      have := (hN j j0 (by omega)).1
      show B 2 l 12 j ≤ 800
      omega) t0 (by omega) (by
      have := ct t t0 t1
      show B 2 l 12 t + 1 ≤ 800
      omega)
    rw [smR_k] at a1
    unfold nxS at hc
    omega
  refine ⟨fun u u0 u1 => ?_, fun y hy => ?_⟩
  · obtain ⟨n1, n2, n3⟩ := hN u u0 u1
    refine ⟨n1, fun i i0 i1 => Or.inl ?_, fun c => absurd c (al u u0 u1)⟩
    have := n2 i i0 i1
    omega
  · obtain ⟨y0, z, hz⟩ := hy
    obtain ⟨t, i, a0, a1, a2, a3, a4, a5, a6, a7⟩ := (EN_s hE h y0).mp hz
    obtain ⟨n1, n2, n3⟩ := hN t a0 a1
    have := al t a0 a1
    have := n2 i a2 (by omega)
    omega
theorem C_sc45X {b nb : Int} {F0 : zF} {B0 Bm : zB} {rec : Int → Int → Int → Int → zF → zB → zO} (hK : 60000 ≤ K.1) (h : PQl K V p F0 B0) (hl : 0 ≤ l ∧ l < K.2 2) (hE : ENl V p w F0 B0 Bm) (rb : r32 b) {s : Int} : ∀ (d N : Nat) (i X : Int) (F : zF) (B : zB), i + d = 3200 → 0 ≤ i → d < N → lyF l F0 F → lyB l B0 B → F 2 l 0 = F0 2 l 0 → NXs V p l b X F B → -1 ≤ X → CC1 V l w b s X F B Bm → F 2 l 4 - s = i → ∃ F' B' X', f_Layout_setColumns_45 rec K N i b l p nb F B = f_Layout_setColumns_78 rec K b l p nb F' B' ∧ lyF l F0 F' ∧ lyB l B0 B' ∧ F' 2 l 0 = F0 2 l 0 ∧ NXs V p l (b + 1) (-1) F' B' ∧ CC1 V l w b s X' F' B' Bm ∧ (∀ y, aNt V w b (800 * V) Bm y → y ≤ X') ∧ (∀ k x, ¬ (k = 12 ∨ ((k = 1 ∨ k = 2) ∧ s ≤ x)) → B' 2 l k x = B 2 l k x) := by
  have hV := h.2.1
  intro d
  induction d with
  | zero =>
    intro N i X F B hi i0 hN f g h0 hX X0 hC ci
    obtain ⟨n, rfl⟩ : ∃ n, N = n + 1 := ⟨N - 1, by omega⟩
    have hq := PQ_f h f g
    have he := EN_f hE f g
    have a := nx_all hq he hX (by have := hC.1; omega)
    rw [f_Layout_setColumns_45, if_pos (by unfold r32; omega), if_pos (by omega)]
    exact ⟨F, B, X, rfl, f, g, h0, a.1, hC, a.2, fun _ _ _ => rfl⟩
  | succ d ih =>
    intro N i X F B hi i0 hN f g h0 hX X0 hC ci
    obtain ⟨n, rfl⟩ : ∃ n, N = n + 1 := ⟨N - 1, by omega⟩
    have hq := PQ_f h f g
    have he := EN_f hE f g
    obtain ⟨c1, c2, c3, c4, c5, c6⟩ := hC
    rw [f_Layout_setColumns_45, if_pos (by unfold r32; omega), if_neg (by omega), if_pos hl]
    rcases C_addX hK hq hl he hX X0 ⟨by omega, c1.2.2⟩ rb with ⟨e, n1, n2⟩ | ⟨x, fl, dt, B1, e, x1, l4, fq, ⟨v1, v2⟩, bn, n1, n2, n3⟩
    · rw [e, zb_s, if_pos (by decide), if_pos rfl]
      exact ⟨F, B, X, rfl, f, g, h0, n1, ⟨c1, c2, c3, c4, c5, c6⟩, n2, fun _ _ _ => rfl⟩
    · rw [e, zb_s, if_pos (by decide), if_neg (by decide)]
      have f4 : (zup3 F 2 l 4 (F 2 l 4 + 1)) 2 l 4 = F 2 l 4 + 1 := by rw [zup3_v, if_pos ⟨rfl, rfl, rfl⟩]
      have fn : lyF l F (zup3 F 2 l 4 (F 2 l 4 + 1)) := lyF_w (by omega)
      have gn : lyB l B B1 := fun c y k z nn => bn c y k z (by omega)
      have e1 : ∀ z, ¬ z = F 2 l 4 → B1 2 l 1 z = B 2 l 1 z := fun z nz => bn 2 l 1 z (by omega)
      have e2 : ∀ z, ¬ z = F 2 l 4 → B1 2 l 2 z = B 2 l 2 z := fun z nz => bn 2 l 2 z (by omega)
      have nz' : NXs V p l b x (zup3 F 2 l 4 (F 2 l 4 + 1)) B1 := fun u u0 u1 => by
        have ff : (zup3 F 2 l 4 (F 2 l 4 + 1)) 4 (B1 6 p 0 u) 10 = F 4 (B1 6 p 0 u) 10 := fn 4 _ 10 (by omega)
        rw [ff]
        exact n1 u u0 u1
      have hp : (fun t => B1 2 l 1 (s + t)) = fun t => if t = F 2 l 4 - s then x else B1 2 l 1 (s + t) := by
        funext t
        by_cases z : t = F 2 l 4 - s
        · rw [if_pos z, show s + t = F 2 l 4 by omega]; exact v1
        · rw [if_neg z]
      have hC' : CC1 V l w b s x (zup3 F 2 l 4 (F 2 l 4 + 1)) B1 Bm := by
        unfold CC1
        rw [f4]
        refine ⟨⟨c1.1, by omega, n2⟩, by rw [bn 2 l 5 b (by omega)]; exact c2, fun t t0 t1 => ?_, fun y => ⟨fun hy => ?_, fun hy => ?_⟩, fun _ => by rw [show F 2 l 4 + 1 - 1 = F 2 l 4 by omega]; exact v1, fun j j0 j1 => ?_⟩
        · show B1 2 l 1 (s + t) < B1 2 l 1 (s + (t + 1))
          by_cases z : t + 1 = F 2 l 4 - s
          · have k := c5 (by omega)
            rw [e1 (s + t) (by omega), show s + (t + 1) = F 2 l 4 by omega, v1, show s + t = F 2 l 4 - 1 by omega, k]
            exact x1.1
          · rw [e1 (s + t) (by omega), e1 (s + (t + 1)) (by omega)]
            exact c3 t t0 (by omega)
        · obtain ⟨t, t0, t1, te⟩ := hy
          rw [n3 y]
          by_cases z : s + t = F 2 l 4
          · exact Or.inr (by rw [← te]; show B1 2 l 1 (s + t) = x; rw [z]; exact v1)
          · exact Or.inl ((c4 y).mp ⟨t, t0, by omega, by rw [← te]; show B 2 l 1 (s + t) = B1 2 l 1 (s + t); rw [e1 (s + t) z]⟩)
        · rcases (n3 y).mp hy with hy | hy
          · obtain ⟨t, t0, t1, te⟩ := (c4 y).mpr hy
            exact ⟨t, t0, by omega, by rw [← te]; show B1 2 l 1 (s + t) = B 2 l 1 (s + t); exact e1 (s + t) (by omega)⟩
          · exact ⟨F 2 l 4 - s, by omega, by omega, by rw [hy]; show B1 2 l 1 (s + (F 2 l 4 - s)) = x; rw [show s + (F 2 l 4 - s) = F 2 l 4 by omega]; exact v1⟩
        · by_cases z : j = F 2 l 4
          · rw [z, v1, v2]
            exact ⟨⟨by omega, x1.2⟩, fl, dt, fq, rfl⟩
          · rw [e1 j z, e2 j z]
            exact c6 j j0 (by omega)
      obtain ⟨F', B', X', k1, k2, k3, k4, k5, k6, k7, k8⟩ := ih n (i + 1) x (zup3 F 2 l 4 (F 2 l 4 + 1)) B1 (by omega) (by omega) (by omega) (lyF_t f fn) (lyB_t g gn) (by rw [zup3_v, if_neg (by omega)]; exact h0) nz' (by omega) hC' (by rw [f4]; omega)
      exact ⟨F', B', X', k1, k2, k3, k4, k5, k6, k7, fun k x nn => by rw [k8 k x nn, bn 2 l k x (by omega)]⟩
/-- bar t's columns, class: from s to e -/
noncomputable def CCe (V l w T t s e : Int) (B Bm : zB) : Prop := (0 ≤ s ∧ s ≤ e ∧ e ≤ 3200) ∧ SI (e - s) (fun i => B 2 l 1 (s + i)) ∧ RS (e - s) (fun i => B 2 l 1 (s + i)) (aNt V w t (800 * V) Bm) ∧ (∀ j, s ≤ j → j < e → (0 ≤ B 2 l 1 j ∧ B 2 l 1 j ≤ 1000000000000) ∧ WDx V w t (B 2 l 1 j) Bm (lw2 40 (((if j + 1 = e then T else B 2 l 1 (j + 1)) - B 2 l 1 j) / 6350400)) (B 2 l 2 j)) ∧ B 2 l 6 t = 6 + smR (fun j => B 2 l 2 j) s (e - s).toNat
theorem CCe_f {T t s e : Int} {B B' Bm : zB} (h : CCe V l w T t s e B Bm) (b : ∀ k j, k = 1 ∨ k = 2 → s ≤ j → j < e → B' 2 l k j = B 2 l k j) (b6 : B' 2 l 6 t = B 2 l 6 t) : CCe V l w T t s e B' Bm := by
  obtain ⟨h1, h2, h3, h4, h5⟩ := h
  refine ⟨h1, SI_c h2 (fun i i0 i1 => b 1 _ (by omega) (by omega) (by omega)), RS_t h3 (fun i i0 i1 => b 1 _ (by omega) (by omega) (by omega)), fun j j0 j1 => ?_, ?_⟩
  · have e1 : (if j + 1 = e then T else B' 2 l 1 (j + 1)) = if j + 1 = e then T else B 2 l 1 (j + 1) := by
      by_cases z : j + 1 = e
      · rw [if_pos z, if_pos z]
      · rw [if_neg z, if_neg z, b 1 (j + 1) (by omega) (by omega) (by omega)]
    rw [e1, b 1 j (by omega) j0 j1, b 2 j (by omega) j0 j1]
    exact h4 j j0 j1
  · rw [b6, h5, smR_c (f := fun j => B 2 l 2 j) (f' := fun j => B' 2 l 2 j) _ s (fun j j0 j1 => b 2 j (by omega) j0 (by omega))]
/-- where bar t ends, while bar b is ahead and c columns stand -/
noncomputable def eC (l b c t : Int) (B : zB) : Int := if t + 1 = b then c else B 2 l 5 (t + 1)
noncomputable def CCb (V l w T b c : Int) (B Bm : zB) : Prop := (b = 0 → c = 0) ∧ (0 < b → B 2 l 5 0 = 0) ∧ ∀ t, 0 ≤ t → t < b → CCe V l w T t (B 2 l 5 t) (eC l b c t B) B Bm ∧ eC l b c t B ≤ c
theorem C_sc27X {nb T : Int} {F0 : zF} {B0 Bm : zB} (hK : 60000 ≤ K.1) (h : PQl K V p F0 B0) (hl : 0 ≤ l ∧ l < K.2 2) (hE : ENl V p w F0 B0 Bm) (hT : T = barV (F0 6 p 4) (F0 6 p 5)) (hpl : ∀ b x, aNt V w b (800 * V) Bm x → x < T) (hn : 0 ≤ nb ∧ nb ≤ 100) : ∀ (d N : Nat) (a : Int) (F : zF) (B : zB), a + d = nb → 0 ≤ a → d < N → lyF l F0 F → lyB l B0 B → F 2 l 0 = F0 2 l 0 → NXs V p l a (-1) F B → (0 ≤ F 2 l 4 ∧ F 2 l 4 ≤ nxS V l B) → CCb V l w T a (F 2 l 4) B Bm → ∃ F' B', f_Layout_setColumns_27 K N a l p nb F B = some (0, F', B') ∧ lyF l F0 F' ∧ lyB l B0 B' ∧ F' 2 l 0 = F0 2 l 0 ∧ (0 < nb → B' 2 l 5 0 = 0) ∧ ∀ t, 0 ≤ t → t < nb → CCe V l w T t (B' 2 l 5 t) (B' 2 l 5 (t + 1)) B' Bm := by
  have hV := h.2.1
  have bT := bar_v h.2.2.2.1 h.2.2.2.2.1
  rw [← hT] at bT
  intro d
  induction d with
  | zero =>
    intro N a F B ha a0 hN f g h0 hX hc hC
    obtain ⟨n, rfl⟩ : ∃ n, N = n + 1 := ⟨N - 1, by omega⟩
    have ea : a = nb := by omega
    rw [f_Layout_setColumns_27, if_pos (by unfold r32; omega), if_pos (by unfold r32; omega), if_pos (by omega), if_pos hl, if_pos (by omega)]
    have un : ∀ k x, ¬ (k = 5 ∧ x = nb) → (zup4 B 2 l 5 nb (F 2 l 4)) 2 l k x = B 2 l k x := fun k x nn => by rw [zup4_v, if_neg (by omega)]
    have us : (zup4 B 2 l 5 nb (F 2 l 4)) 2 l 5 nb = F 2 l 4 := up_s
    refine ⟨F, _, rfl, f, lyB_t g lyB_w, h0, fun z => by rw [un 5 0 (by omega)]; exact hC.2.1 (by omega), fun t t0 t1 => ?_⟩
    obtain ⟨k1, _⟩ := hC.2.2 t t0 (by omega)
    have e1 : (zup4 B 2 l 5 nb (F 2 l 4)) 2 l 5 (t + 1) = eC l a (F 2 l 4) t B := by
      unfold eC
      by_cases z : t + 1 = a
      · rw [if_pos z, show t + 1 = nb by omega]; exact us
      · rw [if_neg z]; exact un 5 (t + 1) (by omega)
    rw [e1, un 5 t (by omega)]
    exact CCe_f k1 (fun k j _ _ _ => un k j (by omega)) (un 6 t (by omega))
  | succ d ih =>
    intro N a F B ha a0 hN f g h0 hX hc hC
    obtain ⟨n, rfl⟩ : ∃ n, N = n + 1 := ⟨N - 1, by omega⟩
    have un : ∀ c y k x, ¬ (c = 2 ∧ y = l ∧ k = 5 ∧ x = a) → (zup4 B 2 l 5 a (F 2 l 4)) c y k x = B c y k x := fun c y k x nn => by rw [zup4_v, if_neg nn]
    have us : (zup4 B 2 l 5 a (F 2 l 4)) 2 l 5 a = F 2 l 4 := up_s
    generalize hBa : zup4 B 2 l 5 a (F 2 l 4) = Ba at un us
    have u4 : ∀ q k x, Ba 4 q k x = B 4 q k x := fun q k x => un 4 q k x (by omega)
    have ga : lyB l B Ba := fun c y k x nn => un c y k x (by omega)
    have nxa : nxS V l Ba = nxS V l B := by
      unfold nxS
      exact smR_c _ 0 (fun j _ _ => un 2 l 12 j (by omega))
    have Xa : NXs V p l a (-1) F Ba := fun u u0 u1 => by
      rw [un 2 l 12 u (by omega), un 6 p 0 u (by omega)]
      simp only [u4]
      exact hX u u0 u1
    obtain ⟨F1, B1, X, e, g1, g2, g3, g4, g5, g6, g7⟩ := C_sc45X (V := V) (p := p) (w := w) (b := a) (nb := nb) (Bm := Bm) (rec := f_Layout_setColumns_27 K n) (s := F 2 l 4) hK h hl hE (by unfold r32; omega) 3200 K.1 0 (-1) F Ba (by omega) (by decide) (by omega) f (lyB_t g ga) h0 Xa (by decide) ⟨⟨hc.1, Int.le_refl _, by rw [nxa]; exact hc.2⟩, us, fun t t0 t1 => by omega, fun y => ⟨fun hy => by
      obtain ⟨t, t0, t1, _⟩ := hy
      omega, fun hy => by
      obtain ⟨⟨y0, _⟩, y1⟩ := hy
      omega⟩, fun z => by omega, fun j j0 j1 => by omega⟩ (by omega)
    obtain ⟨c1, c2, c3, c4, c5, c6⟩ := g5
    have hq := PQ_f h g1 g2
    have e64 : F1 6 p 4 = F0 6 p 4 ∧ F1 6 p 5 = F0 6 p 5 := ⟨g1 6 p 4 (by omega), g1 6 p 5 (by omega)⟩
    have hbl := C_bar (K := K) (p := p) (F := F1) (B := B1) hq.1 rfl rfl hq.2.2.2.1 hq.2.2.2.2.1
    rw [e64.1, e64.2, ← hT] at hbl
    have up : nxS V l B1 ≤ 800 * V := by
      have a1 := smR_le (f := fun u => B1 2 l 12 u) (g := fun _ => (800 : Int)) V.toNat 0 (fun j j0 j1 => by
        have := (hq.2.2.2.2.2.2 j j0 (by omega)).2.1
        have := (g4 j j0 (by omega)).1
        show B1 2 l 12 j ≤ 800
        omega)
      rw [smR_k] at a1
      unfold nxS
      omega
    have mem : ∀ j, F 2 l 4 ≤ j → j < F1 2 l 4 → aNt V w a (800 * V) Bm (B1 2 l 1 j) := fun j j0 j1 => by
      have := (c4 (B1 2 l 1 j)).mp ⟨j - F 2 l 4, by omega, by omega, by show B1 2 l 1 (F 2 l 4 + (j - F 2 l 4)) = B1 2 l 1 j; rw [show F 2 l 4 + (j - F 2 l 4) = j by omega]⟩
      exact this.1
    obtain ⟨B2, w1, w2, w3⟩ := C_wd3X (K := K) (l := l) (F := F1) (b := T) hK hl ⟨by omega, by omega⟩ (F1 2 l 4 - F 2 l 4).toNat K.1 (F 2 l 4) B1 (by omega) hc.1 (by omega) (fun x x0 x1 => by
      obtain ⟨q1, _⟩ := c6 x x0 x1
      have q2 := hpl a _ (mem x x0 x1)
      by_cases z : x + 1 = F1 2 l 4
      · rw [if_pos z]
        omega
      · rw [if_neg z]
        have q3 := c3 (x - F 2 l 4) (by omega) (by omega)
        have q4 : B1 2 l 1 (F 2 l 4 + (x - F 2 l 4)) < B1 2 l 1 (F 2 l 4 + (x - F 2 l 4 + 1)) := q3
        rw [show F 2 l 4 + (x - F 2 l 4) = x by omega, show F 2 l 4 + (x - F 2 l 4 + 1) = x + 1 by omega] at q4
        obtain ⟨q5, _⟩ := c6 (x + 1) (by omega) (by omega)
        omega)
    have w1' : f_Layout_widen K l (F 2 l 4) T F1 B1 = some (0, F1, B2) := w1
    have e5 : (zup4 B2 2 l 6 a 6) 2 l 5 a = F 2 l 4 := by rw [up_o (by decide), w3 2 l 5 a (by omega)]; exact c2
    obtain ⟨B4, x1, x2, x3⟩ := C_sc108X (K := K) (F := F1) (p := p) (a := a) (nb := nb) (rec := f_Layout_setColumns_27 K n) hl ⟨by omega, by omega⟩ (by omega) (F1 2 l 4 - F 2 l 4).toNat K.1 (F 2 l 4) (zup4 B2 2 l 6 a 6) (by omega) hc.1 (by omega)
    rw [f_Layout_setColumns_27, if_pos (by unfold r32; omega), if_pos (by unfold r32; omega), if_neg (by omega), if_pos hl, if_pos (by omega), hBa, e]
    unfold f_Layout_setColumns_78
    rw [if_pos hl, if_pos (by omega), if_pos hq.1, hbl, zb_s, c2, w1', zb_s, if_pos (by omega), e5, x1]
    -- what stands now
    have y4 : ∀ c y k x, ¬ (c = 2 ∧ y = l ∧ ((k = 2 ∧ F 2 l 4 ≤ x ∧ x < F1 2 l 4) ∨ (k = 6 ∧ x = a))) → B4 c y k x = B1 c y k x := fun c y k x nn => by rw [x3 c y k x (by omega), zup4_v, if_neg (by omega), w3 c y k x (by omega)]
    have y44 : ∀ q k x, B4 4 q k x = B1 4 q k x := fun q k x => y4 4 q k x (by omega)
    have y2 : ∀ x, F 2 l 4 ≤ x → x < F1 2 l 4 → B4 2 l 2 x = B2 2 l 2 x := fun x _ _ => by rw [x3 2 l 2 x (by omega), up_o (by decide)]
    have y0 : ∀ k x, ¬ (k = 12 ∨ k = 5 ∨ ((k = 1 ∨ k = 2) ∧ F 2 l 4 ≤ x) ∨ (k = 6 ∧ x = a)) → B4 2 l k x = B 2 l k x := fun k x nn => by rw [y4 2 l k x (by omega), g7 k x (by omega), un 2 l k x (by omega)]
    have y5 : ∀ x, ¬ x = a → B4 2 l 5 x = B 2 l 5 x := fun x nx => by rw [y4 2 l 5 x (by omega), g7 5 x (by omega), un 2 l 5 x (by omega)]
    have y5a : B4 2 l 5 a = F 2 l 4 := by rw [y4 2 l 5 a (by omega)]; exact c2
    have new : CCe V l w T a (F 2 l 4) (F1 2 l 4) B4 Bm := by
      refine ⟨⟨hc.1, c1.2.1, by omega⟩, SI_c c3 (fun i _ _ => y4 2 l 1 _ (by omega)), RS_t (RS_c c4 (fun y => ⟨fun z => z.1, fun z => ⟨z, g6 y z⟩⟩)) (fun i _ _ => y4 2 l 1 _ (by omega)), fun j j0 j1 => ?_, ?_⟩
      · obtain ⟨q1, fl, dt, q2, q3⟩ := c6 j j0 j1
        rw [y4 2 l 1 j (by omega), y4 2 l 1 (j + 1) (by omega), y2 j j0 j1, w2 j j0 j1]
        exact ⟨q1, fl, dt, q2, by rw [q3]; omega⟩
      · rw [x2, up_s, smR_c (f := fun j => B4 2 l 2 j) (f' := fun x => (zup4 B2 2 l 6 a 6) 2 l 2 x) _ (F 2 l 4) (fun j j0 j1 => by
          show (zup4 B2 2 l 6 a 6) 2 l 2 j = B4 2 l 2 j
          rw [up_o (by decide), y2 j j0 (by omega)])]
    have hC4 : CCb V l w T (a + 1) (F1 2 l 4) B4 Bm := by
      refine ⟨fun z => by omega, fun _ => ?_, fun t t0 t1 => ?_⟩
      · by_cases z : a = 0
        · have y50 : B4 2 l 5 0 = F 2 l 4 := by
            rw [z] at y5a
            exact y5a
          rw [y50]; exact hC.1 z
        · rw [y5 0 (by omega)]; exact hC.2.1 (by omega)
      · by_cases z : t = a
        · rw [z, y5a]
          unfold eC
          rw [if_pos rfl]
          exact ⟨new, Int.le_refl _⟩
        · obtain ⟨k1, k2⟩ := hC.2.2 t t0 (by omega)
          have ee : eC l (a + 1) (F1 2 l 4) t B4 = eC l a (F 2 l 4) t B := by
            unfold eC
            rw [if_neg (by omega)]
            by_cases z' : t + 1 = a
            · rw [if_pos z', z', y5a]
            · rw [if_neg z', y5 (t + 1) (by omega)]
          rw [ee, y5 t z]
          exact ⟨CCe_f k1 (fun k j hk _ j1 => y0 k j (by omega)) (y0 6 t (by omega)), by omega⟩
    exact ih n (a + 1) F1 B4 (by omega) (by omega) (by omega) g1 (lyB_t g2 (fun c y k x nn => y4 c y k x (by omega))) g3 (fun u u0 u1 => by
      rw [y4 2 l 12 u (by omega), y4 6 p 0 u (by omega)]
      simp only [y44]
      exact g4 u u0 u1) ⟨by omega, by
      have : nxS V l B4 = nxS V l B1 := by
        unfold nxS
        exact smR_c _ 0 (fun j _ _ => y4 2 l 12 j (by omega))
      rw [this]
      exact c1.2.2⟩ hC4
theorem C_setX0 {nb T : Int} {F : zF} {B Bm : zB} (hK : 60000 ≤ K.1) (h : PQl K V p F B) (hl : 0 ≤ l ∧ l < K.2 2) (hE : ENl V p w F B Bm) (hT : T = barV (F 6 p 4) (F 6 p 5)) (hpl : ∀ b x, aNt V w b (800 * V) Bm x → x < T) (hn : 0 ≤ nb ∧ nb ≤ 100) : ∃ F' B', f_Layout_setColumns K l p nb F B = some (0, F', B') ∧ lyF l F F' ∧ lyB l B B' ∧ F' 2 l 0 = F 2 l 0 ∧ (0 < nb → B' 2 l 5 0 = 0) ∧ ∀ t, 0 ≤ t → t < nb → CCe V l w T t (B' 2 l 5 t) (B' 2 l 5 (t + 1)) B' Bm := by
  have hV := h.2.1
  have c7 : ∀ (d N : Nat) (i : Int) (C : zB), i + d = 4 → 0 ≤ i → d < N → lyB l B C → (∀ t, 0 ≤ t → t < i → C 2 l 12 t = 0) → ∃ C', f_Layout_setColumns_7 K N i l p nb (zup3 F 2 l 4 0) C = f_Layout_setColumns_27 K K.1 0 l p nb (zup3 F 2 l 4 0) C' ∧ lyB l B C' ∧ ∀ t, 0 ≤ t → t < 4 → C' 2 l 12 t = 0 := by
    intro d
    induction d with
    | zero =>
      intro N i C hi i0 hN g z
      obtain ⟨n, rfl⟩ : ∃ n, N = n + 1 := ⟨N - 1, by omega⟩
      rw [f_Layout_setColumns_7, if_pos (by unfold r32; omega), if_pos (by omega)]
      exact ⟨C, rfl, g, fun t t0 t1 => z t t0 (by omega)⟩
    | succ d ih =>
      intro N i C hi i0 hN g z
      obtain ⟨n, rfl⟩ : ∃ n, N = n + 1 := ⟨N - 1, by omega⟩
      rw [f_Layout_setColumns_7, if_pos (by unfold r32; omega), if_neg (by omega), if_pos hl, if_pos (by omega)]
      refine ih n (i + 1) (zup4 C 2 l 12 i 0) (by omega) (by omega) (by omega) (lyB_t g lyB_w) (fun t t0 t1 => ?_)
      by_cases e : t = i
      · rw [e]; exact up_s
      · rw [up_j e]; exact z t t0 (by omega)
  obtain ⟨B1, e, g1, g2⟩ := c7 4 K.1 0 B (by omega) (by decide) (by omega) lyB_r (fun t a c => by omega)
  have f1 : lyF l F (zup3 F 2 l 4 0) := lyF_w (by omega)
  have f4 : (zup3 F 2 l 4 0) 2 l 4 = 0 := by rw [zup3_v, if_pos ⟨rfl, rfl, rfl⟩]
  have hq := PQ_f h f1 g1
  have he := EN_f hE f1 g1
  unfold f_Layout_setColumns
  rw [if_pos hl, e]
  have sz : 0 ≤ nxS V l B1 := by
    have a1 := smR_le (f := fun _ => (0 : Int)) (g := fun u => B1 2 l 12 u) V.toNat 0 (fun j j0 j1 => by
      show 0 ≤ B1 2 l 12 j
      rw [g2 j j0 (by omega)]
      exact Int.le_refl _)
    rw [smR_k] at a1
    unfold nxS
    omega
  obtain ⟨F2, B2, k1, k2, k3, k4, k5, k6⟩ := C_sc27X (K := K) (V := V) (p := p) (l := l) (w := w) (T := T) (F0 := zup3 F 2 l 4 0) (B0 := B1) (Bm := Bm) hK hq hl he (by rw [f1 6 p 4 (by omega), f1 6 p 5 (by omega)]; exact hT) hpl hn nb.toNat K.1 0 (zup3 F 2 l 4 0) B1 (by omega) (by decide) (by omega) lyF_r lyB_r rfl (fun u u0 u1 => by
    obtain ⟨_, q2, q3⟩ := hq.2.2.2.2.2.2 u u0 u1
    rw [g2 u u0 (by omega)]
    refine ⟨⟨by decide, q2.1⟩, fun i i0 i1 => by omega, fun c => ?_⟩
    obtain ⟨m1, m2, _⟩ := q3 0 (by decide) c
    by_cases z : B1 4 (B1 6 p 0 u) 361 0 = 0
    · exact Or.inr ⟨z, by omega⟩
    · exact Or.inl (by omega)) (by rw [f4]; exact ⟨by decide, sz⟩) ⟨fun _ => f4, fun z => absurd z (by decide), fun t t0 t1 => by omega⟩
  exact ⟨F2, B2, k1, lyF_t f1 k2, lyB_t g1 k3, by rw [k4, zup3_v, if_neg (by omega)], k5, k6⟩
/-- both sides' columns are the same -/
theorem CC_u {nb T : Int} {P : Int → Int} {B Bm : zB} (hX : CXb V w T nb P Bm Bm) (h0 : 0 < nb → B 2 l 5 0 = 0) (hC : ∀ t, 0 ≤ t → t < nb → CCe V l w T t (B 2 l 5 t) (B 2 l 5 (t + 1)) B Bm) : (0 < nb → ∀ n : Nat, (n : Int) ≤ nb → Bm 13 w 42 n = B 2 l 5 n) ∧ ∀ t, 0 ≤ t → t < nb → Bm 13 w 46 t = B 2 l 6 t ∧ ∀ j, B 2 l 5 t ≤ j → j < B 2 l 5 (t + 1) → (Bm 13 w 43 j = nu (B 2 l 1 j) ∧ Bm 13 w 44 j = de (B 2 l 1 j)) ∧ Bm 13 w 45 j = B 2 l 2 j := by
  -- one bar
  have one : ∀ t, 0 ≤ t → t < nb → Bm 13 w 42 t = B 2 l 5 t → Bm 13 w 42 (t + 1) = B 2 l 5 (t + 1) ∧ Bm 13 w 46 t = B 2 l 6 t ∧ ∀ j, B 2 l 5 t ≤ j → j < B 2 l 5 (t + 1) → (Bm 13 w 43 j = nu (B 2 l 1 j) ∧ Bm 13 w 44 j = de (B 2 l 1 j)) ∧ Bm 13 w 45 j = B 2 l 2 j := fun t t0 t1 es => by
    obtain ⟨⟨x1, x2, x3, x4, x5⟩, _⟩ := hX.2 t t0 t1
    obtain ⟨c1, c2, c3, c4, c5⟩ := hC t t0 t1
    rw [es] at x1 x2 x3 x4 x5
    obtain ⟨e1, e2⟩ := SR_e (by omega) (by omega) x2 c2 x3 c3
    have ee : Bm 13 w 42 (t + 1) = B 2 l 5 (t + 1) := by omega
    rw [ee] at x4 x5 e2
    have pe : ∀ j, B 2 l 5 t ≤ j → j < B 2 l 5 (t + 1) → P j = B 2 l 1 j := fun j j0 j1 => by
      have k := e2 (j - B 2 l 5 t) (by omega) (by omega)
      have k' : P (B 2 l 5 t + (j - B 2 l 5 t)) = B 2 l 1 (B 2 l 5 t + (j - B 2 l 5 t)) := k
      rw [show B 2 l 5 t + (j - B 2 l 5 t) = j by omega] at k'
      exact k'
    have we : ∀ j, B 2 l 5 t ≤ j → j < B 2 l 5 (t + 1) → (Bm 13 w 43 j = nu (B 2 l 1 j) ∧ Bm 13 w 44 j = de (B 2 l 1 j)) ∧ Bm 13 w 45 j = B 2 l 2 j := fun j j0 j1 => by
      obtain ⟨k1, k2, k3⟩ := x4 j j0 j1
      obtain ⟨m1, m2⟩ := c4 j j0 j1
      have e3 : (if j + 1 = B 2 l 5 (t + 1) then T else P (j + 1)) = if j + 1 = B 2 l 5 (t + 1) then T else B 2 l 1 (j + 1) := by
        by_cases z : j + 1 = B 2 l 5 (t + 1)
        · rw [if_pos z, if_pos z]
        · rw [if_neg z, if_neg z, pe (j + 1) (by omega) (by omega)]
      rw [e3, pe j j0 j1] at k3
      unfold CP at k1
      rw [pe j j0 j1] at k1
      exact ⟨k1, WDx_u k3 m2⟩
    refine ⟨ee, ?_, we⟩
    rw [x5, c5, smR_c (f := fun j => B 2 l 2 j) (f' := fun j => Bm 13 w 45 j) _ (B 2 l 5 t) (fun j j0 j1 => (we j j0 (by omega)).2)]
  have all : 0 < nb → ∀ n : Nat, (n : Int) ≤ nb → Bm 13 w 42 n = B 2 l 5 n := fun nb0 n => by
    induction n with
    | zero =>
      intro _
      have a1 := hX.1 nb0
      have a2 := h0 nb0
      show Bm 13 w 42 0 = B 2 l 5 0
      rw [a1, a2]
    | succ n ih =>
      intro hn
      have := (one n (by omega) (by omega) (ih (by omega))).1
      rw [show ((n + 1 : Nat) : Int) = (n : Int) + 1 by omega]
      exact this
  refine ⟨all, fun t t0 t1 => ?_⟩
  have e := all (by omega) t.toNat (by omega)
  rw [show ((t.toNat : Nat) : Int) = t by omega] at e
  exact (one t t0 t1 e).2
end
end
section
section
/-! ===== how the lines are chosen: purely, and both sides ===== -/
-- (33b3)
noncomputable def lwX (W : Int → Int) (fi a : Int) (n : Nat) : Int := ldV fi a + smR W a n
noncomputable def prV (wd x nb e : Int) : Int := if x ≤ wd then (if e = nb then 0 else (wd - x) * (wd - x)) else 4 * (x - wd) * (x - wd)
/-- the best of the first k ways to go on from bar a: what is left costs L -/
noncomputable def dpS (W : Int → Int) (fi wd nb : Int) (L : Int → Int) (a : Int) : Nat → Int × Int
  | 0 => (1152921504606846976, 0)
  | k + 1 => if 1 ≤ k ∧ wd < lwX W fi a (k + 1) then dpS W fi wd nb L a k else if (dpS W fi wd nb L a k).2 = 0 ∨ prV wd (lwX W fi a (k + 1)) nb (a + (k + 1 : Nat)) + L (a + (k + 1 : Nat)) ≤ (dpS W fi wd nb L a k).1 then (prV wd (lwX W fi a (k + 1)) nb (a + (k + 1 : Nat)) + L (a + (k + 1 : Nat)), ((k + 1 : Nat) : Int)) else dpS W fi wd nb L a k
theorem smR_s {f : Int → Int} : ∀ (n : Nat) (a : Int), smR f a (n + 1) = smR f a n + f (a + n) := by
  intro n
  induction n with
  | zero =>
    intro a
    rw [smR, smR, smR, show a + ((0 : Nat) : Int) = a by omega]
    omega
  | succ n ih =>
    intro a
    rw [smR, ih (a + 1), smR, show a + 1 + (n : Int) = a + ((n + 1 : Nat) : Int) by omega]
    omega
theorem smR_b {f : Int → Int} {m : Int} : ∀ (n : Nat) (a : Int), (∀ j, 0 ≤ f j ∧ f j ≤ m) → 0 ≤ smR f a n ∧ smR f a n ≤ m * n := by
  intro n
  induction n with
  | zero => intro a _; rw [smR]; omega
  | succ n ih =>
    intro a h
    have h1 := h a
    have h2 := ih (a + 1) h
    rw [smR, show ((n + 1 : Nat) : Int) = (n : Int) + 1 by omega, Int.mul_add, Int.mul_one]
    omega
theorem lwX_s {W : Int → Int} {fi a : Int} {n : Nat} : lwX W fi a (n + 1) = lwX W fi a n + W (a + n) := by
  unfold lwX
  rw [smR_s]
  omega
theorem ldV_b {fi b : Int} (h : -7 ≤ fi ∧ fi ≤ 7) : 0 ≤ ldV fi b ∧ ldV fi b ≤ 100 := by
  unfold ldV zabs
  split <;> split <;> omega
theorem prV_b {wd x nb e : Int} (w0 : 0 ≤ wd ∧ wd ≤ 2000) (x0 : 0 ≤ x) (x1 : x ≤ 400100) : 0 ≤ prV wd x nb e ∧ prV wd x nb e ≤ 1000000000000 := by
  unfold prV
  by_cases c : x ≤ wd
  · have m1 : 0 ≤ (wd - x) * (wd - x) := Int.mul_nonneg (by omega) (by omega)
    have m2 : (wd - x) * (wd - x) ≤ 2000 * 2000 := Int.mul_le_mul (by omega) (by omega) (by omega) (by omega)
    rw [if_pos c]
    split <;> omega
  · have m1 : 0 ≤ 4 * (x - wd) * (x - wd) := Int.mul_nonneg (by omega) (by omega)
    have m2 : 4 * (x - wd) * (x - wd) ≤ 1600400 * 400100 := Int.mul_le_mul (by omega) (by omega) (by omega) (by omega)
    rw [if_neg c]
    omega
section
variable {W L : Int → Int} {fi wd nb a : Int}
theorem dpS_b (hW : ∀ t, 0 ≤ W t ∧ W t ≤ 400000) (hf : -7 ≤ fi ∧ fi ≤ 7) (hw : 0 ≤ wd ∧ wd ≤ 2000) (hL : ∀ i, a < i → i ≤ nb → 0 ≤ L i ∧ L i ≤ 1000000000000 * (nb - i)) : ∀ k : Nat, a + k ≤ nb → (k = 0 ∧ dpS W fi wd nb L a k = (1152921504606846976, 0)) ∨ (1 ≤ (dpS W fi wd nb L a k).2 ∧ (dpS W fi wd nb L a k).2 ≤ k ∧ 0 ≤ (dpS W fi wd nb L a k).1 ∧ (dpS W fi wd nb L a k).1 ≤ 1000000000000 * (nb - a) ∧ (dpS W fi wd nb L a k).1 = prV wd (lwX W fi a (dpS W fi wd nb L a k).2.toNat) nb (a + (dpS W fi wd nb L a k).2) + L (a + (dpS W fi wd nb L a k).2) ∧ ((dpS W fi wd nb L a k).2 = 1 ∨ lwX W fi a (dpS W fi wd nb L a k).2.toNat ≤ wd)) := by
  intro k
  induction k with
  | zero => intro _; exact Or.inl ⟨rfl, rfl⟩
  | succ k ih =>
    intro hk
    have i1 := ih (by omega)
    rw [dpS]
    by_cases c : 1 ≤ k ∧ wd < lwX W fi a (k + 1)
    · rw [if_pos c]
      rcases i1 with ⟨z, _⟩ | ⟨q1, q2, q3⟩
      · omega
      · exact Or.inr ⟨q1, by omega, q3⟩
    · rw [if_neg c]
      by_cases c2 : (dpS W fi wd nb L a k).2 = 0 ∨ prV wd (lwX W fi a (k + 1)) nb (a + (k + 1 : Nat)) + L (a + (k + 1 : Nat)) ≤ (dpS W fi wd nb L a k).1
      · rw [if_pos c2]
        have l1 := hL (a + (k + 1 : Nat)) (by omega) hk
        have ld := ldV_b (b := a) hf
        have sb := smR_b (f := W) (m := 400000) (k + 1) a hW
        have xb : 0 ≤ lwX W fi a (k + 1) ∧ lwX W fi a (k + 1) ≤ 400100 := by
          by_cases z : k = 0
          · subst z
            unfold lwX at *
            omega
          · unfold lwX at *
            omega
        have pb := prV_b (nb := nb) (e := a + (k + 1 : Nat)) hw xb.1 xb.2
        refine Or.inr ⟨by show (1 : Int) ≤ ((k + 1 : Nat) : Int); omega, Int.le_refl _, ?_, ?_, ?_, ?_⟩
        · show 0 ≤ prV wd (lwX W fi a (k + 1)) nb (a + (k + 1 : Nat)) + L (a + (k + 1 : Nat))
          omega
        · show prV wd (lwX W fi a (k + 1)) nb (a + (k + 1 : Nat)) + L (a + (k + 1 : Nat)) ≤ 1000000000000 * (nb - a)
          omega
        · show prV wd (lwX W fi a (k + 1)) nb (a + (k + 1 : Nat)) + L (a + (k + 1 : Nat)) = prV wd (lwX W fi a ((k + 1 : Nat) : Int).toNat) nb (a + ((k + 1 : Nat) : Int)) + L (a + ((k + 1 : Nat) : Int))
          rw [show ((k + 1 : Nat) : Int).toNat = k + 1 by omega]
        · show ((k + 1 : Nat) : Int) = 1 ∨ lwX W fi a ((k + 1 : Nat) : Int).toNat ≤ wd
          rw [show ((k + 1 : Nat) : Int).toNat = k + 1 by omega]
          omega
      · rw [if_neg c2]
        rcases i1 with ⟨z, e⟩ | ⟨q1, q2, q3⟩
        · exfalso
          apply c2
          rw [e]
          exact Or.inl rfl
        · exact Or.inr ⟨q1, by omega, q3⟩
theorem dpS_c {L' : Int → Int} : ∀ k : Nat, (∀ t, a < t → t ≤ a + k → L t = L' t) → dpS W fi wd nb L a k = dpS W fi wd nb L' a k := by
  intro k
  induction k with
  | zero => intro _; rfl
  | succ k ih =>
    intro h
    have e := h (a + (k + 1 : Nat)) (by omega) (by omega)
    rw [dpS, dpS, ih (fun t t0 t1 => h t t0 (by omega)), e]
/-- the least prices and the longest first lines, from bar b on -/
noncomputable def DPp (W : Int → Int) (fi wd nb : Int) (L M : Int → Int) (b : Int) : Prop := L nb = 0 ∧ ∀ i, b ≤ i → i < nb → L i = (dpS W fi wd nb L i (nb - i).toNat).1 ∧ M i = (dpS W fi wd nb L i (nb - i).toNat).2
theorem DPp_u {L' M M' : Int → Int} (h : DPp W fi wd nb L M 0) (h' : DPp W fi wd nb L' M' 0) : ∀ (d : Nat) (i : Int), 0 ≤ i → i + d = nb → L i = L' i ∧ (i < nb → M i = M' i) := by
  intro d
  induction d using Nat.strongRecOn with
  | ind d ih =>
    intro i i0 hd
    by_cases z : i = nb
    · rw [z, h.1, h'.1]
      exact ⟨rfl, fun k => by omega⟩
    · obtain ⟨a1, a2⟩ := h.2 i i0 (by omega)
      obtain ⟨b1, b2⟩ := h'.2 i i0 (by omega)
      have e : dpS W fi wd nb L i (nb - i).toNat = dpS W fi wd nb L' i (nb - i).toNat := dpS_c _ (fun t t0 t1 => (ih (nb - t).toNat (by omega) t (by omega) (by omega)).1)
      rw [e] at a1 a2
      exact ⟨by rw [a1, b1], fun _ => by rw [a2, b2]⟩
theorem DPp_b {M : Int → Int} (hW : ∀ t, 0 ≤ W t ∧ W t ≤ 400000) (hf : -7 ≤ fi ∧ fi ≤ 7) (hw : 0 ≤ wd ∧ wd ≤ 2000) {b : Int} (h : DPp W fi wd nb L M b) : ∀ (d : Nat) (i : Int), b ≤ i → i + d = nb → (0 ≤ L i ∧ L i ≤ 1000000000000 * (nb - i)) ∧ (i < nb → (1 ≤ M i ∧ M i ≤ nb - i) ∧ L i = prV wd (lwX W fi i (M i).toNat) nb (i + M i) + L (i + M i) ∧ (M i = 1 ∨ lwX W fi i (M i).toNat ≤ wd)) := by
  intro d
  induction d using Nat.strongRecOn with
  | ind d ih =>
    intro i i0 hd
    by_cases z : i = nb
    · rw [z, h.1]
      exact ⟨by omega, fun k => by omega⟩
    · obtain ⟨a1, a2⟩ := h.2 i i0 (by omega)
      have hb := dpS_b (W := W) (L := L) (nb := nb) (a := i) hW hf hw (fun t t0 t1 => (ih (nb - t).toNat (by omega) t (by omega) (by omega)).1) (nb - i).toNat (by omega)
      rcases hb with ⟨q, _⟩ | ⟨q1, q2, q3, q4, q5, q6⟩
      · omega
      · rw [← a2] at q1 q2 q5 q6
        rw [← a1] at q3 q4 q5
        exact ⟨⟨q3, q4⟩, fun _ => ⟨⟨q1, by omega⟩, q5, q6⟩⟩
end
-- class
section
variable {K : zK} {V p l : Int}
theorem C_leadX {F : zF} {B : zB} {a : Int} (h : PQl K V p F B) (ha : r32 a) : f_Layout_lead K p a F B = some (ldV (F 6 p 2) a, F, B) := by
  obtain ⟨hp, _, h2, _⟩ := h
  unfold f_Layout_lead f_Layout_lead_22 ldV
  rw [if_pos hp, if_pos (by unfold r32; omega), if_pos ha]
  by_cases c : a = 0
  · rw [if_pos c, if_pos c]
  · rw [if_neg c, if_neg c]
theorem C_priceX {F : zF} {B : zB} {a b nb e : Int} (ha : 0 ≤ a ∧ a ≤ 2000) (hb : 0 ≤ b ∧ b ≤ 100000000) : f_Layout_price K a b (if e = nb then 1 else 0) F B = some (prV a b nb e, F, B) := by
  unfold f_Layout_price f_Layout_price_34 prV
  rw [if_pos (by unfold r64; omega), if_pos (by unfold r64; omega)]
  by_cases c : b ≤ a
  · rw [if_pos (zcmp_m.mpr c), if_pos c]
    by_cases c' : e = nb
    · rw [if_pos c', if_pos c', if_pos (by decide), if_neg (by decide)]
    · rw [if_neg c', if_neg c', if_pos (by decide), if_pos rfl]
  · rw [if_neg (fun z => c (zcmp_m.mp z)), if_neg c]
theorem C_ch41X {F : zF} {nb a wd fi : Int} {W L : Int → Int} {rec : Int → Int → Int → Int → Int → zF → zB → zO} (hl : 0 ≤ l ∧ l < K.2 2) (hn : 0 ≤ nb ∧ nb ≤ 100) (ha : 0 ≤ a ∧ a < nb) (hw : 0 ≤ wd ∧ wd ≤ 2000) (hW : ∀ t, 0 ≤ W t ∧ W t ≤ 400000) (hf : -7 ≤ fi ∧ fi ≤ 7) (hL : ∀ i, a < i → i ≤ nb → 0 ≤ L i ∧ L i ≤ 1000000000000 * (nb - i)) : ∀ (d N k : Nat) (B : zB), a + k + d = nb → d < N → (∀ t, 0 ≤ t → t < nb → B 2 l 6 t = W t) → (∀ i, a < i → i ≤ nb → B 2 l 10 i = L i) → B 2 l 10 a = (dpS W fi wd nb L a k).1 → (1 ≤ k → B 2 l 11 a = a + (dpS W fi wd nb L a k).2) → ∃ B', f_Layout_choose_41 rec K N (a + k + 1) (lwX W fi a k) a l p nb wd F B = f_Layout_choose_145 rec K a l p nb wd F B' ∧ (∀ c y k x, ¬ (c = 2 ∧ y = l ∧ (k = 10 ∨ k = 11) ∧ x = a) → B' c y k x = B c y k x) ∧ B' 2 l 10 a = (dpS W fi wd nb L a (k + d)).1 ∧ (1 ≤ k + d → B' 2 l 11 a = a + (dpS W fi wd nb L a (k + d)).2) := by
  intro d
  induction d with
  | zero =>
    intro N k B hk hN h6 h10 e10 e11
    obtain ⟨n, rfl⟩ : ∃ n, N = n + 1 := ⟨N - 1, by omega⟩
    rw [f_Layout_choose_41, if_pos (by unfold r32; omega), if_pos (by unfold r32; omega), if_pos (by omega)]
    exact ⟨B, rfl, fun _ _ _ _ _ => rfl, e10, e11⟩
  | succ d ih =>
    intro N k B hk hN h6 h10 e10 e11
    obtain ⟨n, rfl⟩ : ∃ n, N = n + 1 := ⟨N - 1, by omega⟩
    have ld := ldV_b (b := a) hf
    have sb := smR_b (f := W) (m := 400000) (k + 1) a hW
    have lws : lwX W fi a k + B 2 l 6 (a + k + 1 - 1) = lwX W fi a (k + 1) := by
      rw [show a + (k : Int) + 1 - 1 = a + k by omega, h6 (a + k) (by omega) (by omega), lwX_s]
    have xb : 0 ≤ lwX W fi a (k + 1) ∧ lwX W fi a (k + 1) ≤ 50000000 := by
      unfold lwX
      omega
    rw [f_Layout_choose_41, if_pos (by unfold r32; omega), if_pos (by unfold r32; omega), if_neg (by omega), if_pos hl, if_pos (by omega), lws, if_pos (by unfold r32; omega), if_pos (by unfold r32; omega)]
    have db := dpS_b (W := W) (L := L) (nb := nb) (a := a) hW hf hw hL k (by omega)
    have ek : a + (k : Int) + 1 = a + ((k + 1 : Nat) : Int) := by omega
    -- this way is tried
    have o79 : ¬ (1 ≤ k ∧ wd < lwX W fi a (k + 1)) → ∃ B', f_Layout_choose_79 rec (f_Layout_choose_41 rec K n) K (lwX W fi a (k + 1)) (a + k + 1) a l p nb wd F B = f_Layout_choose_145 rec K a l p nb wd F B' ∧ (∀ c y k x, ¬ (c = 2 ∧ y = l ∧ (k = 10 ∨ k = 11) ∧ x = a) → B' c y k x = B c y k x) ∧ B' 2 l 10 a = (dpS W fi wd nb L a (k + (d + 1))).1 ∧ (1 ≤ k + (d + 1) → B' 2 l 11 a = a + (dpS W fi wd nb L a (k + (d + 1))).2) := fun nc => by
      have o95 : ∃ B', f_Layout_choose_95 rec (f_Layout_choose_41 rec K n) K (lwX W fi a (k + 1)) (a + k + 1) a l p nb wd wd (lwX W fi a (k + 1)) (if a + (k : Int) + 1 = nb then 1 else 0) F B = f_Layout_choose_145 rec K a l p nb wd F B' ∧ (∀ c y k x, ¬ (c = 2 ∧ y = l ∧ (k = 10 ∨ k = 11) ∧ x = a) → B' c y k x = B c y k x) ∧ B' 2 l 10 a = (dpS W fi wd nb L a (k + (d + 1))).1 ∧ (1 ≤ k + (d + 1) → B' 2 l 11 a = a + (dpS W fi wd nb L a (k + (d + 1))).2) := by
        unfold f_Layout_choose_95
        have l1 := hL (a + (k : Int) + 1) (by omega) (by omega)
        have xs : lwX W fi a (k + 1) ≤ 400100 := by
          by_cases z : k = 0
          · subst z
            unfold lwX at *
            omega
          · omega
        have pb := prV_b (nb := nb) (e := a + (k : Int) + 1) hw xb.1 xs
        have a10 : -1 < B 2 l 10 a ∧ B 2 l 10 a ≤ 1152921504606846976 := by
          rw [e10]
          rcases db with ⟨_, q⟩ | ⟨_, _, q3, q4, _⟩
          · rw [q]; exact ⟨by decide, by decide⟩
          · omega
        rw [C_priceX hw ⟨xb.1, by omega⟩, zb_s, if_pos hl, if_pos (by omega), if_pos (by omega), h10 (a + k + 1) (by omega) (by omega), if_pos (by unfold r64; omega), if_pos (by unfold r64; omega)]
        have dk : dpS W fi wd nb L a (k + 1) = if (dpS W fi wd nb L a k).2 = 0 ∨ prV wd (lwX W fi a (k + 1)) nb (a + (k + 1 : Nat)) + L (a + (k + 1 : Nat)) ≤ (dpS W fi wd nb L a k).1 then (prV wd (lwX W fi a (k + 1)) nb (a + (k + 1 : Nat)) + L (a + (k + 1 : Nat)), ((k + 1 : Nat) : Int)) else dpS W fi wd nb L a k := by
          rw [dpS, if_neg nc]
        rw [← ek] at dk
        have nx : ∀ B1 : zB, (∀ c y k x, ¬ (c = 2 ∧ y = l ∧ (k = 10 ∨ k = 11) ∧ x = a) → B1 c y k x = B c y k x) → B1 2 l 10 a = (dpS W fi wd nb L a (k + 1)).1 → B1 2 l 11 a = a + (dpS W fi wd nb L a (k + 1)).2 → ∃ B', f_Layout_choose_139 rec (f_Layout_choose_41 rec K n) K (lwX W fi a (k + 1)) (a + k + 1) a l p nb wd F B1 = f_Layout_choose_145 rec K a l p nb wd F B' ∧ (∀ c y k x, ¬ (c = 2 ∧ y = l ∧ (k = 10 ∨ k = 11) ∧ x = a) → B' c y k x = B c y k x) ∧ B' 2 l 10 a = (dpS W fi wd nb L a (k + (d + 1))).1 ∧ (1 ≤ k + (d + 1) → B' 2 l 11 a = a + (dpS W fi wd nb L a (k + (d + 1))).2) := fun B1 f1 g1 g2 => by
          obtain ⟨B', q1, q2, q3, q4⟩ := ih n (k + 1) B1 (by omega) (by omega) (fun t t0 t1 => by rw [f1 2 l 6 t (by omega)]; exact h6 t t0 t1) (fun i i0 i1 => by rw [f1 2 l 10 i (by omega)]; exact h10 i i0 i1) g1 (fun _ => g2)
          rw [f_Layout_choose_139]
          rw [show a + ((k + 1 : Nat) : Int) + 1 = a + (k : Int) + 1 + 1 by omega] at q1
          rw [show k + 1 + d = k + (d + 1) by omega] at q3 q4
          exact ⟨B', q1, fun c y k x nn => by rw [q2 c y k x nn, f1 c y k x nn], q3, q4⟩
        by_cases c1 : prV wd (lwX W fi a (k + 1)) nb (a + (k : Int) + 1) + L (a + (k : Int) + 1) ≤ B 2 l 10 a
        · have cz : (dpS W fi wd nb L a k).2 = 0 ∨ prV wd (lwX W fi a (k + 1)) nb (a + (k : Int) + 1) + L (a + (k : Int) + 1) ≤ (dpS W fi wd nb L a k).1 := Or.inr (by rw [← e10]; exact c1)
          rw [if_pos cz] at dk
          rw [if_neg (show ¬ 0 < zcmp _ _ from fun z => by have := zcmp_m.mpr c1; omega)]
          refine nx _ (fun c y k x nn => by rw [zup4_v, if_neg (by omega), zup4_v, if_neg (by omega)]) ?_ ?_
          · rw [up_o (by decide), up_s, dk]
          · rw [up_s, dk]
            show a + (k : Int) + 1 = a + ((k + 1 : Nat) : Int)
            exact ek
        · rw [if_pos (show 0 < zcmp _ _ by
            by_cases z : 0 < zcmp (prV wd (lwX W fi a (k + 1)) nb (a + (k : Int) + 1) + L (a + (k : Int) + 1)) (B 2 l 10 a)
            · exact z
            · exact absurd (zcmp_m.mp (by omega)) c1)]
          rcases db with ⟨_, q⟩ | ⟨q1, q2, q3, q4, q5⟩
          · exfalso
            rw [e10, q] at c1
            apply c1
            show _ ≤ (1152921504606846976 : Int)
            omega
          · have cz : ¬ ((dpS W fi wd nb L a k).2 = 0 ∨ prV wd (lwX W fi a (k + 1)) nb (a + (k : Int) + 1) + L (a + (k : Int) + 1) ≤ (dpS W fi wd nb L a k).1) := by
              rw [← e10]
              omega
            rw [if_neg cz] at dk
            exact nx B (fun _ _ _ _ _ => rfl) (by rw [dk]; exact e10) (by rw [dk]; exact e11 (by omega))
      unfold f_Layout_choose_79
      rw [if_pos (by unfold r32; omega), if_pos (by unfold r32; omega), if_pos (by unfold r32; omega), if_pos (by unfold r32; omega)]
      by_cases c1 : a + (k : Int) + 1 = nb
      · rw [if_pos c1] at o95 ⊢; exact o95
      · rw [if_neg c1] at o95 ⊢; exact o95
    by_cases c1 : lwX W fi a (k + 1) ≤ wd
    · rw [if_pos c1]; exact o79 (by omega)
    · rw [if_neg c1, if_pos (by unfold r32; omega)]
      by_cases c2 : a + (k : Int) + 1 ≤ a + 1
      · rw [if_pos c2]; exact o79 (by omega)
      · rw [if_neg c2]
        -- and all that are longer are too wide
        have st : ∀ j : Nat, dpS W fi wd nb L a (k + j) = dpS W fi wd nb L a k := by
          intro j
          induction j with
          | zero => rfl
          | succ j ihj =>
            have wide : wd < lwX W fi a (k + j + 1) := by
              have e : ∀ m : Nat, lwX W fi a (k + 1) ≤ lwX W fi a (k + 1 + m) := by
                intro m
                induction m with
                | zero => exact Int.le_refl _
                | succ m ihm =>
                  have := hW (a + ((k + 1 + m : Nat) : Int))
                  rw [show k + 1 + (m + 1) = (k + 1 + m) + 1 by omega, lwX_s (n := k + 1 + m)]
                  omega
              have := e j
              rw [show k + 1 + j = k + j + 1 by omega] at this
              omega
            rw [show k + (j + 1) = (k + j) + 1 by omega, dpS, if_pos ⟨by omega, wide⟩]
            exact ihj
        rw [st (d + 1)]
        exact ⟨B, rfl, fun _ _ _ _ _ => rfl, e10, fun _ => e11 (by omega)⟩
theorem C_ch12X {F : zF} {nb wd : Int} {W : Int → Int} (hK : 60000 ≤ K.1) (hl : 0 ≤ l ∧ l < K.2 2) (hn : 0 ≤ nb ∧ nb ≤ 100) (hw : 0 ≤ wd ∧ wd ≤ 2000) (hW : ∀ t, 0 ≤ W t ∧ W t ≤ 400000) : ∀ (d N : Nat) (a : Int) (B : zB), a + 1 = d → a < nb → d < N → PQl K V p F B → (∀ t, 0 ≤ t → t < nb → B 2 l 6 t = W t) → DPp W (F 6 p 2) wd nb (fun i => B 2 l 10 i) (fun i => B 2 l 11 i - i) (a + 1) → ∃ B', f_Layout_choose_12 K N a l p nb wd F B = some (0, F, B') ∧ (∀ c y k x, ¬ (c = 2 ∧ y = l ∧ (k = 10 ∨ k = 11)) → B' c y k x = B c y k x) ∧ DPp W (F 6 p 2) wd nb (fun i => B' 2 l 10 i) (fun i => B' 2 l 11 i - i) 0 := by
  intro d
  induction d with
  | zero =>
    intro N a B ha a1 hN h h6 hD
    obtain ⟨n, rfl⟩ : ∃ n, N = n + 1 := ⟨N - 1, by omega⟩
    rw [f_Layout_choose_12, if_pos (by unfold r32; omega), if_pos (by omega)]
    rw [show a + 1 = 0 by omega] at hD
    exact ⟨B, rfl, fun _ _ _ _ _ => rfl, hD⟩
  | succ d ih =>
    intro N a B ha a1 hN h h6 hD
    obtain ⟨n, rfl⟩ : ∃ n, N = n + 1 := ⟨N - 1, by omega⟩
    have hf := h.2.2.1
    rw [f_Layout_choose_12, if_pos (by unfold r32; omega), if_neg (by omega), C_leadX h (by unfold r32; omega), zb_s, if_pos hl, if_pos (by omega)]
    have un : ∀ c y k x, ¬ (c = 2 ∧ y = l ∧ k = 10 ∧ x = a) → (zup4 B 2 l 10 a 1152921504606846976) c y k x = B c y k x := fun c y k x nn => by rw [zup4_v, if_neg nn]
    obtain ⟨B1, g1, g2, g3, g4⟩ := C_ch41X (K := K) (l := l) (p := p) (F := F) (nb := nb) (a := a) (wd := wd) (fi := F 6 p 2) (W := W) (L := fun i => B 2 l 10 i) (rec := f_Layout_choose_12 K n) hl hn (by omega) hw hW hf (fun i i0 i1 => (DPp_b hW hf hw hD (nb - i).toNat i (by omega) (by omega)).1) (nb - a).toNat K.1 0 (zup4 B 2 l 10 a 1152921504606846976) (by omega) (by omega) (fun t t0 t1 => by rw [un 2 l 6 t (by omega)]; exact h6 t t0 t1) (fun i i0 i1 => un 2 l 10 i (by omega)) (by rw [up_s, dpS]) (fun z => by omega)
    rw [show a + ((0 : Nat) : Int) + 1 = a + 1 by omega, show lwX W (F 6 p 2) a 0 = ldV (F 6 p 2) a by unfold lwX; rw [smR]; omega] at g1
    rw [Nat.zero_add] at g3 g4
    rw [g1, f_Layout_choose_145]
    have fr : ∀ c y k x, ¬ (c = 2 ∧ y = l ∧ (k = 10 ∨ k = 11) ∧ x = a) → B1 c y k x = B c y k x := fun c y k x nn => by rw [g2 c y k x nn, un c y k x (by omega)]
    have e10 : ∀ i, ¬ i = a → B1 2 l 10 i = B 2 l 10 i := fun i ni => fr 2 l 10 i (by omega)
    have dc : ∀ i, a ≤ i → i < nb → dpS W (F 6 p 2) wd nb (fun i => B1 2 l 10 i) i (nb - i).toNat = dpS W (F 6 p 2) wd nb (fun i => B 2 l 10 i) i (nb - i).toNat := fun i i0 i1 => dpS_c _ (fun t t0 t1 => e10 t (by omega))
    have hD1 : DPp W (F 6 p 2) wd nb (fun i => B1 2 l 10 i) (fun i => B1 2 l 11 i - i) (a - 1 + 1) := by
      refine ⟨by show B1 2 l 10 nb = 0; rw [e10 nb (by omega)]; exact hD.1, fun i i0 i1 => ?_⟩
      rw [dc i (by omega) i1]
      by_cases z : i = a
      · rw [z]
        refine ⟨g3, ?_⟩
        show B1 2 l 11 a - a = _
        rw [g4 (by omega)]
        omega
      · obtain ⟨k1, k2⟩ := hD.2 i (by omega) i1
        refine ⟨by show B1 2 l 10 i = _; rw [e10 i z]; exact k1, ?_⟩
        show B1 2 l 11 i - i = _
        rw [fr 2 l 11 i (by omega)]
        exact k2
    obtain ⟨B2, k1, k2, k3⟩ := ih n (a - 1) B1 (by omega) (by omega) (by omega) (PQ_f (l := l) h lyF_r (fun c y k x nn => fr c y k x (by omega))) (fun t t0 t1 => by rw [fr 2 l 6 t (by omega)]; exact h6 t t0 t1) hD1
    exact ⟨B2, k1, fun c y k x nn => by rw [k2 c y k x nn, fr c y k x (by omega)], k3⟩
end
-- reference
section
variable {K : Nat} {w : Int}
theorem L_ahdX {F : zF} {B : zB} {a : Int} (w0 : 0 ≤ w ∧ w < 3) (h2 : -7 ≤ F 13 w 2 ∧ F 13 w 2 ≤ 7) (ha : r32 a) : f_M_ahead K w a F B = some (ldV (F 13 w 2) a, F, B) := by
  unfold f_M_ahead f_M_ahead_22 f_M_ahead_34 ldV zabs
  rw [if_pos w0, if_pos (by unfold r32; omega)]
  by_cases c : 0 ≤ F 13 w 2
  · rw [if_pos c, if_pos c, if_pos ha]
    by_cases c' : a = 0
    · rw [if_pos c', if_pos c']
    · rw [if_neg c', if_neg c']
  · rw [if_neg c, if_neg c, if_pos ha]
    by_cases c' : a = 0
    · rw [if_pos c', if_pos c']
    · rw [if_neg c', if_neg c']
theorem L_lwX {F : zF} {B : zB} {a : Int} {n : Nat} {W : Int → Int} (hK : 200 ≤ K) (w0 : 0 ≤ w ∧ w < 3) (h2 : -7 ≤ F 13 w 2 ∧ F 13 w 2 ≤ 7) (h46 : ∀ t, 0 ≤ t → t < a + n → B 13 w 46 t = W t) (ha : 0 ≤ a) (hab : a + n ≤ 100) : f_M_lineWide K w a n F B = some (lwX W (F 13 w 2) a n, F, B) := by
  have go : ∀ (d N : Nat) (j v : Int), j + d = a + n → 0 ≤ j → d < N → f_M_lineWide_9 K N j v w a n F B = some (v + smR W j d, F, B) := by
    intro d
    induction d with
    | zero =>
      intro N j v hj j0 hN
      obtain ⟨N, rfl⟩ : ∃ m, N = m + 1 := ⟨N - 1, by omega⟩
      rw [f_M_lineWide_9, if_pos (by unfold r32; omega), if_pos (by unfold r32; omega), if_pos (by omega), smR, Int.add_zero]
    | succ d ih =>
      intro N j v hj j0 hN
      obtain ⟨N, rfl⟩ : ∃ m, N = m + 1 := ⟨N - 1, by omega⟩
      rw [f_M_lineWide_9, if_pos (by unfold r32; omega), if_pos (by unfold r32; omega), if_neg (by omega), if_pos w0, if_pos (by omega), ih N (j + 1) _ (by omega) (by omega) (by omega), h46 j j0 (by omega), smR, Int.add_assoc]
  unfold f_M_lineWide
  rw [L_ahdX w0 h2 (by unfold r32; omega), zb_s, go n K a _ rfl ha (by omega)]
  rfl
theorem L_prcX {F : zF} {B : zB} {a wd : Int} {n : Nat} {W : Int → Int} (hK : 200 ≤ K) (w0 : 0 ≤ w ∧ w < 3) (h2 : -7 ≤ F 13 w 2 ∧ F 13 w 2 ≤ 7) (h7 : 0 ≤ F 13 w 7 ∧ F 13 w 7 ≤ 100) (h46 : ∀ t, 0 ≤ t → t < a + n → B 13 w 46 t = W t) (hW : ∀ t, 0 ≤ W t ∧ W t ≤ 400000) (ha : 0 ≤ a) (hab : a + n ≤ 100) (hw : 0 ≤ wd ∧ wd ≤ 2000) : f_M_price K w a n wd F B = some (if ¬ n ≤ 1 ∧ wd < lwX W (F 13 w 2) a n then -1 else prV wd (lwX W (F 13 w 2) a n) (F 13 w 7) (a + n), F, B) := by
  have ld := ldV_b (b := a) h2
  have sb := smR_b (f := W) (m := 400000) n a hW
  have xb : 0 ≤ lwX W (F 13 w 2) a n ∧ lwX W (F 13 w 2) a n ≤ 50000000 := by
    unfold lwX
    omega
  unfold f_M_price f_M_price_43 f_M_price_69
  rw [L_lwX hK w0 h2 h46 ha hab, zb_s, if_pos (by unfold r32; omega), if_pos (by unfold r32; omega), if_pos (by unfold r64; omega), if_pos (by unfold r64; omega)]
  generalize lwX W (F 13 w 2) a n = x at *
  unfold prV
  by_cases c : x ≤ wd
  · rw [if_pos (zcmp_m.mpr c), if_pos w0, if_pos (by unfold r32; omega), if_pos (by unfold r32; omega), if_neg (show ¬ (¬ n ≤ 1 ∧ wd < x) by omega), if_pos c]
    by_cases c' : a + (n : Int) = F 13 w 7
    · rw [if_pos c', if_pos c']
    · rw [if_neg c', if_neg c']
  · rw [if_neg (fun z => c (zcmp_m.mp z)), if_pos (by unfold r32; omega)]
    by_cases c' : (n : Int) ≤ 1
    · rw [if_pos c', if_neg (show ¬ (¬ n ≤ 1 ∧ wd < x) by omega), if_neg c]
    · rw [if_neg c', if_pos (show ¬ n ≤ 1 ∧ wd < x by omega)]
theorem L_l60X {F : zF} {nb wd a : Int} {W L : Int → Int} {rec : Int → Int → Int → zF → zB → zO} (hK : 200 ≤ K) (w0 : 0 ≤ w ∧ w < 3) (h2 : -7 ≤ F 13 w 2 ∧ F 13 w 2 ≤ 7) (h7 : F 13 w 7 = nb) (n0 : 0 ≤ nb ∧ nb ≤ 100) (ha : 0 ≤ a ∧ a < nb) (hw : 0 ≤ wd ∧ wd ≤ 2000) (hW : ∀ t, 0 ≤ W t ∧ W t ≤ 400000) (hL : ∀ i, a < i → i ≤ nb → 0 ≤ L i ∧ L i ≤ 1000000000000 * (nb - i)) : ∀ (d N k : Nat) (B : zB), a + k + d = nb → d < N → (∀ t, 0 ≤ t → t < nb → B 13 w 46 t = W t) → (∀ i, a < i → i ≤ nb → B 14 0 59 i = L i) → B 14 0 60 a = (dpS W (F 13 w 2) wd nb L a k).2 → (1 ≤ k → B 14 0 59 a = (dpS W (F 13 w 2) wd nb L a k).1) → ∃ B', f_M_lines_60 rec K N (k + 1) a w wd F B = rec (a - 1) w wd F B' ∧ (∀ c y k x, ¬ (c = 14 ∧ y = 0 ∧ (k = 59 ∨ k = 60) ∧ x = a) → B' c y k x = B c y k x) ∧ B' 14 0 60 a = (dpS W (F 13 w 2) wd nb L a (k + d)).2 ∧ (1 ≤ k + d → B' 14 0 59 a = (dpS W (F 13 w 2) wd nb L a (k + d)).1) := by
  intro d
  induction d with
  | zero =>
    intro N k B hk hN h46 h59 e60 e59
    obtain ⟨n, rfl⟩ : ∃ n, N = n + 1 := ⟨N - 1, by omega⟩
    rw [f_M_lines_60, if_pos w0, if_pos (by unfold r32; omega), h7, if_pos (by unfold r32; omega), if_pos (by omega)]
    exact ⟨B, rfl, fun _ _ _ _ _ => rfl, e60, e59⟩
  | succ d ih =>
    intro N k B hk hN h46 h59 e60 e59
    obtain ⟨n, rfl⟩ : ∃ n, N = n + 1 := ⟨N - 1, by omega⟩
    have db := dpS_b (W := W) (L := L) (nb := nb) (a := a) hW h2 hw hL k (by omega)
    have ek : (k : Int) + 1 = ((k + 1 : Nat) : Int) := by omega
    have pE := L_prcX (K := K) (F := F) (B := B) (a := a) (n := k + 1) (W := W) hK w0 h2 (by omega) (fun t t0 t1 => h46 t t0 (by omega)) hW ha.1 (by omega) hw
    rw [← ek, h7] at pE
    have dk := dpS.eq_2 W (F 13 w 2) wd nb L a k
    have l1 := hL (a + ((k : Int) + 1)) (by omega) (by omega)
    have ld := ldV_b (b := a) h2
    have sb := smR_b (f := W) (m := 400000) (k + 1) a hW
    have b60 : 0 ≤ B 14 0 60 a ∧ B 14 0 60 a ≤ 100 := by
      rw [e60]
      rcases db with ⟨_, q⟩ | ⟨q1, q2, _⟩
      · rw [q]; exact ⟨by decide, by decide⟩
      · omega
    rw [f_M_lines_60, if_pos w0, if_pos (by unfold r32; omega), h7, if_pos (by unfold r32; omega), if_neg (by omega), pE, zb_s]
    have nx : ∀ B1 : zB, (∀ c y k x, ¬ (c = 14 ∧ y = 0 ∧ (k = 59 ∨ k = 60) ∧ x = a) → B1 c y k x = B c y k x) → B1 14 0 60 a = (dpS W (F 13 w 2) wd nb L a (k + 1)).2 → B1 14 0 59 a = (dpS W (F 13 w 2) wd nb L a (k + 1)).1 → ∃ B', f_M_lines_152 rec (f_M_lines_60 rec K n) K (k + 1) a w wd F B1 = rec (a - 1) w wd F B' ∧ (∀ c y k x, ¬ (c = 14 ∧ y = 0 ∧ (k = 59 ∨ k = 60) ∧ x = a) → B' c y k x = B c y k x) ∧ B' 14 0 60 a = (dpS W (F 13 w 2) wd nb L a (k + (d + 1))).2 ∧ (1 ≤ k + (d + 1) → B' 14 0 59 a = (dpS W (F 13 w 2) wd nb L a (k + (d + 1))).1) := fun B1 f1 g1 g2 => by
      obtain ⟨B', q1, q2, q3, q4⟩ := ih n (k + 1) B1 (by omega) (by omega) (fun t t0 t1 => by rw [f1 13 w 46 t (by omega)]; exact h46 t t0 t1) (fun i i0 i1 => by rw [f1 14 0 59 i (by omega)]; exact h59 i i0 i1) g1 (fun _ => g2)
      rw [f_M_lines_152]
      rw [← ek] at q1
      rw [show k + 1 + d = k + (d + 1) by omega] at q3 q4
      exact ⟨B', q1, fun c y k x nn => by rw [q2 c y k x nn, f1 c y k x nn], q3, q4⟩
    by_cases c : 1 ≤ k ∧ wd < lwX W (F 13 w 2) a (k + 1)
    · rw [if_pos (show ¬ k + 1 ≤ 1 ∧ wd < lwX W (F 13 w 2) a (k + 1) by omega), if_pos (by decide), if_neg (by decide)]
      rw [if_pos c] at dk
      exact nx B (fun _ _ _ _ _ => rfl) (by rw [dk]; exact e60) (by rw [dk]; exact e59 c.1)
    · have xs : 0 ≤ lwX W (F 13 w 2) a (k + 1) ∧ lwX W (F 13 w 2) a (k + 1) ≤ 400100 := by
        by_cases z : k = 0
        · subst z
          unfold lwX at *
          omega
        · have : 0 ≤ lwX W (F 13 w 2) a (k + 1) := by unfold lwX; omega
          omega
      have pb := prV_b (nb := nb) (e := a + ((k : Int) + 1)) hw xs.1 xs.2
      rw [if_neg (show ¬ (¬ k + 1 ≤ 1 ∧ wd < lwX W (F 13 w 2) a (k + 1)) by omega), if_pos (by unfold r64; omega)]
      rw [if_neg c, ← ek] at dk
      generalize hpr : prV wd (lwX W (F 13 w 2) a (k + 1)) nb (a + ((k : Int) + 1)) = pr at *
      have z0 : 0 ≤ zcmp pr 0 := by
        by_cases z : 0 ≤ zcmp pr 0
        · exact z
        · have := zcmp_lt.mp (show zcmp pr 0 < 0 by omega)
          omega
      have e59' := h59 (a + ((k : Int) + 1)) (by omega) (by omega)
      have take : (dpS W (F 13 w 2) wd nb L a (k + 1) = (pr + L (a + ((k : Int) + 1)), (k : Int) + 1)) → ∃ B', f_M_lines_134 rec (f_M_lines_60 rec K n) K (pr + L (a + ((k : Int) + 1))) (k + 1) a w wd F B = rec (a - 1) w wd F B' ∧ (∀ c y k x, ¬ (c = 14 ∧ y = 0 ∧ (k = 59 ∨ k = 60) ∧ x = a) → B' c y k x = B c y k x) ∧ B' 14 0 60 a = (dpS W (F 13 w 2) wd nb L a (k + (d + 1))).2 ∧ (1 ≤ k + (d + 1) → B' 14 0 59 a = (dpS W (F 13 w 2) wd nb L a (k + (d + 1))).1) := fun dk' => by
        unfold f_M_lines_134
        rw [if_pos (by omega)]
        refine nx _ (fun c y k x nn => by rw [zup4_v, if_neg (by omega), zup4_v, if_neg (by omega)]) ?_ ?_
        · rw [zup4_v, if_pos ⟨rfl, rfl, rfl, rfl⟩, dk']
        · rw [zup4_v, if_neg (by omega), zup4_v, if_pos ⟨rfl, rfl, rfl, rfl⟩, dk']
      rw [if_pos z0, if_pos (by omega), if_pos (by omega), if_pos (show r32 (B 14 0 60 a) by unfold r32; omega), e59']
      by_cases c2 : B 14 0 60 a ≤ 0
      · rw [if_pos c2]
        refine take ?_
        rw [dk, if_pos (Or.inl (by rw [← e60]; omega))]
      · have k1 : 1 ≤ k := by
          rcases db with ⟨_, q⟩ | ⟨q1, q2, _⟩
          · rw [e60, q] at c2
            exact absurd (Int.le_refl 0) c2
          · omega
        have v59 : 0 ≤ B 14 0 59 a ∧ B 14 0 59 a ≤ 1000000000000000 := by
          rw [e59 k1]
          rcases db with ⟨q, _⟩ | ⟨_, _, q3, q4, _⟩
          · omega
          · omega
        rw [if_neg c2, if_pos (by unfold r64; omega), if_pos (by unfold r64; omega)]
        by_cases c3 : pr + L (a + ((k : Int) + 1)) ≤ B 14 0 59 a
        · rw [if_pos (zcmp_m.mpr c3)]
          refine take ?_
          rw [dk, if_pos (Or.inr (by rw [← e59 k1]; exact c3))]
        · rw [if_neg (fun z => c3 (zcmp_m.mp z))]
          have dk' : dpS W (F 13 w 2) wd nb L a (k + 1) = dpS W (F 13 w 2) wd nb L a k := by
            rw [dk, if_neg (by rw [← e59 k1, ← e60]; omega)]
          exact nx B (fun _ _ _ _ _ => rfl) (by rw [dk']; exact e60) (by rw [dk']; exact e59 k1)
theorem L_l44X {F : zF} {nb wd : Int} {W : Int → Int} (hK : 200 ≤ K) (w0 : 0 ≤ w ∧ w < 3) (h2 : -7 ≤ F 13 w 2 ∧ F 13 w 2 ≤ 7) (h7 : F 13 w 7 = nb) (n0 : 0 ≤ nb ∧ nb ≤ 100) (hw : 0 ≤ wd ∧ wd ≤ 2000) (hW : ∀ t, 0 ≤ W t ∧ W t ≤ 400000) : ∀ (d N : Nat) (a : Int) (B : zB), a + 1 = d → a < nb → d < N → (∀ t, 0 ≤ t → t < nb → B 13 w 46 t = W t) → DPp W (F 13 w 2) wd nb (fun i => B 14 0 59 i) (fun i => B 14 0 60 i) (a + 1) → ∃ B', f_M_lines_44 K N a w wd F B = f_M_lines_177 K K 0 w wd (zup3 (zup3 F 13 w 48 0) 13 w 47 wd) B' ∧ lcB B B' ∧ DPp W (F 13 w 2) wd nb (fun i => B' 14 0 59 i) (fun i => B' 14 0 60 i) 0 := by
  intro d
  induction d with
  | zero =>
    intro N a B ha a1 hN h46 hD
    obtain ⟨n, rfl⟩ : ∃ n, N = n + 1 := ⟨N - 1, by omega⟩
    rw [f_M_lines_44, if_pos (by unfold r32; omega), if_pos (by omega), if_pos w0]
    rw [show a + 1 = 0 by omega] at hD
    exact ⟨B, rfl, fun _ _ _ _ _ => rfl, hD⟩
  | succ d ih =>
    intro N a B ha a1 hN h46 hD
    obtain ⟨n, rfl⟩ : ∃ n, N = n + 1 := ⟨N - 1, by omega⟩
    rw [f_M_lines_44, if_pos (by unfold r32; omega), if_neg (by omega), if_pos (by omega)]
    have un : ∀ c y k x, ¬ (c = 14 ∧ y = 0 ∧ k = 60 ∧ x = a) → (zup4 B 14 0 60 a 0) c y k x = B c y k x := fun c y k x nn => by rw [zup4_v, if_neg nn]
    obtain ⟨B1, g1, g2, g3, g4⟩ := L_l60X (K := K) (w := w) (F := F) (nb := nb) (wd := wd) (a := a) (W := W) (L := fun i => B 14 0 59 i) (rec := f_M_lines_44 K n) hK w0 h2 h7 n0 (by omega) hw hW (fun i i0 i1 => (DPp_b hW h2 hw hD (nb - i).toNat i (by omega) (by omega)).1) (nb - a).toNat K 0 (zup4 B 14 0 60 a 0) (by omega) (by omega) (fun t t0 t1 => by rw [un 13 w 46 t (by omega)]; exact h46 t t0 t1) (fun i i0 i1 => un 14 0 59 i (by omega)) (by rw [zup4_v, if_pos ⟨rfl, rfl, rfl, rfl⟩, dpS]) (fun z => by omega)
    rw [show ((0 : Nat) : Int) + 1 = 1 by omega] at g1
    rw [Nat.zero_add] at g3 g4
    rw [g1]
    have fr : ∀ c y k x, ¬ (c = 14 ∧ y = 0 ∧ (k = 59 ∨ k = 60) ∧ x = a) → B1 c y k x = B c y k x := fun c y k x nn => by rw [g2 c y k x nn, un c y k x (by omega)]
    have dc : ∀ i, a ≤ i → i < nb → dpS W (F 13 w 2) wd nb (fun i => B1 14 0 59 i) i (nb - i).toNat = dpS W (F 13 w 2) wd nb (fun i => B 14 0 59 i) i (nb - i).toNat := fun i i0 i1 => dpS_c _ (fun t t0 t1 => fr 14 0 59 t (by omega))
    have hD1 : DPp W (F 13 w 2) wd nb (fun i => B1 14 0 59 i) (fun i => B1 14 0 60 i) (a - 1 + 1) := by
      refine ⟨by show B1 14 0 59 nb = 0; rw [fr 14 0 59 nb (by omega)]; exact hD.1, fun i i0 i1 => ?_⟩
      rw [dc i (by omega) i1]
      by_cases z : i = a
      · rw [z]
        exact ⟨g4 (by omega), g3⟩
      · obtain ⟨k1, k2⟩ := hD.2 i (by omega) i1
        exact ⟨by show B1 14 0 59 i = _; rw [fr 14 0 59 i (by omega)]; exact k1, by show B1 14 0 60 i = _; rw [fr 14 0 60 i (by omega)]; exact k2⟩
    obtain ⟨B2, k1, k2, k3⟩ := ih n (a - 1) B1 (by omega) (by omega) (by omega) (fun t t0 t1 => by rw [fr 13 w 46 t (by omega)]; exact h46 t t0 t1) hD1
    exact ⟨B2, k1, fun c y k x nn => by rw [k2 c y k x nn, fr c y k x (by omega)], k3⟩
end
end
end
section
section
/-! ===== the lines told, both sides; the class's xs ===== -/
theorem smR_t {f : Int → Int} : ∀ (m n : Nat) (a : Int), smR f a (m + n) = smR f a m + smR f (a + m) n := by
  intro m
  induction m with
  | zero =>
    intro n a
    rw [Nat.zero_add, smR, show a + ((0 : Nat) : Int) = a by omega]
    omega
  | succ m ih =>
    intro n a
    rw [show m + 1 + n = (m + n) + 1 by omega, smR, smR, ih n (a + 1), show a + 1 + (m : Int) = a + ((m + 1 : Nat) : Int) by omega]
    omega
section
variable {K : zK} {V p l w : Int}
theorem C_wOX {F : zF} {B : zB} {W : Int → Int} {t : Int} (hl : 0 ≤ l ∧ l < K.2 2) (ht : t ≤ 100) (h6 : ∀ j, 0 ≤ j → j < t → B 2 l 6 j = W j) : ∀ (d N : Nat) (j v : Int), j + d = t → 0 ≤ j → d < N → f_Layout_widthOf_10 K N j v l t F B = some (v + smR W j d, F, B) := by
  intro d
  induction d with
  | zero =>
    intro N j v hj j0 hN
    obtain ⟨n, rfl⟩ : ∃ n, N = n + 1 := ⟨N - 1, by omega⟩
    rw [f_Layout_widthOf_10, if_pos (by unfold r32; omega), if_pos (by unfold r32; omega), if_pos (by omega), smR, Int.add_zero]
  | succ d ih =>
    intro N j v hj j0 hN
    obtain ⟨n, rfl⟩ : ∃ n, N = n + 1 := ⟨N - 1, by omega⟩
    rw [f_Layout_widthOf_10, if_pos (by unfold r32; omega), if_pos (by unfold r32; omega), if_neg (by omega), if_pos hl, if_pos (by omega), h6 j j0 (by omega), ih n (j + 1) _ (by omega) (by omega) (by omega), smR, Int.add_assoc]
/-- lines told so far, both sides: i of them, up to bar a -/
noncomputable def LYi (l w nb i a : Int) (B Bm : zB) : Prop := (i = 0 → a = 0) ∧ ∀ j, 0 ≤ j → j < i → B 2 l 7 j = Bm 13 w 49 j ∧ (0 ≤ Bm 13 w 49 j ∧ 1 ≤ Bm 13 w 50 j ∧ Bm 13 w 49 j + Bm 13 w 50 j ≤ nb) ∧ (if j + 1 < i then B 2 l 7 (j + 1) else a) = Bm 13 w 49 j + Bm 13 w 50 j ∧ B 2 l 8 j = Bm 13 w 51 j ∧ B 2 l 9 j = Bm 13 w 52 j ∧ (j = 0 → B 2 l 7 0 = 0) ∧ (0 ≤ Bm 13 w 51 j ∧ Bm 13 w 51 j ≤ 50000000)
noncomputable def lnX (l : Int) (B B' : zB) : Prop := ∀ c y k x, ¬ (c = 2 ∧ y = l ∧ (k = 7 ∨ k = 8 ∨ k = 9)) → B' c y k x = B c y k x
theorem P_lns {Km : Nat} {nb wd fi : Int} {W L M : Int → Int} {F0 : zF} {B0 : zB} {Fm0 : zF} {Bm0 : zB} (hK : 60000 ≤ K.1) (hKm : 200 ≤ Km) (hl : 0 ≤ l ∧ l < K.2 2) (w0 : 0 ≤ w ∧ w < 3) (h : PQl K V p F0 B0) (hfi : F0 6 p 2 = fi) (h2 : Fm0 13 w 2 = fi) (h7 : Fm0 13 w 7 = nb) (n0 : 0 ≤ nb ∧ nb ≤ 100) (hw : 0 ≤ wd ∧ wd ≤ 2000) (hW : ∀ t, 0 ≤ W t ∧ W t ≤ 400000) (c6 : ∀ t, 0 ≤ t → t < nb → B0 2 l 6 t = W t) (m46 : ∀ t, 0 ≤ t → t < nb → Bm0 13 w 46 t = W t) (hD : DPp W fi wd nb L M 0) (c10 : ∀ i, 0 ≤ i → i ≤ nb → B0 2 l 10 i = L i) (c11 : ∀ i, 0 ≤ i → i < nb → B0 2 l 11 i = i + M i) (m60 : ∀ i, 0 ≤ i → i < nb → Bm0 14 0 60 i = M i) : ∀ (d N N' : Nat) (i a : Int) (F : zF) (B : zB) (Fm : zF) (Bm : zB), nb ≤ a + d → a ≤ nb → 0 ≤ i → i ≤ a → d < N → d < N' → F 2 l 0 = i → Fm 13 w 48 = i → (∀ c y k, ¬ (c = 2 ∧ y = l ∧ k = 0) → F c y k = F0 c y k) → lnX l B0 B → (∀ c y k, ¬ (c = 13 ∧ y = w ∧ k = 48) → Fm c y k = Fm0 c y k) → (∀ c y k x, ¬ (c = 13 ∧ y = w ∧ 49 ≤ k ∧ k ≤ 52) → Bm c y k x = Bm0 c y k x) → LYi l w nb i a B Bm → ∃ n F' B' Fm' Bm', f_Layout_breakLines_34 K N i a nb l p wd F B = f_Layout_breakLines_135 K nb l p wd F' B' ∧ f_M_lines_177 Km N' a w wd Fm Bm = some (n, Fm', Bm') ∧ (F' 2 l 0 = n ∧ Fm' 13 w 48 = n ∧ 0 ≤ n ∧ n ≤ nb) ∧ (∀ c y k, ¬ (c = 2 ∧ y = l ∧ k = 0) → F' c y k = F0 c y k) ∧ lnX l B0 B' ∧ (∀ c y k, ¬ (c = 13 ∧ y = w ∧ k = 48) → Fm' c y k = Fm0 c y k) ∧ (∀ c y k x, ¬ (c = 13 ∧ y = w ∧ 49 ≤ k ∧ k ≤ 52) → Bm' c y k x = Bm0 c y k x) ∧ LYi l w nb n nb B' Bm' := by
  have hf : -7 ≤ fi ∧ fi ≤ 7 := by rw [← hfi]; exact h.2.2.1
  have stop : ∀ (N N' : Nat) (i a : Int) (F : zF) (B : zB) (Fm : zF) (Bm : zB), a = nb → 0 ≤ i → i ≤ a → F 2 l 0 = i → Fm 13 w 48 = i → (∀ c y k, ¬ (c = 2 ∧ y = l ∧ k = 0) → F c y k = F0 c y k) → lnX l B0 B → (∀ c y k, ¬ (c = 13 ∧ y = w ∧ k = 48) → Fm c y k = Fm0 c y k) → (∀ c y k x, ¬ (c = 13 ∧ y = w ∧ 49 ≤ k ∧ k ≤ 52) → Bm c y k x = Bm0 c y k x) → LYi l w nb i a B Bm → ∃ n F' B' Fm' Bm', f_Layout_breakLines_34 K (N + 1) i a nb l p wd F B = f_Layout_breakLines_135 K nb l p wd F' B' ∧ f_M_lines_177 Km (N' + 1) a w wd Fm Bm = some (n, Fm', Bm') ∧ (F' 2 l 0 = n ∧ Fm' 13 w 48 = n ∧ 0 ≤ n ∧ n ≤ nb) ∧ (∀ c y k, ¬ (c = 2 ∧ y = l ∧ k = 0) → F' c y k = F0 c y k) ∧ lnX l B0 B' ∧ (∀ c y k, ¬ (c = 13 ∧ y = w ∧ k = 48) → Fm' c y k = Fm0 c y k) ∧ (∀ c y k x, ¬ (c = 13 ∧ y = w ∧ 49 ≤ k ∧ k ≤ 52) → Bm' c y k x = Bm0 c y k x) ∧ LYi l w nb n nb B' Bm' := by
    intro N N' i a F B Fm Bm ea i0 ia e0 e48 f b g m hy
    rw [ea] at hy
    refine ⟨i, F, B, Fm, Bm, ?_, ?_, ⟨e0, e48, i0, by omega⟩, f, b, g, m, hy⟩
    · rw [f_Layout_breakLines_34, if_pos (by unfold r32; omega)]
      by_cases c : 100 ≤ i
      · rw [if_pos c]
      · rw [if_neg c, if_pos (by unfold r32; omega), if_pos (by unfold r32; omega), if_pos (by omega)]
    · rw [f_M_lines_177, if_pos w0, if_pos (by unfold r32; omega), g 13 w 7 (by omega), h7, if_pos (by unfold r32; omega), if_pos (by omega), e48]
  intro d
  induction d with
  | zero =>
    intro N N' i a F B Fm Bm hd an i0 ia hN hN' e0 e48 f b g m hy
    obtain ⟨n, rfl⟩ : ∃ n, N = n + 1 := ⟨N - 1, by omega⟩
    obtain ⟨n', rfl⟩ : ∃ n, N' = n + 1 := ⟨N' - 1, by omega⟩
    exact stop n n' i a F B Fm Bm (by omega) i0 ia e0 e48 f b g m hy
  | succ d ih =>
    intro N N' i a F B Fm Bm hd an i0 ia hN hN' e0 e48 f b g m hy
    obtain ⟨n, rfl⟩ : ∃ n, N = n + 1 := ⟨N - 1, by omega⟩
    obtain ⟨n', rfl⟩ : ∃ n, N' = n + 1 := ⟨N' - 1, by omega⟩
    by_cases ea : a = nb
    · exact stop n n' i a F B Fm Bm ea i0 ia e0 e48 f b g m hy
    obtain ⟨_, hb⟩ := DPp_b hW hf hw hD (nb - a).toNat a (by omega) (by omega)
    obtain ⟨⟨m1, m2⟩, hLa, hM1⟩ := hb (by omega)
    have e11 := c11 a (by omega) (by omega)
    have e10 := c10 a (by omega) (by omega)
    have e10' := c10 (a + M a) (by omega) (by omega)
    have e60 := m60 a (by omega) (by omega)
    generalize hz : M a = z at *
    obtain ⟨zn, hzn⟩ : ∃ zn : Nat, z = zn := ⟨z.toNat, by omega⟩
    have lwE : lwX W fi a z.toNat = lwX W fi a zn := by rw [hzn]; rfl
    have ld := ldV_b (b := a) hf
    have sb := smR_b (f := W) (m := 400000) zn a hW
    have zn1 : (zn : Int) ≤ 100 := by omega
    have xb : 0 ≤ lwX W fi a zn ∧ lwX W fi a zn ≤ 50000000 := by
      unfold lwX
      omega
    -- the class
    have fl : lyF l F0 F := fun c y k nn => f c y k (by omega)
    have bl : lyB l B0 (zup4 B 2 l 7 i a) := fun c y k x nn => by rw [zup4_v, if_neg (by omega), b c y k x (by omega)]
    have hq := PQ_f h fl bl
    have q11 : (zup4 B 2 l 7 i a) 2 l 11 a = a + z := by rw [up_o (by decide), b 2 l 11 a (by omega)]; exact e11
    have cw : f_Layout_widthOf K l p a (a + z) F (zup4 B 2 l 7 i a) = some (lwX W fi a zn, F, zup4 B 2 l 7 i a) := by
      unfold f_Layout_widthOf
      rw [C_leadX hq (by unfold r32; omega), zb_s, fl 6 p 2 (by omega), hfi, C_wOX (W := W) (t := a + z) hl (by omega) (fun j j0 j1 => by rw [up_o (by decide), b 2 l 6 j (by omega)]; exact c6 j j0 (by omega)) zn K.1 a (ldV fi a) (by omega) (by omega) (by omega)]
      rfl
    have cE : f_Layout_breakLines_34 K (n + 1) i a nb l p wd F B = f_Layout_breakLines_34 K n (i + 1) (a + z) nb l p wd (zup3 F 2 l 0 (i + 1)) (zup4 (zup4 (zup4 B 2 l 7 i a) 2 l 8 i (lwX W fi a zn)) 2 l 9 i (L a - L (a + z))) := by
      rw [f_Layout_breakLines_34, if_pos (by unfold r32; omega), if_neg (by omega), if_pos (by unfold r32; omega), if_pos (by unfold r32; omega), if_neg (by omega), if_pos hl, e0, if_pos (by omega), if_pos (by omega), q11, cw, zb_s, if_pos (by omega)]
      have r11 : (zup4 (zup4 B 2 l 7 i a) 2 l 8 i (lwX W fi a zn)) 2 l 11 a = a + z := by rw [up_o (by decide)]; exact q11
      have r10 : (zup4 (zup4 B 2 l 7 i a) 2 l 8 i (lwX W fi a zn)) 2 l 10 a = L a := by rw [up_o (by decide), up_o (by decide), b 2 l 10 a (by omega)]; exact e10
      have r10' : (zup4 (zup4 B 2 l 7 i a) 2 l 8 i (lwX W fi a zn)) 2 l 10 (a + z) = L (a + z) := by rw [up_o (by decide), up_o (by decide), b 2 l 10 (a + z) (by omega)]; exact e10'
      rw [r11, if_pos (by omega), e0, if_pos (by omega), r10, r10', up_o (by decide), r11]
    -- the reference
    have u1 : (zup4 Bm 13 w 49 i a) 14 0 60 a = zn := by rw [zup4_v, if_neg (by omega), m 14 0 60 a (by omega), e60]; exact hzn
    have u2 : (zup4 (zup4 Bm 13 w 49 i a) 13 w 50 i zn) 14 0 60 a = zn := by rw [zup4_v, if_neg (by omega)]; exact u1
    have g2 : Fm 13 w 2 = fi := by rw [g 13 w 2 (by omega)]; exact h2
    have g7 : Fm 13 w 7 = nb := by rw [g 13 w 7 (by omega)]; exact h7
    have lwm : f_M_lineWide Km w a zn Fm (zup4 (zup4 Bm 13 w 49 i a) 13 w 50 i zn) = some (lwX W fi a zn, Fm, zup4 (zup4 Bm 13 w 49 i a) 13 w 50 i zn) := by
      have := L_lwX (K := Km) (w := w) (F := Fm) (B := zup4 (zup4 Bm 13 w 49 i a) 13 w 50 i zn) (a := a) (n := zn) (W := W) hKm w0 (by rw [g2]; exact hf) (fun t t0 t1 => by rw [zup4_v, if_neg (by omega), zup4_v, if_neg (by omega), m 13 w 46 t (by omega)]; exact m46 t t0 (by omega)) (by omega) (by omega)
      rw [g2] at this
      exact this
    have u3 : (zup4 (zup4 (zup4 Bm 13 w 49 i a) 13 w 50 i zn) 13 w 51 i (lwX W fi a zn)) 14 0 60 a = zn := by rw [zup4_v, if_neg (by omega)]; exact u2
    have prm : f_M_price Km w a zn wd Fm (zup4 (zup4 (zup4 Bm 13 w 49 i a) 13 w 50 i zn) 13 w 51 i (lwX W fi a zn)) = some (L a - L (a + z), Fm, zup4 (zup4 (zup4 Bm 13 w 49 i a) 13 w 50 i zn) 13 w 51 i (lwX W fi a zn)) := by
      have := L_prcX (K := Km) (w := w) (F := Fm) (B := zup4 (zup4 (zup4 Bm 13 w 49 i a) 13 w 50 i zn) 13 w 51 i (lwX W fi a zn)) (a := a) (n := zn) (W := W) (wd := wd) hKm w0 (by rw [g2]; exact hf) (by rw [g7]; exact n0) (fun t t0 t1 => by rw [zup4_v, if_neg (by omega), zup4_v, if_neg (by omega), zup4_v, if_neg (by omega), m 13 w 46 t (by omega)]; exact m46 t t0 (by omega)) hW (by omega) (by omega) hw
      rw [g2, g7] at this
      rw [lwE] at hM1 hLa
      rw [if_neg (show ¬ (¬ zn ≤ 1 ∧ wd < lwX W fi a zn) by omega)] at this
      have pz : prV wd (lwX W fi a zn) nb (a + (zn : Int)) = L a - L (a + z) := by rw [← hzn]; omega
      rw [this, pz]
    have mE : f_M_lines_177 Km (n' + 1) a w wd Fm Bm = f_M_lines_177 Km n' (a + z) w wd (zup3 Fm 13 w 48 (i + 1)) (zup4 (zup4 (zup4 (zup4 Bm 13 w 49 i a) 13 w 50 i zn) 13 w 51 i (lwX W fi a zn)) 13 w 52 i (L a - L (a + z))) := by
      rw [f_M_lines_177, if_pos w0, if_pos (by unfold r32; omega), g7, if_pos (by unfold r32; omega), if_neg (by omega), e48, if_pos (by omega), if_pos (by omega), u1, u2, lwm, zb_s, u3, prm, zb_s, e48, if_pos (by omega)]
      have u4 : (zup4 (zup4 (zup4 (zup4 Bm 13 w 49 i a) 13 w 50 i zn) 13 w 51 i (lwX W fi a zn)) 13 w 52 i (L a - L (a + z))) 14 0 60 a = zn := by rw [zup4_v, if_neg (by omega)]; exact u3
      rw [u4, ← hzn]
    rw [cE, mE]
    generalize hBc : zup4 (zup4 (zup4 B 2 l 7 i a) 2 l 8 i (lwX W fi a zn)) 2 l 9 i (L a - L (a + z)) = Bc
    generalize hBn : zup4 (zup4 (zup4 (zup4 Bm 13 w 49 i a) 13 w 50 i zn) 13 w 51 i (lwX W fi a zn)) 13 w 52 i (L a - L (a + z)) = Bn
    have cn : ∀ c y k x, ¬ (c = 2 ∧ y = l ∧ (k = 7 ∨ k = 8 ∨ k = 9) ∧ x = i) → Bc c y k x = B c y k x := fun c y k x nn => by rw [← hBc, zup4_v, if_neg (by omega), zup4_v, if_neg (by omega), zup4_v, if_neg (by omega)]
    have mn : ∀ c y k x, ¬ (c = 13 ∧ y = w ∧ (49 ≤ k ∧ k ≤ 52) ∧ x = i) → Bn c y k x = Bm c y k x := fun c y k x nn => by rw [← hBn, zup4_v, if_neg (by omega), zup4_v, if_neg (by omega), zup4_v, if_neg (by omega), zup4_v, if_neg (by omega)]
    have c7 : Bc 2 l 7 i = a := by rw [← hBc, up_o (by decide), up_o (by decide), up_s]
    have c8 : Bc 2 l 8 i = lwX W fi a zn := by rw [← hBc, up_o (by decide), up_s]
    have c9 : Bc 2 l 9 i = L a - L (a + z) := by rw [← hBc, up_s]
    have n49 : Bn 13 w 49 i = a := by rw [← hBn]; simp [zup4_v]
    have n50 : Bn 13 w 50 i = z := by rw [← hBn, hzn]; simp [zup4_v]
    have n51 : Bn 13 w 51 i = lwX W fi a zn := by rw [← hBn]; simp [zup4_v]
    have n52 : Bn 13 w 52 i = L a - L (a + z) := by rw [← hBn]; simp [zup4_v]
    refine ih n n' (i + 1) (a + z) _ Bc _ Bn (by omega) (by omega) (by omega) (by omega) (by omega) (by omega) (by rw [zup3_v, if_pos ⟨rfl, rfl, rfl⟩]) (by rw [zup3_v, if_pos ⟨rfl, rfl, rfl⟩]) (fun c y k nn => by rw [zup3_v, if_neg (by omega)]; exact f c y k nn) (fun c y k x nn => by rw [cn c y k x (by omega), b c y k x nn]) (fun c y k nn => by rw [zup3_v, if_neg (by omega)]; exact g c y k nn) (fun c y k x nn => by rw [mn c y k x (by omega), m c y k x nn]) ⟨fun q => by omega, fun j j0 j1 => ?_⟩
    by_cases q : j = i
    · subst q
      rw [c7, c8, c9, n49, n50, n51, n52, if_neg (by omega)]
      refine ⟨rfl, ⟨by omega, by omega, by omega⟩, rfl, rfl, rfl, fun q0 => ?_, xb⟩
      have := hy.1 q0
      rw [← q0, c7]
      exact this.trans q0.symm
    · obtain ⟨y1, y2, y3, y4, y5, y6, y7⟩ := hy.2 j j0 (by omega)
      rw [cn 2 l 7 j (by omega), cn 2 l 8 j (by omega), cn 2 l 9 j (by omega), mn 13 w 49 j (by omega), mn 13 w 50 j (by omega), mn 13 w 51 j (by omega), mn 13 w 52 j (by omega), if_pos (by omega)]
      refine ⟨y1, y2, ?_, y4, y5, fun q0 => by rw [cn 2 l 7 0 (by omega)]; exact y6 q0, y7⟩
      by_cases q' : j + 1 = i
      · rw [q', c7]
        rw [if_neg (by omega)] at y3
        exact y3
      · rw [cn 2 l 7 (j + 1) (by omega)]
        rw [if_pos (by omega)] at y3
        exact y3
-- the xs of the class
theorem C_x108X {F : zF} {a l7 l6 l5 ln e : Int} {rec : Int → Int → Int → Int → Int → Int → Int → zF → zB → zO} (hl : 0 ≤ l ∧ l < K.2 2) (ha : 0 ≤ a ∧ a < 100) (h6 : 0 < l6 ∧ l6 ≤ 4000) (e1 : e ≤ 3200) : ∀ (d N : Nat) (j v : Int) (B : zB), j + d = e → 0 ≤ j → d < N → B 2 l 5 (a + 1) = e → ∃ B', f_Layout_setXs_108 rec K N j v a l7 l6 l5 l ln F B = rec (a + 1) l7 l6 l5 (v + smR (fun c => B 2 l 2 c) j d) l ln F B' ∧ (∀ c, j ≤ c → c < e → B' 2 l 3 c = v + smR (fun c => B 2 l 2 c) j (c - j).toNat + zdv (l7 * (c - l5)) l6) ∧ ∀ c y k x, ¬ (c = 2 ∧ y = l ∧ k = 3 ∧ j ≤ x ∧ x < e) → B' c y k x = B c y k x := by
  intro d
  induction d with
  | zero =>
    intro N j v B hj j0 hN h5
    obtain ⟨n, rfl⟩ : ∃ n, N = n + 1 := ⟨N - 1, by omega⟩
    rw [f_Layout_setXs_108, if_pos hl, if_pos (by omega), if_pos (by unfold r32; omega), h5, if_pos (by unfold r32; omega), if_pos (by omega)]
    exact ⟨B, by rw [smR, Int.add_zero], fun c a b => by omega, fun _ _ _ _ _ => rfl⟩
  | succ d ih =>
    intro N j v B hj j0 hN h5
    obtain ⟨n, rfl⟩ : ∃ n, N = n + 1 := ⟨N - 1, by omega⟩
    rw [f_Layout_setXs_108, if_pos hl, if_pos (by omega), if_pos (by unfold r32; omega), h5, if_pos (by unfold r32; omega), if_neg (by omega), if_pos (iI_n0 h6.1 (by unfold r32; omega)), if_pos (by omega)]
    generalize hB1 : zup4 B 2 l 3 j (v + zdv (l7 * (j - l5)) l6) = B1
    have un : ∀ c y k x, ¬ (c = 2 ∧ y = l ∧ k = 3 ∧ x = j) → B1 c y k x = B c y k x := fun c y k x nn => by rw [← hB1, zup4_v, if_neg nn]
    have u3 : B1 2 l 3 j = v + zdv (l7 * (j - l5)) l6 := by rw [← hB1, up_s]
    have e2 : (fun c => B1 2 l 2 c) = fun c => B 2 l 2 c := by funext c; exact un 2 l 2 c (by omega)
    obtain ⟨B', g1, g2, g3⟩ := ih n (j + 1) (v + B1 2 l 2 j) B1 (by omega) (by omega) (by omega) (by rw [un 2 l 5 _ (by omega)]; exact h5)
    rw [e2, un 2 l 2 j (by omega)] at g1 g2
    refine ⟨B', ?_, fun c c0 c1 => ?_, fun c y k x nn => by rw [g3 c y k x (by omega), un c y k x (by omega)]⟩
    · rw [un 2 l 2 j (by omega), g1, smR, Int.add_assoc]
    · by_cases z : c = j
      · rw [z, g3 2 l 3 j (by omega), u3, show (j - j).toNat = 0 by omega, smR, Int.add_zero]
      · rw [g2 c (by omega) c1, show (c - j).toNat = (c - (j + 1)).toNat + 1 by omega, smR]
        omega
theorem C_x83X {F : zF} {l7 l6 l5 ln e : Int} (hK : 60000 ≤ K.1) (hl : 0 ≤ l ∧ l < K.2 2) (hn : 0 ≤ ln ∧ ln < 100) (h6 : 0 < l6 ∧ l6 ≤ 4000) (he : e ≤ 100) : ∀ (d N : Nat) (a v : Int) (B : zB), a + d = e → 0 ≤ a → d < N → B 2 l 7 (ln + 1) = e → (∀ t, 0 ≤ t → t < e → 0 ≤ B 2 l 5 t ∧ B 2 l 5 t ≤ B 2 l 5 (t + 1) ∧ B 2 l 5 (t + 1) ≤ 3200) → ∃ B', f_Layout_setXs_83 K N a l7 l6 l5 v l ln F B = some (0, F, B') ∧ (∀ t c, a ≤ t → t < e → B 2 l 5 t ≤ c → c < B 2 l 5 (t + 1) → B' 2 l 3 c = v + 6 * (t - a + 1) + smR (fun c => B 2 l 2 c) (B 2 l 5 a) (c - B 2 l 5 a).toNat + zdv (l7 * (c - l5)) l6) ∧ ∀ c y k x, ¬ (c = 2 ∧ y = l ∧ k = 3 ∧ B 2 l 5 a ≤ x ∧ x < B 2 l 5 e) → B' c y k x = B c y k x := by
  intro d
  induction d with
  | zero =>
    intro N a v B ha a0 hN h7 h5
    obtain ⟨n, rfl⟩ : ∃ n, N = n + 1 := ⟨N - 1, by omega⟩
    rw [f_Layout_setXs_83, if_pos hl, if_pos (by omega), if_pos (by unfold r32; omega), h7, if_pos (by unfold r32; omega), if_pos (by omega)]
    exact ⟨B, rfl, fun t c a b => by omega, fun _ _ _ _ _ => rfl⟩
  | succ d ih =>
    intro N a v B ha a0 hN h7 h5
    obtain ⟨n, rfl⟩ : ∃ n, N = n + 1 := ⟨N - 1, by omega⟩
    have k5 := h5 a a0 (by omega)
    -- first columns rise
    have mono : ∀ (m : Nat) (t : Int), a + 1 ≤ t → t + m ≤ e → B 2 l 5 t ≤ B 2 l 5 (t + m) := by
      intro m
      induction m with
      | zero => intro t _ _; rw [show t + ((0 : Nat) : Int) = t by omega]; exact Int.le_refl _
      | succ m ihm =>
        intro t t0 t1
        have a1 := ihm t t0 (by omega)
        have a2 := (h5 (t + m) (by omega) (by omega)).2.1
        rw [show t + ((m + 1 : Nat) : Int) = t + (m : Int) + 1 by omega]
        omega
    have me : B 2 l 5 (a + 1) ≤ B 2 l 5 e := by
      have := mono (e - (a + 1)).toNat (a + 1) (Int.le_refl _) (by omega)
      rw [show a + 1 + ((e - (a + 1)).toNat : Int) = e by omega] at this
      exact this
    obtain ⟨B1, g1, g2, g3⟩ := C_x108X (K := K) (l := l) (F := F) (l7 := l7) (l6 := l6) (l5 := l5) (ln := ln) (rec := f_Layout_setXs_83 K n) (a := a) (e := B 2 l 5 (a + 1)) hl (by omega) h6 k5.2.2 (B 2 l 5 (a + 1) - B 2 l 5 a).toNat K.1 (B 2 l 5 a) (v + 6) B (by omega) k5.1 (by omega) rfl
    have e5 : ∀ t, B1 2 l 5 t = B 2 l 5 t := fun t => g3 2 l 5 t (by omega)
    have e2 : (fun c => B1 2 l 2 c) = fun c => B 2 l 2 c := by funext c; exact g3 2 l 2 c (by omega)
    rw [f_Layout_setXs_83, if_pos hl, if_pos (by omega), if_pos (by unfold r32; omega), h7, if_pos (by unfold r32; omega), if_neg (by omega), if_pos (by omega), g1]
    obtain ⟨B', q1, q2, q3⟩ := ih n (a + 1) (v + 6 + smR (fun c => B 2 l 2 c) (B 2 l 5 a) (B 2 l 5 (a + 1) - B 2 l 5 a).toNat) B1 (by omega) (by omega) (by omega) (by rw [g3 2 l 7 _ (by omega)]; exact h7) (fun t t0 t1 => by rw [e5, e5]; exact h5 t t0 t1)
    rw [e5, e5] at q3
    refine ⟨B', q1, fun t c t0 t1 c0 c1 => ?_, fun c y k x nn => by rw [q3 c y k x (by omega), g3 c y k x (by omega)]⟩
    by_cases z : t = a
    · rw [z] at c0 c1 ⊢
      rw [q3 2 l 3 c (by omega), g2 c c0 c1]
      omega
    · have k := q2 t c (by omega) t1 (by rw [e5]; exact c0) (by rw [e5]; exact c1)
      rw [e2, e5] at k
      have lt : B 2 l 5 (a + 1) ≤ B 2 l 5 t := by
        have := mono (t - (a + 1)).toNat (a + 1) (Int.le_refl _) (by omega)
        rw [show a + 1 + ((t - (a + 1)).toNat : Int) = t by omega] at this
        exact this
      have sp : smR (fun c => B 2 l 2 c) (B 2 l 5 a) (c - B 2 l 5 a).toNat = smR (fun c => B 2 l 2 c) (B 2 l 5 a) (B 2 l 5 (a + 1) - B 2 l 5 a).toNat + smR (fun c => B 2 l 2 c) (B 2 l 5 (a + 1)) (c - B 2 l 5 (a + 1)).toNat := by
        rw [show (c - B 2 l 5 a).toNat = (B 2 l 5 (a + 1) - B 2 l 5 a).toNat + (c - B 2 l 5 (a + 1)).toNat by omega, smR_t, show B 2 l 5 a + ((B 2 l 5 (a + 1) - B 2 l 5 a).toNat : Int) = B 2 l 5 (a + 1) by omega]
      rw [k, sp]
      omega
theorem xV_f {fi wd n i t c : Int} {B B' : zB} (h : ∀ k x, ¬ k = 3 → B' 2 l k x = B 2 l k x) : xV fi wd n l i t c B' = xV fi wd n l i t c B := by
  have e2 : (fun c => B' 2 l 2 c) = fun c => B 2 l 2 c := by funext c; exact h 2 c (by decide)
  unfold xV
  rw [e2, h 7 _ (by decide), h 7 _ (by decide), h 8 _ (by decide), h 5 _ (by decide), h 5 _ (by decide)]
theorem LYs_f {nb n : Int} {B B' : zB} (h : LYs l nb n B) (b : ∀ k x, ¬ k = 3 → B' 2 l k x = B 2 l k x) : LYs l nb n B' := by
  obtain ⟨h1, h2, h3, h4⟩ := h
  refine ⟨h1, h2, fun i i0 i1 => by rw [b 7 _ (by decide), b 7 _ (by decide), b 8 _ (by decide)]; exact h3 i i0 i1, fun t t0 t1 => by rw [b 5 _ (by decide), b 5 _ (by decide)]; exact h4 t t0 t1⟩
theorem LYs_5 {nb n : Int} {B : zB} (h : LYs l nb n B) : ∀ (m : Nat) (t : Int), 0 ≤ t → t + m ≤ nb → B 2 l 5 t ≤ B 2 l 5 (t + m) := by
  intro m
  induction m with
  | zero => intro t _ _; rw [show t + ((0 : Nat) : Int) = t by omega]; exact Int.le_refl _
  | succ m ihm =>
    intro t t0 t1
    have a1 := ihm t t0 (by omega)
    have a2 := (h.2.2.2 (t + m) (by omega) (by omega)).2.1
    rw [show t + ((m + 1 : Nat) : Int) = t + (m : Int) + 1 by omega]
    omega
theorem LYs_m {nb n a b : Int} {B : zB} (h : LYs l nb n B) (a0 : 0 ≤ a) (ab : a ≤ b) (b1 : b ≤ nb) : B 2 l 5 a ≤ B 2 l 5 b := by
  have := LYs_5 h (b - a).toNat a a0 (by omega)
  rw [show a + ((b - a).toNat : Int) = b by omega] at this
  exact this
theorem C_b148X {F : zF} {wd nb : Int} (hK : 60000 ≤ K.1) (hl : 0 ≤ l ∧ l < K.2 2) (hw : 0 ≤ wd ∧ wd ≤ 2000) : ∀ (d N : Nat) (i : Int) (B : zB), i + d = F 2 l 0 → 0 ≤ i → d < N → PQl K V p F B → LYs l nb (F 2 l 0) B → ∃ B', f_Layout_breakLines_148 K N i l p wd F B = some (F 2 l 0, F, B') ∧ (∀ k t c, i ≤ k → k < F 2 l 0 → B 2 l 7 k ≤ t → t < B 2 l 7 (k + 1) → B 2 l 5 t ≤ c → c < B 2 l 5 (t + 1) → B' 2 l 3 c = xV (F 6 p 2) wd (F 2 l 0) l k t c B) ∧ (∀ c y k x, ¬ (c = 2 ∧ y = l ∧ k = 3) → B' c y k x = B c y k x) ∧ (i < F 2 l 0 → ∀ x, x < B 2 l 5 (B 2 l 7 i) → B' 2 l 3 x = B 2 l 3 x) := by
  intro d
  induction d with
  | zero =>
    intro N i B hi i0 hN h hS
    obtain ⟨n, rfl⟩ : ∃ n, N = n + 1 := ⟨N - 1, by omega⟩
    have s1 := hS.1
    rw [f_Layout_breakLines_148, if_pos hl, if_pos (by unfold r32; omega), if_pos (by unfold r32; omega), if_pos (by omega)]
    exact ⟨B, rfl, fun k t c a b => by omega, fun _ _ _ _ _ => rfl, fun _ _ _ => rfl⟩
  | succ d ih =>
    intro N i B hi i0 hN h hS
    obtain ⟨n, rfl⟩ : ∃ n, N = n + 1 := ⟨N - 1, by omega⟩
    obtain ⟨s1, s2, s3, s4⟩ := hS
    have hS' : LYs l nb (F 2 l 0) B := ⟨s1, s2, s3, s4⟩
    have hi3 := s3 i i0 (by omega)
    have f5 : 0 ≤ B 2 l 5 (B 2 l 7 i) ∧ B 2 l 5 (B 2 l 7 i) ≤ 3200 := by
      have := s4 (B 2 l 7 i) hi3.1 (by omega)
      omega
    have f5' : B 2 l 5 (B 2 l 7 i) ≤ B 2 l 5 (B 2 l 7 (i + 1)) := LYs_m hS' hi3.1 (by omega) hi3.2.2.1
    have f5u : B 2 l 5 (B 2 l 7 (i + 1)) ≤ 3200 := by
      have := s4 (B 2 l 7 (i + 1) - 1) (by omega) (by omega)
      rw [show B 2 l 7 (i + 1) - 1 + 1 = B 2 l 7 (i + 1) by omega] at this
      exact this.2.2
    have zm : 0 < zmax (B 2 l 5 (B 2 l 7 (i + 1)) - B 2 l 5 (B 2 l 7 i)) 1 ∧ zmax (B 2 l 5 (B 2 l 7 (i + 1)) - B 2 l 5 (B 2 l 7 i)) 1 ≤ 4000 := by unfold zmax; split <;> omega
    have o83 := fun s => C_x83X (K := K) (l := l) (F := F) (l7 := s) (l6 := zmax (B 2 l 5 (B 2 l 7 (i + 1)) - B 2 l 5 (B 2 l 7 i)) 1) (l5 := B 2 l 5 (B 2 l 7 i)) (ln := i) (e := B 2 l 7 (i + 1)) hK hl (by omega) zm (by omega) (B 2 l 7 (i + 1) - B 2 l 7 i).toNat K.1 (B 2 l 7 i) (ldV (F 6 p 2) (B 2 l 7 i)) B (by omega) hi3.1 (by omega) rfl (fun t t0 t1 => s4 t t0 (by omega))
    have sx : ∃ B1, f_Layout_setXs K l p i wd F B = some (0, F, B1) ∧ (∀ t c, B 2 l 7 i ≤ t → t < B 2 l 7 (i + 1) → B 2 l 5 t ≤ c → c < B 2 l 5 (t + 1) → B1 2 l 3 c = xV (F 6 p 2) wd (F 2 l 0) l i t c B) ∧ ∀ c y k x, ¬ (c = 2 ∧ y = l ∧ k = 3 ∧ B 2 l 5 (B 2 l 7 i) ≤ x ∧ x < B 2 l 5 (B 2 l 7 (i + 1))) → B1 c y k x = B c y k x := by
      unfold f_Layout_setXs f_Layout_setXs_73
      rw [if_pos hl, if_pos (by omega), C_leadX h (by unfold r32; omega), zb_s, if_pos (by omega), if_pos (by omega), if_pos (by omega), if_pos (by unfold r32; omega), if_pos (by unfold r32; omega), if_pos (by unfold r32; omega)]
      by_cases c : F 2 l 0 ≤ i + 1
      · rw [if_pos c, if_pos hl, if_pos (by omega)]
        obtain ⟨B1, g1, g2, g3⟩ := o83 0
        refine ⟨B1, g1, fun t c' t0 t1 c0 c1 => ?_, g3⟩
        rw [g2 t c' t0 t1 c0 c1]
        unfold xV
        rw [if_pos c]
      · rw [if_neg c, if_pos (by omega), if_pos (by have := hi3.2.2.2; unfold r32 at *; omega), if_pos hl, if_pos (by omega)]
        obtain ⟨B1, g1, g2, g3⟩ := o83 (zmax (wd - B 2 l 8 i) 0)
        refine ⟨B1, g1, fun t c' t0 t1 c0 c1 => ?_, g3⟩
        rw [g2 t c' t0 t1 c0 c1]
        unfold xV
        rw [if_neg c]
    obtain ⟨B1, g1, g2, g3⟩ := sx
    have n3 : ∀ k x, ¬ k = 3 → B1 2 l k x = B 2 l k x := fun k x nk => g3 2 l k x (by omega)
    rw [f_Layout_breakLines_148, if_pos hl, if_pos (by unfold r32; omega), if_pos (by unfold r32; omega), if_neg (by omega), g1, zb_s]
    obtain ⟨B', q1, q2, q3, q4⟩ := ih n (i + 1) B1 (by omega) (by omega) (by omega) (PQ_f (l := l) h lyF_r (fun c y k x nn => g3 c y k x (by omega))) (LYs_f hS' n3)
    refine ⟨B', q1, fun k t c k0 k1 t0 t1 c0 c1 => ?_, fun c y k x nn => by rw [q3 c y k x nn, g3 c y k x (by omega)], fun _ x hx => ?_⟩
    · by_cases z : k = i
      · subst z
        have ce : c < B 2 l 5 (B 2 l 7 (k + 1)) := by
          have := LYs_m hS' (show 0 ≤ t + 1 by omega) (show t + 1 ≤ B 2 l 7 (k + 1) by omega) hi3.2.2.1
          omega
        by_cases y : k + 1 < F 2 l 0
        · have := q4 y c (by rw [n3 7 _ (by decide), n3 5 _ (by decide)]; exact ce)
          rw [this]
          exact g2 t c t0 t1 c0 c1
        · -- the last line
          have dz : d = 0 := by omega
          subst dz
          have e148 : ∀ C : zB, f_Layout_breakLines_148 K n (k + 1) l p wd F C = some (F 2 l 0, F, C) := fun C => by
            obtain ⟨n', rfl⟩ : ∃ m, n = m + 1 := ⟨n - 1, by omega⟩
            rw [f_Layout_breakLines_148, if_pos hl, if_pos (by unfold r32; omega), if_pos (by unfold r32; omega), if_pos (by omega)]
          rw [e148 B1] at q1
          cases q1
          exact g2 t c t0 t1 c0 c1
      · have := q2 k t c (by omega) k1 (by rw [n3 7 _ (by decide)]; exact t0) (by rw [n3 7 _ (by decide)]; exact t1) (by rw [n3 5 _ (by decide)]; exact c0) (by rw [n3 5 _ (by decide)]; exact c1)
        rw [this, xV_f n3]
    · by_cases y : i + 1 < F 2 l 0
      · rw [q4 y x (by rw [n3 7 _ (by decide), n3 5 _ (by decide)]; omega), g3 2 l 3 x (by omega)]
      · have dz : d = 0 := by omega
        subst dz
        have e148 : ∀ C : zB, f_Layout_breakLines_148 K n (i + 1) l p wd F C = some (F 2 l 0, F, C) := fun C => by
          obtain ⟨n', rfl⟩ : ∃ m, n = m + 1 := ⟨n - 1, by omega⟩
          rw [f_Layout_breakLines_148, if_pos hl, if_pos (by unfold r32; omega), if_pos (by unfold r32; omega), if_pos (by omega)]
        rw [e148 B1] at q1
        cases q1
        exact g3 2 l 3 x (by omega)
end
end
end
section
section
/-! ===== the lines of a piece, both sides ===== -/
theorem P_brk {K : zK} {Km : Nat} {V p l w wd : Int} {F : zF} {B : zB} {Fm : zF} {Bm : zB} (hK : 60000 ≤ K.1) (hKm : 200 ≤ Km) (h : PQl K V p F B) (hl : 0 ≤ l ∧ l < K.2 2) (w0 : 0 ≤ w ∧ w < 3) (hE : ENl V p w F B Bm) (hX : CXk V w Fm Bm) (hC : XC Bm) (hR : RDW V w Fm Bm) (e2 : F 6 p 2 = Fm 13 w 2) (e4 : F 6 p 4 = Fm 13 w 4) (e5 : F 6 p 5 = Fm 13 w 5) (e7 : F 6 p 7 = Fm 13 w 7) (hw : 0 ≤ wd ∧ wd ≤ 2000) : ∃ n F' B' Fm' Bm', f_Layout_breakLines K l p wd F B = some (n, F', B') ∧ f_M_lines_44 Km Km (Fm 13 w 7 - 1) w wd Fm (zup4 Bm 14 0 59 (Fm 13 w 7) 0) = some (n, Fm', Bm') ∧ (F' 2 l 0 = n ∧ Fm' 13 w 48 = n) ∧ (0 < n → LYf (F 6 p 2) (F 6 p 7) l w F' B' Fm' Bm') := by
  have h7 := h.2.2.2.2.2.1
  have hf := h.2.2.1
  have zm : zmin (F 6 p 7) 100 = F 6 p 7 := by unfold zmin; split <;> omega
  obtain ⟨P, hP⟩ := hX
  rw [← e4, ← e5, ← e7] at hP
  have hpl : ∀ b x, aNt V w b (800 * V) Bm x → x < barV (F 6 p 4) (F 6 p 5) := fun b x hx => by
    obtain ⟨x0, y, u, a0, a1, a2, a3, a4, a5, a6, a7⟩ := hx
    obtain ⟨q, ⟨q0, q1⟩, q2, q3⟩ := rd_q (y := y) hR a0 a1 a2 a3
    have e : x = q := nd_inj x0 q0 (by rw [← a5, q2]) (by rw [← a6, q3])
    rw [e, e4, e5]
    exact q1
  -- columns
  obtain ⟨F1, B1, x1, x2, x3, x4, x5, x6⟩ := C_setX0 (K := K) (V := V) (p := p) (l := l) (w := w) (nb := F 6 p 7) (T := barV (F 6 p 4) (F 6 p 5)) (F := F) (B := B) (Bm := Bm) hK h hl hE rfl hpl h7
  obtain ⟨c1, c2⟩ := CC_u hP x5 x6
  have hq1 := PQ_f h x2 x3
  have f1 : ∀ k, F1 6 p k = F 6 p k := fun k => x2 6 p k (by omega)
  -- choosing
  have hW : ∀ t, 0 ≤ (fun t => Bm 13 w 46 t) t ∧ (fun t => Bm 13 w 46 t) t ≤ 400000 := fun t => (hC w t).2.2
  have ub : ∀ k x, ¬ (k = 10 ∧ x = F 6 p 7) → (zup4 B1 2 l 10 (F 6 p 7) 0) 2 l k x = B1 2 l k x := fun k x nn => by rw [zup4_v, if_neg (by omega)]
  obtain ⟨B2, y1, y2, y3⟩ := C_ch12X (K := K) (V := V) (p := p) (l := l) (F := F1) (nb := F 6 p 7) (wd := wd) (W := fun t => Bm 13 w 46 t) hK hl h7 hw hW (F 6 p 7).toNat K.1 (F 6 p 7 - 1) (zup4 B1 2 l 10 (F 6 p 7) 0) (by omega) (by omega) (by omega) (PQ_f hq1 lyF_r lyB_w) (fun t t0 t1 => by rw [ub 6 t (by omega)]; exact (c2 t t0 t1).1.symm) ⟨up_s, fun i i0 i1 => by omega⟩
  rw [f1 2] at y3
  have y1' : f_Layout_choose K l p (F 6 p 7) wd F1 B1 = some (0, F1, B2) := by
    unfold f_Layout_choose
    rw [if_pos hl, if_pos (by omega)]; exact y1
  have b2 : ∀ c y k x, ¬ (c = 2 ∧ y = l ∧ (k = 10 ∨ k = 11)) → B2 c y k x = B1 c y k x := fun c y k x nn => by rw [y2 c y k x nn, zup4_v, if_neg (by omega)]
  have mu : ∀ c y k x, ¬ (c = 14 ∧ y = 0 ∧ k = 59 ∧ x = Fm 13 w 7) → (zup4 Bm 14 0 59 (Fm 13 w 7) 0) c y k x = Bm c y k x := fun c y k x nn => by rw [zup4_v, if_neg nn]
  obtain ⟨Bm1, z1, z2, z3⟩ := L_l44X (K := Km) (w := w) (F := Fm) (nb := Fm 13 w 7) (wd := wd) (W := fun t => Bm 13 w 46 t) hKm w0 (by rw [← e2]; exact hf) rfl (by rw [← e7]; exact h7) hw hW (Fm 13 w 7).toNat Km (Fm 13 w 7 - 1) (zup4 Bm 14 0 59 (Fm 13 w 7) 0) (by omega) (by omega) (by omega) (fun t _ _ => mu 13 w 46 t (by omega)) ⟨by show (zup4 Bm 14 0 59 (Fm 13 w 7) 0) 14 0 59 (Fm 13 w 7) = 0; rw [zup4_v, if_pos ⟨rfl, rfl, rfl, rfl⟩], fun i i0 i1 => by omega⟩
  have mb : ∀ c y k x, ¬ (c = 14 ∧ y = 0 ∧ (k = 59 ∨ k = 60)) → Bm1 c y k x = Bm c y k x := fun c y k x nn => by rw [z2 c y k x nn, mu c y k x (by omega)]
  rw [← e2, ← e7] at z3
  have du := fun i => DPp_u y3 z3 (F 6 p 7 - i).toNat i
  -- lines
  have G0 : ∀ c y k, ¬ (c = 13 ∧ y = w ∧ (k = 47 ∨ k = 48)) → (zup3 (zup3 Fm 13 w 48 0) 13 w 47 wd) c y k = Fm c y k := fun c y k nn => by rw [zup3_v, if_neg (by omega), zup3_v, if_neg (by omega)]
  have G47 : (zup3 (zup3 Fm 13 w 48 0) 13 w 47 wd) 13 w 47 = wd := by rw [zup3_v, if_pos ⟨rfl, rfl, rfl⟩]
  have G48 : (zup3 (zup3 Fm 13 w 48 0) 13 w 47 wd) 13 w 48 = 0 := by rw [zup3_v, if_neg (by omega), zup3_v, if_pos ⟨rfl, rfl, rfl⟩]
  generalize zup3 (zup3 Fm 13 w 48 0) 13 w 47 wd = G at z1 G0 G47 G48
  have fz : ∀ c y k, ¬ (c = 2 ∧ y = l ∧ k = 0) → (zup3 F1 2 l 0 0) c y k = F1 c y k := fun c y k nn => by rw [zup3_v, if_neg nn]
  have hq2 : PQl K V p (zup3 F1 2 l 0 0) B2 := PQ_f hq1 (lyF_w (by omega)) (fun c y k x nn => b2 c y k x (by omega))
  obtain ⟨n, F3, B3, Fm3, Bm3, k1, k2, ⟨k3, k4, k5, k6⟩, k7, k8, k9, k10, k11⟩ := P_lns (K := K) (V := V) (p := p) (l := l) (w := w) (Km := Km) (nb := F 6 p 7) (wd := wd) (fi := F 6 p 2) (W := fun t => Bm 13 w 46 t) (L := fun i => B2 2 l 10 i) (M := fun i => B2 2 l 11 i - i) (F0 := zup3 F1 2 l 0 0) (B0 := B2) (Fm0 := G) (Bm0 := Bm1) hK hKm hl w0 hq2 (by rw [fz 6 p 2 (by omega)]; exact f1 2) (by rw [G0 13 w 2 (by omega)]; exact e2.symm) (by rw [G0 13 w 7 (by omega)]; exact e7.symm) h7 hw hW (fun t t0 t1 => by rw [b2 2 l 6 t (by omega)]; exact (c2 t t0 t1).1.symm) (fun t t0 t1 => mb 13 w 46 t (by omega)) y3 (fun _ _ _ => rfl) (fun i i0 i1 => by show B2 2 l 11 i = i + (B2 2 l 11 i - i); omega) (fun i i0 i1 => ((du i i0 (by omega)).2 i1).symm) (F 6 p 7).toNat K.1 Km 0 0 (zup3 F1 2 l 0 0) B2 G Bm1 (by omega) (by omega) (by decide) (by decide) (by omega) (by omega) (by rw [zup3_v, if_pos ⟨rfl, rfl, rfl⟩]) G48 (fun _ _ _ _ => rfl) (fun _ _ _ _ _ => rfl) (fun _ _ _ _ => rfl) (fun _ _ _ _ _ => rfl) ⟨fun _ => rfl, fun j j0 j1 => by omega⟩
  -- the xs
  have u7 : ∀ k x, ¬ (k = 7 ∧ x = n) → (zup4 B3 2 l 7 n (F 6 p 7)) 2 l k x = B3 2 l k x := fun k x nn => by rw [zup4_v, if_neg (by omega)]
  have u7n : (zup4 B3 2 l 7 n (F 6 p 7)) 2 l 7 n = F 6 p 7 := up_s
  have b7 : ∀ c y k x, ¬ (c = 2 ∧ y = l) → (zup4 B3 2 l 7 n (F 6 p 7)) c y k x = B3 c y k x := fun c y k x nn => by rw [zup4_v, if_neg (by omega)]
  generalize hB4 : zup4 B3 2 l 7 n (F 6 p 7) = B4 at u7 u7n b7
  have r3 : ∀ k x, ¬ (k = 7 ∨ k = 8 ∨ k = 9 ∨ k = 10 ∨ k = 11) → B4 2 l k x = B1 2 l k x := fun k x nn => by rw [u7 k x (by omega), k8 2 l k x (by omega), b2 2 l k x (by omega)]
  have ln : ∀ j, 0 ≤ j → j < n → B4 2 l 7 j = Bm3 13 w 49 j ∧ B4 2 l 7 (j + 1) = Bm3 13 w 49 j + Bm3 13 w 50 j ∧ B4 2 l 8 j = Bm3 13 w 51 j ∧ B4 2 l 9 j = Bm3 13 w 52 j ∧ (0 ≤ Bm3 13 w 49 j ∧ 1 ≤ Bm3 13 w 50 j ∧ Bm3 13 w 49 j + Bm3 13 w 50 j ≤ F 6 p 7) := fun j j0 j1 => by
    obtain ⟨q1, q2, q3, q4, q5, _⟩ := k11.2 j j0 j1
    refine ⟨by rw [u7 7 j (by omega)]; exact q1, ?_, by rw [u7 8 j (by omega)]; exact q4, by rw [u7 9 j (by omega)]; exact q5, q2⟩
    by_cases z : j + 1 < n
    · rw [if_pos z] at q3
      rw [u7 7 (j + 1) (by omega)]
      exact q3
    · rw [if_neg z] at q3
      rw [show j + 1 = n by omega, u7n]
      exact q3
  have e33 : F3 2 l 0 = n := k3
  have cc : ∀ t, 0 ≤ t → t < F 6 p 7 → 0 ≤ B1 2 l 5 t ∧ B1 2 l 5 t ≤ B1 2 l 5 (t + 1) ∧ B1 2 l 5 (t + 1) ≤ 3200 := fun t t0 t1 => (x6 t t0 t1).1
  have l8 : ∀ j, 0 ≤ j → j < n → r32 (B4 2 l 8 j) ∧ 0 ≤ B4 2 l 8 j := fun j j0 j1 => by
    obtain ⟨_, _, _, q4, _, _, q7⟩ := k11.2 j j0 j1
    rw [u7 8 j (by omega), q4]
    exact ⟨by unfold r32; omega, q7.1⟩
  have hS : LYs l (F 6 p 7) (F3 2 l 0) B4 := by
    rw [e33]
    refine ⟨by omega, h7, fun i i0 i1 => ?_, fun t t0 t1 => by rw [r3 5 _ (by omega), r3 5 _ (by omega)]; exact cc t t0 t1⟩
    obtain ⟨q1, q2, _, _, q3⟩ := ln i i0 i1
    have q4 := l8 i i0 i1
    rw [q1, q2]
    exact ⟨q3.1, by omega, q3.2.2, q4⟩
  have hq4 : PQl K V p F3 B4 := PQ_f (l := l) hq2 (fun c y k nn => k7 c y k (by omega)) (fun c y k x nn => by rw [b7 c y k x nn, k8 c y k x (by omega)])
  obtain ⟨B5, v1, v2, v3, _⟩ := C_b148X (K := K) (V := V) (p := p) (l := l) (F := F3) (wd := wd) (nb := F 6 p 7) hK hl hw n.toNat K.1 0 B4 (by omega) (by decide) (by omega) hq4 hS
  have n3 : ∀ k x, ¬ k = 3 → B5 2 l k x = B4 2 l k x := fun k x nk => v3 2 l k x (by omega)
  have eC : f_Layout_breakLines K l p wd F B = some (n, F3, B5) := by
    unfold f_Layout_breakLines
    rw [zm, if_pos h.1, if_pos (by unfold r32; omega), if_pos hl, x1, zb_s, y1', zb_s, k1]
    unfold f_Layout_breakLines_135
    rw [if_pos hl, e33, if_pos (by omega), hB4, v1, e33]
  refine ⟨n, F3, B5, Fm3, Bm3, eC, by rw [z1]; exact k2, ⟨e33, k4⟩, fun np => ⟨⟨by rw [e33, k4], LYs_f hS n3, by rw [e33]; exact np⟩, ⟨?_, by rw [e33, n3 7 _ (by decide)]; exact u7n⟩, fun j j0 j1 => ?_, fun t t0 t1 => ?_, fun t c t0 t1 c0 c1 => ?_, fun k t c k0 kn t0 t1 c0 c1 => ?_⟩⟩
  · rw [n3 7 _ (by decide), u7 7 0 (by omega)]
    exact (k11.2 0 (by decide) np).2.2.2.2.2.1 rfl
  · rw [e33] at j1
    obtain ⟨q1, q2, q3, q4, _⟩ := ln j j0 j1
    rw [n3 7 _ (by decide), n3 7 _ (by decide), n3 8 _ (by decide), n3 9 _ (by decide)]
    exact ⟨q1, q2, q3, q4⟩
  · have q := c1 (by omega) t.toNat (by omega)
    rw [show ((t.toNat : Nat) : Int) = t by omega] at q
    rw [n3 5 _ (by decide), r3 5 t (by omega), k10 13 w 42 t (by omega), mb 13 w 42 t (by omega)]
    exact q
  · rw [n3 5 _ (by decide), r3 5 _ (by omega)] at c0 c1
    obtain ⟨q1, q2⟩ := (c2 t t0 t1).2 c c0 c1
    obtain ⟨q3, _⟩ := (x6 t t0 t1).2.2.2.1 c c0 c1
    rw [n3 1 c (by decide), n3 2 c (by decide), r3 1 c (by omega), r3 2 c (by omega), k10 13 w 43 c (by omega), k10 13 w 44 c (by omega), k10 13 w 45 c (by omega), mb 13 w 43 c (by omega), mb 13 w 44 c (by omega), mb 13 w 45 c (by omega)]
    exact ⟨q1, q2, q3⟩
  · rw [e33] at kn
    rw [n3 7 _ (by decide)] at t0 t1
    rw [n3 5 _ (by decide)] at c0 c1
    rw [xV_f n3, v2 k t c k0 (by rw [e33]; exact kn) t0 t1 c0 c1, k9 13 w 47 (by omega), G47, k7 6 p 2 (by omega), fz 6 p 2 (by omega), f1 2]
end
end
