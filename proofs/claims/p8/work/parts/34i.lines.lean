section
/-! ===== lines: the reference's side ===== -/
section
variable {K : Nat} {w : Int}
theorem L_ahd {F : zF} {B : zB} {a : Int} (w0 : 0 ≤ w ∧ w < 3) (h2 : -7 ≤ F 13 w 2 ∧ F 13 w 2 ≤ 7) (ha : r32 a) : ∃ r, f_M_ahead K w a F B = some (r, F, B) ∧ 0 ≤ r ∧ r ≤ 100 := by
  have key : ∀ s : Int, 0 ≤ s ∧ s ≤ 7 → ∃ r, f_M_ahead_22 K a 24 5 s F B = some (r, F, B) ∧ 0 ≤ r ∧ r ≤ 100 := fun s hs => by
    unfold f_M_ahead_22 f_M_ahead_34
    rw [if_pos ha]
    by_cases c : a = 0
    · rw [if_pos c]; exact ⟨_, rfl, (by first | decide | omega), (by first | decide | omega)⟩
    · rw [if_neg c]; exact ⟨_, rfl, (by first | decide | omega), (by first | decide | omega)⟩
  unfold f_M_ahead
  rw [if_pos w0, if_pos (by unfold r32; omega)]
  by_cases c : 0 ≤ F 13 w 2
  · rw [if_pos c]; exact key _ (by first | decide | omega)
  · rw [if_neg c]; exact key _ (by first | decide | omega)
theorem L_lw9 {F : zF} {B : zB} {a b : Int} (w0 : 0 ≤ w ∧ w < 3) (h46 : ∀ x, 0 ≤ B 13 w 46 x ∧ B 13 w 46 x ≤ 400000) (ha : 0 ≤ a) (hb : 0 ≤ b) (hab : a + b ≤ 100) : ∀ (d N : Nat) (j v : Int), a + b ≤ j + d → 0 ≤ j → j ≤ 100 → d < N → (0 ≤ v ∧ v ≤ 100 + 400000 * j) → ∃ r, f_M_lineWide_9 K N j v w a b F B = some (r, F, B) ∧ 0 ≤ r ∧ r ≤ 50000000 := by
  intro d
  induction d with
  | zero =>
    intro N j v hj j0 j1 hN hv
    obtain ⟨n, rfl⟩ : ∃ n, N = n + 1 := ⟨N - 1, (by first | decide | omega)⟩
    rw [f_M_lineWide_9, if_pos (by unfold r32; omega), if_pos (by unfold r32; omega), if_pos (by first | decide | omega)]
    exact ⟨v, rfl, (by first | decide | omega), (by first | decide | omega)⟩
  | succ d ih =>
    intro N j v hj j0 j1 hN hv
    obtain ⟨n, rfl⟩ : ∃ n, N = n + 1 := ⟨N - 1, (by first | decide | omega)⟩
    rw [f_M_lineWide_9, if_pos (by unfold r32; omega), if_pos (by unfold r32; omega)]
    by_cases c : a + b ≤ j
    · rw [if_pos c]; exact ⟨v, rfl, (by first | decide | omega), (by first | decide | omega)⟩
    · have k := h46 j
      rw [if_neg c, if_pos w0, if_pos (by first | decide | omega)]
      exact ih n (j + 1) _ (by first | decide | omega) (by first | decide | omega) (by first | decide | omega) (by first | decide | omega) (by first | decide | omega)
theorem L_lw {F : zF} {B : zB} {a b : Int} (hK : 200 ≤ K) (w0 : 0 ≤ w ∧ w < 3) (h2 : -7 ≤ F 13 w 2 ∧ F 13 w 2 ≤ 7) (h46 : ∀ x, 0 ≤ B 13 w 46 x ∧ B 13 w 46 x ≤ 400000) (ha : 0 ≤ a) (hb : 0 ≤ b) (hab : a + b ≤ 100) : ∃ r, f_M_lineWide K w a b F B = some (r, F, B) ∧ 0 ≤ r ∧ r ≤ 50000000 := by
  obtain ⟨r, e, r0, r1⟩ := L_ahd (K := K) (B := B) w0 h2 (a := a) (by unfold r32; omega)
  unfold f_M_lineWide
  rw [e, zb_s]
  exact L_lw9 w0 h46 ha hb hab 100 K a r (by first | decide | omega) ha (by first | decide | omega) (by first | decide | omega) (by first | decide | omega)
theorem L_prc {F : zF} {B : zB} {a b wd : Int} (hK : 200 ≤ K) (w0 : 0 ≤ w ∧ w < 3) (h2 : -7 ≤ F 13 w 2 ∧ F 13 w 2 ≤ 7) (h7 : 0 ≤ F 13 w 7 ∧ F 13 w 7 ≤ 100) (h46 : ∀ x, 0 ≤ B 13 w 46 x ∧ B 13 w 46 x ≤ 400000) (ha : 0 ≤ a) (hb : 0 ≤ b) (hab : a + b ≤ 100) (hw : 0 ≤ wd ∧ wd ≤ 2000) : ∃ r, f_M_price K w a b wd F B = some (r, F, B) ∧ -1 ≤ r ∧ r ≤ 10000000000000000 ∧ (b ≤ 1 → 0 ≤ r) := by
  obtain ⟨r, e, r0, r1⟩ := L_lw hK w0 h2 h46 ha hb hab
  unfold f_M_price f_M_price_43 f_M_price_69
  rw [e, zb_s, if_pos (by unfold r32; omega), if_pos (by unfold r32; omega), if_pos (by unfold r64; omega), if_pos (by unfold r64; omega)]
  by_cases c : zcmp r wd ≤ 0
  · have le : r ≤ wd := by unfold zcmp at c; split at c <;> omega
    have m1 : 0 ≤ (wd - r) * (wd - r) := Int.mul_nonneg (by first | decide | omega) (by first | decide | omega)
    have m2 : (wd - r) * (wd - r) ≤ 2000 * 2000 := Int.mul_le_mul (by first | decide | omega) (by first | decide | omega) (by first | decide | omega) (by first | decide | omega)
    rw [if_pos c, if_pos w0, if_pos (by unfold r32; omega), if_pos (by unfold r32; omega)]
    by_cases c' : a + b = F 13 w 7
    · rw [if_pos c']; exact ⟨0, rfl, (by first | decide | omega), (by first | decide | omega), fun _ => (by first | decide | omega)⟩
    · rw [if_neg c']; exact ⟨_, rfl, (by first | decide | omega), (by first | decide | omega), fun _ => (by first | decide | omega)⟩
  · have le : wd < r := by unfold zcmp at c; split at c <;> omega
    have m1 : 0 ≤ 4 * (r - wd) * (r - wd) := Int.mul_nonneg (by first | decide | omega) (by first | decide | omega)
    have m2 : 4 * (r - wd) * (r - wd) ≤ 200000000 * 50000000 := Int.mul_le_mul (by first | decide | omega) (by first | decide | omega) (by first | decide | omega) (by first | decide | omega)
    rw [if_neg c, if_pos (by unfold r32; omega)]
    by_cases c' : b ≤ 1
    · rw [if_pos c']; exact ⟨_, rfl, (by first | decide | omega), (by first | decide | omega), fun _ => m1⟩
    · rw [if_neg c']; exact ⟨_, rfl, (by first | decide | omega), (by first | decide | omega), fun z => absurd z c'⟩
/-- what choosing may change -/
def lcB (B B' : zB) : Prop := ∀ c y k x, ¬ (c = 14 ∧ y = 0 ∧ (k = 59 ∨ k = 60)) → B' c y k x = B c y k x
theorem lcB_t {B B1 B2 : zB} (h : lcB B B1) (h' : lcB B1 B2) : lcB B B2 := fun c y k x n => by rw [h' c y k x n, h c y k x n]
theorem lcB_w {B : zB} {k : Nat} {i x : Int} (hk : k = 59 ∨ k = 60) : lcB B (zup4 B 14 0 k i x) := fun c y j z n => by rw [zup4_v, if_neg (by first | decide | omega)]
theorem L_l60 {F : zF} {nb wd a : Int} {rec : Int → Int → Int → zF → zB → zO} (hK : 200 ≤ K) (w0 : 0 ≤ w ∧ w < 3) (h2 : -7 ≤ F 13 w 2 ∧ F 13 w 2 ≤ 7) (h7 : F 13 w 7 = nb) (n0 : 0 ≤ nb ∧ nb ≤ 100) (ha : 0 ≤ a ∧ a < nb) (hw : 0 ≤ wd ∧ wd ≤ 2000) : ∀ (d N : Nat) (j : Int) (B : zB), nb + 1 ≤ a + j + d → 1 ≤ j → j ≤ 101 → d < N → (∀ x, 0 ≤ B 13 w 46 x ∧ B 13 w 46 x ≤ 400000) → (∀ i, a < i → i ≤ nb → 0 ≤ B 14 0 59 i ∧ B 14 0 59 i ≤ 10000000000000000 * (nb - i)) → ((j = 1 ∧ B 14 0 60 a = 0) ∨ (1 ≤ B 14 0 60 a ∧ B 14 0 60 a ≤ nb - a ∧ 0 ≤ B 14 0 59 a ∧ B 14 0 59 a ≤ 10000000000000000 * (nb - a))) → ∃ B', f_M_lines_60 rec K N j a w wd F B = rec (a - 1) w wd F B' ∧ lcB B B' ∧ (∀ k x, ¬ x = a → B' 14 0 k x = B 14 0 k x) ∧ (1 ≤ B' 14 0 60 a ∧ B' 14 0 60 a ≤ nb - a) ∧ (0 ≤ B' 14 0 59 a ∧ B' 14 0 59 a ≤ 10000000000000000 * (nb - a)) := by
  intro d
  induction d with
  | zero =>
    intro N j B hj j0 j1 hN h46 h59 hs
    obtain ⟨n, rfl⟩ : ∃ n, N = n + 1 := ⟨N - 1, (by first | decide | omega)⟩
    rw [f_M_lines_60, if_pos w0, if_pos (by unfold r32; omega), h7, if_pos (by unfold r32; omega), if_pos (by first | decide | omega)]
    exact ⟨B, rfl, fun _ _ _ _ _ => rfl, fun _ _ _ => rfl, (by first | decide | omega), (by first | decide | omega)⟩
  | succ d ih =>
    intro N j B hj j0 j1 hN h46 h59 hs
    obtain ⟨n, rfl⟩ : ∃ n, N = n + 1 := ⟨N - 1, (by first | decide | omega)⟩
    rw [f_M_lines_60, if_pos w0, if_pos (by unfold r32; omega), h7, if_pos (by unfold r32; omega)]
    by_cases c : nb < a + j
    · rw [if_pos c]
      exact ⟨B, rfl, fun _ _ _ _ _ => rfl, fun _ _ _ => rfl, (by first | decide | omega), (by first | decide | omega)⟩
    obtain ⟨r, e, r0, r1, r2⟩ := L_prc hK w0 h2 (by first | decide | omega) h46 ha.1 (b := j) (by first | decide | omega) (by first | decide | omega) hw
    have k59 := h59 (a + j) (by first | decide | omega) (by first | decide | omega)
    rw [if_neg c, e, zb_s, if_pos (by unfold r64; omega)]
    have o134 : 0 ≤ r → ∃ B', f_M_lines_134 rec (f_M_lines_60 rec K n) K (r + B 14 0 59 (a + j)) j a w wd F B = rec (a - 1) w wd F B' ∧ lcB B B' ∧ (∀ k x, ¬ x = a → B' 14 0 k x = B 14 0 k x) ∧ (1 ≤ B' 14 0 60 a ∧ B' 14 0 60 a ≤ nb - a) ∧ (0 ≤ B' 14 0 59 a ∧ B' 14 0 59 a ≤ 10000000000000000 * (nb - a)) := fun rp => by
      unfold f_M_lines_134 f_M_lines_152
      rw [if_pos (by first | decide | omega)]
      obtain ⟨B', g1, g2, g3, g4, g5⟩ := ih n (j + 1) (zup4 (zup4 B 14 0 59 a (r + B 14 0 59 (a + j))) 14 0 60 a j) (by first | decide | omega) (by first | decide | omega) (by first | decide | omega) (by first | decide | omega) (fun x => by rw [zup4_v, if_neg (by first | decide | omega), zup4_v, if_neg (by first | decide | omega)]; exact h46 x) (fun i i0 i1 => by rw [zup4_v, if_neg (by first | decide | omega), zup4_v, if_neg (by first | decide | omega)]; exact h59 i i0 i1) (Or.inr (by
        rw [zup4_v, if_pos ⟨rfl, rfl, rfl, rfl⟩, zup4_v, if_neg (by first | decide | omega), zup4_v, if_pos ⟨rfl, rfl, rfl, rfl⟩]
        omega))
      exact ⟨B', g1, lcB_t (lcB_t (lcB_w (by first | decide | omega)) (lcB_w (by first | decide | omega))) g2, fun k x hx => by rw [g3 k x hx, zup4_v, if_neg (by first | decide | omega), zup4_v, if_neg (by first | decide | omega)], g4, g5⟩
    by_cases c1 : 0 ≤ zcmp r 0
    · have rp : 0 ≤ r := by unfold zcmp at c1; split at c1 <;> omega
      have r60 : r32 (B 14 0 60 a) := by
        clear o134 ih
        rcases hs with z | z
        · unfold r32; omega
        · unfold r32; omega
      rw [if_pos c1, if_pos (by clear o134; omega), if_pos (by clear o134; omega), if_pos r60]
      by_cases c2 : B 14 0 60 a ≤ 0
      · rw [if_pos c2]; exact o134 rp
      · have q : 1 ≤ B 14 0 60 a ∧ B 14 0 60 a ≤ nb - a ∧ 0 ≤ B 14 0 59 a ∧ B 14 0 59 a ≤ 10000000000000000 * (nb - a) := by
          rcases hs with z | z
          · omega
          · exact z
        rw [if_neg c2, if_pos (by unfold r64; omega), if_pos (by unfold r64; omega)]
        by_cases c3 : zcmp (r + B 14 0 59 (a + j)) (B 14 0 59 a) ≤ 0
        · rw [if_pos c3]; exact o134 rp
        · rw [if_neg c3]
          exact ih n (j + 1) B (by first | decide | omega) (by first | decide | omega) (by first | decide | omega) (by first | decide | omega) h46 h59 (Or.inr q)
    · have rn : r < 0 := by
        rcases Int.lt_or_le r 0 with z | z
        · exact z
        · refine absurd ?_ c1
          unfold zcmp
          split
          · omega
          · split <;> omega
      rw [if_neg c1]
      refine ih n (j + 1) B (by first | decide | omega) (by first | decide | omega) (by first | decide | omega) (by first | decide | omega) h46 h59 (Or.inr ?_)
      rcases hs with ⟨z, _⟩ | z
      · have := r2 (by first | decide | omega); omega
      · exact z
theorem L_l44 {F : zF} {nb wd : Int} (hK : 200 ≤ K) (w0 : 0 ≤ w ∧ w < 3) (h2 : -7 ≤ F 13 w 2 ∧ F 13 w 2 ≤ 7) (h7 : F 13 w 7 = nb) (n0 : 0 ≤ nb ∧ nb ≤ 100) (hw : 0 ≤ wd ∧ wd ≤ 2000) : ∀ (d N : Nat) (a : Int) (B : zB), a + 1 = d → a < nb → d < N → (∀ x, 0 ≤ B 13 w 46 x ∧ B 13 w 46 x ≤ 400000) → (∀ i, a < i → i ≤ nb → 0 ≤ B 14 0 59 i ∧ B 14 0 59 i ≤ 10000000000000000 * (nb - i)) → (∀ i, a < i → i < nb → 1 ≤ B 14 0 60 i ∧ B 14 0 60 i ≤ nb - i) → ∃ B', f_M_lines_44 K N a w wd F B = f_M_lines_177 K K 0 w wd (zup3 (zup3 F 13 w 48 0) 13 w 47 wd) B' ∧ lcB B B' ∧ (∀ i, 0 ≤ i → i < nb → 1 ≤ B' 14 0 60 i ∧ B' 14 0 60 i ≤ nb - i) := by
  intro d
  induction d with
  | zero =>
    intro N a B ha a1 hN h46 h59 h60
    obtain ⟨n, rfl⟩ : ∃ n, N = n + 1 := ⟨N - 1, (by first | decide | omega)⟩
    rw [f_M_lines_44, if_pos (by unfold r32; omega), if_pos (by first | decide | omega), if_pos w0]
    exact ⟨B, rfl, fun _ _ _ _ _ => rfl, fun i i0 i1 => h60 i (by first | decide | omega) i1⟩
  | succ d ih =>
    intro N a B ha a1 hN h46 h59 h60
    obtain ⟨n, rfl⟩ : ∃ n, N = n + 1 := ⟨N - 1, (by first | decide | omega)⟩
    rw [f_M_lines_44, if_pos (by unfold r32; omega), if_neg (by first | decide | omega), if_pos (by first | decide | omega)]
    obtain ⟨B1, g1, g2, g3, g4, g5⟩ := L_l60 (F := F) (nb := nb) (wd := wd) (a := a) (rec := f_M_lines_44 K n) hK w0 h2 h7 n0 (by first | decide | omega) hw 101 K 1 (zup4 B 14 0 60 a 0) (by first | decide | omega) (by first | decide | omega) (by first | decide | omega) (by first | decide | omega) (fun x => by rw [zup4_v, if_neg (by first | decide | omega)]; exact h46 x) (fun i i0 i1 => by rw [zup4_v, if_neg (by first | decide | omega)]; exact h59 i i0 i1) (Or.inl ⟨rfl, by rw [zup4_v, if_pos ⟨rfl, rfl, rfl, rfl⟩]⟩)
    have e1 : ∀ k i, ¬ i = a → B1 14 0 k i = B 14 0 k i := fun k i hi => by rw [g3 k i hi, zup4_v, if_neg (by first | decide | omega)]
    rw [g1]
    obtain ⟨B2, k1, k2, k3⟩ := ih n (a - 1) B1 (by first | decide | omega) (by first | decide | omega) (by first | decide | omega) (fun x => by rw [g2 13 w 46 x (by first | decide | omega), zup4_v, if_neg (by first | decide | omega)]; exact h46 x) (fun i i0 i1 => by
      by_cases e : i = a
      · rw [e]; exact g5
      · rw [e1 59 i e]; exact h59 i (by first | decide | omega) i1) (fun i i0 i1 => by
      by_cases e : i = a
      · rw [e]; exact g4
      · rw [e1 60 i e]; exact h60 i (by first | decide | omega) i1)
    exact ⟨B2, k1, lcB_t (lcB_w (by first | decide | omega)) (lcB_t g2 k2), k3⟩
/-- lines told so far -/
def LNp (w nb i a : Int) (B : zB) : Prop := (0 ≤ i ∧ i ≤ a ∧ a ≤ nb) ∧ (∀ j, 0 ≤ j → j < i → 0 ≤ B 13 w 49 j ∧ 1 ≤ B 13 w 50 j ∧ B 13 w 49 j + B 13 w 50 j ≤ nb ∧ r32 (B 13 w 51 j)) ∧ (0 < i → B 13 w 49 0 = 0) ∧ (∀ j, 0 ≤ j → j + 1 < i → B 13 w 49 (j + 1) = B 13 w 49 j + B 13 w 50 j) ∧ (0 < i → B 13 w 49 (i - 1) + B 13 w 50 (i - 1) = a) ∧ (i = 0 → a = 0)
theorem L_l177 {nb wd : Int} {F0 : zF} {B0 : zB} (hK : 200 ≤ K) (w0 : 0 ≤ w ∧ w < 3) (h2 : -7 ≤ F0 13 w 2 ∧ F0 13 w 2 ≤ 7) (h7 : F0 13 w 7 = nb) (n0 : 0 ≤ nb ∧ nb ≤ 100) (hw : 0 ≤ wd ∧ wd ≤ 2000) (h46 : ∀ x, 0 ≤ B0 13 w 46 x ∧ B0 13 w 46 x ≤ 400000) (h60 : ∀ i, 0 ≤ i → i < nb → 1 ≤ B0 14 0 60 i ∧ B0 14 0 60 i ≤ nb - i) : ∀ (d N : Nat) (a i : Int) (F : zF) (B : zB), nb ≤ a + d → d < N → 0 ≤ a → F 13 w 48 = i → (∀ c y k, ¬ (c = 13 ∧ y = w ∧ k = 48) → F c y k = F0 c y k) → (∀ c y k x, ¬ (c = 13 ∧ y = w ∧ 49 ≤ k ∧ k ≤ 52) → B c y k x = B0 c y k x) → LNp w nb i a B → ∃ r F' B', f_M_lines_177 K N a w wd F B = some (r, F', B') ∧ (∀ c y k, ¬ (c = 13 ∧ y = w ∧ k = 48) → F' c y k = F0 c y k) ∧ (∀ c y k x, ¬ (c = 13 ∧ y = w ∧ 49 ≤ k ∧ k ≤ 52) → B' c y k x = B0 c y k x) ∧ ∃ i', F' 13 w 48 = i' ∧ LNp w nb i' nb B' := by
  intro d
  induction d with
  | zero =>
    intro N a i F B hd hN a0 h48 f b hp
    obtain ⟨n, rfl⟩ : ∃ n, N = n + 1 := ⟨N - 1, (by first | decide | omega)⟩
    have ea : a = nb := by have := hp.1; omega
    rw [f_M_lines_177, if_pos w0, if_pos (by unfold r32; omega), f 13 w 7 (by first | decide | omega), h7, if_pos (by unfold r32; omega), if_pos (by first | decide | omega)]
    exact ⟨_, F, B, rfl, f, b, i, h48, by rw [ea] at hp; exact hp⟩
  | succ d ih =>
    intro N a i F B hd hN a0 h48 f b hp
    obtain ⟨n, rfl⟩ : ∃ n, N = n + 1 := ⟨N - 1, (by first | decide | omega)⟩
    have hp1 := hp.1
    rw [f_M_lines_177, if_pos w0, if_pos (by unfold r32; omega), f 13 w 7 (by first | decide | omega), h7, if_pos (by unfold r32; omega)]
    by_cases c : nb ≤ a
    · have ea : a = nb := by have := hp.1; omega
      rw [if_pos c]
      exact ⟨_, F, B, rfl, f, b, i, h48, by rw [ea] at hp; exact hp⟩
    obtain ⟨⟨p1, p2, p3⟩, p4, p5, p6, p7, p8⟩ := hp
    have k60 := h60 a a0 (by first | decide | omega)
    have b60 : B 14 0 60 a = B0 14 0 60 a := b 14 0 60 a (by first | decide | omega)
    have u1 : (zup4 B 13 w 49 i a) 14 0 60 a = B0 14 0 60 a := by rw [zup4_v, if_neg (by first | decide | omega), b60]
    generalize hz : B0 14 0 60 a = z at *
    have u2 : (zup4 (zup4 B 13 w 49 i a) 13 w 50 i z) 14 0 60 a = z := by rw [zup4_v, if_neg (by first | decide | omega)]; exact u1
    rw [if_neg c, h48, if_pos (by first | decide | omega), if_pos (by first | decide | omega), u1, u2]
    have hB1 : ∀ c y k x, ¬ (c = 13 ∧ y = w ∧ 49 ≤ k ∧ k ≤ 52) → (zup4 (zup4 B 13 w 49 i a) 13 w 50 i z) c y k x = B0 c y k x := fun c y k x q => by rw [zup4_v, if_neg (by first | decide | omega), zup4_v, if_neg (by first | decide | omega)]; exact b c y k x q
    have e49 : ∀ j, (zup4 (zup4 B 13 w 49 i a) 13 w 50 i z) 13 w 49 j = if j = i then a else B 13 w 49 j := fun j => by
      rw [zup4_v, if_neg (by first | decide | omega), zup4_v]
      by_cases q : j = i
      · rw [if_pos ⟨rfl, rfl, rfl, q⟩, if_pos q]
      · rw [if_neg (fun k => q k.2.2.2), if_neg q]
    have e50 : ∀ j, (zup4 (zup4 B 13 w 49 i a) 13 w 50 i z) 13 w 50 j = if j = i then z else B 13 w 50 j := fun j => by
      rw [zup4_v]
      by_cases q : j = i
      · rw [if_pos ⟨rfl, rfl, rfl, q⟩, if_pos q]
      · rw [if_neg (fun k => q k.2.2.2), if_neg q, zup4_v, if_neg (by first | decide | omega)]
    have e51 : ∀ j, (zup4 (zup4 B 13 w 49 i a) 13 w 50 i z) 13 w 51 j = B 13 w 51 j := fun j => by rw [zup4_v, if_neg (by first | decide | omega), zup4_v, if_neg (by first | decide | omega)]
    generalize zup4 (zup4 B 13 w 49 i a) 13 w 50 i z = B1 at hB1 e49 e50 e51 u2 ⊢
    have f2 : -7 ≤ F 13 w 2 ∧ F 13 w 2 ≤ 7 := by rw [f 13 w 2 (by first | decide | omega)]; exact h2
    have f7 : 0 ≤ F 13 w 7 ∧ F 13 w 7 ≤ 100 := by rw [f 13 w 7 (by first | decide | omega), h7]; exact n0
    obtain ⟨t, e, t0, t1⟩ := L_lw (K := K) (F := F) (B := B1) (a := a) (b := z) hK w0 f2 (fun x => by rw [hB1 13 w 46 x (by first | decide | omega)]; exact h46 x) a0 (by first | decide | omega) (by first | decide | omega)
    rw [e, zb_s]
    have v2 : (zup4 B1 13 w 51 i t) 14 0 60 a = z := by rw [zup4_v, if_neg (by first | decide | omega)]; exact u2
    rw [v2]
    obtain ⟨r, e', _⟩ := L_prc (K := K) (F := F) (B := zup4 B1 13 w 51 i t) (a := a) (b := z) hK w0 f2 f7 (fun x => by rw [zup4_v, if_neg (by first | decide | omega), hB1 13 w 46 x (by first | decide | omega)]; exact h46 x) a0 (by first | decide | omega) (by first | decide | omega) hw
    have v3 : (zup4 (zup4 B1 13 w 51 i t) 13 w 52 i r) 14 0 60 a = z := by rw [zup4_v, if_neg (by first | decide | omega)]; exact v2
    rw [e', zb_s, h48, if_pos (by first | decide | omega), v3]
    have x49 : ∀ j, (zup4 (zup4 B1 13 w 51 i t) 13 w 52 i r) 13 w 49 j = B1 13 w 49 j := fun j => by rw [zup4_v, if_neg (by first | decide | omega), zup4_v, if_neg (by first | decide | omega)]
    have x50 : ∀ j, (zup4 (zup4 B1 13 w 51 i t) 13 w 52 i r) 13 w 50 j = B1 13 w 50 j := fun j => by rw [zup4_v, if_neg (by first | decide | omega), zup4_v, if_neg (by first | decide | omega)]
    have x51 : ∀ j, (zup4 (zup4 B1 13 w 51 i t) 13 w 52 i r) 13 w 51 j = if j = i then t else B1 13 w 51 j := fun j => by
      rw [zup4_v, if_neg (by first | decide | omega), zup4_v]
      by_cases q : j = i
      · rw [if_pos ⟨rfl, rfl, rfl, q⟩, if_pos q]
      · rw [if_neg (fun k => q k.2.2.2), if_neg q]
    have hB3 : ∀ c y k x, ¬ (c = 13 ∧ y = w ∧ 49 ≤ k ∧ k ≤ 52) → (zup4 (zup4 B1 13 w 51 i t) 13 w 52 i r) c y k x = B0 c y k x := fun c y k x q => by rw [zup4_v, if_neg (by first | decide | omega), zup4_v, if_neg (by first | decide | omega)]; exact hB1 c y k x q
    generalize zup4 (zup4 B1 13 w 51 i t) 13 w 52 i r = B3 at x49 x50 x51 hB3 ⊢
    refine ih n (a + z) (i + 1) _ B3 (by first | decide | omega) (by first | decide | omega) (by first | decide | omega) (by rw [zup3_v, if_pos ⟨rfl, rfl, rfl⟩]) (fun c y k q => by rw [zup3_v, if_neg (by first | decide | omega)]; exact f c y k q) hB3 ⟨(by first | decide | omega), fun j j0 j1 => ?_, fun _ => ?_, fun j j0 j1 => ?_, fun _ => ?_, fun q => (by first | decide | omega)⟩
    · rw [x49, x50, x51, e49, e50, e51]
      by_cases q : j = i
      · rw [if_pos q, if_pos q, if_pos q]
        exact ⟨a0, k60.1, (by first | decide | omega), by unfold r32; omega⟩
      · rw [if_neg q, if_neg q, if_neg q]
        exact p4 j j0 (by first | decide | omega)
    · rw [x49, e49]
      by_cases q : (0 : Int) = i
      · rw [if_pos q]; exact p8 q.symm
      · rw [if_neg q]; exact p5 (by first | decide | omega)
    · rw [x49, x49, x50, e49, e49, e50]
      by_cases q : j + 1 = i
      · rw [if_pos q, if_neg (by first | decide | omega), if_neg (by first | decide | omega)]
        have := p7 (by first | decide | omega)
        rw [show i - 1 = j by omega] at this
        omega
      · rw [if_neg q, if_neg (by first | decide | omega), if_neg (by first | decide | omega)]
        exact p6 j j0 (by first | decide | omega)
    · rw [x49, x50, e49, e50, if_pos (by first | decide | omega), if_pos (by first | decide | omega)]
end
end
