section
/-! ===== two events exchanged in the reference ===== -/
def sg2 (a b y : Int) : Int := if y = a then b else if y = b then a else y
def sg6 (a b t y : Int) : Int := if 6 * a ≤ y ∧ y < 6 * a + t then y - 6 * a + 6 * b else if 6 * b ≤ y ∧ y < 6 * b + t then y - 6 * b + 6 * a else y
def swR (w a b : Int) (n : Nat) (B B' : zB) : Prop := ∀ c i k y, B' c i k y = if c = 13 ∧ i = w ∧ 16 ≤ k ∧ k ≤ n then B 13 w k (sg2 a b y) else B c i k y
theorem swp_v {w a b y y' : Int} {k k' c : Nat} {B : zB} : (zup4 (zup4 B 13 w k a (B 13 w k b)) 13 w k b (B 13 w k a)) c y' k' y = if c = 13 ∧ y' = w ∧ k' = k then B 13 w k (sg2 a b y) else B c y' k' y := by
  rw [zup4_v, zup4_v]
  unfold sg2
  by_cases h : c = 13 ∧ y' = w ∧ k' = k
  · obtain ⟨rfl, rfl, rfl⟩ := h
    rw [if_pos (⟨rfl, rfl, rfl⟩ : (13 : Nat) = 13 ∧ y' = y' ∧ k' = k')]
    by_cases hb : y = b
    · rw [if_pos ⟨rfl, rfl, rfl, hb⟩]
      by_cases ha : y = a
      · rw [if_pos ha, ← ha, hb]
      · rw [if_neg ha, if_pos hb]
    · rw [if_neg (fun z => hb z.2.2.2)]
      by_cases ha : y = a
      · rw [if_pos ⟨rfl, rfl, rfl, ha⟩, if_pos ha]
      · rw [if_neg (fun z => ha z.2.2.2), if_neg ha, if_neg hb]
  · rw [if_neg (fun z => h ⟨z.1, z.2.1, z.2.2.1⟩), if_neg (fun z => h ⟨z.1, z.2.1, z.2.2.1⟩), if_neg h]
theorem L_sw0 {K k : Nat} {w a b : Int} {F : zF} {B : zB} (w0 : 0 ≤ w ∧ w < 3) (h : zk 13 k = (3, 0)) {L : Nat} (hL : lnM 13 0 k = L) (hL2 : L ≤ 30000) (a0 : 0 ≤ a ∧ a < L) (b0 : 0 ≤ b ∧ b < L) : f_M_swap_0 K 13 w k a b F B = some (0, F, zup4 (zup4 B 13 w k a (B 13 w k b)) 13 w k b (B 13 w k a)) := by
  have e : lnM 13 w k = L := hL
  unfold f_M_swap_0
  rw [if_pos (by rw [show nM 13 = 3 by decide]; exact w0), e, if_pos a0, if_pos h, if_pos (by first | decide | omega), if_pos b0]
theorem L_sw1 {K k : Nat} {w a b : Int} {F : zF} {B : zB} (w0 : 0 ≤ w ∧ w < 3) (h : zk 13 k = (3, 1)) {L : Nat} (hL : lnM 13 0 k = L) (hL2 : L ≤ 30000) (a0 : 0 ≤ a ∧ a < L) (b0 : 0 ≤ b ∧ b < L) : f_M_swap_1 K 13 w k a b F B = some (0, F, zup4 (zup4 B 13 w k a (B 13 w k b)) 13 w k b (B 13 w k a)) := by
  have e : lnM 13 w k = L := hL
  unfold f_M_swap_1
  rw [if_pos (by rw [show nM 13 = 3 by decide]; exact w0), e, if_pos a0, if_pos h, if_pos (by first | decide | omega), if_pos b0]
theorem swR_0 {w a b : Int} {B : zB} : swR w a b 15 B B := fun c i k y => by rw [if_neg (by first | decide | omega)]
theorem swR_s {w a b : Int} {n : Nat} {B B1 : zB} (h15 : 15 ≤ n) (h : swR w a b n B B1) : swR w a b (n + 1) B (zup4 (zup4 B1 13 w (n + 1) a (B1 13 w (n + 1) b)) 13 w (n + 1) b (B1 13 w (n + 1) a)) := fun c i k y => by
  rw [swp_v]
  by_cases e : c = 13 ∧ i = w ∧ k = n + 1
  · obtain ⟨rfl, rfl, rfl⟩ := e
    rw [if_pos ⟨rfl, rfl, rfl⟩, if_pos ⟨rfl, rfl, (by first | decide | omega), (by first | decide | omega)⟩, h, if_neg (by first | decide | omega)]
  · rw [if_neg e, h]
    by_cases g : c = 13 ∧ i = w ∧ 16 ≤ k ∧ k ≤ n
    · rw [if_pos g, if_pos (by first | decide | omega)]
    · rw [if_neg g, if_neg (by first | decide | omega)]
def sw6 (w a b t : Int) (B B' : zB) : Prop := ∀ c i k y, B' c i k y = if c = 13 ∧ i = w ∧ 16 ≤ k ∧ k ≤ 26 then B 13 w k (sg2 a b y) else if c = 13 ∧ i = w ∧ 28 ≤ k ∧ k ≤ 29 then B 13 w k (sg6 a b t y) else B c i k y
theorem sw6_s {w a b t : Int} {B B1 : zB} (ab : a < b) (t0 : 0 ≤ t) (t6 : t < 6) (h : sw6 w a b t B B1) {B2 B3 : zB} (h2 : B2 = zup4 (zup4 B1 13 w 28 (6 * a + t) (B1 13 w 28 (6 * b + t))) 13 w 28 (6 * b + t) (B1 13 w 28 (6 * a + t))) (h3 : B3 = zup4 (zup4 B2 13 w 29 (6 * a + t) (B2 13 w 29 (6 * b + t))) 13 w 29 (6 * b + t) (B2 13 w 29 (6 * a + t))) : sw6 w a b (t + 1) B B3 := by
  have key : ∀ y, sg6 a b t (sg2 (6 * a + t) (6 * b + t) y) = sg6 a b (t + 1) y := fun y => by
    unfold sg2 sg6
    by_cases e1 : y = 6 * a + t
    · rw [if_pos e1, if_neg (by first | decide | omega), if_neg (by first | decide | omega), if_pos (by first | decide | omega)]
      omega
    rw [if_neg e1]
    by_cases e2 : y = 6 * b + t
    · rw [if_pos e2, if_neg (by first | decide | omega), if_neg (by first | decide | omega), if_neg (by first | decide | omega), if_pos (by first | decide | omega)]
      omega
    rw [if_neg e2]
    by_cases e3 : 6 * a ≤ y ∧ y < 6 * a + t
    · rw [if_pos e3, if_pos (by first | decide | omega)]
    rw [if_neg e3, if_neg (show ¬ (6 * a ≤ y ∧ y < 6 * a + (t + 1)) by omega)]
    by_cases e4 : 6 * b ≤ y ∧ y < 6 * b + t
    · rw [if_pos e4, if_pos (by first | decide | omega)]
    · rw [if_neg e4, if_neg (by first | decide | omega)]
  intro c i k y
  rw [h3, swp_v, h2]
  by_cases e1 : c = 13 ∧ i = w ∧ k = 29
  · obtain ⟨rfl, rfl, rfl⟩ := e1
    rw [if_pos ⟨rfl, rfl, rfl⟩, swp_v, if_neg (by first | decide | omega), h, if_neg (by first | decide | omega), if_pos ⟨rfl, rfl, by decide, by decide⟩, if_neg (by first | decide | omega), if_pos ⟨rfl, rfl, by decide, by decide⟩, key]
  rw [if_neg e1, swp_v]
  by_cases e2 : c = 13 ∧ i = w ∧ k = 28
  · obtain ⟨rfl, rfl, rfl⟩ := e2
    rw [if_pos ⟨rfl, rfl, rfl⟩, h, if_neg (by first | decide | omega), if_pos ⟨rfl, rfl, by decide, by decide⟩, if_neg (by first | decide | omega), if_pos ⟨rfl, rfl, by decide, by decide⟩, key]
  rw [if_neg e2, h]
  by_cases e3 : c = 13 ∧ i = w ∧ 16 ≤ k ∧ k ≤ 26
  · rw [if_pos e3, if_pos e3]
  · rw [if_neg e3, if_neg e3, if_neg (by first | decide | omega), if_neg (by first | decide | omega)]
theorem L_ex6 {K : Nat} {w a b : Int} {F : zF} {B : zB} (hw : F 14 0 6 = w) (w0 : 0 ≤ w ∧ w < 3) (a0 : 0 ≤ a) (ab : a < b) (b1 : b < 4000) : ∀ (j n : Nat) {t : Int} {B1 : zB}, 0 ≤ t → t ≤ 6 → (6 - t).toNat = j → j < n → sw6 w a b t B B1 → ∃ B', f_M_exchange_134 K n t a b F B1 = some (0, F, B') ∧ sw6 w a b 6 B B' := by
  intro j
  induction j with
  | zero =>
    intro n t B1 h0 h1 hj hn h
    obtain ⟨n, rfl⟩ : ∃ m, n = m + 1 := ⟨n - 1, (by first | decide | omega)⟩
    have ht : t = 6 := by omega
    subst ht
    exact ⟨B1, by rw [f_M_exchange_134, if_pos (by decide), if_pos (by decide)], h⟩
  | succ j ih =>
    intro n t B1 h0 h1 hj hn h
    obtain ⟨n, rfl⟩ : ∃ m, n = m + 1 := ⟨n - 1, (by first | decide | omega)⟩
    obtain ⟨B', e, g⟩ := ih n (t := t + 1) (by first | decide | omega) (by first | decide | omega) (by first | decide | omega) (by first | decide | omega) (sw6_s ab h0 (by first | decide | omega) h rfl rfl)
    exact ⟨B', by rw [f_M_exchange_134, hw, if_pos (by unfold r32; omega), if_neg (by first | decide | omega), if_pos w0, L_sw0 (L := 24000) w0 (by decide) rfl (by decide) (by first | decide | omega) (by first | decide | omega), zb_s, hw, if_pos w0, L_sw0 (L := 24000) w0 (by decide) rfl (by decide) (by first | decide | omega) (by first | decide | omega), zb_s, e], g⟩
theorem L_exch {K : Nat} {w a b : Int} {F : zF} {B : zB} (hK : 10 < K) (hw : F 14 0 6 = w) (w0 : 0 ≤ w ∧ w < 3) (a0 : 0 ≤ a) (ab : a < b) (b1 : b < 4000) : ∃ B', f_M_exchange K a b F B = some (0, F, B') ∧ sw6 w a b 6 B B' := by
  have s0 : ∀ (k : Nat) (B : zB), zk 13 k = (3, 0) → lnM 13 0 k = 4000 → f_M_swap_0 K 13 w k a b F B = some (0, F, zup4 (zup4 B 13 w k a (B 13 w k b)) 13 w k b (B 13 w k a)) := fun k B h h' => L_sw0 w0 h h' (by decide) (by first | decide | omega) (by first | decide | omega)
  have s1 : ∀ (k : Nat) (B : zB), zk 13 k = (3, 1) → lnM 13 0 k = 4000 → f_M_swap_1 K 13 w k a b F B = some (0, F, zup4 (zup4 B 13 w k a (B 13 w k b)) 13 w k b (B 13 w k a)) := fun k B h h' => L_sw1 w0 h h' (by decide) (by first | decide | omega) (by first | decide | omega)
  unfold f_M_exchange
  rw [hw, if_pos w0, s1 16 _ (by decide) rfl, zb_s, hw, if_pos w0, s1 17 _ (by decide) rfl, zb_s, hw, if_pos w0]
  have r16 := swR_s (n := 15) (by decide) (swR_0 (w := w) (a := a) (b := b) (B := B))
  have r17 := swR_s (by decide) r16
  generalize zup4 (zup4 (zup4 (zup4 B 13 w 16 a (B 13 w 16 b)) 13 w 16 b (B 13 w 16 a)) 13 w 17 a ((zup4 (zup4 B 13 w 16 a (B 13 w 16 b)) 13 w 16 b (B 13 w 16 a)) 13 w 17 b)) 13 w 17 b ((zup4 (zup4 B 13 w 16 a (B 13 w 16 b)) 13 w 16 b (B 13 w 16 a)) 13 w 17 a) = B1 at r17 ⊢
  rw [s0 18 _ (by decide) rfl, zb_s, hw, if_pos w0]
  have r18 := swR_s (by decide) r17
  generalize zup4 (zup4 B1 13 w 18 a (B1 13 w 18 b)) 13 w 18 b (B1 13 w 18 a) = B2 at r18 ⊢
  rw [s0 19 _ (by decide) rfl, zb_s, hw, if_pos w0]
  have r19 := swR_s (by decide) r18
  generalize zup4 (zup4 B2 13 w 19 a (B2 13 w 19 b)) 13 w 19 b (B2 13 w 19 a) = B3 at r19 ⊢
  rw [s0 20 _ (by decide) rfl, zb_s, hw, if_pos w0]
  have r20 := swR_s (by decide) r19
  generalize zup4 (zup4 B3 13 w 20 a (B3 13 w 20 b)) 13 w 20 b (B3 13 w 20 a) = B4 at r20 ⊢
  rw [s0 21 _ (by decide) rfl, zb_s, hw, if_pos w0]
  have r21 := swR_s (by decide) r20
  generalize zup4 (zup4 B4 13 w 21 a (B4 13 w 21 b)) 13 w 21 b (B4 13 w 21 a) = B5 at r21 ⊢
  rw [s0 22 _ (by decide) rfl, zb_s, hw, if_pos w0]
  have r22 := swR_s (by decide) r21
  generalize zup4 (zup4 B5 13 w 22 a (B5 13 w 22 b)) 13 w 22 b (B5 13 w 22 a) = B6 at r22 ⊢
  rw [s0 23 _ (by decide) rfl, zb_s, hw, if_pos w0]
  have r23 := swR_s (by decide) r22
  generalize zup4 (zup4 B6 13 w 23 a (B6 13 w 23 b)) 13 w 23 b (B6 13 w 23 a) = B7 at r23 ⊢
  rw [s0 24 _ (by decide) rfl, zb_s, hw, if_pos w0]
  have r24 := swR_s (by decide) r23
  generalize zup4 (zup4 B7 13 w 24 a (B7 13 w 24 b)) 13 w 24 b (B7 13 w 24 a) = B8 at r24 ⊢
  rw [s0 25 _ (by decide) rfl, zb_s, hw, if_pos w0]
  have r25 := swR_s (by decide) r24
  generalize zup4 (zup4 B8 13 w 25 a (B8 13 w 25 b)) 13 w 25 b (B8 13 w 25 a) = B9 at r25 ⊢
  rw [s0 26 _ (by decide) rfl, zb_s]
  have r26 := swR_s (by decide) r25
  generalize zup4 (zup4 B9 13 w 26 a (B9 13 w 26 b)) 13 w 26 b (B9 13 w 26 a) = B10 at r26 ⊢
  refine L_ex6 hw w0 a0 ab b1 6 K (t := 0) (by decide) (by decide) (by decide) (by first | decide | omega) ?_
  intro c i k y
  rw [r26]
  by_cases e : c = 13 ∧ i = w ∧ 16 ≤ k ∧ k ≤ 26
  · rw [if_pos e, if_pos e]
  · rw [if_neg e, if_neg e]
    by_cases e2 : c = 13 ∧ i = w ∧ 28 ≤ k ∧ k ≤ 29
    · rw [if_pos e2]
      unfold sg6
      rw [if_neg (by first | decide | omega), if_neg (by first | decide | omega), e2.1, e2.2.1]
    · rw [if_neg e2]
end
