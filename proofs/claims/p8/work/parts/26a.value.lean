section
/-! ===== values of notes: strengths and choice, as the class has them ===== -/
/-- the value k in parts of 512 of a whole -/
def fv (k : Int) : Int := (512 / 2 ^ (k / 3).toNat) * (if k % 3 = 0 then 7 else if k % 3 = 1 then 6 else 4) / 4
def bc (n d : Int) : Int := if 8 ≤ d ∧ n % 3 = 0 then 3 else if d ≤ 4 then 1 else 2
def st5 (u a : Int) : Int := if a % u = 0 then 6 else if a % (u / 2) = 0 then 5 else if a % (u / 4) = 0 then 4 else if a % (u / 8) = 0 then 3 else if a % (u / 16) = 0 then 2 else 1
/-- the strength of the place a -/
def st (n d a : Int) : Int := if a = 0 ∨ a = 512 / d * n then 9 else if n % 2 = 0 ∧ 2 * a = 512 / d * n then 8 else if a % (512 / d * bc n d) = 0 then 7 else st5 (512 / d) a
abbrev bw (p f t : Int) : Prop := (f / p + 1) * p < t
def bt5 (u f t : Int) : Int := if bw u f t then 6 else if bw (u / 2) f t then 5 else if bw (u / 4) f t then 4 else if bw (u / 8) f t then 3 else if bw (u / 16) f t then 2 else 1
/-- the greatest strength between f and t -/
def bt (n d f t : Int) : Int := if n % 2 = 0 ∧ 2 * f < 512 / d * n ∧ 512 / d * n < 2 * t then 8 else if bw (512 / d * bc n d) f t then 7 else bt5 (512 / d) f t
def mx (a b : Int) : Int := if a ≤ b then b else a
abbrev stnd (n d f k : Int) : Prop := bt n d f (f + fv k) ≤ mx (st n d f) (st n d (f + fv k))
/-- the first of m from k on for which P holds -/
def fsN (P : Int → Bool) : Nat → Int → Int
  | 0, _ => -1
  | m + 1, k => if P k = true then k else fsN P m (k + 1)
def gvF (l : Int) : Int := if fsN (fun k => decide (fv k ≤ l)) 24 0 < 0 then 23 else fsN (fun k => decide (fv k ≤ l)) 24 0
def nvF (n d f l : Int) : Int := if fsN (fun k => decide (fv k ≤ l ∧ stnd n d f k)) 24 0 < 0 then gvF l else fsN (fun k => decide (fv k ≤ l ∧ stnd n d f k)) 24 0
theorem fv_f : ∀ k : Fin 24, (0 ≤ 2 - zrm (k.val : Int) 3 ∧ 2 - zrm (k.val : Int) 3 < ztl 4) ∧ zdv ((zshr 512 (zdv (k.val : Int) 3)) * (ztv 4 (2 - zrm (k.val : Int) 3))) 4 = fv (k.val : Int) ∧ 4 ≤ fv (k.val : Int) ∧ fv (k.val : Int) ≤ 896 := by decide +kernel
theorem C_fine {K : zK} {k : Int} {F : zF} {B : zB} (h0 : 0 ≤ k) (h1 : k < 24) : f_S_fineValue K k F B = some (fv k, F, B) := by
  have h := fv_f ⟨k.toNat, (by first | decide | omega)⟩
  rw [show (((⟨k.toNat, (by first | decide | omega)⟩ : Fin 24).val : Nat) : Int) = k by show ((k.toNat : Nat) : Int) = k; omega] at h
  unfold f_S_fineValue
  rw [if_pos h.1, h.2.1]
theorem fv_b {k : Int} (h0 : 0 ≤ k) (h1 : k < 24) : 4 ≤ fv k ∧ fv k ≤ 896 := by
  have h := fv_f ⟨k.toNat, (by first | decide | omega)⟩
  rw [show (((⟨k.toNat, (by first | decide | omega)⟩ : Fin 24).val : Nat) : Int) = k by show ((k.toNat : Nat) : Int) = k; omega] at h
  exact h.2.2
theorem fsN_r {P : Int → Bool} : ∀ (m : Nat) {k : Int}, 0 ≤ k → fsN P m k = -1 ∨ (k ≤ fsN P m k ∧ fsN P m k < k + m ∧ P (fsN P m k) = true) := by
  intro m
  induction m with
  | zero => intro k _; exact Or.inl rfl
  | succ m ih =>
    intro k h0
    unfold fsN
    by_cases c : P k = true
    · rw [if_pos c]; exact Or.inr ⟨Int.le_refl _, (by first | decide | omega), c⟩
    · rw [if_neg c]
      rcases ih (k := k + 1) (by first | decide | omega) with h | ⟨h1, h2, h3⟩
      · exact Or.inl h
      · exact Or.inr ⟨(by first | decide | omega), (by first | decide | omega), h3⟩
theorem fsN_n {P : Int → Bool} : ∀ (m : Nat) {k : Int}, 0 ≤ k → ∀ j, k ≤ j → j < k + m → (j < fsN P m k ∨ fsN P m k < 0) → P j = false := by
  intro m
  induction m with
  | zero => intro k _ j a b; omega
  | succ m ih =>
    intro k h0 j a b c
    unfold fsN at c
    by_cases e : P k = true
    · rw [if_pos e] at c; omega
    · rw [if_neg e] at c
      by_cases z : j = k
      · rw [z]; cases h : P k with
        | true => exact absurd h e
        | false => rfl
      · exact ih (by first | decide | omega) j (by first | decide | omega) (by first | decide | omega) c
theorem gvF_b {l : Int} : 0 ≤ gvF l ∧ gvF l < 24 := by
  unfold gvF
  rcases fsN_r (P := fun k => decide (fv k ≤ l)) 24 (k := 0) (Int.le_refl _) with h | ⟨h1, h2, _⟩
  · rw [h, if_pos (by decide)]; decide
  · rw [if_neg (by first | decide | omega)]; omega
theorem nvF_b {n d f l : Int} : 0 ≤ nvF n d f l ∧ nvF n d f l < 24 := by
  unfold nvF
  rcases fsN_r (P := fun k => decide (fv k ≤ l ∧ stnd n d f k)) 24 (k := 0) (Int.le_refl _) with h | ⟨h1, h2, _⟩
  · rw [h, if_pos (by decide)]; exact gvF_b
  · rw [if_neg (by first | decide | omega)]; omega
theorem C_gv2 {K : zK} {l : Int} {F : zF} {B : zB} (rl : r32 l) : ∀ (d n : Nat) {k : Int}, 0 ≤ k → k + d = 24 → d < n → f_S_greatestValue_2 K n k l F B = some (if fsN (fun k => decide (fv k ≤ l)) d k < 0 then 23 else fsN (fun k => decide (fv k ≤ l)) d k, F, B) := by
  intro d
  induction d with
  | zero =>
    intro n k h0 hk hn
    obtain ⟨n, rfl⟩ : ∃ m, n = m + 1 := ⟨n - 1, (by first | decide | omega)⟩
    rw [f_S_greatestValue_2, if_pos (by unfold r32; omega), if_pos (by first | decide | omega)]
    rfl
  | succ d ih =>
    intro n k h0 hk hn
    obtain ⟨n, rfl⟩ : ∃ m, n = m + 1 := ⟨n - 1, (by first | decide | omega)⟩
    have b := fv_b (k := k) h0 (by first | decide | omega)
    rw [f_S_greatestValue_2, if_pos (by unfold r32; omega), if_neg (by first | decide | omega), C_fine h0 (by first | decide | omega), zb_s, if_pos (by unfold r32; omega), if_pos rl]
    unfold fsN
    by_cases c : fv k ≤ l
    · rw [if_neg (by first | decide | omega), if_pos (decide_eq_true c), if_neg (by first | decide | omega)]
    · rw [if_pos (by first | decide | omega), if_neg (show ¬ decide (fv k ≤ l) = true from fun h => c (of_decide_eq_true h))]
      exact ih n (by first | decide | omega) (by first | decide | omega) (by first | decide | omega)
theorem C_great {K : zK} {l : Int} {F : zF} {B : zB} (hK : 3002 ≤ K.1) (rl : r32 l) : f_S_greatestValue K l F B = some (gvF l, F, B) := C_gv2 rl 24 K.1 (Int.le_refl _) (by decide) (by first | decide | omega)
theorem un_z {u : Int} (hu : u = 256 ∨ u = 128 ∨ u = 64 ∨ u = 32) : (zshr u 0 = u ∧ zshr u 1 = u / 2 ∧ zshr u 2 = u / 4 ∧ zshr u 3 = u / 8 ∧ zshr u 4 = u / 16) ∧ (2 ≤ u / 16 ∧ u / 16 ≤ 256 ∧ 2 ≤ u / 8 ∧ u / 8 ≤ 256 ∧ 2 ≤ u / 4 ∧ u / 4 ≤ 256 ∧ 2 ≤ u / 2 ∧ u / 2 ≤ 256) := by
  rcases hu with rfl | rfl | rfl | rfl <;> decide
theorem C_st5 {K : zK} {u a : Int} {F : zF} {B : zB} (hK : 3002 ≤ K.1) (hu : u = 256 ∨ u = 128 ∨ u = 64 ∨ u = 32) (a0 : 0 ≤ a) (a1 : a ≤ 100000) : f_S_strength_42 K K.1 0 u a F B = some (st5 u a, F, B) := by
  obtain ⟨⟨z0, z1, z2, z3, z4⟩, zz⟩ := un_z hu
  obtain ⟨m, hm⟩ : ∃ m, K.1 = m + 6 := ⟨K.1 - 6, (by first | decide | omega)⟩
  have stp : ∀ (m : Nat) (k k' r p : Int), 0 ≤ k → k < 5 → k + 1 = k' → 6 - k = r → zshr u k = p → 2 ≤ p → p ≤ 256 → f_S_strength_42 K (m + 1) k u a F B = if a % p = 0 then some (r, F, B) else f_S_strength_42 K m k' u a F B := fun m k k' r p h0 h1 ek er e p0 p1 => by
    have q1 := Int.emod_nonneg a (show p ≠ 0 by omega)
    have q2 := Int.emod_lt_of_pos a (show 0 < p by omega)
    rw [f_S_strength_42, if_pos (by unfold r32; omega), if_neg (by first | decide | omega), e, if_pos (iI_n0 (by first | decide | omega) (by unfold r32; omega)), zrm_e a0 (by unfold r32; omega) (by first | decide | omega) (by unfold r32; omega), if_pos (by unfold r32; omega), ek, er]
  have s5 : f_S_strength_42 K (m + 1) 5 u a F B = some (1, F, B) := by rw [f_S_strength_42, if_pos (by decide), if_pos (by decide)]
  have s4 := stp (m + 1) 4 5 2 _ (by decide) (by decide) (by decide) (by decide) z4 (by first | decide | omega) (by first | decide | omega)
  have s3 := stp (m + 1 + 1) 3 4 3 _ (by decide) (by decide) (by decide) (by decide) z3 (by first | decide | omega) (by first | decide | omega)
  have s2 := stp (m + 1 + 1 + 1) 2 3 4 _ (by decide) (by decide) (by decide) (by decide) z2 (by first | decide | omega) (by first | decide | omega)
  have s1 := stp (m + 1 + 1 + 1 + 1) 1 2 5 _ (by decide) (by decide) (by decide) (by decide) z1 (by first | decide | omega) (by first | decide | omega)
  have s0 := stp (m + 1 + 1 + 1 + 1 + 1) 0 1 6 _ (by decide) (by decide) (by decide) (by decide) z0 (by first | decide | omega) (by first | decide | omega)
  rw [show K.1 = m + 1 + 1 + 1 + 1 + 1 + 1 by omega, s0, s1, s2, s3, s4, s5]
  unfold st5
  by_cases c0 : a % u = 0
  · rw [if_pos c0, if_pos c0]
  rw [if_neg c0, if_neg c0]
  by_cases c1 : a % (u / 2) = 0
  · rw [if_pos c1, if_pos c1]
  rw [if_neg c1, if_neg c1]
  by_cases c2 : a % (u / 4) = 0
  · rw [if_pos c2, if_pos c2]
  rw [if_neg c2, if_neg c2]
  by_cases c3 : a % (u / 8) = 0
  · rw [if_pos c3, if_pos c3]
  rw [if_neg c3, if_neg c3]
  by_cases c4 : a % (u / 16) = 0
  · rw [if_pos c4, if_pos c4]
  rw [if_neg c4, if_neg c4]
theorem bw_e {p f t : Int} (hp : 0 < p) (f0 : 0 ≤ f) (ft : f < t) : f < (t - 1) / p * p ↔ bw p f t := by
  have e1 := Int.mul_ediv_add_emod f p
  have e2 := Int.emod_nonneg f (show p ≠ 0 by omega)
  have e3 := Int.emod_lt_of_pos f hp
  have g1 := Int.mul_ediv_add_emod (t - 1) p
  have g2 := Int.emod_nonneg (t - 1) (show p ≠ 0 by omega)
  have g3 := Int.emod_lt_of_pos (t - 1) hp
  show _ ↔ (f / p + 1) * p < t
  constructor
  · intro h
    have : f / p < (t - 1) / p := Int.ediv_lt_of_lt_mul hp h
    have m : (f / p + 1) * p ≤ (t - 1) / p * p := Int.mul_le_mul_of_nonneg_right (by first | decide | omega) (by first | decide | omega)
    rw [Int.mul_comm p] at g1
    omega
  · intro h
    have : f / p + 1 ≤ (t - 1) / p := Int.le_ediv_of_mul_le hp (by first | decide | omega)
    have m : (f / p + 1) * p ≤ (t - 1) / p * p := Int.mul_le_mul_of_nonneg_right this (by first | decide | omega)
    rw [Int.add_mul, Int.one_mul] at m
    rw [Int.mul_comm p] at e1
    omega
theorem C_bt5 {K : zK} {u f t : Int} {F : zF} {B : zB} (hK : 3002 ≤ K.1) (hu : u = 256 ∨ u = 128 ∨ u = 64 ∨ u = 32) (f0 : 0 ≤ f) (ft : f < t) (t1 : t ≤ 100000) : f_S_strengthBetween_44 K K.1 0 u f t F B = some (bt5 u f t, F, B) := by
  obtain ⟨⟨z0, z1, z2, z3, z4⟩, zz⟩ := un_z hu
  obtain ⟨m, hm⟩ : ∃ m, K.1 = m + 6 := ⟨K.1 - 6, (by first | decide | omega)⟩
  have stp : ∀ (m : Nat) (k k' r p : Int), 0 ≤ k → k < 5 → k + 1 = k' → 6 - k = r → zshr u k = p → 2 ≤ p → p ≤ 256 → f_S_strengthBetween_44 K (m + 1) k u f t F B = if bw p f t then some (r, F, B) else f_S_strengthBetween_44 K m k' u f t F B := fun m k k' r p h0 h1 ek er e p0 p1 => by
    have q1 : 0 ≤ (t - 1) / p := Int.ediv_nonneg (by first | decide | omega) (by first | decide | omega)
    have q2 : (t - 1) / p * p ≤ t - 1 := Int.ediv_mul_le _ (by first | decide | omega)
    have q3 : 0 ≤ (t - 1) / p * p := Int.mul_nonneg q1 (by first | decide | omega)
    rw [f_S_strengthBetween_44, if_pos (by unfold r32; omega), if_neg (by first | decide | omega), e, if_pos (iI_n0 (by first | decide | omega) (by unfold r32; omega)), zdv_e (by first | decide | omega) (by unfold r32; omega) (by first | decide | omega) (by unfold r32; omega), if_pos (by unfold r32; omega), if_pos (by unfold r32; omega), ek, er]
    by_cases c : bw p f t
    · rw [if_pos c, if_neg (by have := (bw_e (by first | decide | omega) f0 ft).mpr c; omega)]
    · rw [if_neg c, if_pos (by
        rcases Int.lt_or_le f ((t - 1) / p * p) with y | y
        · exact absurd ((bw_e (by first | decide | omega) f0 ft).mp y) c
        · exact y)]
  have s5 : f_S_strengthBetween_44 K (m + 1) 5 u f t F B = some (1, F, B) := by rw [f_S_strengthBetween_44, if_pos (by decide), if_pos (by decide)]
  have s4 := stp (m + 1) 4 5 2 _ (by decide) (by decide) (by decide) (by decide) z4 (by first | decide | omega) (by first | decide | omega)
  have s3 := stp (m + 1 + 1) 3 4 3 _ (by decide) (by decide) (by decide) (by decide) z3 (by first | decide | omega) (by first | decide | omega)
  have s2 := stp (m + 1 + 1 + 1) 2 3 4 _ (by decide) (by decide) (by decide) (by decide) z2 (by first | decide | omega) (by first | decide | omega)
  have s1 := stp (m + 1 + 1 + 1 + 1) 1 2 5 _ (by decide) (by decide) (by decide) (by decide) z1 (by first | decide | omega) (by first | decide | omega)
  have s0 := stp (m + 1 + 1 + 1 + 1 + 1) 0 1 6 _ (by decide) (by decide) (by decide) (by decide) z0 (by first | decide | omega) (by first | decide | omega)
  rw [show K.1 = m + 1 + 1 + 1 + 1 + 1 + 1 by omega, s0, s1, s2, s3, s4, s5]
  unfold bt5
  by_cases c0 : bw u f t
  · rw [if_pos c0, if_pos c0]
  rw [if_neg c0, if_neg c0]
  by_cases c1 : bw (u / 2) f t
  · rw [if_pos c1, if_pos c1]
  rw [if_neg c1, if_neg c1]
  by_cases c2 : bw (u / 4) f t
  · rw [if_pos c2, if_pos c2]
  rw [if_neg c2, if_neg c2]
  by_cases c3 : bw (u / 8) f t
  · rw [if_pos c3, if_pos c3]
  rw [if_neg c3, if_neg c3]
  by_cases c4 : bw (u / 16) f t
  · rw [if_pos c4, if_pos c4]
  rw [if_neg c4, if_neg c4]
end
