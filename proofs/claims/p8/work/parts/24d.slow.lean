section
/-! ===== a value times the slows around: both sides ===== -/
def cap (x : Int) : Int := if x ≤ 1024 then x else -1
theorem cap_big {x m : Int} (h : 1024 < x) (hm : 1 ≤ m) : cap (x * m) = -1 := by
  have : x * 1 ≤ x * m := Int.mul_le_mul_of_nonneg_left hm (by first | decide | omega)
  unfold cap
  rw [if_neg (by first | decide | omega)]
theorem pw_1 {P : Int} (h : 1 ≤ P) (j : Nat) : 1 ≤ P ^ j := by
  induction j with
  | zero => rw [Int.pow_zero]; decide
  | succ j ih =>
    rw [Int.pow_succ]
    have : 1 * 1 ≤ P ^ j * P := Int.mul_le_mul ih h (by decide) (by first | decide | omega)
    omega
theorem ml_1 {a b : Int} (h : 1 ≤ a) (h' : 1 ≤ b) : 1 ≤ a * b := by
  have : 1 * 1 ≤ a * b := Int.mul_le_mul h h' (by decide) (by first | decide | omega)
  omega
theorem V265 {K : Nat} {F : zF} {B : zB} {u : Int} (h : r32 u) : f_M_valueOf_265 K u F B = some (cap u, F, B) := by
  unfold f_M_valueOf_265 f_M_valueOf_279 cap
  rw [if_pos h]
  split <;> rfl
theorem V237 {K : Nat} {F : zF} {B : zB} {e : Int} (he : r32 e) : ∀ (j n : Nat) {l u : Int}, 0 ≤ l → l ≤ e → (e - l).toNat = j → j < n → 1 ≤ u → u ≤ 10000 → f_M_valueOf_237 K n l u e F B = some (cap (u * 7 ^ j), F, B) := by
  unfold r32 at he
  intro j
  induction j with
  | zero =>
    intro n l u h0 h1 hj hn u0 u1
    obtain ⟨n, rfl⟩ : ∃ m, n = m + 1 := ⟨n - 1, (by first | decide | omega)⟩
    unfold f_M_valueOf_237
    rw [if_pos (by unfold r32; omega), if_pos he, if_pos (by first | decide | omega), V265 (by unfold r32; omega), Int.pow_zero, Int.mul_one]
  | succ j ih =>
    intro n l u h0 h1 hj hn u0 u1
    obtain ⟨n, rfl⟩ : ∃ m, n = m + 1 := ⟨n - 1, (by first | decide | omega)⟩
    unfold f_M_valueOf_237
    rw [if_pos (by unfold r32; omega), if_pos he, if_neg (by first | decide | omega), if_pos (by unfold r32; omega)]
    by_cases b : 1024 < u
    · rw [if_pos b, V265 (by unfold r32; omega), cap_big b (pw_1 (by decide) _)]
      unfold cap
      rw [if_neg (by first | decide | omega)]
    · rw [if_neg b, ih n (by first | decide | omega) (by first | decide | omega) (by first | decide | omega) (by first | decide | omega) (by first | decide | omega) (by first | decide | omega), Int.pow_succ, Int.mul_comm (7 ^ j), Int.mul_assoc]
theorem V203 {K : Nat} {F : zF} {B : zB} {e s : Int} (hb : B 14 0 51 5 = e) (he : r32 e) (hs : r32 s) (s0 : 0 ≤ s) (hK : s < K) : ∀ (j n : Nat) {l u : Int}, 0 ≤ l → l ≤ e → (e - l).toNat = j → j < n → 1 ≤ u → u ≤ 10000 → f_M_valueOf_203 K n l u s F B = some (cap (u * 5 ^ j * 7 ^ s.toNat), F, B) := by
  have z7 : ∀ {u : Int}, 1 ≤ u → u ≤ 10000 → f_M_valueOf_234 K u s F B = some (cap (u * 7 ^ s.toNat), F, B) := fun {u} a b => by
    unfold f_M_valueOf_234
    exact V237 hs s.toNat K (Int.le_refl _) s0 (by first | decide | omega) (by first | decide | omega) a b
  unfold r32 at he
  intro j
  induction j with
  | zero =>
    intro n l u h0 h1 hj hn u0 u1
    obtain ⟨n, rfl⟩ : ∃ m, n = m + 1 := ⟨n - 1, (by first | decide | omega)⟩
    unfold f_M_valueOf_203
    rw [hb, if_pos (by unfold r32; omega), if_pos he, if_pos (by first | decide | omega), z7 u0 u1, Int.pow_zero, Int.mul_one]
  | succ j ih =>
    intro n l u h0 h1 hj hn u0 u1
    obtain ⟨n, rfl⟩ : ∃ m, n = m + 1 := ⟨n - 1, (by first | decide | omega)⟩
    unfold f_M_valueOf_203
    rw [hb, if_pos (by unfold r32; omega), if_pos he, if_neg (by first | decide | omega), if_pos (by unfold r32; omega)]
    by_cases b : 1024 < u
    · rw [if_pos b, z7 u0 u1, cap_big b (pw_1 (by decide) _), Int.mul_assoc, cap_big b (ml_1 (pw_1 (by decide) _) (pw_1 (by decide) _))]
    · rw [if_neg b, ih n (by first | decide | omega) (by first | decide | omega) (by first | decide | omega) (by first | decide | omega) (by first | decide | omega) (by first | decide | omega), Int.pow_succ, Int.mul_comm (5 ^ j), Int.mul_assoc u 5]
theorem V173 {K : Nat} {F : zF} {B : zB} {e s f : Int} (hb : B 14 0 51 5 = f) (hf : r32 f) (f0 : 0 ≤ f) (fK : f < K) (he : r32 e) (hs : r32 s) (s0 : 0 ≤ s) (hK : s < K) : ∀ (j n : Nat) {l u : Int}, 0 ≤ l → l ≤ e → (e - l).toNat = j → j < n → 1 ≤ u → u ≤ 10000 → f_M_valueOf_173 K n l u s e F B = some (cap (u * 3 ^ j * (5 ^ f.toNat * 7 ^ s.toNat)), F, B) := by
  have z7 : ∀ {u : Int}, 1 ≤ u → u ≤ 10000 → f_M_valueOf_200 K u s F B = some (cap (u * (5 ^ f.toNat * 7 ^ s.toNat)), F, B) := fun {u} a b => by
    unfold f_M_valueOf_200
    rw [V203 hb hf hs s0 hK f.toNat K (Int.le_refl _) f0 (by first | decide | omega) (by first | decide | omega) a b, Int.mul_assoc]
  unfold r32 at he
  intro j
  induction j with
  | zero =>
    intro n l u h0 h1 hj hn u0 u1
    obtain ⟨n, rfl⟩ : ∃ m, n = m + 1 := ⟨n - 1, (by first | decide | omega)⟩
    unfold f_M_valueOf_173
    rw [if_pos (by unfold r32; omega), if_pos he, if_pos (by first | decide | omega), z7 u0 u1, Int.pow_zero, Int.mul_one]
  | succ j ih =>
    intro n l u h0 h1 hj hn u0 u1
    obtain ⟨n, rfl⟩ : ∃ m, n = m + 1 := ⟨n - 1, (by first | decide | omega)⟩
    unfold f_M_valueOf_173
    rw [if_pos (by unfold r32; omega), if_pos he, if_neg (by first | decide | omega), if_pos (by unfold r32; omega)]
    by_cases b : 1024 < u
    · rw [if_pos b, z7 u0 u1, cap_big b (ml_1 (pw_1 (by decide) _) (pw_1 (by decide) _)), Int.mul_assoc, cap_big b (ml_1 (pw_1 (by decide) _) (ml_1 (pw_1 (by decide) _) (pw_1 (by decide) _)))]
    · rw [if_neg b, ih n (by first | decide | omega) (by first | decide | omega) (by first | decide | omega) (by first | decide | omega) (by first | decide | omega) (by first | decide | omega), Int.pow_succ, Int.mul_comm (3 ^ j), Int.mul_assoc u 3]
theorem V144 {K : Nat} {F : zF} {B : zB} {e s f t : Int} (hb : B 14 0 51 5 = f) (hf : r32 f) (f0 : 0 ≤ f) (fK : f < K) (ht : r32 t) (t0 : 0 ≤ t) (tK : t < K) (he : r32 e) (hs : r32 s) (s0 : 0 ≤ s) (hK : s < K) : ∀ (j n : Nat) {l u : Int}, 0 ≤ l → l ≤ e → (e - l).toNat = j → j < n → 1 ≤ u → u ≤ 10000 → f_M_valueOf_144 K n l u s t e F B = some (cap (u * 2 ^ j * (3 ^ t.toNat * (5 ^ f.toNat * 7 ^ s.toNat))), F, B) := by
  have z7 : ∀ {u : Int}, 1 ≤ u → u ≤ 10000 → f_M_valueOf_170 K u s t F B = some (cap (u * (3 ^ t.toNat * (5 ^ f.toNat * 7 ^ s.toNat))), F, B) := fun {u} a b => by
    unfold f_M_valueOf_170
    rw [V173 hb hf f0 fK ht hs s0 hK t.toNat K (Int.le_refl _) t0 (by first | decide | omega) (by first | decide | omega) a b, Int.mul_assoc]
  unfold r32 at he
  intro j
  induction j with
  | zero =>
    intro n l u h0 h1 hj hn u0 u1
    obtain ⟨n, rfl⟩ : ∃ m, n = m + 1 := ⟨n - 1, (by first | decide | omega)⟩
    unfold f_M_valueOf_144
    rw [if_pos (by unfold r32; omega), if_pos he, if_pos (by first | decide | omega), z7 u0 u1, Int.pow_zero, Int.mul_one]
  | succ j ih =>
    intro n l u h0 h1 hj hn u0 u1
    obtain ⟨n, rfl⟩ : ∃ m, n = m + 1 := ⟨n - 1, (by first | decide | omega)⟩
    unfold f_M_valueOf_144
    rw [if_pos (by unfold r32; omega), if_pos he, if_neg (by first | decide | omega), if_pos (by unfold r32; omega)]
    have h35 : ∀ (a b c : Nat), (1 : Int) ≤ 3 ^ a * (5 ^ b * 7 ^ c) := fun a b c => ml_1 (pw_1 (by decide) _) (ml_1 (pw_1 (by decide) _) (pw_1 (by decide) _))
    by_cases b : 1024 < u
    · rw [if_pos b, z7 u0 u1, cap_big b (h35 _ _ _), Int.mul_assoc, cap_big b (ml_1 (pw_1 (by decide) _) (h35 _ _ _))]
    · rw [if_neg b, ih n (by first | decide | omega) (by first | decide | omega) (by first | decide | omega) (by first | decide | omega) (by first | decide | omega) (by first | decide | omega), Int.pow_succ, Int.mul_comm (2 ^ j), Int.mul_assoc u 2]
/-- what both answer -/
def slV (a b c d : Int) : Int := if 0 ≤ a ∧ 0 ≤ b ∧ 0 ≤ c ∧ 0 ≤ d then cap (2 ^ a.toNat * (3 ^ b.toNat * (5 ^ c.toNat * 7 ^ d.toNat))) else -1
theorem V110 {K : Nat} {F : zF} {B : zB} {a b c s0 s1 : Int} (hb : B 14 0 51 5 = c) (ha : -2000 ≤ a ∧ a ≤ 2000) (hb' : -2000 ≤ b ∧ b ≤ 2000) (hc : -2000 ≤ c ∧ c ≤ 2000) (hs : -2000 ≤ s0 + s1 ∧ s0 + s1 ≤ 2000) (hK : 2000 < K) : f_M_valueOf_110 K b a s0 s1 F B = some (slV a b c (s0 + s1), F, B) := by
  unfold f_M_valueOf_110 f_M_valueOf_136 slV
  rw [hb, if_pos (by unfold r32; omega)]
  by_cases h1 : a < 0
  · rw [if_pos h1, if_neg (by first | decide | omega)]
  rw [if_neg h1, if_pos (by unfold r32; omega)]
  by_cases h2 : b < 0
  · rw [if_pos h2, if_neg (by first | decide | omega)]
  rw [if_neg h2, if_pos (by unfold r32; omega)]
  by_cases h3 : c < 0
  · rw [if_pos h3, if_neg (by first | decide | omega)]
  rw [if_neg h3, if_pos (by unfold r32; omega)]
  by_cases h4 : 0 ≤ s0 + s1
  · rw [if_pos h4, if_pos (by first | decide | omega), V144 hb (by unfold r32; omega) (by first | decide | omega) (by first | decide | omega) (by unfold r32; omega) (by first | decide | omega) (by first | decide | omega) (by unfold r32; omega) (by unfold r32; omega) h4 (by first | decide | omega) a.toNat K (Int.le_refl _) (by first | decide | omega) (by first | decide | omega) (by first | decide | omega) (by decide) (by decide), Int.one_mul]
  · rw [if_neg h4, if_neg (by first | decide | omega)]
/-- the twos of a length -/
def lg2 (n : Int) : Int := if n = 1 then 0 else if n = 2 then 1 else if n = 4 then 2 else if n = 8 then 3 else if n = 16 then 4 else 5
theorem V55 {K n : Nat} {F : zF} {B : zB} {a q : Int} (h : pw2 q) (hn : 6 ≤ n) : ∃ m, f_M_valueOf_55 K n q a 1 F B = f_M_valueOf_55 K (m + 1) 1 (a - lg2 q) 1 F B ∧ f_M_valueOf_55 K n q a 3 F B = f_M_valueOf_55 K (m + 1) 1 (a - lg2 q) 3 F B ∧ f_M_valueOf_55 K n q a 7 F B = f_M_valueOf_55 K (m + 1) 1 (a - lg2 q) 7 F B := by
  have st : ∀ (m : Nat) (q a t : Int), r32 q → 1 < q → f_M_valueOf_55 K (m + 1) q a t F B = f_M_valueOf_55 K m (zdv q 2) (a - 1) t F B := fun m q a t h1 h2 => by
    rw [f_M_valueOf_55, if_pos h1, if_neg (by first | decide | omega)]
  obtain ⟨n, rfl⟩ : ∃ m, n = m + 6 := ⟨n - 6, (by first | decide | omega)⟩
  have e2 : zdv 2 2 = 1 := by decide
  have e4 : zdv 4 2 = 2 := by decide
  have e8 : zdv 8 2 = 4 := by decide
  have e16 : zdv 16 2 = 8 := by decide
  have e32 : zdv 32 2 = 16 := by decide
  have g : ∀ t, ∃ m, m ≤ n + 5 ∧ m = n + 5 - (lg2 q).toNat ∧ f_M_valueOf_55 K (n + 6) q a t F B = f_M_valueOf_55 K (m + 1) 1 (a - lg2 q) t F B := by
    intro t
    rcases h with rfl | rfl | rfl | rfl | rfl | rfl
    · exact ⟨n + 5, (by first | decide | omega), rfl, by rw [show lg2 1 = 0 by decide, Int.sub_zero]⟩
    · exact ⟨n + 4, (by first | decide | omega), rfl, by rw [show lg2 2 = 1 by decide, st _ _ _ _ (by decide) (by decide), e2]⟩
    · exact ⟨n + 3, (by first | decide | omega), rfl, by rw [show lg2 4 = 2 by decide, st _ _ _ _ (by decide) (by decide), e4, st _ _ _ _ (by decide) (by decide), e2, Int.sub_sub]; rfl⟩
    · exact ⟨n + 2, (by first | decide | omega), rfl, by rw [show lg2 8 = 3 by decide, st _ _ _ _ (by decide) (by decide), e8, st _ _ _ _ (by decide) (by decide), e4, st _ _ _ _ (by decide) (by decide), e2, Int.sub_sub, Int.sub_sub]; rfl⟩
    · exact ⟨n + 1, (by first | decide | omega), rfl, by rw [show lg2 16 = 4 by decide, st _ _ _ _ (by decide) (by decide), e16, st _ _ _ _ (by decide) (by decide), e8, st _ _ _ _ (by decide) (by decide), e4, st _ _ _ _ (by decide) (by decide), e2, Int.sub_sub, Int.sub_sub, Int.sub_sub]; rfl⟩
    · exact ⟨n, (by first | decide | omega), rfl, by rw [show lg2 32 = 5 by decide, st _ _ _ _ (by decide) (by decide), e32, st _ _ _ _ (by decide) (by decide), e16, st _ _ _ _ (by decide) (by decide), e8, st _ _ _ _ (by decide) (by decide), e4, st _ _ _ _ (by decide) (by decide), e2, Int.sub_sub, Int.sub_sub, Int.sub_sub, Int.sub_sub]; rfl⟩
  obtain ⟨m1, _, e1, g1⟩ := g 1
  obtain ⟨m2, _, e3, g2⟩ := g 3
  obtain ⟨m3, _, e5, g3⟩ := g 7
  have k1 : m2 = m1 := by omega
  have k2 : m3 = m1 := by omega
  rw [k1] at g2
  rw [k2] at g3
  exact ⟨m1, g1, g2, g3⟩
theorem L_valueOf {K : Nat} {F : zF} {B : zB} {i n p : Int} (hi : 0 ≤ i ∧ i < 3001) (h32 : B 14 0 32 i = n) (h33 : B 14 0 33 i = p) (hn : pw2 n) (hp : 0 ≤ p ∧ p ≤ 2) (hpw : ∀ k, k = 2 ∨ k = 3 ∨ k = 5 ∨ k = 7 → -1000 ≤ B 14 0 51 k ∧ B 14 0 51 k ≤ 1000) (hK : 3000 < K) : f_M_valueOf K i F B = some (slV (B 14 0 51 2 + 7 - p - lg2 n) (B 14 0 51 3 + (if p = 1 then 1 else 0)) (B 14 0 51 5) (B 14 0 51 7 + (if p = 2 then 1 else 0)), F, B) := by
  have b2 := hpw 2 (by decide)
  have b3 := hpw 3 (by decide)
  have b5 := hpw 5 (by decide)
  have b7 := hpw 7 (by decide)
  have hl : 0 ≤ lg2 n ∧ lg2 n ≤ 5 := by
    rcases hn with rfl | rfl | rfl | rfl | rfl | rfl <;> decide
  obtain ⟨m, g1, g3, g7⟩ := V55 (K := K) (n := K) (F := F) (B := B) (a := B 14 0 51 2 + 7 - p) hn (by first | decide | omega)
  unfold f_M_valueOf f_M_valueOf_29
  rw [if_pos hi, h33, h32, if_pos (by unfold r32; omega)]
  simp only [if_pos hi]
  by_cases p0 : p = 0
  · rw [if_pos p0, g1, f_M_valueOf_55, if_pos (by decide), if_pos (by decide), if_pos (by decide), if_neg (by decide), f_M_valueOf_89, if_pos (by decide), if_neg (by decide), V110 rfl (by first | decide | omega) (by first | decide | omega) (by first | decide | omega) (by first | decide | omega) (by first | decide | omega), if_neg (by first | decide | omega), if_neg (by first | decide | omega)]
  rw [if_neg p0]
  by_cases p1 : p = 1
  · rw [if_pos p1, g3, f_M_valueOf_55, if_pos (by decide), if_pos (by decide), if_pos (by decide), if_pos rfl, f_M_valueOf_89, if_pos (by decide), if_neg (by decide), V110 rfl (by first | decide | omega) (by first | decide | omega) (by first | decide | omega) (by first | decide | omega) (by first | decide | omega), if_pos p1, if_neg (by first | decide | omega)]
  · rw [if_neg p1, g7, f_M_valueOf_55, if_pos (by decide), if_pos (by decide), if_pos (by decide), if_neg (by decide), f_M_valueOf_89, if_pos (by decide), if_pos rfl, V110 rfl (by first | decide | omega) (by first | decide | omega) (by first | decide | omega) (by first | decide | omega) (by first | decide | omega), if_neg p1, if_pos (by first | decide | omega)]
end
