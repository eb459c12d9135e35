section
variable {cc : Int}
/-! ===== shape: the reference's steps ===== -/
section
variable {K : Nat} {F : zF} {B : zB}
theorem L_gcdS : ∀ (d n : Nat) (x y : Int), 0 ≤ x → x < 9223372036854775808 → 0 ≤ y → y < 9223372036854775808 → y < 2 ^ d → 2 * d < n → f_M_gcd_6 K n y x F B = some (gc x y, F, B) := by
  have step : ∀ (p : Nat) (x y : Int), 0 ≤ x → x < 9223372036854775808 → 0 < y → y < 9223372036854775808 → f_M_gcd_6 K (p + 1) y x F B = f_M_gcd_6 K p (x % y) y F B ∧ gc y (x % y) = gc x y := fun p x y x0 x1 y0 y1 => by
    refine ⟨?_, ?_⟩
    · rw [f_M_gcd_6, if_pos (by unfold r64; omega), if_neg (fun z => by have := zcmp_0.mp z; omega), if_pos (lI_n0 (by first | decide | omega) (by unfold r64; omega)), zlrm_e x0 x1 (by first | decide | omega) y1]
    · unfold gc
      have m0 : 0 ≤ x % y := Int.emod_nonneg x (by first | decide | omega)
      have e2 : (x % y).toNat = x.toNat % y.toNat := by
        apply Int.ofNat_inj.mp
        rw [Int.natCast_emod, show ((x.toNat : Nat) : Int) = x by omega, show ((y.toNat : Nat) : Int) = y by omega]
        omega
      rw [e2, Nat.gcd_comm y.toNat, ← Nat.gcd_rec, Nat.gcd_comm]
  have zero : ∀ (p : Nat) (x : Int), 0 ≤ x → f_M_gcd_6 K (p + 1) 0 x F B = some (gc x 0, F, B) := fun p x x0 => by
    rw [f_M_gcd_6, if_pos (by decide), if_pos (zcmp_0.mpr rfl)]
    unfold gc
    rw [show (0 : Int).toNat = 0 from rfl, Nat.gcd_zero_right, show ((x.toNat : Nat) : Int) = x by omega]
  intro d
  induction d with
  | zero =>
    intro n x y x0 x1 y0 y1 hy hn
    obtain ⟨p, rfl⟩ : ∃ p, n = p + 1 := ⟨n - 1, (by first | decide | omega)⟩
    have : y = 0 := by omega
    rw [this]; exact zero p x x0
  | succ d ih =>
    intro n x y x0 x1 y0 y1 hy hn
    obtain ⟨p, rfl⟩ : ∃ p, n = p + 1 + 1 + 1 := ⟨n - 3, (by first | decide | omega)⟩
    by_cases z : y = 0
    · rw [z]; exact zero _ x x0
    have m0 : 0 ≤ x % y := Int.emod_nonneg x z
    have m1 : x % y < y := Int.emod_lt_of_pos x (by first | decide | omega)
    obtain ⟨s1, g1⟩ := step (p + 1 + 1) x y x0 x1 (by first | decide | omega) y1
    rw [s1, ← g1]
    by_cases z' : x % y = 0
    · rw [z']; exact zero _ y y0
    have k0 : 0 ≤ y % (x % y) := Int.emod_nonneg y z'
    have k1 : y % (x % y) < x % y := Int.emod_lt_of_pos y (by first | decide | omega)
    obtain ⟨s2, g2⟩ := step (p + 1) y (x % y) y0 y1 (by first | decide | omega) (by first | decide | omega)
    rw [s2, ← g2]
    refine ih (p + 1) (x % y) (y % (x % y)) m0 (by first | decide | omega) k0 (by first | decide | omega) ?_ (by first | decide | omega)
    have q := Int.emod_add_mul_ediv y (x % y)
    have q1 : 1 ≤ y / (x % y) := Int.le_ediv_of_mul_le (by first | decide | omega) (by first | decide | omega)
    have q2 : (x % y) * 1 ≤ (x % y) * (y / (x % y)) := Int.mul_le_mul_of_nonneg_left q1 (by first | decide | omega)
    have e2 : (2 : Int) ^ (d + 1) = 2 ^ d * 2 := Int.pow_succ 2 d
    omega
theorem L_gcdW (hK : 200 ≤ K) {x y : Int} (x0 : 0 ≤ x) (x1 : x < 9223372036854775808) (y0 : 0 ≤ y) (y1 : y < 9223372036854775808) : f_M_gcd K x y F B = some (gc x y, F, B) := L_gcdS 63 K x y x0 x1 y0 y1 (by first | decide | omega) (by first | decide | omega)
theorem ediv_g {a b : Int} (a0 : 0 < a) (b0 : 0 < b) : (0 < a / gc a b ∧ a / gc a b ≤ a) ∧ (0 < b / gc a b ∧ b / gc a b ≤ b) := by
  have g := gc_pos (a := a) b0
  obtain ⟨z, hz⟩ := gc_dl (a := a) (b := b) (by first | decide | omega)
  obtain ⟨y, hy⟩ := gc_dr (a := a) (b := b) (by first | decide | omega)
  exact ⟨⟨Int.ediv_pos_of_pos_of_dvd a0 (by first | decide | omega) ⟨z, hz⟩, Int.ediv_le_self _ (by first | decide | omega)⟩, ⟨Int.ediv_pos_of_pos_of_dvd b0 (by first | decide | omega) ⟨y, hy⟩, Int.ediv_le_self _ (by first | decide | omega)⟩⟩
theorem L_isW (hK : 200 ≤ K) {u d : Int} (u0 : 0 < u) (u1 : u < 9223372036854775808) (d0 : 0 < d) (d1 : d < 9223372036854775808) : ∃ a b, f_M_is K u d F B = some (0, zup3 (zup3 F 14 0 0 a) 14 0 1 b, B) ∧ (0 < a ∧ a ≤ u) ∧ (0 < b ∧ b ≤ d) := by
  have g := gc_pos (a := u) d0
  have gl := gc_le (a := u) d0
  unfold f_M_is
  rw [L_gcdW hK (by first | decide | omega) u1 (by first | decide | omega) d1, zb_s, if_pos (lI_n0 g (by unfold r64; omega)), zldv_e (by first | decide | omega) u1 g (by first | decide | omega), zldv_e (by first | decide | omega) d1 g (by first | decide | omega)]
  have k := ediv_g u0 d0
  exact ⟨_, _, rfl, k.1, k.2⟩
theorem mulB {a b x y : Int} (a0 : 0 < a) (a1 : a ≤ x) (b0 : 0 < b) (b1 : b ≤ y) : 0 < a * b ∧ a * b ≤ x * y := ⟨Int.mul_pos a0 b0, Int.mul_le_mul a1 b1 (by first | decide | omega) (by first | decide | omega)⟩
theorem L_tmW (hK : 200 ≤ K) {a b c d x y z t : Int} (ha : 0 < a ∧ a ≤ x) (hb : 0 < b ∧ b ≤ y) (hc : 0 < c ∧ c ≤ z) (hd : 0 < d ∧ d ≤ t) (h1 : x * z < 9223372036854775808) (h2 : y * t < 9223372036854775808) (hx : x < 9223372036854775808) (hy : y < 9223372036854775808) (hz : z < 9223372036854775808) (ht : t < 9223372036854775808) : ∃ u v, f_M_times K a b c d F B = some (0, zup3 (zup3 F 14 0 0 u) 14 0 1 v, B) ∧ (0 < u ∧ u ≤ x * z) ∧ (0 < v ∧ v ≤ y * t) := by
  have g := gc_pos (a := a) hd.1
  have gl := gc_le (a := a) hd.1
  have g' := gc_pos (a := c) hb.1
  have gl' := gc_le (a := c) hb.1
  have e1 := ediv_g ha.1 hd.1
  have e2 := ediv_g hc.1 hb.1
  unfold f_M_times
  rw [L_gcdW hK (by first | decide | omega) (by first | decide | omega) (by first | decide | omega) (by first | decide | omega), zb_s, L_gcdW hK (by first | decide | omega) (by first | decide | omega) (by first | decide | omega) (by first | decide | omega), zb_s, if_pos (lI_n0 g (by unfold r64; omega)), if_pos (lI_n0 g' (by unfold r64; omega)), zldv_e (by first | decide | omega) (by first | decide | omega) g (by first | decide | omega), zldv_e (by first | decide | omega) (by first | decide | omega) g' (by first | decide | omega), zldv_e (by first | decide | omega) (by first | decide | omega) g' (by first | decide | omega), zldv_e (by first | decide | omega) (by first | decide | omega) g (by first | decide | omega)]
  have m1 := mulB e1.1.1 (show a / gc a d ≤ x by omega) e2.1.1 (show c / gc c b ≤ z by omega)
  have m2 := mulB e2.2.1 (show b / gc c b ≤ y by omega) e1.2.1 (show d / gc a d ≤ t by omega)
  obtain ⟨u, v, e, u0, v0⟩ := L_isW (F := F) (B := B) hK (u := a / gc a d * (c / gc c b)) (d := b / gc c b * (d / gc a d)) (by first | decide | omega) (by first | decide | omega) (by first | decide | omega) (by first | decide | omega)
  rw [e, zb_s]
  exact ⟨u, v, rfl, (by first | decide | omega), (by first | decide | omega)⟩
theorem L_lkW {w w' x x' : Int} (w0 : 0 ≤ w ∧ w < 3) (w0' : 0 ≤ w' ∧ w' < 3) (hx : 0 ≤ x ∧ x < 4000) (hx' : 0 ≤ x' ∧ x' < 4000) (b : 0 ≤ B 13 w 21 x ∧ B 13 w 21 x ≤ 6) (b' : 0 ≤ B 13 w' 21 x' ∧ B 13 w' 21 x' ≤ 6) : ∃ r, f_M_isLike K w x w' x' F B = some (r, F, B) ∧ ((r = 0) ∨ (r = 1 ∧ (B 13 w 21 x = 0 ↔ B 13 w' 21 x' = 0))) := by
  have d1 : r32 (1 : Int) := by decide
  have d0 : r32 (0 : Int) := by decide
  unfold f_M_isLike f_M_isLike_14 f_M_isLike_28 f_M_isLike_36
  rw [if_pos w0, if_pos hx, if_pos (by unfold r32; omega)]
  by_cases z : B 13 w 21 x = 0
  · rw [if_pos z, if_pos w0', if_pos hx', if_pos (by unfold r32; omega)]
    by_cases z' : B 13 w' 21 x' = 0
    · rw [if_pos z', if_pos d1, if_pos d1, if_pos rfl, if_pos (Or.inr rfl)]
      exact ⟨1, rfl, Or.inr ⟨rfl, (by first | decide | omega)⟩⟩
    · rw [if_neg z', if_pos d1, if_pos d0, if_neg (by decide), if_pos (Or.inl rfl)]
      exact ⟨0, rfl, Or.inl rfl⟩
  · rw [if_neg z, if_pos w0', if_pos hx', if_pos (by unfold r32; omega)]
    by_cases z' : B 13 w' 21 x' = 0
    · rw [if_pos z', if_pos d0, if_pos d1, if_neg (by decide), if_pos (Or.inl rfl)]
      exact ⟨0, rfl, Or.inl rfl⟩
    · rw [if_neg z', if_pos d0, if_pos d0, if_pos rfl, if_pos (Or.inr rfl)]
      exact ⟨1, rfl, Or.inr ⟨rfl, (by first | decide | omega)⟩⟩
def LBd (w x : Int) (B : zB) : Prop := (0 < B 13 w 16 x ∧ B 13 w 16 x ≤ 82944) ∧ (0 < B 13 w 17 x ∧ B 13 w 17 x ≤ 10368)
def scr (F F' : zF) : Prop := ∀ i y k, ¬ (i = 14 ∧ y = 0 ∧ k ≤ 1) → F' i y k = F i y k
theorem scr_2 {F : zF} {a b : Int} : scr F (zup3 (zup3 F 14 0 0 a) 14 0 1 b) := fun i y k n => by
  unfold zup3
  rw [if_neg (by first | decide | omega), if_neg (by first | decide | omega)]
theorem scr_t {F F' F'' : zF} (h : scr F F') (g : scr F' F'') : scr F F'' := fun i y k n => by rw [g i y k n, h i y k n]
theorem L_len (hK : 200 ≤ K) {w w' x x' y y' s : Int} (w0 : 0 ≤ w ∧ w < 3) (w0' : 0 ≤ w' ∧ w' < 3) (hx : 0 ≤ x ∧ x < 4000) (hx' : 0 ≤ x' ∧ x' < 4000) (hy : 0 ≤ y ∧ y < 4000) (hy' : 0 ≤ y' ∧ y' < 4000) (bx : LBd w x B) (bx' : LBd w x' B) (b_y : LBd w' y B) (b_y' : LBd w' y' B) (hs : s = 0 ∨ s = 1) : ∃ r F', f_M_isLength K w x x' w' y y' s F B = some (r, F', B) ∧ (r = 0 ∨ r = 1) ∧ scr F F' := by
  unfold LBd at bx bx' b_y b_y'
  have z0 : ∀ F : zF, ∃ r F', (if ((0 : Int) = 0 ∨ (0 : Int) = 1) then some ((0 : Int), F, B) else none) = some (r, F', B) ∧ (r = 0 ∨ r = 1) ∧ scr F F' := fun F => ⟨0, F, by rw [if_pos (Or.inl rfl)], Or.inl rfl, fun _ _ _ _ => rfl⟩
  unfold f_M_isLength f_M_isLength_45 f_M_isLength_46 f_M_isLength_147 f_M_isLength_148
  rw [if_pos (by unfold r32; omega)]
  by_cases c : s = 0
  · rw [if_pos c, if_pos w0, if_pos hx', if_pos w0', if_pos hy', if_pos (by unfold r64; omega), if_pos (by unfold r64; omega)]
    by_cases c1 : zcmp (B 13 w 16 x') (B 13 w' 16 y') = 0
    · rw [if_pos c1, if_pos (by unfold r64; omega), if_pos (by unfold r64; omega)]
      by_cases c2 : zcmp (B 13 w 17 x') (B 13 w' 17 y') = 0
      · rw [if_pos c2, if_pos (Or.inr rfl)]
        exact ⟨1, F, rfl, Or.inr rfl, fun _ _ _ _ => rfl⟩
      · rw [if_neg c2]; exact z0 F
    · rw [if_neg c1]; exact z0 F
  · rw [if_neg c, if_pos w0', if_pos hy, if_pos w0, if_pos hx]
    obtain ⟨u, v, e, u0, v0⟩ := L_tmW (F := F) (B := B) hK b_y.1 b_y.2 bx.2 bx.1 (by decide) (by decide) (by decide) (by decide) (by decide) (by decide)
    have f0 : (zup3 (zup3 F 14 0 0 u) 14 0 1 v) 14 0 0 = u := by unfold zup3; rw [if_neg (by decide), if_pos (by decide)]
    have f1 : (zup3 (zup3 F 14 0 0 u) 14 0 1 v) 14 0 1 = v := by unfold zup3; rw [if_pos (by decide)]
    have hsc := scr_2 (F := F) (a := u) (b := v)
    rw [e, zb_s, if_pos hx']
    obtain ⟨F1, eF⟩ : ∃ F1, F1 = zup3 (zup3 F 14 0 0 u) 14 0 1 v := ⟨_, rfl⟩
    rw [← eF] at f0 f1 hsc ⊢
    rw [f0, f1]
    obtain ⟨u', v', e', u0', v0'⟩ := L_tmW (F := F1) (B := B) hK bx'.1 bx'.2 (c := u) (z := 859963392) (by first | decide | omega) (d := v) (t := 859963392) (by first | decide | omega) (by decide) (by decide) (by decide) (by decide) (by decide) (by decide)
    have k0 : (zup3 (zup3 F1 14 0 0 u') 14 0 1 v') 14 0 0 = u' := by unfold zup3; rw [if_neg (by decide), if_pos (by decide)]
    have k1 : (zup3 (zup3 F1 14 0 0 u') 14 0 1 v') 14 0 1 = v' := by unfold zup3; rw [if_pos (by decide)]
    have hsc' := scr_t hsc (scr_2 (F := F1) (a := u') (b := v'))
    rw [e', zb_s, if_pos hy']
    obtain ⟨F2, eG⟩ : ∃ F2, F2 = zup3 (zup3 F1 14 0 0 u') 14 0 1 v' := ⟨_, rfl⟩
    rw [← eG] at k0 k1 hsc' ⊢
    rw [k0, k1, if_pos (by unfold r64; omega), if_pos (by unfold r64; omega)]
    have zz : ∃ r F', (if ((0 : Int) = 0 ∨ (0 : Int) = 1) then some ((0 : Int), F2, B) else none) = some (r, F', B) ∧ (r = 0 ∨ r = 1) ∧ scr F F' := ⟨0, F2, by rw [if_pos (Or.inl rfl)], Or.inl rfl, hsc'⟩
    by_cases c1 : zcmp u' (B 13 w' 16 y') = 0
    · rw [if_pos c1, if_pos (by unfold r64; omega), if_pos (by unfold r64; omega)]
      by_cases c2 : zcmp v' (B 13 w' 17 y') = 0
      · rw [if_pos c2, if_pos (Or.inr rfl)]
        exact ⟨1, F2, rfl, Or.inr rfl, hsc'⟩
      · rw [if_neg c2]; exact zz
    · rw [if_neg c1]; exact zz
end
end
