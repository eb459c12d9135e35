section
/-! ===== the class's value times the slows around ===== -/
theorem zt6l : ztl 6 = 4 := by decide
theorem zt6_0 : ztv 6 0 = 2 := by decide
theorem zt6_1 : ztv 6 1 = 3 := by decide
theorem zt6_2 : ztv 6 2 = 5 := by decide
theorem zt6_3 : ztv 6 3 = 7 := by decide
theorem zdm_e : ∀ x : Fin 1025, ∀ p ∈ [2, 3, 5, 7], zrm (x.val : Int) p = (x.val : Int) % p ∧ zdv (x.val : Int) p = (x.val : Int) / p := by decide +kernel
theorem zdm {x p : Int} (h0 : 0 ≤ x) (h1 : x ≤ 1024) (hp : p = 2 ∨ p = 3 ∨ p = 5 ∨ p = 7) : zrm x p = x % p ∧ zdv x p = x / p := by
  have h := zdm_e ⟨x.toNat, (by first | decide | omega)⟩ p (by rcases hp with rfl | rfl | rfl | rfl <;> decide)
  rw [show (((⟨x.toNat, (by first | decide | omega)⟩ : Fin 1025).val : Nat) : Int) = x by show ((x.toNat : Nat) : Int) = x; omega] at h
  exact h
/-- multiplied up -/
theorem S70 {rec : Int → Int → Int → zF → zB → zO} {K : zK} {F : zF} {B : zB} {P m q e : Int} (h11 : 0 < K.2 11) (hq : 0 ≤ q ∧ q < 4) (hP : ztv 6 q = P) (P2 : 2 ≤ P ∧ P ≤ 7) (he : B 11 0 14 q = e) (hm : 1 ≤ m) (e1 : -2000 ≤ e ∧ e ≤ 2000) (hr : ∀ x, 1 ≤ x → x ≤ 1024 → rec (q + 1) x 0 F B = some (cap (x * m), F, B)) : ∀ (j n : Nat) {l x : Int}, 0 ≤ l → l ≤ 2000 → (e - l).toNat = j → j < n → 1 ≤ x → x ≤ 1024 → f_Walker_slowed_70 rec K n l q x 0 F B = some (cap (x * P ^ j * m), F, B) := by
  intro j
  induction j with
  | zero =>
    intro n l x h0 h1 hj hn x0 x1
    obtain ⟨n, rfl⟩ : ∃ m, n = m + 1 := ⟨n - 1, (by first | decide | omega)⟩
    unfold f_Walker_slowed_70
    rw [if_pos ⟨Int.le_refl _, h11⟩, if_pos hq, he, if_pos (by unfold r32; omega), if_pos (by unfold r32; omega), if_pos (by first | decide | omega), hr x x0 x1, Int.pow_zero, Int.mul_one]
  | succ j ih =>
    intro n l x h0 h1 hj hn x0 x1
    obtain ⟨n, rfl⟩ : ∃ m, n = m + 1 := ⟨n - 1, (by first | decide | omega)⟩
    have xP : 1 ≤ x * P := ml_1 x0 (by first | decide | omega)
    have xP2 : x * P ≤ 1024 * 7 := Int.mul_le_mul x1 P2.2 (by first | decide | omega) (by decide)
    unfold f_Walker_slowed_70
    rw [if_pos ⟨Int.le_refl _, h11⟩, if_pos hq, he, if_pos (by unfold r32; omega), if_pos (by unfold r32; omega), if_neg (by first | decide | omega), if_pos (by rw [zt6l]; omega), hP, if_pos (by unfold r32; omega)]
    have ee : x * P ^ (j + 1) * m = x * P * (P ^ j * m) := by
      rw [Int.pow_succ]
      ac_rfl
    by_cases b : x * P ≤ 1024
    · rw [if_pos b, ih n (by first | decide | omega) (by first | decide | omega) (by first | decide | omega) (by first | decide | omega) xP b, ee]
      congr 3
      ac_rfl
    · rw [if_neg b, ee, cap_big (by first | decide | omega) (ml_1 (pw_1 (by first | decide | omega) _) hm)]
/-- divided down -/
theorem S20 {rec : Int → Int → Int → zF → zB → zO} {K : zK} {F : zF} {B : zB} {P q r : Int} (hq : 0 ≤ q ∧ q < 4) (hP : ztv 6 q = P) (hP7 : P = 2 ∨ P = 3 ∨ P = 5 ∨ P = 7) (hr0 : 1 ≤ r) (hr : ¬ r % P = 0) : ∀ (j n k : Nat) {l : Int}, -2000 ≤ l → l ≤ 2000 → (-l).toNat = j → j < n → P ^ k * r ≤ 1024 → f_Walker_slowed_20 rec K n l q (P ^ k * r) 0 F B = if j ≤ k then rec (q + 1) (P ^ (k - j) * r) 0 F B else some (-1, F, B) := by
  have P2 : 2 ≤ P ∧ P ≤ 7 := by omega
  intro j
  induction j with
  | zero =>
    intro n k l h0 h1 hj hn hx
    obtain ⟨n, rfl⟩ : ∃ m, n = m + 1 := ⟨n - 1, (by first | decide | omega)⟩
    unfold f_Walker_slowed_20
    rw [if_pos (by unfold r32; omega), if_pos (by first | decide | omega), if_pos (by first | decide | omega), Nat.sub_zero]
  | succ j ih =>
    intro n k l h0 h1 hj hn hx
    obtain ⟨n, rfl⟩ : ∃ m, n = m + 1 := ⟨n - 1, (by first | decide | omega)⟩
    have x0 : 1 ≤ P ^ k * r := ml_1 (pw_1 (by first | decide | omega) _) hr0
    obtain ⟨z1, z2⟩ := zdm (x := P ^ k * r) (by first | decide | omega) hx hP7
    have m0 : 0 ≤ (P ^ k * r) % P := Int.emod_nonneg _ (by first | decide | omega)
    have m1 : (P ^ k * r) % P < P := Int.emod_lt_of_pos _ (by first | decide | omega)
    unfold f_Walker_slowed_20
    rw [if_pos (by unfold r32; omega), if_neg (by first | decide | omega), if_pos (by rw [zt6l]; omega), hP, if_pos (iI_n0 (by first | decide | omega) (by first | decide | omega)), z1, z2, if_pos (by unfold r32; omega)]
    cases k with
    | zero =>
      rw [Int.pow_zero, Int.one_mul, if_neg hr, if_neg (by first | decide | omega)]
    | succ k =>
      have ee : P ^ (k + 1) * r = P * (P ^ k * r) := by
        rw [Int.pow_succ]
        ac_rfl
      have e0 : P ^ (k + 1) * r % P = 0 := by rw [ee]; exact Int.mul_emod_right _ _
      have e1 : P ^ (k + 1) * r / P = P ^ k * r := by rw [ee]; exact Int.mul_ediv_cancel_left _ (by first | decide | omega)
      have e2 : P ^ k * r ≤ 1024 := by
        have : 1 ≤ P ^ k * r := ml_1 (pw_1 (by first | decide | omega) _) hr0
        have : 1 * (P ^ k * r) ≤ P * (P ^ k * r) := Int.mul_le_mul_of_nonneg_right (by first | decide | omega) (by first | decide | omega)
        omega
      rw [if_pos e0, e1, ih n k (by first | decide | omega) (by first | decide | omega) (by first | decide | omega) (by first | decide | omega) e2]
      by_cases c : j ≤ k
      · rw [if_pos c, if_pos (by first | decide | omega), Nat.add_sub_add_right]
      · rw [if_neg c, if_neg (by first | decide | omega)]
/-- all four multiplied -/
theorem S59 {K : zK} {F : zF} {B : zB} {e0 e1 e2 e3 : Int} {n : Nat} (h11 : 0 < K.2 11) (hK : 2000 < K.1) (hn : 5 ≤ n) (h0 : B 11 0 14 0 = e0) (h1 : B 11 0 14 1 = e1) (h2 : B 11 0 14 2 = e2) (h3 : B 11 0 14 3 = e3) (b0 : -2000 ≤ e0 ∧ e0 ≤ 2000) (b1 : -2000 ≤ e1 ∧ e1 ≤ 2000) (b2 : -2000 ≤ e2 ∧ e2 ≤ 2000) (b3 : -2000 ≤ e3 ∧ e3 ≤ 2000) {x : Int} (x0 : 1 ≤ x) (x1 : x ≤ 1024) : f_Walker_slowed_59 K n 0 x 0 F B = some (cap (x * (2 ^ e0.toNat * (3 ^ e1.toNat * (5 ^ e2.toNat * 7 ^ e3.toNat)))), F, B) := by
  obtain ⟨n, rfl⟩ : ∃ m, n = m + 5 := ⟨n - 5, (by first | decide | omega)⟩
  have i4 : ∀ x, 1 ≤ x → x ≤ 1024 → f_Walker_slowed_59 K (n + 1) (3 + 1) x 0 F B = some (cap (x * 1), F, B) := fun x a b => by
    unfold f_Walker_slowed_59 f_Walker_slowed_122 cap
    rw [zt6l, if_pos (by decide), if_pos (by decide), if_pos (by decide), if_pos (by unfold r32; omega), Int.mul_one]
    split <;> rfl
  have i3 : ∀ x, 1 ≤ x → x ≤ 1024 → f_Walker_slowed_59 K (n + 2) (2 + 1) x 0 F B = some (cap (x * 7 ^ e3.toNat), F, B) := fun x a b => by
    unfold f_Walker_slowed_59
    rw [zt6l, if_pos (by decide), if_pos (by decide), if_neg (by decide), show (2 : Int) + 1 = 3 by decide, S70 (P := 7) (m := 1) h11 (by decide) zt6_3 (by decide) h3 (by decide) b3 i4 e3.toNat K.1 (by decide) (by decide) (by first | decide | omega) (by first | decide | omega) a b, Int.mul_one]
  have i2 : ∀ x, 1 ≤ x → x ≤ 1024 → f_Walker_slowed_59 K (n + 3) (1 + 1) x 0 F B = some (cap (x * (5 ^ e2.toNat * 7 ^ e3.toNat)), F, B) := fun x a b => by
    unfold f_Walker_slowed_59
    rw [zt6l, if_pos (by decide), if_pos (by decide), if_neg (by decide), show (1 : Int) + 1 = 2 by decide, S70 (P := 5) h11 (by decide) zt6_2 (by decide) h2 (pw_1 (by decide) _) b2 i3 e2.toNat K.1 (by decide) (by decide) (by first | decide | omega) (by first | decide | omega) a b, Int.mul_assoc]
  have i1 : ∀ x, 1 ≤ x → x ≤ 1024 → f_Walker_slowed_59 K (n + 4) (0 + 1) x 0 F B = some (cap (x * (3 ^ e1.toNat * (5 ^ e2.toNat * 7 ^ e3.toNat))), F, B) := fun x a b => by
    unfold f_Walker_slowed_59
    rw [zt6l, if_pos (by decide), if_pos (by decide), if_neg (by decide), show (0 : Int) + 1 = 1 by decide, S70 (P := 3) h11 (by decide) zt6_1 (by decide) h1 (ml_1 (pw_1 (by decide) _) (pw_1 (by decide) _)) b1 i2 e1.toNat K.1 (by decide) (by decide) (by first | decide | omega) (by first | decide | omega) a b, Int.mul_assoc]
  unfold f_Walker_slowed_59
  rw [zt6l, if_pos (by decide), if_pos (by decide), if_neg (by decide), S70 (P := 2) h11 (by decide) zt6_0 (by decide) h0 (ml_1 (pw_1 (by decide) _) (ml_1 (pw_1 (by decide) _) (pw_1 (by decide) _))) b0 i1 e0.toNat K.1 (by decide) (by decide) (by first | decide | omega) (by first | decide | omega) x0 x1, Int.mul_assoc]
theorem nd2 : ∀ b c : Fin 2, ¬ ((3 : Int) ^ b.val * 7 ^ c.val) % 2 = 0 := by decide +kernel
theorem nd3 : ∀ a : Fin 8, ∀ c : Fin 2, ¬ ((2 : Int) ^ a.val * 7 ^ c.val) % 3 = 0 := by decide +kernel
theorem nd5 : ∀ a : Fin 8, ∀ b c : Fin 2, ¬ ((2 : Int) ^ a.val * 3 ^ b.val * 7 ^ c.val) % 5 = 0 := by decide +kernel
theorem nd7 : ∀ a : Fin 8, ∀ b : Fin 2, ¬ ((2 : Int) ^ a.val * 3 ^ b.val) % 7 = 0 := by decide +kernel
theorem ndb : ∀ a : Fin 8, ∀ b c : Fin 2, b.val + c.val ≤ 1 → (2 : Int) ^ a.val * 3 ^ b.val * 7 ^ c.val ≤ 1024 := by decide +kernel
theorem nsub (e : Int) (k : Nat) (h : (-e).toNat ≤ k) : ((k : Int) + e).toNat = k - (-e).toNat + e.toNat := by omega
theorem C_slow {K : zK} {F : zF} {B : zB} {e0 e1 e2 e3 : Int} {a b c : Nat} (ha : a ≤ 7) (hbc : b + c ≤ 1) (h11 : 0 < K.2 11) (hK : 2000 < K.1) (h0 : B 11 0 14 0 = e0) (h1 : B 11 0 14 1 = e1) (h2 : B 11 0 14 2 = e2) (h3 : B 11 0 14 3 = e3) (b0 : -2000 ≤ e0 ∧ e0 ≤ 2000) (b1 : -2000 ≤ e1 ∧ e1 ≤ 2000) (b2 : -2000 ≤ e2 ∧ e2 ≤ 2000) (b3 : -2000 ≤ e3 ∧ e3 ≤ 2000) : f_Walker_slowed K 0 (2 ^ a * 3 ^ b * 7 ^ c) F B = some (slV (a + e0) (b + e1) e2 (c + e3), F, B) := by
  obtain ⟨n, hn⟩ : ∃ m, K.1 = m + 5 := ⟨K.1 - 5, (by first | decide | omega)⟩
  have st : ∀ (m : Nat) (q x : Int), 0 ≤ q → q < 4 → f_Walker_slowed_4 K (m + 1) q x 0 F B = f_Walker_slowed_20 (f_Walker_slowed_4 K m) K K.1 (B 11 0 14 q) q x 0 F B := fun m q x u v => by
    rw [f_Walker_slowed_4, zt6l, if_pos (by unfold r32; omega), if_pos (by decide), if_neg (by first | decide | omega), if_pos ⟨Int.le_refl _, h11⟩, if_pos ⟨u, v⟩]
  have en : ∀ (m : Nat) (x : Int), f_Walker_slowed_4 K (m + 1) 4 x 0 F B = f_Walker_slowed_59 K K.1 0 x 0 F B := fun m x => by
    rw [f_Walker_slowed_4, zt6l, if_pos (by decide), if_pos (by decide), if_pos (by decide)]
  have bd : ∀ (a' b' c' : Nat), a' ≤ 7 → b' ≤ 1 → c' ≤ 1 → b' + c' ≤ 1 → (2 : Int) ^ a' * 3 ^ b' * 7 ^ c' ≤ 1024 := fun a' b' c' u v w s => ndb ⟨a', (by first | decide | omega)⟩ ⟨b', (by first | decide | omega)⟩ ⟨c', (by first | decide | omega)⟩ s
  have lo : ∀ (a' b' c' : Nat), (1 : Int) ≤ 2 ^ a' * 3 ^ b' * 7 ^ c' := fun a' b' c' => ml_1 (ml_1 (pw_1 (by decide) _) (pw_1 (by decide) _)) (pw_1 (by decide) _)
  unfold f_Walker_slowed slV
  rw [hn, st _ _ _ (by decide) (by decide), h0, show (2 : Int) ^ a * 3 ^ b * 7 ^ c = 2 ^ a * (3 ^ b * 7 ^ c) by rw [Int.mul_assoc], S20 (P := 2) (by decide) zt6_0 (by decide) (ml_1 (pw_1 (by decide) _) (pw_1 (by decide) _)) (nd2 ⟨b, (by first | decide | omega)⟩ ⟨c, (by first | decide | omega)⟩) (-e0).toNat K.1 a (by first | decide | omega) (by first | decide | omega) rfl (by first | decide | omega) (by rw [← Int.mul_assoc]; exact bd a b c ha (by first | decide | omega) (by first | decide | omega) (by first | decide | omega))]
  by_cases k0 : (-e0).toNat ≤ a
  case neg => rw [if_neg k0, if_neg (by first | decide | omega)]
  rw [if_pos k0, show (0 : Int) + 1 = 1 by decide, st _ _ _ (by decide) (by decide), h1]
  generalize hA : a - (-e0).toNat = a'
  rw [show (2 : Int) ^ a' * (3 ^ b * 7 ^ c) = 3 ^ b * (2 ^ a' * 7 ^ c) by ac_rfl, S20 (P := 3) (by decide) zt6_1 (by decide) (ml_1 (pw_1 (by decide) _) (pw_1 (by decide) _)) (nd3 ⟨a', (by first | decide | omega)⟩ ⟨c, (by first | decide | omega)⟩) (-e1).toNat K.1 b (by first | decide | omega) (by first | decide | omega) rfl (by first | decide | omega) (by rw [show (3 : Int) ^ b * (2 ^ a' * 7 ^ c) = 2 ^ a' * 3 ^ b * 7 ^ c by ac_rfl]; exact bd a' b c (by first | decide | omega) (by first | decide | omega) (by first | decide | omega) (by first | decide | omega))]
  by_cases k1 : (-e1).toNat ≤ b
  case neg => rw [if_neg k1, if_neg (by first | decide | omega)]
  rw [if_pos k1, show (1 : Int) + 1 = 2 by decide, st _ _ _ (by decide) (by decide), h2]
  generalize hB : b - (-e1).toNat = b'
  rw [show (3 : Int) ^ b' * (2 ^ a' * 7 ^ c) = 5 ^ 0 * (2 ^ a' * 3 ^ b' * 7 ^ c) by rw [Int.pow_zero, Int.one_mul]; ac_rfl, S20 (P := 5) (by decide) zt6_2 (by decide) (lo _ _ _) (nd5 ⟨a', (by first | decide | omega)⟩ ⟨b', (by first | decide | omega)⟩ ⟨c, (by first | decide | omega)⟩) (-e2).toNat K.1 0 (by first | decide | omega) (by first | decide | omega) rfl (by first | decide | omega) (by rw [Int.pow_zero, Int.one_mul]; exact bd a' b' c (by first | decide | omega) (by first | decide | omega) (by first | decide | omega) (by first | decide | omega))]
  by_cases k2 : (-e2).toNat ≤ 0
  case neg => rw [if_neg k2, if_neg (by first | decide | omega)]
  rw [if_pos k2, show (2 : Int) + 1 = 3 by decide, st _ _ _ (by decide) (by decide), h3, Nat.zero_sub, Int.pow_zero, Int.one_mul, show (2 : Int) ^ a' * 3 ^ b' * 7 ^ c = 7 ^ c * (2 ^ a' * 3 ^ b') by ac_rfl, S20 (P := 7) (by decide) zt6_3 (by decide) (ml_1 (pw_1 (by decide) _) (pw_1 (by decide) _)) (nd7 ⟨a', (by first | decide | omega)⟩ ⟨b', (by first | decide | omega)⟩) (-e3).toNat K.1 c (by first | decide | omega) (by first | decide | omega) rfl (by first | decide | omega) (by rw [show (7 : Int) ^ c * (2 ^ a' * 3 ^ b') = 2 ^ a' * 3 ^ b' * 7 ^ c by ac_rfl]; exact bd a' b' c (by first | decide | omega) (by first | decide | omega) (by first | decide | omega) (by first | decide | omega))]
  by_cases k3 : (-e3).toNat ≤ c
  case neg => rw [if_neg k3, if_neg (by first | decide | omega)]
  rw [if_pos k3, if_pos (by first | decide | omega)]
  generalize hC : c - (-e3).toNat = c'
  rw [show (3 : Int) + 1 = 4 by decide, en, show (7 : Int) ^ c' * (2 ^ a' * 3 ^ b') = 2 ^ a' * 3 ^ b' * 7 ^ c' by ac_rfl, S59 h11 hK (by first | decide | omega) h0 h1 h2 h3 b0 b1 b2 b3 (lo _ _ _) (bd a' b' c' (by first | decide | omega) (by first | decide | omega) (by first | decide | omega) (by first | decide | omega)), nsub e0 a k0, nsub e1 b k1, nsub e3 c k3, hA, hB, hC]
  congr 3
  rw [Int.pow_add, Int.pow_add, Int.pow_add]
  ac_rfl
end
