section
/-! ===== lengths as powers; the powers of slows ===== -/
theorem lenV_e {n p : Int} (hn : pw2 n) (hp : 0 ≤ p ∧ p ≤ 2) : lenV n p = 2 ^ (7 - p - lg2 n).toNat * 3 ^ (if p = 1 then 1 else 0) * 7 ^ (if p = 2 then 1 else 0) ∧ 0 ≤ 7 - p - lg2 n ∧ 7 - p - lg2 n ≤ 7 := by
  have h : p = 0 ∨ p = 1 ∨ p = 2 := by omega
  rcases h with rfl | rfl | rfl <;> rcases hn with rfl | rfl | rfl | rfl | rfl | rfl <;> decide +kernel
theorem C_slowed {K : zK} {F : zF} {B : zB} {n p v : Int} (hv : v = lenV n p) (hn : pw2 n) (hp : 0 ≤ p ∧ p ≤ 2) (h11 : 0 < K.2 11) (hK : 2000 < K.1) (hb : ∀ q, 0 ≤ q → q < 4 → -1000 ≤ B 11 0 14 q ∧ B 11 0 14 q ≤ 1000) : f_Walker_slowed K 0 v F B = some (slV (B 11 0 14 0 + 7 - p - lg2 n) (B 11 0 14 1 + (if p = 1 then 1 else 0)) (B 11 0 14 2) (B 11 0 14 3 + (if p = 2 then 1 else 0)), F, B) := by
  obtain ⟨e, l0, l1⟩ := lenV_e hn hp
  have b0 := hb 0 (by decide) (by decide)
  have b1 := hb 1 (by decide) (by decide)
  have b2 := hb 2 (by decide) (by decide)
  have b3 := hb 3 (by decide) (by decide)
  have hc := C_slow (K := K) (F := F) (B := B) (a := (7 - p - lg2 n).toNat) (b := if p = 1 then 1 else 0) (c := if p = 2 then 1 else 0) (by first | decide | omega) (by split <;> split <;> omega) h11 hK rfl rfl rfl rfl (by first | decide | omega) (by first | decide | omega) (by first | decide | omega) (by first | decide | omega)
  rw [hv, e, hc]
  congr 3
  · omega
  · split <;> omega
  · split <;> omega
def exN (p x : Int) : Nat := if x % p = 0 then (if x / p % p = 0 then (if x / p / p % p = 0 then 3 else 2) else 1) else 0
def rmN (p x : Int) : Int := x / p ^ exN p x
theorem exN_f : ∀ x : Fin 9, 1 ≤ x.val → ∀ p ∈ [(2 : Int), 3, 5, 7], (exN p x.val ≤ 3 ∧ (x.val : Int) = p ^ exN p x.val * rmN p x.val ∧ ¬ rmN p x.val % p = 0 ∧ 1 ≤ rmN p x.val ∧ rmN p x.val ≤ 8) := by decide +kernel
theorem exN_g : ∀ x : Fin 9, 1 ≤ x.val → (exN 3 (rmN 2 x.val) = exN 3 x.val ∧ exN 5 (rmN 3 (rmN 2 x.val)) = exN 5 x.val ∧ exN 7 (rmN 5 (rmN 3 (rmN 2 x.val))) = exN 7 x.val ∧ ¬ rmN 3 (rmN 2 x.val) % 4 = 0 ∧ ¬ rmN 5 (rmN 3 (rmN 2 x.val)) % 6 = 0) := by decide +kernel
theorem exN_e {x p : Int} (h0 : 1 ≤ x) (h1 : x ≤ 8) (hp : p = 2 ∨ p = 3 ∨ p = 5 ∨ p = 7) : exN p x ≤ 3 ∧ x = p ^ exN p x * rmN p x ∧ ¬ rmN p x % p = 0 ∧ 1 ≤ rmN p x ∧ rmN p x ≤ 8 := by
  have h := exN_f ⟨x.toNat, (by first | decide | omega)⟩ (by show 1 ≤ x.toNat; omega) p (by rcases hp with rfl | rfl | rfl | rfl <;> decide)
  rw [show (((⟨x.toNat, (by first | decide | omega)⟩ : Fin 9).val : Nat) : Int) = x by show ((x.toNat : Nat) : Int) = x; omega] at h
  exact h
theorem exN_h {x : Int} (h0 : 1 ≤ x) (h1 : x ≤ 8) : exN 3 (rmN 2 x) = exN 3 x ∧ exN 5 (rmN 3 (rmN 2 x)) = exN 5 x ∧ exN 7 (rmN 5 (rmN 3 (rmN 2 x))) = exN 7 x ∧ ¬ rmN 3 (rmN 2 x) % 4 = 0 ∧ ¬ rmN 5 (rmN 3 (rmN 2 x)) % 6 = 0 := by
  have h := exN_g ⟨x.toNat, (by first | decide | omega)⟩ (by show 1 ≤ x.toNat; omega)
  rw [show (((⟨x.toNat, (by first | decide | omega)⟩ : Fin 9).val : Nat) : Int) = x by show ((x.toNat : Nat) : Int) = x; omega] at h
  exact h
theorem zd8_e : ∀ x : Fin 9, ∀ p : Fin 8, 2 ≤ p.val → zrm (x.val : Int) (p.val : Int) = (x.val : Int) % (p.val : Int) ∧ zdv (x.val : Int) (p.val : Int) = (x.val : Int) / (p.val : Int) := by decide +kernel
theorem zd8 {x p : Int} (h0 : 0 ≤ x) (h1 : x ≤ 8) (p0 : 2 ≤ p) (p1 : p ≤ 7) : zrm x p = x % p ∧ zdv x p = x / p := by
  have h := zd8_e ⟨x.toNat, (by first | decide | omega)⟩ ⟨p.toNat, (by first | decide | omega)⟩ (by show 2 ≤ p.toNat; omega)
  rw [show (((⟨x.toNat, (by first | decide | omega)⟩ : Fin 9).val : Nat) : Int) = x by show ((x.toNat : Nat) : Int) = x; omega, show (((⟨p.toNat, (by first | decide | omega)⟩ : Fin 8).val : Nat) : Int) = p by show ((p.toNat : Nat) : Int) = p; omega] at h
  exact h
/-- cell x of row (c, 0, k) grew by v -/
def grew (c k : Nat) (x v : Int) (B B' : zB) : Prop := B' c 0 k x = B c 0 k x + v ∧ ∀ c' i' k' x', ¬ (c' = c ∧ i' = 0 ∧ k' = k ∧ x' = x) → B' c' i' k' x' = B c' i' k' x'
theorem grew_0 {c k : Nat} {x : Int} {B : zB} : grew c k x 0 B B := ⟨(by first | decide | omega), fun _ _ _ _ _ => rfl⟩
theorem grew_s {c k : Nat} {x v w : Int} {B B' : zB} (h : grew c k x v (zup4 B c 0 k x (B c 0 k x + w)) B') : grew c k x (v + w) B B' := ⟨by rw [h.1, zup4_v, if_pos ⟨rfl, rfl, rfl, rfl⟩]; omega, fun c' i' k' x' n => by rw [h.2 c' i' k' x' n, zup4_v, if_neg n]⟩
theorem M17 {rec : Int → Int → Int → Int → zF → zB → zO} {K : zK} {F : zF} {P q s r : Int} (h11 : 0 < K.2 11) (hq : 0 ≤ q ∧ q < 4) (hP : ztv 6 q = P) (hP7 : P = 2 ∨ P = 3 ∨ P = 5 ∨ P = 7) (hr0 : 1 ≤ r) (hr : ¬ r % P = 0) : ∀ (k n : Nat) {l : Int} {B : zB}, 0 ≤ l → l + k ≤ 3 → k < n → P ^ k * r ≤ 8 → ∃ B', f_Walker_multiplySlow_17 rec K n l q (P ^ k * r) 0 s F B = rec (q + 1) r 0 s F B' ∧ grew 11 14 q (k * s) B B' := by
  intro k
  induction k with
  | zero =>
    intro n l B h0 h1 hn hx
    obtain ⟨n, rfl⟩ : ∃ m, n = m + 1 := ⟨n - 1, (by first | decide | omega)⟩
    rw [Int.pow_zero, Int.one_mul] at hx ⊢
    have m0 : 0 ≤ r % P := Int.emod_nonneg _ (by first | decide | omega)
    have m1 : r % P < P := Int.emod_lt_of_pos _ (by first | decide | omega)
    refine ⟨B, ?_, by simpa using grew_0⟩
    unfold f_Walker_multiplySlow_17 f_Walker_multiplySlow_60
    rw [if_pos (by unfold r32; omega), if_neg (by first | decide | omega), if_pos (by rw [zt6l]; omega), hP, if_pos (iI_n0 (by first | decide | omega) (by first | decide | omega)), (zd8 (by first | decide | omega) hx (by first | decide | omega) (by first | decide | omega)).1, if_pos (by unfold r32; omega), if_neg hr]
  | succ k ih =>
    intro n l B h0 h1 hn hx
    obtain ⟨n, rfl⟩ : ∃ m, n = m + 1 := ⟨n - 1, (by first | decide | omega)⟩
    have x0 : 1 ≤ P ^ k * r := ml_1 (pw_1 (by first | decide | omega) _) hr0
    have ee : P ^ (k + 1) * r = P * (P ^ k * r) := by
      rw [Int.pow_succ]
      ac_rfl
    rw [ee] at hx ⊢
    have e0 : P * (P ^ k * r) % P = 0 := Int.mul_emod_right _ _
    have e1 : P * (P ^ k * r) / P = P ^ k * r := Int.mul_ediv_cancel_left _ (by first | decide | omega)
    have e2 : 1 * (P ^ k * r) ≤ P * (P ^ k * r) := Int.mul_le_mul_of_nonneg_right (by first | decide | omega) (by first | decide | omega)
    obtain ⟨z1, z2⟩ := zd8 (x := P * (P ^ k * r)) (p := P) (by first | decide | omega) hx (by first | decide | omega) (by first | decide | omega)
    obtain ⟨B', h, g⟩ := ih n (l := l + 1) (B := zup4 B 11 0 14 q (B 11 0 14 q + s)) (by first | decide | omega) (by first | decide | omega) (by first | decide | omega) (by first | decide | omega)
    refine ⟨B', ?_, ?_⟩
    · unfold f_Walker_multiplySlow_17
      rw [if_pos (by unfold r32; omega), if_neg (by first | decide | omega), if_pos (by rw [zt6l]; omega), hP, if_pos (iI_n0 (by first | decide | omega) (by first | decide | omega)), z1, z2, e0, e1, if_pos (by decide), if_pos rfl, if_pos ⟨Int.le_refl _, h11⟩, if_pos hq, h]
    · have := grew_s g
      rwa [show ((k + 1 : Nat) : Int) * s = k * s + s by rw [Int.natCast_add, Int.add_mul]; simp]
theorem M12 {rec : Int → Int → Int → zF → zB → zO} {K : Nat} {F : zF} {P s r : Int} (hP7 : P = 2 ∨ P = 3 ∨ P = 5 ∨ P = 7) (hr0 : 1 ≤ r) (hr : ¬ r % P = 0) : ∀ (k n : Nat) {B : zB}, k < n → P ^ k * r ≤ 8 → ∃ B', f_M_power_12 rec K n P (P ^ k * r) s F B = rec (P + 1) r s F B' ∧ grew 14 51 P (k * s) B B' := by
  intro k
  induction k with
  | zero =>
    intro n B hn hx
    obtain ⟨n, rfl⟩ : ∃ m, n = m + 1 := ⟨n - 1, (by first | decide | omega)⟩
    rw [Int.pow_zero, Int.one_mul] at hx ⊢
    have m0 : 0 ≤ r % P := Int.emod_nonneg _ (by first | decide | omega)
    have m1 : r % P < P := Int.emod_lt_of_pos _ (by first | decide | omega)
    refine ⟨B, ?_, by simpa using grew_0⟩
    unfold f_M_power_12
    rw [if_pos (iI_n0 (by first | decide | omega) (by first | decide | omega)), (zd8 (by first | decide | omega) hx (by first | decide | omega) (by first | decide | omega)).1, if_pos (by unfold r32; omega), if_neg hr]
  | succ k ih =>
    intro n B hn hx
    obtain ⟨n, rfl⟩ : ∃ m, n = m + 1 := ⟨n - 1, (by first | decide | omega)⟩
    have x0 : 1 ≤ P ^ k * r := ml_1 (pw_1 (by first | decide | omega) _) hr0
    have ee : P ^ (k + 1) * r = P * (P ^ k * r) := by
      rw [Int.pow_succ]
      ac_rfl
    rw [ee] at hx ⊢
    have e0 : P * (P ^ k * r) % P = 0 := Int.mul_emod_right _ _
    have e1 : P * (P ^ k * r) / P = P ^ k * r := Int.mul_ediv_cancel_left _ (by first | decide | omega)
    have e2 : 1 * (P ^ k * r) ≤ P * (P ^ k * r) := Int.mul_le_mul_of_nonneg_right (by first | decide | omega) (by first | decide | omega)
    obtain ⟨z1, z2⟩ := zd8 (x := P * (P ^ k * r)) (p := P) (by first | decide | omega) hx (by first | decide | omega) (by first | decide | omega)
    obtain ⟨B', h, g⟩ := ih n (B := zup4 B 14 0 51 P (B 14 0 51 P + s)) (by first | decide | omega) (by first | decide | omega)
    refine ⟨B', ?_, ?_⟩
    · unfold f_M_power_12
      rw [if_pos (iI_n0 (by first | decide | omega) (by first | decide | omega)), z1, z2, e0, e1, if_pos (by decide), if_pos rfl, if_pos (by first | decide | omega), h]
    · have := grew_s g
      rwa [show ((k + 1 : Nat) : Int) * s = k * s + s by rw [Int.natCast_add, Int.add_mul]; simp]
theorem M12n {rec : Int → Int → Int → zF → zB → zO} {K n : Nat} {F : zF} {B : zB} {P s r : Int} (p0 : 2 ≤ P) (p1 : P ≤ 7) (r0 : 1 ≤ r) (r1 : r ≤ 8) (hr : ¬ r % P = 0) : f_M_power_12 rec K (n + 1) P r s F B = rec (P + 1) r s F B := by
  have m0 : 0 ≤ r % P := Int.emod_nonneg _ (by first | decide | omega)
  have m1 : r % P < P := Int.emod_lt_of_pos _ (by first | decide | omega)
  unfold f_M_power_12
  rw [if_pos (iI_n0 (by first | decide | omega) (by first | decide | omega)), (zd8 (by first | decide | omega) r1 p0 p1).1, if_pos (by unfold r32; omega), if_neg hr]
def prN (q : Int) : Int := if q = 0 then 2 else if q = 1 then 3 else if q = 2 then 5 else 7
theorem C_mul {K : zK} {F : zF} {B : zB} {x s : Int} (h11 : 0 < K.2 11) (hK : 10 < K.1) (h0 : 1 ≤ x) (h1 : x ≤ 8) : ∃ B', f_Walker_multiplySlow K 0 x s F B = some (0, F, B') ∧ (∀ q, 0 ≤ q → q < 4 → B' 11 0 14 q = B 11 0 14 q + exN (prN q) x * s) ∧ ∀ c i k y, ¬ (c = 11 ∧ i = 0 ∧ k = 14) → B' c i k y = B c i k y := by
  obtain ⟨n, hn⟩ : ∃ m, K.1 = m + 5 := ⟨K.1 - 5, (by first | decide | omega)⟩
  obtain ⟨g3, g5, g7, g4, g6⟩ := exN_h h0 h1
  obtain ⟨a1, a2, a3, a4, a5⟩ := exN_e h0 h1 (p := 2) (by decide)
  obtain ⟨b1, b2, b3, b4, b5⟩ := exN_e a4 a5 (p := 3) (by decide)
  obtain ⟨c1, c2, c3, c4, c5⟩ := exN_e b4 b5 (p := 5) (by decide)
  obtain ⟨d1, d2, d3, d4, d5⟩ := exN_e c4 c5 (p := 7) (by decide)
  have st : ∀ (m : Nat) (q y : Int) (B : zB), 0 ≤ q → q < 4 → f_Walker_multiplySlow_5 K (m + 1) q y 0 s F B = f_Walker_multiplySlow_17 (f_Walker_multiplySlow_5 K m) K K.1 0 q y 0 s F B := fun m q y B u v => by
    rw [f_Walker_multiplySlow_5, zt6l, if_pos (by unfold r32; omega), if_pos (by decide), if_neg (by first | decide | omega)]
  have en : ∀ (m : Nat) (y : Int) (B : zB), f_Walker_multiplySlow_5 K (m + 1) 4 y 0 s F B = some (0, F, B) := fun m y B => by
    rw [f_Walker_multiplySlow_5, zt6l, if_pos (by decide), if_pos (by decide), if_pos (by decide)]
  obtain ⟨B1, e1, w1⟩ := M17 (rec := f_Walker_multiplySlow_5 K (n + 4)) (F := F) (s := s) h11 (q := 0) (by decide) zt6_0 (by decide) a4 a3 (exN 2 x) K.1 (l := 0) (B := B) (by decide) (by first | decide | omega) (by first | decide | omega) (by first | decide | omega)
  obtain ⟨B2, e2, w2⟩ := M17 (rec := f_Walker_multiplySlow_5 K (n + 3)) (F := F) (s := s) h11 (q := 1) (by decide) zt6_1 (by decide) b4 b3 (exN 3 (rmN 2 x)) K.1 (l := 0) (B := B1) (by decide) (by first | decide | omega) (by first | decide | omega) (by first | decide | omega)
  obtain ⟨B3, e3, w3⟩ := M17 (rec := f_Walker_multiplySlow_5 K (n + 2)) (F := F) (s := s) h11 (q := 2) (by decide) zt6_2 (by decide) c4 c3 (exN 5 (rmN 3 (rmN 2 x))) K.1 (l := 0) (B := B2) (by decide) (by first | decide | omega) (by first | decide | omega) (by first | decide | omega)
  obtain ⟨B4, e4, w4⟩ := M17 (rec := f_Walker_multiplySlow_5 K (n + 1)) (F := F) (s := s) h11 (q := 3) (by decide) zt6_3 (by decide) d4 d3 (exN 7 (rmN 5 (rmN 3 (rmN 2 x)))) K.1 (l := 0) (B := B3) (by decide) (by first | decide | omega) (by first | decide | omega) (by first | decide | omega)
  rw [← a2] at e1
  rw [← b2] at e2
  rw [← c2] at e3
  rw [← d2] at e4
  refine ⟨B4, ?_, ?_, ?_⟩
  · unfold f_Walker_multiplySlow
    rw [show f_Walker_multiplySlow_5 K K.1 0 x 0 s F B = f_Walker_multiplySlow_5 K (n + 4 + 1) 0 x 0 s F B by rw [← hn], st _ _ _ _ (by decide) (by decide), e1, show (0 : Int) + 1 = 1 by decide, st _ _ _ _ (by decide) (by decide), e2, show (1 : Int) + 1 = 2 by decide, st _ _ _ _ (by decide) (by decide), e3, show (2 : Int) + 1 = 3 by decide, st _ _ _ _ (by decide) (by decide), e4, show (3 : Int) + 1 = 4 by decide, en]
  · intro q q0 q1
    have hq : q = 0 ∨ q = 1 ∨ q = 2 ∨ q = 3 := by omega
    rcases hq with rfl | rfl | rfl | rfl
    · rw [w4.2 _ _ _ _ (by decide), w3.2 _ _ _ _ (by decide), w2.2 _ _ _ _ (by decide), w1.1]; rfl
    · rw [w4.2 _ _ _ _ (by decide), w3.2 _ _ _ _ (by decide), w2.1, w1.2 _ _ _ _ (by decide), g3]; rfl
    · rw [w4.2 _ _ _ _ (by decide), w3.1, w2.2 _ _ _ _ (by decide), w1.2 _ _ _ _ (by decide), g5]; rfl
    · rw [w4.1, w3.2 _ _ _ _ (by decide), w2.2 _ _ _ _ (by decide), w1.2 _ _ _ _ (by decide), g7]; rfl
  · intro c i k y h
    rw [w4.2 _ _ _ _ (by first | decide | omega), w3.2 _ _ _ _ (by first | decide | omega), w2.2 _ _ _ _ (by first | decide | omega), w1.2 _ _ _ _ (by first | decide | omega)]
theorem L_pow {K : Nat} {F : zF} {B : zB} {x s : Int} (hK : 10 < K) (h0 : 1 ≤ x) (h1 : x ≤ 8) : ∃ B', f_M_power K x s F B = some (0, F, B') ∧ (∀ q, 0 ≤ q → q < 4 → B' 14 0 51 (prN q) = B 14 0 51 (prN q) + exN (prN q) x * s) ∧ ∀ c i k y, ¬ (c = 14 ∧ i = 0 ∧ k = 51 ∧ (y = 2 ∨ y = 3 ∨ y = 5 ∨ y = 7)) → B' c i k y = B c i k y := by
  obtain ⟨n, hn⟩ : ∃ m, K = m + 7 := ⟨K - 7, (by first | decide | omega)⟩
  obtain ⟨g3, g5, g7, g4, g6⟩ := exN_h h0 h1
  obtain ⟨a1, a2, a3, a4, a5⟩ := exN_e h0 h1 (p := 2) (by decide)
  obtain ⟨b1, b2, b3, b4, b5⟩ := exN_e a4 a5 (p := 3) (by decide)
  obtain ⟨c1, c2, c3, c4, c5⟩ := exN_e b4 b5 (p := 5) (by decide)
  obtain ⟨d1, d2, d3, d4, d5⟩ := exN_e c4 c5 (p := 7) (by decide)
  have st : ∀ (m : Nat) (q y : Int) (B : zB), 0 ≤ q → q < 8 → f_M_power_5 K (m + 1) q y s F B = f_M_power_12 (f_M_power_5 K m) K K q y s F B := fun m q y B u v => by
    rw [f_M_power_5, if_pos (by unfold r32; omega), if_neg (by first | decide | omega)]
  have en : ∀ (m : Nat) (y : Int) (B : zB), f_M_power_5 K (m + 1) 8 y s F B = some (0, F, B) := fun m y B => by
    rw [f_M_power_5, if_pos (by decide), if_pos (by decide)]
  obtain ⟨B1, e1, w1⟩ := M12 (rec := f_M_power_5 K (n + 6)) (K := K) (F := F) (s := s) (P := 2) (by decide) a4 a3 (exN 2 x) K (B := B) (by first | decide | omega) (by first | decide | omega)
  obtain ⟨B2, e2, w2⟩ := M12 (rec := f_M_power_5 K (n + 5)) (K := K) (F := F) (s := s) (P := 3) (by decide) b4 b3 (exN 3 (rmN 2 x)) K (B := B1) (by first | decide | omega) (by first | decide | omega)
  obtain ⟨B3, e3, w3⟩ := M12 (rec := f_M_power_5 K (n + 3)) (K := K) (F := F) (s := s) (P := 5) (by decide) c4 c3 (exN 5 (rmN 3 (rmN 2 x))) K (B := B2) (by first | decide | omega) (by first | decide | omega)
  obtain ⟨B4, e4, w4⟩ := M12 (rec := f_M_power_5 K (n + 1)) (K := K) (F := F) (s := s) (P := 7) (by decide) d4 d3 (exN 7 (rmN 5 (rmN 3 (rmN 2 x)))) K (B := B3) (by first | decide | omega) (by first | decide | omega)
  rw [← a2] at e1
  rw [← b2] at e2
  rw [← c2] at e3
  rw [← d2] at e4
  have m4 : ∀ {rec : Int → Int → Int → zF → zB → zO} {B : zB}, f_M_power_12 rec K K 4 (rmN 3 (rmN 2 x)) s F B = rec (4 + 1) (rmN 3 (rmN 2 x)) s F B := fun {rec B} => by
    have := M12n (rec := rec) (K := K) (n := n + 6) (F := F) (B := B) (s := s) (P := 4) (by decide) (by decide) b4 b5 g4
    rwa [← hn] at this
  have m6 : ∀ {rec : Int → Int → Int → zF → zB → zO} {B : zB}, f_M_power_12 rec K K 6 (rmN 5 (rmN 3 (rmN 2 x))) s F B = rec (6 + 1) (rmN 5 (rmN 3 (rmN 2 x))) s F B := fun {rec B} => by
    have := M12n (rec := rec) (K := K) (n := n + 6) (F := F) (B := B) (s := s) (P := 6) (by decide) (by decide) c4 c5 g6
    rwa [← hn] at this
  refine ⟨B4, ?_, ?_, ?_⟩
  · unfold f_M_power
    rw [show f_M_power_5 K K 2 x s F B = f_M_power_5 K (n + 6 + 1) 2 x s F B by rw [← hn], st _ _ _ _ (by decide) (by decide), e1, show (2 : Int) + 1 = 3 by decide, st _ _ _ _ (by decide) (by decide), e2, show (3 : Int) + 1 = 4 by decide, st _ _ _ _ (by decide) (by decide), m4, show (4 : Int) + 1 = 5 by decide, st _ _ _ _ (by decide) (by decide), e3, show (5 : Int) + 1 = 6 by decide, st _ _ _ _ (by decide) (by decide), m6, show (6 : Int) + 1 = 7 by decide, st _ _ _ _ (by decide) (by decide), e4, show (7 : Int) + 1 = 8 by decide, en]
  · intro q q0 q1
    have hq : q = 0 ∨ q = 1 ∨ q = 2 ∨ q = 3 := by omega
    rcases hq with rfl | rfl | rfl | rfl
    · show B4 14 0 51 2 = _
      rw [w4.2 _ _ _ _ (by decide), w3.2 _ _ _ _ (by decide), w2.2 _ _ _ _ (by decide), w1.1]; rfl
    · show B4 14 0 51 3 = _
      rw [w4.2 _ _ _ _ (by decide), w3.2 _ _ _ _ (by decide), w2.1, w1.2 _ _ _ _ (by decide), g3]; rfl
    · show B4 14 0 51 5 = _
      rw [w4.2 _ _ _ _ (by decide), w3.1, w2.2 _ _ _ _ (by decide), w1.2 _ _ _ _ (by decide), g5]; rfl
    · show B4 14 0 51 7 = _
      rw [w4.1, w3.2 _ _ _ _ (by decide), w2.2 _ _ _ _ (by decide), w1.2 _ _ _ _ (by decide), g7]; rfl
  · intro c i k y h
    rw [w4.2 _ _ _ _ (by first | decide | omega), w3.2 _ _ _ _ (by first | decide | omega), w2.2 _ _ _ _ (by first | decide | omega), w1.2 _ _ _ _ (by first | decide | omega)]
end
