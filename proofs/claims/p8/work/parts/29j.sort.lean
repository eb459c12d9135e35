section
/-! ===== strokes put in order: the class, all passes ===== -/
def SO (d N : Int) (S : Int → Int) : Prop := (∀ t, 0 ≤ t → t < N → r64 (S t)) ∧ (∀ t t', 0 ≤ t → t < N → 0 ≤ t' → t' < N → S t = S t' → t = t') ∧ (∀ k t, 0 ≤ k → d * k ≤ t → t + 1 < d * k + d → t + 1 < N → S t < S (t + 1))
def DO (e N l : Int) (S D : Int → Int) : Prop := (∀ k t, 0 ≤ k → e * k ≤ t → t < e * k + e → t < N → e * k < l → ∃ z, e * k ≤ z ∧ z < e * k + e ∧ z < N ∧ D t = S z) ∧ (∀ k t, 0 ≤ k → e * k ≤ t → t + 1 < e * k + e → t + 1 < N → e * k < l → D t < D (t + 1))
theorem st_lt {D : Int → Int} {a b : Int} (h : ∀ t, a ≤ t → t + 1 < b → D t < D (t + 1)) : ∀ (r : Nat) {t : Int}, a ≤ t → t + r + 1 < b → D t < D (t + r + 1) := by
  intro r
  induction r with
  | zero =>
    intro t t0 t1
    have := h t t0 (by first | decide | omega)
    rw [show t + ((0 : Nat) : Int) + 1 = t + 1 by omega]
    exact this
  | succ r ih =>
    intro t t0 t1
    have h1 := ih t0 (show t + (r : Int) + 1 < b by omega)
    have h2 := h (t + r + 1) (by first | decide | omega) (by first | decide | omega)
    rw [show t + ((r + 1 : Nat) : Int) + 1 = t + r + 1 + 1 by omega]
    omega
theorem st_in {D : Int → Int} {a b t t' : Int} (h : ∀ t, a ≤ t → t + 1 < b → D t < D (t + 1)) (t0 : a ≤ t) (t1 : t < b) (s0 : a ≤ t') (s1 : t' < b) (e : D t = D t') : t = t' := by
  rcases Int.lt_trichotomy t t' with z | z | z
  · have := st_lt h (t' - t - 1).toNat t0 (by first | decide | omega)
    rw [show t + (((t' - t - 1).toNat : Nat) : Int) + 1 = t' by omega] at this
    omega
  · exact z
  · have := st_lt h (t - t' - 1).toNat s0 (by first | decide | omega)
    rw [show t' + (((t - t' - 1).toNat : Nat) : Int) + 1 = t by omega] at this
    omega
theorem mul_st {e k k' : Int} (e0 : 0 < e) (h : k < k') : e * k + e ≤ e * k' := by
  have := Int.mul_le_mul_of_nonneg_left (show k + 1 ≤ k' by omega) (Int.le_of_lt e0)
  rw [Int.mul_add, Int.mul_one] at this
  exact this
theorem SO_n {e N l : Int} {S D : Int → Int} {d : Int} (e0 : 0 < e) (hS : SO d N S) (hD : DO e N l S D) (hl : N ≤ l) : SO e N D ∧ ∀ t, 0 ≤ t → t < N → ∃ z, 0 ≤ z ∧ z < N ∧ D t = S z := by
  have blk : ∀ t, 0 ≤ t → t < N → 0 ≤ t / e ∧ e * (t / e) ≤ t ∧ t < e * (t / e) + e ∧ e * (t / e) < l := fun t t0 t1 => by
    have h1 := Int.mul_ediv_add_emod t e
    have h2 := Int.emod_nonneg t (show e ≠ 0 by omega)
    have h3 := Int.emod_lt_of_pos t e0
    exact ⟨Int.ediv_nonneg t0 (by first | decide | omega), (by first | decide | omega), (by first | decide | omega), (by first | decide | omega)⟩
  have mem : ∀ t, 0 ≤ t → t < N → ∃ z, e * (t / e) ≤ z ∧ z < e * (t / e) + e ∧ z < N ∧ D t = S z := fun t t0 t1 => by
    obtain ⟨b1, b2, b3, b4⟩ := blk t t0 t1
    exact hD.1 (t / e) t b1 b2 b3 t1 b4
  have z0 : ∀ t, 0 ≤ t → 0 ≤ e * (t / e) := fun t t0 => Int.mul_nonneg (by first | decide | omega) (Int.ediv_nonneg t0 (by first | decide | omega))
  refine ⟨⟨fun t t0 t1 => ?_, fun t t' t0 t1 s0 s1 q => ?_, fun k t k0 k1 k2 k3 => hD.2 k t k0 k1 k2 k3 (by first | decide | omega)⟩, fun t t0 t1 => ?_⟩
  · obtain ⟨z, z1, z2, z3, z4⟩ := mem t t0 t1
    rw [z4]
    exact hS.1 z (by have := z0 t t0; omega) z3
  · obtain ⟨z, z1, z2, z3, z4⟩ := mem t t0 t1
    obtain ⟨y, y1, y2, y3, y4⟩ := mem t' s0 s1
    have zy : z = y := hS.2.1 z y (by have := z0 t t0; omega) z3 (by have := z0 t' s0; omega) y3 (by first | decide | omega)
    have kk : t / e = t' / e := by
      rcases Int.lt_trichotomy (t / e) (t' / e) with q | q | q
      · have := mul_st e0 q; omega
      · exact q
      · have := mul_st e0 q; omega
    obtain ⟨b1, b2, b3, b4⟩ := blk t t0 t1
    obtain ⟨c1, c2, c3, c4⟩ := blk t' s0 s1
    rw [← kk] at c2 c3
    refine st_in (a := e * (t / e)) (b := if e * (t / e) + e ≤ N then e * (t / e) + e else N) (fun u u0 u1 => hD.2 (t / e) u b1 u0 (by split at u1 <;> omega) (by split at u1 <;> omega) b4) b2 (by split <;> omega) c2 (by split <;> omega) q
  · obtain ⟨z, z1, z2, z3, z4⟩ := mem t t0 t1
    exact ⟨z, by have := z0 t t0; omega, z3, z4⟩
/-- one pass -/
theorem C_pass {K : zK} {s d N : Int} {a b : Nat} {F : zF} {B0 : zB} {S : Int → Int} {rec : Int → Int → Int → zF → zB → zO} (hK : 4100 ≤ K.1) (hs : 0 ≤ s ∧ s < K.2 5) (ha : F 5 s 8 = a ∧ F 5 s 9 = b) (hab : (a = 180 ∧ b = 181) ∨ (a = 181 ∧ b = 180)) (d0 : 1 ≤ d) (d1 : d < N) (N1 : N ≤ 4000) (hS : SO d N S) : ∀ (r n : Nat) {m : Int} {B : zB}, 0 ≤ m → N ≤ 2 * d * m + 2 * d * r → 2 * d * m < N + 2 * d → r < n → (∀ c i j t, ¬ (c = 5 ∧ i = s ∧ j = b) → B c i j t = B0 c i j t) → (∀ t, 0 ≤ t → t < N → B 5 s a t = S t) → DO (2 * d) N (2 * d * m) S (B 5 s b) → ∃ B', f_Performance_sortStrokes_16 rec K n (2 * d * m) d N s F B = rec (d * 2) N s (zup3 (zup3 F 5 s 9 a) 5 s 8 b) B' ∧ (∀ c i j t, ¬ (c = 5 ∧ i = s ∧ j = b) → B' c i j t = B0 c i j t) ∧ ∃ l, N ≤ l ∧ DO (2 * d) N l S (B' 5 s b) := by
  intro r
  have rN : r32 N := by unfold r32; omega
  have zn : (zup3 (zup3 F 5 s 9 (F 5 s 8)) 5 s 8 (F 5 s 9)) = (zup3 (zup3 F 5 s 9 a) 5 s 8 b) := by rw [ha.1, ha.2]
  have ab : ¬ a = b := by omega
  induction r with
  | zero =>
    intro n m B m0 h1 h2 hn hB hA hD
    obtain ⟨n, rfl⟩ : ∃ j, n = j + 1 := ⟨n - 1, (by first | decide | omega)⟩
    rw [show ((0 : Nat) : Int) = 0 from rfl, Int.mul_zero] at h1
    refine ⟨B, ?_, hB, 2 * d * m, (by first | decide | omega), hD⟩
    rw [f_Performance_sortStrokes_16, if_pos (by unfold r32; omega), if_pos rN, if_pos (by first | decide | omega), if_pos hs, zn]
  | succ r ih =>
    intro n m B m0 h1 h2 hn hB hA hD
    obtain ⟨n, rfl⟩ : ∃ j, n = j + 1 := ⟨n - 1, (by first | decide | omega)⟩
    have q0 : 0 ≤ 2 * d * m := Int.mul_nonneg (by first | decide | omega) m0
    have qm : 2 * d * (m + 1) = 2 * d * m + 2 * d := by rw [Int.mul_add, Int.mul_one]
    rw [f_Performance_sortStrokes_16, if_pos (by unfold r32; omega), if_pos rN]
    by_cases z : N ≤ 2 * d * m
    · rw [if_pos z, if_pos hs, zn]
      exact ⟨B, rfl, hB, 2 * d * m, z, hD⟩
    · rw [if_neg z, if_pos (by unfold r32; omega), if_pos (by unfold r32; omega), if_pos hs]
      obtain ⟨mi, hmi⟩ : ∃ mi, zmin (2 * d * m + d) N = mi := ⟨_, rfl⟩
      obtain ⟨hi, hhi⟩ : ∃ hi, zmin (2 * d * m + 2 * d) N = hi := ⟨_, rfl⟩
      have m1 : mi ≤ 2 * d * m + d ∧ mi ≤ N ∧ 2 * d * m ≤ mi ∧ (mi = 2 * d * m + d ∨ mi = N) := by
        rw [← hmi]; unfold zmin; split <;> omega
      have m2 : hi ≤ 2 * d * m + 2 * d ∧ hi ≤ N ∧ mi ≤ hi ∧ (hi = 2 * d * m + 2 * d ∨ hi = N) := by
        rw [← hhi]; unfold zmin; split <;> omega
      rw [hmi, hhi]
      have k1 : d * (2 * m) = 2 * d * m := by rw [← Int.mul_assoc, Int.mul_comm d 2]
      have k2 : d * (2 * m + 1) = 2 * d * m + d := by rw [Int.mul_add, Int.mul_one, k1]
      obtain ⟨B1, b1, b2, b3, b4⟩ := C_mrg (K := K) (N := N) (lo := 2 * d * m) (mi := mi) (hi := hi) (S := S) hs ha hab ⟨q0, (by first | decide | omega), (by first | decide | omega), (by first | decide | omega)⟩ (fun t t0 t1 => hS.1 t (by first | decide | omega) (by first | decide | omega)) (fun t t' t0 t1 s0 s1 e => hS.2.1 t t' (by first | decide | omega) (by first | decide | omega) (by first | decide | omega) (by first | decide | omega) e) (fun t t0 t1 => hS.2.2 (2 * m) t (by first | decide | omega) (by first | decide | omega) (by first | decide | omega) (by first | decide | omega)) (fun t t0 t1 => hS.2.2 (2 * m + 1) t (by first | decide | omega) (by first | decide | omega) (by first | decide | omega) (by first | decide | omega)) (hi - 2 * d * m).toNat K.1 (k := 2 * d * m) (x := 2 * d * m) (y := mi) (B := B) (by first | decide | omega) (by first | decide | omega) (by first | decide | omega) (by first | decide | omega) (by first | decide | omega) (by first | decide | omega) (by first | decide | omega) (fun t t0 t1 => hA t (by first | decide | omega) (by first | decide | omega)) (fun t t0 t1 => (by first | decide | omega)) (fun t t0 t1 => (by first | decide | omega))
      unfold f_Performance_merge
      rw [b1, zb_s]
      have hold : ∀ t, t < 2 * d * m → B1 5 s b t = B 5 s b t := fun t ht => b2 5 s b t (by first | decide | omega)
      have ih' := ih n (m := m + 1) (B := B1) (by first | decide | omega) (by
        rw [qm]
        have : 2 * d * ((r + 1 : Nat) : Int) = 2 * d * (r : Int) + 2 * d := by rw [show ((r + 1 : Nat) : Int) = (r : Int) + 1 by omega, Int.mul_add, Int.mul_one]
        omega) (by rw [qm]; omega) (by first | decide | omega) (fun c i j t q => by rw [b2 c i j t (by first | decide | omega), hB c i j t q]) (fun t t0 t1 => by rw [b2 5 s a t (by first | decide | omega)]; exact hA t t0 t1) ⟨fun k t k0 k1' k2' k3 k4 => ?_, fun k t k0 k1' k2' k3 k4 => ?_⟩
      · rw [qm] at ih'
        exact ih'
      · -- membership
        rcases Int.lt_trichotomy k m with q | q | q
        · have := mul_st (show 0 < 2 * d by omega) q
          rw [hold t (by first | decide | omega)]
          exact hD.1 k t k0 k1' k2' k3 (by first | decide | omega)
        · subst q
          obtain ⟨zz, z1, z2, z3⟩ := b3 t (by first | decide | omega) (by first | decide | omega)
          exact ⟨zz, z1, (by first | decide | omega), (by first | decide | omega), z3⟩
        · have := mul_st (show 0 < 2 * d by omega) q
          omega
      · rcases Int.lt_trichotomy k m with q | q | q
        · have := mul_st (show 0 < 2 * d by omega) q
          rw [hold t (by first | decide | omega), hold (t + 1) (by first | decide | omega)]
          exact hD.2 k t k0 k1' k2' k3 (by first | decide | omega)
        · subst q
          exact b4 t (by first | decide | omega) (by first | decide | omega)
        · have := mul_st (show 0 < 2 * d by omega) q
          omega
/-- all passes -/
theorem C_sort {K : zK} {s N : Int} {S0 : Int → Int} {B0 : zB} {F0 : zF} (hK : 4100 ≤ K.1) (hs : 0 ≤ s ∧ s < K.2 5) (N0 : 0 ≤ N) (N1 : N ≤ 4000) : ∀ (r n : Nat) {d : Int} {F : zF} {B : zB} {a b : Nat}, 1 ≤ d → d ≤ 8000 → N ≤ d * 2 ^ r → r < n → F 5 s 8 = a ∧ F 5 s 9 = b → (a = 180 ∧ b = 181) ∨ (a = 181 ∧ b = 180) → (∀ c i k, ¬ (c = 5 ∧ i = s ∧ (k = 8 ∨ k = 9)) → F c i k = F0 c i k) → (∀ c i j t, ¬ (c = 5 ∧ i = s ∧ (j = 180 ∨ j = 181)) → B c i j t = B0 c i j t) → SO d N (B 5 s a) → (∀ t, 0 ≤ t → t < N → ∃ z, 0 ≤ z ∧ z < N ∧ B 5 s a t = S0 z) → ∃ F' B' a', f_Performance_sortStrokes_9 K n d N s F B = some (0, F', B') ∧ rwS s F' ∧ F' 5 s 8 = (a' : Nat) ∧ (∀ c i k, ¬ (c = 5 ∧ i = s ∧ (k = 8 ∨ k = 9)) → F' c i k = F0 c i k) ∧ (∀ c i j t, ¬ (c = 5 ∧ i = s ∧ (j = 180 ∨ j = 181)) → B' c i j t = B0 c i j t) ∧ (∀ t, 0 ≤ t → t + 1 < N → B' 5 s a' t < B' 5 s a' (t + 1)) ∧ (∀ t, 0 ≤ t → t < N → ∃ z, 0 ≤ z ∧ z < N ∧ B' 5 s a' t = S0 z) := by
  intro r
  have fin : ∀ (n : Nat) {d : Int} {F : zF} {B : zB} {a b : Nat}, 1 ≤ d → d ≤ 8000 → N ≤ d → 0 < n → F 5 s 8 = a ∧ F 5 s 9 = b → (a = 180 ∧ b = 181) ∨ (a = 181 ∧ b = 180) → (∀ c i k, ¬ (c = 5 ∧ i = s ∧ (k = 8 ∨ k = 9)) → F c i k = F0 c i k) → (∀ c i j t, ¬ (c = 5 ∧ i = s ∧ (j = 180 ∨ j = 181)) → B c i j t = B0 c i j t) → SO d N (B 5 s a) → (∀ t, 0 ≤ t → t < N → ∃ z, 0 ≤ z ∧ z < N ∧ B 5 s a t = S0 z) → ∃ F' B' a', f_Performance_sortStrokes_9 K n d N s F B = some (0, F', B') ∧ rwS s F' ∧ F' 5 s 8 = (a' : Nat) ∧ (∀ c i k, ¬ (c = 5 ∧ i = s ∧ (k = 8 ∨ k = 9)) → F' c i k = F0 c i k) ∧ (∀ c i j t, ¬ (c = 5 ∧ i = s ∧ (j = 180 ∨ j = 181)) → B' c i j t = B0 c i j t) ∧ (∀ t, 0 ≤ t → t + 1 < N → B' 5 s a' t < B' 5 s a' (t + 1)) ∧ (∀ t, 0 ≤ t → t < N → ∃ z, 0 ≤ z ∧ z < N ∧ B' 5 s a' t = S0 z) := by
    intro n d F B a b d0 d8 hd hn ha hab hF hB hS hM
    obtain ⟨n, rfl⟩ : ∃ j, n = j + 1 := ⟨n - 1, (by first | decide | omega)⟩
    refine ⟨F, B, a, ?_, ?_, ha.1, hF, hB, fun t t0 t1 => ?_, hM⟩
    · rw [f_Performance_sortStrokes_9, if_pos (by unfold r32; omega), if_pos (by unfold r32; omega), if_pos hd]
    · unfold rwS; omega
    · have := hS.2.2 0 t (by decide) (by rw [Int.mul_zero]; exact t0) (by rw [Int.mul_zero]; omega) t1
      exact this
  induction r with
  | zero =>
    intro n d F B a b d0 d8 hd hn
    rw [Int.pow_zero, Int.mul_one] at hd
    exact fin n d0 d8 hd hn
  | succ r ih =>
    intro n d F B a b d0 d8 hd hn ha hab hF hB hS hM
    by_cases z : N ≤ d
    · exact fin n d0 d8 z (by first | decide | omega) ha hab hF hB hS hM
    · obtain ⟨n, rfl⟩ : ∃ j, n = j + 1 := ⟨n - 1, (by first | decide | omega)⟩
      obtain ⟨B1, p1, p2, l, p3, p4⟩ := C_pass (K := K) (rec := f_Performance_sortStrokes_9 K n) (S := B 5 s a) hK hs ha hab d0 (by first | decide | omega) N1 hS 4000 K.1 (m := 0) (B := B) (by decide) (by
        rw [Int.mul_zero]
        have : 1 * ((4000 : Nat) : Int) ≤ 2 * d * ((4000 : Nat) : Int) := Int.mul_le_mul_of_nonneg_right (by first | decide | omega) (by decide)
        omega) (by rw [Int.mul_zero]; omega) (by first | decide | omega) (fun _ _ _ _ _ => rfl) (fun _ _ _ => rfl) ⟨fun k t k0 k1 k2 k3 k4 => by
          have := Int.mul_nonneg (show 0 ≤ 2 * d by omega) k0
          rw [Int.mul_zero] at k4
          omega, fun k t k0 k1 k2 k3 k4 => by
          have := Int.mul_nonneg (show 0 ≤ 2 * d by omega) k0
          rw [Int.mul_zero] at k4
          omega⟩
      rw [Int.mul_zero] at p1
      obtain ⟨so, mem⟩ := SO_n (show 0 < 2 * d by omega) hS p4 p3
      rw [f_Performance_sortStrokes_9, if_pos (by unfold r32; omega), if_pos (by unfold r32; omega), if_neg z, p1]
      rw [Int.mul_comm 2 d] at so
      have ab : ¬ a = b := by omega
      exact ih n (d := d * 2) (F := zup3 (zup3 F 5 s 9 a) 5 s 8 b) (B := B1) (a := b) (b := a) (by first | decide | omega) (by first | decide | omega) (by rw [Int.pow_succ] at hd; rw [Int.mul_assoc, Int.mul_comm 2]; exact hd) (by first | decide | omega) ⟨by rw [zup3_v, if_pos (by first | decide | omega)], by rw [zup3_v, if_neg (by first | decide | omega), zup3_v, if_pos (by first | decide | omega)]⟩ (by first | decide | omega) (fun c i k q => by rw [zup3_v, if_neg (by first | decide | omega), zup3_v, if_neg (by first | decide | omega)]; exact hF c i k q) (fun c i j t q => by rw [p2 c i j t (by first | decide | omega), hB c i j t q]) so (fun t t0 t1 => by
        obtain ⟨y, y0, y1, y2⟩ := mem t t0 t1
        obtain ⟨w, w0, w1, w2⟩ := hM y y0 y1
        exact ⟨w, w0, w1, by rw [y2, w2]⟩)
end
