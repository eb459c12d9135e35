section
/-! ===== strokes put in order: the class ===== -/
theorem zlor2 {w b : Int} (h0 : 0 ≤ w) (h1 : w < 2305843009213693952) (h2 : 0 ≤ b) (h3 : b < 4) : zlor (zlshl w 2) b = w * 4 + b := by
  obtain ⟨n, rfl⟩ := Int.eq_ofNat_of_zero_le h0
  obtain ⟨m, rfl⟩ := Int.eq_ofNat_of_zero_le h2
  have k1 : (BitVec.ofInt 64 (n : Int)).toNat = n := by
    rw [BitVec.toNat_ofInt]
    show ((n : Int) % 18446744073709551616).toNat = n
    omega
  have k2 : (BitVec.ofInt 64 (m : Int)).toNat = m := by
    rw [BitVec.toNat_ofInt]
    show ((m : Int) % 18446744073709551616).toNat = m
    omega
  have e0 : (BitVec.ofInt 64 (n : Int) <<< (2 : Nat)).toNat = n * 4 := by
    rw [BitVec.toNat_shiftLeft, k1, Nat.shiftLeft_eq]
    show n * 4 % 18446744073709551616 = n * 4
    omega
  have e1 : zlshl (n : Int) 2 = ((n * 4 : Nat) : Int) := by
    show (BitVec.ofInt 64 (n : Int) <<< (2 : Nat)).toInt = _
    rw [BitVec.toInt_eq_toNat_of_lt (by rw [e0]; omega), e0]
  have k3 : (BitVec.ofInt 64 ((n * 4 : Nat) : Int)).toNat = n * 4 := by
    rw [BitVec.toNat_ofInt]
    show (((n * 4 : Nat) : Int) % 18446744073709551616).toNat = n * 4
    omega
  have e2 : (BitVec.ofInt 64 ((n * 4 : Nat) : Int) ||| BitVec.ofInt 64 (m : Int)).toNat = n * 4 + m := by
    rw [BitVec.toNat_or, k3, k2]
    have := Nat.shiftLeft_add_eq_or_of_lt (a := n) (b := m) (i := 2) (by first | decide | omega)
    rw [Nat.shiftLeft_eq] at this
    exact this.symm
  rw [e1]
  show (BitVec.ofInt 64 ((n * 4 : Nat) : Int) ||| BitVec.ofInt 64 (m : Int)).toInt = _
  rw [BitVec.toInt_eq_toNat_of_lt (by rw [e2]; omega), e2]
  omega
theorem zlor7 {w b : Int} (h0 : 0 ≤ w) (h1 : w < 72057594037927936) (h2 : 0 ≤ b) (h3 : b < 128) : zlor (zlshl w 7) b = w * 128 + b := by
  obtain ⟨n, rfl⟩ := Int.eq_ofNat_of_zero_le h0
  obtain ⟨m, rfl⟩ := Int.eq_ofNat_of_zero_le h2
  have k1 : (BitVec.ofInt 64 (n : Int)).toNat = n := by
    rw [BitVec.toNat_ofInt]
    show ((n : Int) % 18446744073709551616).toNat = n
    omega
  have k2 : (BitVec.ofInt 64 (m : Int)).toNat = m := by
    rw [BitVec.toNat_ofInt]
    show ((m : Int) % 18446744073709551616).toNat = m
    omega
  have e0 : (BitVec.ofInt 64 (n : Int) <<< (7 : Nat)).toNat = n * 128 := by
    rw [BitVec.toNat_shiftLeft, k1, Nat.shiftLeft_eq]
    show n * 128 % 18446744073709551616 = n * 128
    omega
  have e1 : zlshl (n : Int) 7 = ((n * 128 : Nat) : Int) := by
    show (BitVec.ofInt 64 (n : Int) <<< (7 : Nat)).toInt = _
    rw [BitVec.toInt_eq_toNat_of_lt (by rw [e0]; omega), e0]
  have k3 : (BitVec.ofInt 64 ((n * 128 : Nat) : Int)).toNat = n * 128 := by
    rw [BitVec.toNat_ofInt]
    show (((n * 128 : Nat) : Int) % 18446744073709551616).toNat = n * 128
    omega
  have e2 : (BitVec.ofInt 64 ((n * 128 : Nat) : Int) ||| BitVec.ofInt 64 (m : Int)).toNat = n * 128 + m := by
    rw [BitVec.toNat_or, k3, k2]
    have := Nat.shiftLeft_add_eq_or_of_lt (a := n) (b := m) (i := 7) (by first | decide | omega)
    rw [Nat.shiftLeft_eq] at this
    exact this.symm
  rw [e1]
  show (BitVec.ofInt 64 ((n * 128 : Nat) : Int) ||| BitVec.ofInt 64 (m : Int)).toInt = _
  rw [BitVec.toInt_eq_toNat_of_lt (by rw [e2]; omega), e2]
  omega
theorem zlor11 {w b : Int} (h0 : 0 ≤ w) (h1 : w < 4503599627370496) (h2 : 0 ≤ b) (h3 : b < 2048) : zlor (zlshl w 11) b = w * 2048 + b := by
  obtain ⟨n, rfl⟩ := Int.eq_ofNat_of_zero_le h0
  obtain ⟨m, rfl⟩ := Int.eq_ofNat_of_zero_le h2
  have k1 : (BitVec.ofInt 64 (n : Int)).toNat = n := by
    rw [BitVec.toNat_ofInt]
    show ((n : Int) % 18446744073709551616).toNat = n
    omega
  have k2 : (BitVec.ofInt 64 (m : Int)).toNat = m := by
    rw [BitVec.toNat_ofInt]
    show ((m : Int) % 18446744073709551616).toNat = m
    omega
  have e0 : (BitVec.ofInt 64 (n : Int) <<< (11 : Nat)).toNat = n * 2048 := by
    rw [BitVec.toNat_shiftLeft, k1, Nat.shiftLeft_eq]
    show n * 2048 % 18446744073709551616 = n * 2048
    omega
  have e1 : zlshl (n : Int) 11 = ((n * 2048 : Nat) : Int) := by
    show (BitVec.ofInt 64 (n : Int) <<< (11 : Nat)).toInt = _
    rw [BitVec.toInt_eq_toNat_of_lt (by rw [e0]; omega), e0]
  have k3 : (BitVec.ofInt 64 ((n * 2048 : Nat) : Int)).toNat = n * 2048 := by
    rw [BitVec.toNat_ofInt]
    show (((n * 2048 : Nat) : Int) % 18446744073709551616).toNat = n * 2048
    omega
  have e2 : (BitVec.ofInt 64 ((n * 2048 : Nat) : Int) ||| BitVec.ofInt 64 (m : Int)).toNat = n * 2048 + m := by
    rw [BitVec.toNat_or, k3, k2]
    have := Nat.shiftLeft_add_eq_or_of_lt (a := n) (b := m) (i := 11) (by first | decide | omega)
    rw [Nat.shiftLeft_eq] at this
    exact this.symm
  rw [e1]
  show (BitVec.ofInt 64 ((n * 2048 : Nat) : Int) ||| BitVec.ofInt 64 (m : Int)).toInt = _
  rw [BitVec.toInt_eq_toNat_of_lt (by rw [e2]; omega), e2]
  omega
/-- the key of a stroke: its tick, whether it begins, its voice, tone, event and number -/
def skV (t on v to ev j : Int) : Int := ((((t * 2 + on) * 4 + v) * 128 + to) * 256 + ev) * 2048 + j
theorem C_sk {K : zK} {s j t on : Int} {F : zF} {B : zB} (hs : 0 ≤ s ∧ s < K.2 5) (hj : 0 ≤ j ∧ j < 2000) (ht : 0 ≤ t ∧ t ≤ 500000) (ho : on = 0 ∨ on = 1) (h0 : 0 ≤ B 5 s 340 j ∧ B 5 s 340 j < 4) (h1 : 0 ≤ B 5 s 341 j ∧ B 5 s 341 j < 200) (h2 : 0 ≤ B 5 s 342 j ∧ B 5 s 342 j ≤ 127) : f_Performance_strokeKey K s j t on F B = some (skV t on (B 5 s 340 j) (B 5 s 342 j) (B 5 s 341 j) j, F, B) := by
  unfold f_Performance_strokeKey skV
  rw [if_pos (by unfold r32; omega), if_pos hs, if_pos hj, if_pos (by unfold r32; omega), if_pos (by unfold r32; omega), if_pos (by unfold r32; omega), if_pos (by unfold r32; omega), zlor2 (by first | decide | omega) (by first | decide | omega) h0.1 h0.2, zlor7 (by first | decide | omega) (by first | decide | omega) h2.1 (by first | decide | omega), zlor8 (by first | decide | omega) (by first | decide | omega) h1.1 (by first | decide | omega), zlor11 (by first | decide | omega) (by first | decide | omega) hj.1 (by first | decide | omega)]
/-- the row of strokes that is in use, and the other -/
def rwS (s : Int) (F : zF) : Prop := (F 5 s 8 = 180 ∧ F 5 s 9 = 181) ∨ (F 5 s 8 = 181 ∧ F 5 s 9 = 180)
theorem rw_l {s : Int} {k : Nat} (h : k = 180 ∨ k = 181) : (lnC 5 s k : Int) = 4000 ∧ zk 5 k = (3, 1) ∧ lnC 5 s k ≤ 2147483647 := by
  rcases h with rfl | rfl
  · exact ⟨rfl, by decide, by show (4000 : Nat) ≤ 2147483647; decide⟩
  · exact ⟨rfl, by decide, by show (4000 : Nat) ≤ 2147483647; decide⟩
/-- two ordered stretches of row a brought together in row b -/
theorem C_mrg {K : zK} {s lo mi hi N : Int} {a b : Nat} {F : zF} {S : Int → Int} (hs : 0 ≤ s ∧ s < K.2 5) (ha : F 5 s 8 = a ∧ F 5 s 9 = b) (hab : (a = 180 ∧ b = 181) ∨ (a = 181 ∧ b = 180)) (l0 : 0 ≤ lo ∧ lo ≤ mi ∧ mi ≤ hi ∧ hi ≤ 4000) (r6 : ∀ t, lo ≤ t → t < hi → r64 (S t)) (inj : ∀ t t', lo ≤ t → t < hi → lo ≤ t' → t' < hi → S t = S t' → t = t') (o1 : ∀ t, lo ≤ t → t + 1 < mi → S t < S (t + 1)) (o2 : ∀ t, mi ≤ t → t + 1 < hi → S t < S (t + 1)) : ∀ (r n : Nat) {k x y : Int} {B : zB}, k + r = hi → r < n → lo ≤ x → x ≤ mi → mi ≤ y → y ≤ hi → k = x + (y - mi) → (∀ t, lo ≤ t → t < hi → B 5 s a t = S t) → (∀ t, lo ≤ t → t < k → (x < mi → B 5 s b t < S x) ∧ (y < hi → B 5 s b t < S y) ∧ ∃ z, lo ≤ z ∧ z < hi ∧ B 5 s b t = S z) → (∀ t, lo ≤ t → t + 1 < k → B 5 s b t < B 5 s b (t + 1)) → ∃ B', f_Performance_merge_9 K n k y x s mi hi F B = some (0, F, B') ∧ (∀ c i j t, ¬ (c = 5 ∧ i = s ∧ j = b ∧ k ≤ t ∧ t < hi) → B' c i j t = B c i j t) ∧ (∀ t, lo ≤ t → t < hi → ∃ z, lo ≤ z ∧ z < hi ∧ B' 5 s b t = S z) ∧ (∀ t, lo ≤ t → t + 1 < hi → B' 5 s b t < B' 5 s b (t + 1)) := by
  have hav : a = 180 ∨ a = 181 := by omega
  have hbv : b = 180 ∨ b = 181 := by omega
  have hn : ¬ a = b := by omega
  obtain ⟨la, za, ka⟩ := rw_l (s := s) hav
  obtain ⟨lb, zb, kb⟩ := rw_l (s := s) hbv
  have ta : (F 5 s 8).toNat = a := by rw [ha.1]; exact Int.toNat_natCast a
  have tb : (F 5 s 9).toNat = b := by rw [ha.2]; exact Int.toNat_natCast b
  intro r
  induction r with
  | zero =>
    intro n k x y B kr hn' x0 x1 y0 y1 hk hB hO hS
    obtain ⟨n, rfl⟩ : ∃ j, n = j + 1 := ⟨n - 1, (by first | decide | omega)⟩
    refine ⟨B, ?_, fun _ _ _ _ _ => rfl, fun t t0 t1 => (hO t t0 (by first | decide | omega)).2.2, fun t t0 t1 => hS t t0 (by first | decide | omega)⟩
    rw [f_Performance_merge_9, if_pos (by unfold r32; omega), if_pos (by unfold r32; omega), if_pos (by first | decide | omega)]
  | succ r ih =>
    intro n k x y B kr hn' x0 x1 y0 y1 hk hB hO hS
    obtain ⟨n, rfl⟩ : ∃ j, n = j + 1 := ⟨n - 1, (by first | decide | omega)⟩
    -- one value is put at k
    have put : ∀ (v x' y' : Int), lo ≤ x' → x' ≤ mi → mi ≤ y' → y' ≤ hi → k + 1 = x' + (y' - mi) → (∃ z, lo ≤ z ∧ z < hi ∧ v = S z) → (x' < mi → v < S x') → (y' < hi → v < S y') → (∀ t, lo ≤ t → t < k → B 5 s b t < v) → (x' < mi → x < mi ∧ S x ≤ S x') → (y' < hi → y < hi ∧ S y ≤ S y') → ∃ B', f_Performance_merge_9 K n (k + 1) y' x' s mi hi F (zup4 B 5 s b k v) = some (0, F, B') ∧ (∀ c i j t, ¬ (c = 5 ∧ i = s ∧ j = b ∧ k ≤ t ∧ t < hi) → B' c i j t = B c i j t) ∧ (∀ t, lo ≤ t → t < hi → ∃ z, lo ≤ z ∧ z < hi ∧ B' 5 s b t = S z) ∧ (∀ t, lo ≤ t → t + 1 < hi → B' 5 s b t < B' 5 s b (t + 1)) := fun v x' y' a1 a2 a3 a4 a5 a6 a7 a8 a9 a10 a11 => by
      have e : ∀ t, ¬ t = k → (zup4 B 5 s b k v) 5 s b t = B 5 s b t := fun t ht => by rw [zup4_v, if_neg (by first | decide | omega)]
      have ek : (zup4 B 5 s b k v) 5 s b k = v := by rw [zup4_v, if_pos (by first | decide | omega)]
      obtain ⟨B', b1, b2, b3, b4⟩ := ih n (k := k + 1) (x := x') (y := y') (B := zup4 B 5 s b k v) (by first | decide | omega) (by first | decide | omega) a1 a2 a3 a4 a5 (fun t t0 t1 => by rw [zup4_v, if_neg (by first | decide | omega)]; exact hB t t0 t1) (fun t t0 t1 => by
        by_cases z : t = k
        · rw [z, ek]; exact ⟨a7, a8, a6⟩
        · rw [e t z]
          obtain ⟨h1, h2, h3⟩ := hO t t0 (by first | decide | omega)
          exact ⟨fun q => by have := a10 q; have := h1 this.1; omega, fun q => by have := a11 q; have := h2 this.1; omega, h3⟩) (fun t t0 t1 => by
        by_cases z : t + 1 = k
        · rw [z, ek, e t (by first | decide | omega)]; exact a9 t t0 (by first | decide | omega)
        · rw [e t (by first | decide | omega), e (t + 1) z]; exact hS t t0 (by first | decide | omega))
      exact ⟨B', b1, fun c i j t q => by rw [b2 c i j t (by first | decide | omega), zup4_v, if_neg (by first | decide | omega)], b3, b4⟩
    have rk : r32 k := by unfold r32; omega
    have rx : r32 x := by unfold r32; omega
    have ry : r32 y := by unfold r32; omega
    have rm : r32 mi := by unfold r32; omega
    have rh : r32 hi := by unfold r32; omega
    -- the right one is taken
    have right : y < hi → (x < mi → S y < S x) → ∃ B', f_Performance_merge_49 (f_Performance_merge_9 K n) K k y x s mi hi F B = some (0, F, B') ∧ (∀ c i j t, ¬ (c = 5 ∧ i = s ∧ j = b ∧ k ≤ t ∧ t < hi) → B' c i j t = B c i j t) ∧ (∀ t, lo ≤ t → t < hi → ∃ z, lo ≤ z ∧ z < hi ∧ B' 5 s b t = S z) ∧ (∀ t, lo ≤ t → t + 1 < hi → B' 5 s b t < B' 5 s b (t + 1)) := fun yh lt => by
      have hy := hB y (by first | decide | omega) yh
      unfold f_Performance_merge_49 f_Performance_merge_50 f_Performance_merge_80 f_Performance_merge_93 f_Performance_merge_108
      rw [if_pos hs, if_pos (by decide), if_pos rfl, ta, tb, la, if_pos (by first | decide | omega), if_pos za, if_pos ka, if_pos hs, lb, if_pos (by first | decide | omega), if_pos zb, if_pos kb, if_pos (by decide), if_pos rfl, if_pos (by decide), if_pos rfl, hy, Int.add_zero]
      exact put (S y) x (y + 1) x0 x1 (by first | decide | omega) (by first | decide | omega) (by first | decide | omega) ⟨y, (by first | decide | omega), yh, rfl⟩ lt (fun q => o2 y y0 q) (fun t t0 t1 => (hO t t0 t1).2.1 yh) (fun q => ⟨q, Int.le_refl _⟩) (fun q => ⟨yh, by have := o2 y y0 q; omega⟩)
    have left : x < mi → (y < hi → S x < S y) → ∃ B', f_Performance_merge_45 (f_Performance_merge_9 K n) K k y x s mi hi F B = some (0, F, B') ∧ (∀ c i j t, ¬ (c = 5 ∧ i = s ∧ j = b ∧ k ≤ t ∧ t < hi) → B' c i j t = B c i j t) ∧ (∀ t, lo ≤ t → t < hi → ∃ z, lo ≤ z ∧ z < hi ∧ B' 5 s b t = S z) ∧ (∀ t, lo ≤ t → t + 1 < hi → B' 5 s b t < B' 5 s b (t + 1)) := fun xm lt => by
      have hx := hB x x0 (by first | decide | omega)
      unfold f_Performance_merge_45 f_Performance_merge_50 f_Performance_merge_80 f_Performance_merge_93 f_Performance_merge_108
      rw [if_pos hs, if_pos (by decide), if_neg (by decide), ta, tb, la, if_pos (by first | decide | omega), if_pos za, if_pos ka, if_pos hs, lb, if_pos (by first | decide | omega), if_pos zb, if_pos kb, if_pos (by decide), if_neg (by decide), if_pos (by decide), if_neg (by decide), hx, Int.add_zero]
      exact put (S x) (x + 1) y (by first | decide | omega) (by first | decide | omega) y0 y1 (by first | decide | omega) ⟨x, x0, (by first | decide | omega), rfl⟩ (fun q => o1 x x0 q) lt (fun t t0 t1 => (hO t t0 t1).1 xm) (fun q => ⟨xm, by have := o1 x x0 q; omega⟩) (fun q => ⟨q, Int.le_refl _⟩)
    rw [f_Performance_merge_9, if_pos rk, if_pos rh, if_neg (by first | decide | omega), if_pos rx, if_pos rm]
    by_cases xm : mi ≤ x
    · rw [if_pos xm]
      exact right (by first | decide | omega) (fun q => (by first | decide | omega))
    · rw [if_neg xm, if_pos ry]
      by_cases yh : hi ≤ y
      · rw [if_pos yh]
        exact left (by first | decide | omega) (fun q => (by first | decide | omega))
      · have hx := hB x x0 (by first | decide | omega)
        have hy := hB y (by first | decide | omega) (by first | decide | omega)
        rw [if_neg yh, if_pos hs, ta, la, if_pos (by first | decide | omega), if_pos za, if_pos ka, if_pos (by first | decide | omega), hx, hy, if_pos (r6 x x0 (by first | decide | omega)), if_pos (r6 y (by first | decide | omega) (by first | decide | omega))]
        by_cases q : 0 < zcmp (S x) (S y)
        · rw [if_pos q]
          exact right (by first | decide | omega) (fun _ => zcmp_g.mp q)
        · rw [if_neg q]
          refine left (by first | decide | omega) (fun _ => ?_)
          have h1 : S x ≤ S y := by
            rcases Int.lt_or_le (S y) (S x) with z | z
            · exact absurd (zcmp_g.mpr z) q
            · exact z
          have h2 : ¬ S x = S y := fun z => by have := inj x y x0 (by first | decide | omega) (by first | decide | omega) (by first | decide | omega) z; omega
          omega
end
