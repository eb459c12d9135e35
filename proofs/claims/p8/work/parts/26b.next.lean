section
/-! ===== the class's choice of a note's value ===== -/
theorem un_d {d : Int} (hd : d = 2 ∨ d = 4 ∨ d = 8 ∨ d = 16) : 512 / d = 256 ∨ 512 / d = 128 ∨ 512 / d = 64 ∨ 512 / d = 32 := by
  rcases hd with rfl | rfl | rfl | rfl <;> decide
theorem bc_b {n d : Int} : 1 ≤ bc n d ∧ bc n d ≤ 3 := by
  unfold bc
  split
  · decide
  · split <;> decide
theorem un_2 {u n : Int} (hu : u = 256 ∨ u = 128 ∨ u = 64 ∨ u = 32) : (u * n) % (2 * u) = 0 ↔ n % 2 = 0 := by
  rcases hu with rfl | rfl | rfl | rfl <;> omega
theorem un_3 {u n : Int} (hu : u = 256 ∨ u = 128 ∨ u = 64 ∨ u = 32) (hn : 0 ≤ n ∧ n ≤ 12) : 0 ≤ u * n ∧ u * n ≤ 3072 := by
  rcases hu with rfl | rfl | rfl | rfl <;> omega
theorem un_4 {u n : Int} (hu : u = 256 ∨ u = 128 ∨ u = 64 ∨ u = 32) (hn : 1 ≤ n) : 32 ≤ u * n := by
  rcases hu with rfl | rfl | rfl | rfl <;> omega
theorem C_str {K : zK} {n d a : Int} {F : zF} {B : zB} (hK : 3002 ≤ K.1) (hn : 1 ≤ n ∧ n ≤ 12) (hd : d = 2 ∨ d = 4 ∨ d = 8 ∨ d = 16) (a0 : 0 ≤ a) (a1 : a ≤ 100000) : f_S_strength K (512 / d * n) (512 / d * bc n d) (512 / d) a F B = some (st n d a, F, B) := by
  have hu := un_d hd
  have bb := bc_b (n := n) (d := d)
  have b3 := un_3 hu (n := n) (by first | decide | omega)
  have c3 := un_3 hu (n := bc n d) (by first | decide | omega)
  have c4 := un_4 hu (n := bc n d) (by first | decide | omega)
  have h2 := un_2 (n := n) hu
  generalize hq : bc n d = q at *
  unfold st
  rw [hq]
  generalize 512 / d = u at *
  have m1 := Int.emod_nonneg (u * n) (show 2 * u ≠ 0 by omega)
  have m2 := Int.emod_lt_of_pos (u * n) (show 0 < 2 * u by omega)
  have p1 := Int.emod_nonneg a (show u * q ≠ 0 by omega)
  have p2 := Int.emod_lt_of_pos a (show 0 < u * q by omega)
  have ra : r32 a := by unfold r32; omega
  have e30 : f_S_strength_30 K (u * q) u a F B = some (if a % (u * q) = 0 then 7 else st5 u a, F, B) := by
    unfold f_S_strength_30
    rw [if_pos (iI_n0 (by first | decide | omega) (by unfold r32; omega)), zrm_e a0 ra (by first | decide | omega) (by unfold r32; omega), if_pos (by unfold r32; omega)]
    by_cases c : a % (u * q) = 0
    · rw [if_pos c, if_pos c]
    · rw [if_neg c, if_neg c, C_st5 hK hu a0 a1]
  unfold f_S_strength f_S_strength_9
  rw [if_pos ra]
  by_cases z0 : a = 0
  · rw [if_pos z0, if_pos (Or.inl z0)]
  rw [if_neg z0, if_pos (show r32 (u * n) by unfold r32; omega)]
  by_cases z1 : a = u * n
  · rw [if_pos z1, if_pos (Or.inr z1)]
  rw [if_neg z1, if_neg (show ¬ (a = 0 ∨ a = u * n) from fun h => by rcases h with h | h; exact z0 h; exact z1 h), if_pos (iI_n0 (by first | decide | omega) (by unfold r32; omega)), zrm_e b3.1 (by unfold r32; omega) (by first | decide | omega) (by unfold r32; omega), if_pos (show r32 (u * n % (2 * u)) by unfold r32; omega)]
  by_cases z2 : n % 2 = 0
  · rw [if_pos (h2.mpr z2), if_pos (show r32 (2 * a) by unfold r32; omega)]
    by_cases z3 : 2 * a = u * n
    · rw [if_pos z3, if_pos (show n % 2 = 0 ∧ 2 * a = u * n from ⟨z2, z3⟩)]
    · rw [if_neg z3, if_neg (show ¬ (n % 2 = 0 ∧ 2 * a = u * n) from fun h => z3 h.2), e30]
  · rw [if_neg (fun h => z2 (h2.mp h)), if_neg (show ¬ (n % 2 = 0 ∧ 2 * a = u * n) from fun h => z2 h.1), e30]
theorem C_btw {K : zK} {n d f t : Int} {F : zF} {B : zB} (hK : 3002 ≤ K.1) (hn : 1 ≤ n ∧ n ≤ 12) (hd : d = 2 ∨ d = 4 ∨ d = 8 ∨ d = 16) (f0 : 0 ≤ f) (ft : f < t) (t1 : t ≤ 100000) : f_S_strengthBetween K (512 / d * n) (512 / d * bc n d) (512 / d) f t F B = some (bt n d f t, F, B) := by
  have hu := un_d hd
  have bb := bc_b (n := n) (d := d)
  have b3 := un_3 hu (n := n) (by first | decide | omega)
  have c3 := un_3 hu (n := bc n d) (by first | decide | omega)
  have c4 := un_4 hu (n := bc n d) (by first | decide | omega)
  have h2 := un_2 (n := n) hu
  generalize hq : bc n d = q at *
  unfold bt
  rw [hq]
  generalize 512 / d = u at *
  have m1 := Int.emod_nonneg (u * n) (show 2 * u ≠ 0 by omega)
  have m2 := Int.emod_lt_of_pos (u * n) (show 0 < 2 * u by omega)
  have e26 : f_S_strengthBetween_26 K (u * q) u f t F B = some (if bw (u * q) f t then 7 else bt5 u f t, F, B) := by
    have q1 : 0 ≤ (t - 1) / (u * q) := Int.ediv_nonneg (by first | decide | omega) (by first | decide | omega)
    have q2 : (t - 1) / (u * q) * (u * q) ≤ t - 1 := Int.ediv_mul_le _ (by first | decide | omega)
    have q3 : 0 ≤ (t - 1) / (u * q) * (u * q) := Int.mul_nonneg q1 (by first | decide | omega)
    unfold f_S_strengthBetween_26
    rw [if_pos (iI_n0 (by first | decide | omega) (by unfold r32; omega)), zdv_e (by first | decide | omega) (by unfold r32; omega) (by first | decide | omega) (by unfold r32; omega), if_pos (by unfold r32; omega), if_pos (by unfold r32; omega)]
    by_cases c : bw (u * q) f t
    · rw [if_pos c, if_neg (by have := (bw_e (by first | decide | omega) f0 ft).mpr c; omega)]
    · rw [if_neg c, if_pos (by
        rcases Int.lt_or_le f ((t - 1) / (u * q) * (u * q)) with y | y
        · exact absurd ((bw_e (by first | decide | omega) f0 ft).mp y) c
        · exact y), C_bt5 hK hu f0 ft t1]
  unfold f_S_strengthBetween
  rw [if_pos (iI_n0 (by first | decide | omega) (by unfold r32; omega)), zrm_e b3.1 (by unfold r32; omega) (by first | decide | omega) (by unfold r32; omega), if_pos (show r32 (u * n % (2 * u)) by unfold r32; omega)]
  by_cases z2 : n % 2 = 0
  · rw [if_pos (h2.mpr z2), if_pos (show r32 (2 * f) by unfold r32; omega), if_pos (show r32 (u * n) by unfold r32; omega)]
    by_cases z3 : u * n ≤ 2 * f
    · rw [if_pos z3, if_neg (show ¬ (n % 2 = 0 ∧ 2 * f < u * n ∧ u * n < 2 * t) from fun h => (by first | decide | omega)), e26]
    · rw [if_neg z3, if_pos (show r32 (2 * t) by unfold r32; omega)]
      by_cases z4 : 2 * t ≤ u * n
      · rw [if_pos z4, if_neg (show ¬ (n % 2 = 0 ∧ 2 * f < u * n ∧ u * n < 2 * t) from fun h => (by first | decide | omega)), e26]
      · rw [if_neg z4, if_pos (show n % 2 = 0 ∧ 2 * f < u * n ∧ u * n < 2 * t from ⟨z2, (by first | decide | omega), (by first | decide | omega)⟩)]
  · rw [if_neg (fun h => z2 (h2.mp h)), if_neg (show ¬ (n % 2 = 0 ∧ 2 * f < u * n ∧ u * n < 2 * t) from fun h => z2 h.1), e26]
theorem st_b {n d a : Int} : 1 ≤ st n d a ∧ st n d a ≤ 9 := by
  unfold st st5
  split
  · decide
  · split
    · decide
    · split
      · decide
      · split
        · decide
        · split
          · decide
          · split
            · decide
            · split
              · decide
              · split <;> decide
theorem bt_b {n d f t : Int} : 1 ≤ bt n d f t ∧ bt n d f t ≤ 9 := by
  unfold bt bt5
  split
  · decide
  · split
    · decide
    · split
      · decide
      · split
        · decide
        · split
          · decide
          · split
            · decide
            · split <;> decide
theorem zmx {a b : Int} : zmax a b = mx a b := by
  unfold zmax mx
  by_cases c : a < b
  · rw [if_pos c, if_pos (by first | decide | omega)]
  · rw [if_neg c]
    by_cases e : a ≤ b
    · rw [if_pos e]; omega
    · rw [if_neg e]
theorem C_bc {K : zK} {n d : Int} {F : zF} {B : zB} (hn : 1 ≤ n ∧ n ≤ 12) (hd : d = 2 ∨ d = 4 ∨ d = 8 ∨ d = 16) : f_S_beatCount K n d F B = some (bc n d, F, B) := by
  unfold f_S_beatCount f_S_beatCount_14 f_S_beatCount_24 bc
  have m1 := Int.emod_nonneg n (show (3 : Int) ≠ 0 by decide)
  have m2 := Int.emod_lt_of_pos n (show (0 : Int) < 3 by decide)
  rw [zrm_e (by first | decide | omega) (by unfold r32; omega) (by decide) (by decide)]
  have rm : r32 (n % 3) := by unfold r32; omega
  rcases hd with rfl | rfl | rfl | rfl
  · rw [if_pos (by decide), if_pos (by decide), if_pos (by decide), if_neg (by decide), if_neg (by first | decide | omega), if_pos (by decide)]
  · rw [if_pos (by decide), if_pos (by decide), if_pos (by decide), if_neg (by decide), if_neg (by first | decide | omega), if_pos (by decide)]
  · rw [if_pos (by decide), if_neg (by decide), if_pos rm]
    by_cases c : n % 3 = 0
    · rw [if_pos c, if_pos ⟨by decide, c⟩]
    · rw [if_neg c, if_pos (by decide), if_pos (by decide), if_neg (fun h => c h.2), if_neg (by decide)]
  · rw [if_pos (by decide), if_neg (by decide), if_pos rm]
    by_cases c : n % 3 = 0
    · rw [if_pos c, if_pos ⟨by decide, c⟩]
    · rw [if_neg c, if_pos (by decide), if_pos (by decide), if_neg (fun h => c h.2), if_neg (by decide)]
theorem C_nv42 {K : zK} {n d f l : Int} {F : zF} {B : zB} (hK : 3002 ≤ K.1) (hn : 1 ≤ n ∧ n ≤ 12) (hd : d = 2 ∨ d = 4 ∨ d = 8 ∨ d = 16) (f0 : 0 ≤ f) (f1 : f ≤ 10000) (l0 : 0 ≤ l) (l1 : l ≤ 10000) : ∀ (r m : Nat) {k : Int}, 0 ≤ k → k + r = 24 → r < m → f_S_nextValue_42 K m k (st n d f) (512 / d * bc n d) (512 / d * n) (512 / d) f l F B = some (if fsN (fun k => decide (fv k ≤ l ∧ stnd n d f k)) r k < 0 then gvF l else fsN (fun k => decide (fv k ≤ l ∧ stnd n d f k)) r k, F, B) := by
  intro r
  induction r with
  | zero =>
    intro m k h0 hk hm
    obtain ⟨m, rfl⟩ : ∃ j, m = j + 1 := ⟨m - 1, (by first | decide | omega)⟩
    rw [f_S_nextValue_42, if_pos (by unfold r32; omega), if_pos (by first | decide | omega), C_great hK (by unfold r32; omega), zb_s]
    rfl
  | succ r ih =>
    intro m k h0 hk hm
    obtain ⟨m, rfl⟩ : ∃ j, m = j + 1 := ⟨m - 1, (by first | decide | omega)⟩
    have b := fv_b (k := k) h0 (by first | decide | omega)
    have s1 := st_b (n := n) (d := d) (a := f)
    have s2 := st_b (n := n) (d := d) (a := f + fv k)
    have s3 := bt_b (n := n) (d := d) (f := f) (t := f + fv k)
    have ih' := ih m (k := k + 1) (by first | decide | omega) (by first | decide | omega) (by first | decide | omega)
    have go : ∀ F B, f_S_nextValue_104 (f_S_nextValue_42 K m) K k (st n d f) (512 / d * bc n d) (512 / d * n) (512 / d) f l F B = f_S_nextValue_42 K m (k + 1) (st n d f) (512 / d * bc n d) (512 / d * n) (512 / d) f l F B := fun _ _ => rfl
    rw [f_S_nextValue_42, if_pos (by unfold r32; omega), if_neg (by first | decide | omega), C_fine h0 (by first | decide | omega), zb_s, if_pos (show r32 (f + fv k) by unfold r32; omega), if_pos (show r32 (f + l) by unfold r32; omega)]
    unfold fsN
    by_cases c : fv k ≤ l
    · rw [if_neg (show ¬ f + l < f + fv k by omega), C_str hK hn hd (by first | decide | omega) (by first | decide | omega), zb_s, if_pos (show r32 (st n d f) by unfold r32; omega), if_pos (show r32 (st n d (f + fv k)) by unfold r32; omega), C_btw hK hn hd f0 (by first | decide | omega) (by first | decide | omega), zb_s, if_pos (show r32 (bt n d f (f + fv k)) by unfold r32; omega), zmx]
      have mb : 1 ≤ mx (st n d f) (st n d (f + fv k)) ∧ mx (st n d f) (st n d (f + fv k)) ≤ 9 := by unfold mx; split <;> omega
      rw [if_pos (show r32 (mx (st n d f) (st n d (f + fv k))) by unfold r32; omega)]
      by_cases s : stnd n d f k
      · rw [if_neg (show ¬ mx (st n d f) (st n d (f + fv k)) < bt n d f (f + fv k) by have : bt n d f (f + fv k) ≤ mx (st n d f) (st n d (f + fv k)) := s; omega), if_pos (decide_eq_true ⟨c, s⟩), if_neg (by first | decide | omega)]
      · rw [if_pos (show mx (st n d f) (st n d (f + fv k)) < bt n d f (f + fv k) by
          rcases Int.lt_or_le (mx (st n d f) (st n d (f + fv k))) (bt n d f (f + fv k)) with y | y
          · exact y
          · exact absurd y s), if_neg (show ¬ decide (fv k ≤ l ∧ stnd n d f k) = true from fun h => s (of_decide_eq_true h).2), go]
        exact ih'
    · rw [if_pos (show f + l < f + fv k by omega), if_neg (show ¬ decide (fv k ≤ l ∧ stnd n d f k) = true from fun h => c (of_decide_eq_true h).1), go]
      exact ih'
theorem C_next {K : zK} {n d f l : Int} {F : zF} {B : zB} (hK : 3002 ≤ K.1) (hn : 1 ≤ n ∧ n ≤ 12) (hd : d = 2 ∨ d = 4 ∨ d = 8 ∨ d = 16) (f0 : 0 ≤ f) (f1 : f ≤ 10000) (l0 : 0 ≤ l) (l1 : l ≤ 10000) : f_S_nextValue K n d f l F B = some (nvF n d f l, F, B) := by
  have zd : zdv 512 (zmax d 1) = 512 / d ∧ (¬ iI (zmax d 1) = 0) ∧ r32 d := by
    rcases hd with rfl | rfl | rfl | rfl <;> decide
  unfold f_S_nextValue
  rw [if_pos zd.2.2, if_pos zd.2.1, C_bc hn hd, zb_s, zd.1, C_str hK hn hd f0 (by first | decide | omega), zb_s, C_nv42 hK hn hd f0 f1 l0 l1 24 K.1 (Int.le_refl _) (by decide) (by first | decide | omega)]
  rfl
end
