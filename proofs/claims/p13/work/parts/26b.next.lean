section
section
/-! ===== the class's choice of a note's value ===== -/
theorem un_d {d : Int} (hd : d = 2 ∨ d = 4 ∨ d = 8 ∨ d = 16) : 512 / d = 256 ∨ 512 / d = 128 ∨ 512 / d = 64 ∨ 512 / d = 32 := by
  rcases hd with rfl | rfl | rfl | rfl <;> decide
theorem bc_b {n d : Int} : 1 ≤ bc n d ∧ bc n d ≤ 3 := by
  unfold bc
  split
  · decide
  · split <;> decide
theorem un_2 {u n : Int} (hu : u = 256 ∨ u = 128 ∨ u = 64 ∨ u = 32) : (u * n) % (2 * u) = 0 ↔ n % 2 = 0 := by
  rcases hu with rfl | rfl | rfl | rfl <;> omega
theorem un_3 {u n : Int} (hu : u = 256 ∨ u = 128 ∨ u = 64 ∨ u = 32) (hn : 0 ≤ n ∧ n ≤ 12) : 0 ≤ u * n ∧ u * n ≤ 3072 := by
  rcases hu with rfl | rfl | rfl | rfl <;> omega
theorem un_4 {u n : Int} (hu : u = 256 ∨ u = 128 ∨ u = 64 ∨ u = 32) (hn : 1 ≤ n) : 32 ≤ u * n := by
  rcases hu with rfl | rfl | rfl | rfl <;> omega
theorem C_str {K : zK} {n d a : Int} {F : zF} {B : zB} (hK : 3002 ≤ K.1) (hn : 1 ≤ n ∧ n ≤ 12) (hd : d = 2 ∨ d = 4 ∨ d = 8 ∨ d = 16) (a0 : 0 ≤ a) (a1 : a ≤ 100000) : f_S_strength K (512 / d * n) (512 / d * bc n d) (512 / d) a F B = some (st n d a, F, B) := by
  have hu := un_d hd
  have bb := bc_b (n := n) (d := d)
  have b3 := un_3 hu (n := n) (by first | decide | omega)
  have c3 := un_3 hu (n := bc n d) (by first | decide | omega)
  have c4 := un_4 hu (n := bc n d) (by first | decide | omega)
  have h2 := un_2 (n := n) hu
  generalize hq : bc n d = q at *
  unfold st
  rw [hq]
  generalize 512 / d = u at *
  have m1 := Int.emod_nonneg (u * n) (show 2 * u ≠ 0 by omega)
  have m2 := Int.emod_lt_of_pos (u * n) (show 0 < 2 * u by omega)
  have p1 := Int.emod_nonneg a (show u * q ≠ 0 by omega)
  have p2 := Int.emod_lt_of_pos a (show 0 < u * q by omega)
  have ra : r32 a := by unfold r32; omega
  have e30 : f_S_strength_30 K (u * q) u a F B = some (if a % (u * q) = 0 then 7 else st5 u a, F, B) := by
    unfold f_S_strength_30
    rw [if_pos (iI_n0 (by first | decide | omega) (by unfold r32; omega)), zrm_e a0 ra (by first | decide | omega) (by unfold r32; omega), if_pos (by unfold r32; omega)]
    by_cases c : a % (u * q) = 0
    · rw [if_pos c, if_pos c]
    · rw [if_neg c, if_neg c, C_st5 hK hu a0 a1]
  unfold f_S_strength f_S_strength_9
  rw [if_pos ra]
  by_cases z0 : a = 0
  · rw [if_pos z0, if_pos (Or.inl z0)]
  rw [if_neg z0, if_pos (show r32 (u * n) by unfold r32; omega)]
  by_cases z1 : a = u * n
  · rw [if_pos z1, if_pos (Or.inr z1)]
  rw [if_neg z1, if_neg (show ¬ (a = 0 ∨ a = u * n) from fun h => by rcases h with h | h; exact z0 h; exact z1 h), if_pos (iI_n0 (by first | decide | omega) (by unfold r32; omega)), zrm_e b3.1 (by unfold r32; omega) (by first | decide | omega) (by unfold r32; omega), if_pos (show r32 (u * n % (2 * u)) by unfold r32; omega)]
  by_cases z2 : n % 2 = 0
  · rw [if_pos (h2.mpr z2), if_pos (show r32 (2 * a) by unfold r32; omega)]
    by_cases z3 : 2 * a = u * n
    · rw [if_pos z3, if_pos (show n % 2 = 0 ∧ 2 * a = u * n from ⟨z2, z3⟩)]
    · rw [if_neg z3, if_neg (show ¬ (n % 2 = 0 ∧ 2 * a = u * n) from fun h => z3 h.2), e30]
  · rw [if_neg (fun h => z2 (h2.mp h)), if_neg (show ¬ (n % 2 = 0 ∧ 2 * a = u * n) from fun h => z2 h.1), e30]
theorem C_btw {K : zK} {n d f t : Int} {F : zF} {B : zB} (hK : 3002 ≤ K.1) (hn : 1 ≤ n ∧ n ≤ 12) (hd : d = 2 ∨ d = 4 ∨ d = 8 ∨ d = 16) (f0 : 0 ≤ f) (ft : f < t) (t1 : t ≤ 100000) : f_S_strengthBetween K (512 / d * n) (512 / d * bc n d) (512 / d) f t F B = some (bt n d f t, F, B) := by
  have hu := un_d hd
  have bb := bc_b (n := n) (d := d)
  have b3 := un_3 hu (n := n) (by first | decide | omega)
  have c3 := un_3 hu (n := bc n d) (by first | decide | omega)
  have c4 := un_4 hu (n := bc n d) (by first | decide | omega)
  have h2 := un_2 (n := n) hu
  generalize hq : bc n d = q at *
  unfold bt
  rw [hq]
  generalize 512 / d = u at *
  have m1 := Int.emod_nonneg (u * n) (show 2 * u ≠ 0 by omega)
  have m2 := Int.emod_lt_of_pos (u * n) (show 0 < 2 * u by omega)
  have e26 : f_S_strengthBetween_26 K (u * q) u f t F B = some (if bw (u * q) f t then 7 else bt5 u f t, F, B) := by
    have q1 : 0 ≤ (t - 1) / (u * q) := Int.ediv_nonneg (by first | decide | omega) (by first | decide | omega)
    have q2 : (t - 1) / (u * q) * (u * q) ≤ t - 1 := Int.ediv_mul_le _ (by first | decide | omega)
    have q3 : 0 ≤ (t - 1) / (u * q) * (u * q) := Int.mul_nonneg q1 (by first | decide | omega)
    unfold f_S_strengthBetween_26
    rw [if_pos (iI_n0 (by first | decide | omega) (by unfold r32; omega)), zdv_e (by first | decide | omega) (by unfold r32; omega) (by first | decide | omega) (by unfold r32; omega), if_pos (by unfold r32; omega), if_pos (by unfold r32; omega)]
    by_cases c : bw (u * q) f t
    · rw [if_pos c, if_neg (by have := (bw_e (by first | decide | omega) f0 ft).mpr c; omega)]
    · rw [if_neg c, if_pos (by
        rcases Int.lt_or_le f ((t - 1) / (u * q) * (u * q)) with y | y
        · exact absurd ((bw_e (by first | decide | omega) f0 ft).mp y) c
        · exact y), C_bt5 hK hu f0 ft t1]
  unfold f_S_strengthBetween
  rw [if_pos (iI_n0 (by first | decide | omega) (by unfold r32; omega)), zrm_e b3.1 (by unfold r32; omega) (by first | decide | omega) (by unfold r32; omega), if_pos (show r32 (u * n % (2 * u)) by unfold r32; omega)]
  by_cases z2 : n % 2 = 0
  · rw [if_pos (h2.mpr z2), if_pos (show r32 (2 * f) by unfold r32; omega), if_pos (show r32 (u * n) by unfold r32; omega)]
    by_cases z3 : u * n ≤ 2 * f
    · rw [if_pos z3, if_neg (show ¬ (n % 2 = 0 ∧ 2 * f < u * n ∧ u * n < 2 * t) from fun h => (by first | decide | omega)), e26]
    · rw [if_neg z3, if_pos (show r32 (2 * t) by unfold r32; omega)]
      by_cases z4 : 2 * t ≤ u * n
      · rw [if_pos z4, if_neg (show ¬ (n % 2 = 0 ∧ 2 * f < u * n ∧ u * n < 2 * t) from fun h => (by first | decide | omega)), e26]
      · rw [if_neg z4, if_pos (show n % 2 = 0 ∧ 2 * f < u * n ∧ u * n < 2 * t from ⟨z2, (by first | decide | omega), (by first | decide | omega)⟩)]
  · rw [if_neg (fun h => z2 (h2.mp h)), if_neg (show ¬ (n % 2 = 0 ∧ 2 * f < u * n ∧ u * n < 2 * t) from fun h => z2 h.1), e26]
theorem st_b {n d a : Int} : 1 ≤ st n d a ∧ st n d a ≤ 9 := by
  unfold st st5
  split
  · decide
  · split
    · decide
    · split
      · decide
      · split
        · decide
        · split
          · decide
          · split
            · decide
            · split
              · decide
              · split <;> decide
theorem bt_b {n d f t : Int} : 1 ≤ bt n d f t ∧ bt n d f t ≤ 9 := by
  unfold bt bt5
  split
  · decide
  · split
    · decide
    · split
      · decide
      · split
        · decide
        · split
          · decide
          · split
            · decide
            · split <;> decide
theorem zmx {a b : Int} : zmax a b = mx a b := by
  unfold zmax mx
  by_cases c : a < b
  · rw [if_pos c, if_pos (by first | decide | omega)]
  · rw [if_neg c]
    by_cases e : a ≤ b
    · rw [if_pos e]; omega
    · rw [if_neg e]
theorem C_bc {K : zK} {n d : Int} {F : zF} {B : zB} (hn : 1 ≤ n ∧ n ≤ 12) (hd : d = 2 ∨ d = 4 ∨ d = 8 ∨ d = 16) : f_S_beatCount K n d F B = some (bc n d, F, B) := by
  unfold f_S_beatCount f_S_beatCount_14 f_S_beatCount_24 bc
  have m1 := Int.emod_nonneg n (show (3 : Int) ≠ 0 by decide)
  have m2 := Int.emod_lt_of_pos n (show (0 : Int) < 3 by decide)
  rw [zrm_e (by first | decide | omega) (by unfold r32; omega) (by decide) (by decide)]
  have rm : r32 (n % 3) := by unfold r32; omega
  rcases hd with rfl | rfl | rfl | rfl
  · rw [if_pos (by decide), if_pos (by decide), if_pos (by decide), if_neg (by decide), if_neg (by first | decide | omega), if_pos (by decide)]
  · rw [if_pos (by decide), if_pos (by decide), if_pos (by decide), if_neg (by decide), if_neg (by first | decide | omega), if_pos (by decide)]
  · rw [if_pos (by decide), if_neg (by decide), if_pos rm]
    by_cases c : n % 3 = 0
    · rw [if_pos c, if_pos ⟨by decide, c⟩]
    · rw [if_neg c, if_pos (by decide), if_pos (by decide), if_neg (fun h => c h.2), if_neg (by decide)]
  · rw [if_pos (by decide), if_neg (by decide), if_pos rm]
    by_cases c : n % 3 = 0
    · rw [if_pos c, if_pos ⟨by decide, c⟩]
    · rw [if_neg c, if_pos (by decide), if_pos (by decide), if_neg (fun h => c h.2), if_neg (by decide)]
theorem C_nv42 {K : zK} {n d f l : Int} {F : zF} {B : zB} (hK : 3002 ≤ K.1) (hn : 1 ≤ n ∧ n ≤ 12) (hd : d = 2 ∨ d = 4 ∨ d = 8 ∨ d = 16) (f0 : 0 ≤ f) (f1 : f ≤ 10000) (l0 : 0 ≤ l) (l1 : l ≤ 10000) : ∀ (r m : Nat) {k : Int}, 0 ≤ k → k + r = 24 → r < m → f_S_nextValue_42 K m k (st n d f) (512 / d * bc n d) (512 / d * n) (512 / d) f l F B = some (if fsN (fun k => decide (fv k ≤ l ∧ stnd n d f k)) r k < 0 then gvF l else fsN (fun k => decide (fv k ≤ l ∧ stnd n d f k)) r k, F, B) := by
  intro r
  induction r with
  | zero =>
    intro m k h0 hk hm
    obtain ⟨m, rfl⟩ : ∃ j, m = j + 1 := ⟨m - 1, (by first | decide | omega)⟩
    rw [f_S_nextValue_42, if_pos (by unfold r32; omega), if_pos (by first | decide | omega), C_great hK (by unfold r32; omega), zb_s]
    rfl
  | succ r ih =>
    intro m k h0 hk hm
    obtain ⟨m, rfl⟩ : ∃ j, m = j + 1 := ⟨m - 1, (by first | decide | omega)⟩
    have b := fv_b (k := k) h0 (by first | decide | omega)
    have s1 := st_b (n := n) (d := d) (a := f)
    have s2 := st_b (n := n) (d := d) (a := f + fv k)
    have s3 := bt_b (n := n) (d := d) (f := f) (t := f + fv k)
    have ih' := ih m (k := k + 1) (by first | decide | omega) (by first | decide | omega) (by first | decide | omega)
    have go : ∀ F B, f_S_nextValue_104 (f_S_nextValue_42 K m) K k (st n d f) (512 / d * bc n d) (512 / d * n) (512 / d) f l F B = f_S_nextValue_42 K m (k + 1) (st n d f) (512 / d * bc n d) (512 / d * n) (512 / d) f l F B := fun _ _ => rfl
    rw [f_S_nextValue_42, if_pos (by unfold r32; omega), if_neg (by first | decide | omega), C_fine h0 (by first | decide | omega), zb_s, if_pos (show r32 (f + fv k) by unfold r32; omega), if_pos (show r32 (f + l) by unfold r32; omega)]
    unfold fsN
    by_cases c : fv k ≤ l
    · rw [if_neg (show ¬ f + l < f + fv k by omega), C_str hK hn hd (by first | decide | omega) (by first | decide | omega), zb_s, if_pos (show r32 (st n d f) by unfold r32; omega), if_pos (show r32 (st n d (f + fv k)) by unfold r32; omega), C_btw hK hn hd f0 (by first | decide | omega) (by first | decide | omega), zb_s, if_pos (show r32 (bt n d f (f + fv k)) by unfold r32; omega), zmx]
      have mb : 1 ≤ mx (st n d f) (st n d (f + fv k)) ∧ mx (st n d f) (st n d (f + fv k)) ≤ 9 := by unfold mx; split <;> omega
      rw [if_pos (show r32 (mx (st n d f) (st n d (f + fv k))) by unfold r32; omega)]
      by_cases s : stnd n d f k
      · rw [if_neg (show ¬ mx (st n d f) (st n d (f + fv k)) < bt n d f (f + fv k) by have : bt n d f (f + fv k) ≤ mx (st n d f) (st n d (f + fv k)) := s; omega), if_pos (decide_eq_true ⟨c, s⟩), if_neg (by first | decide | omega)]
      · rw [if_pos (show mx (st n d f) (st n d (f + fv k)) < bt n d f (f + fv k) by
          rcases Int.lt_or_le (mx (st n d f) (st n d (f + fv k))) (bt n d f (f + fv k)) with y | y
          · exact y
          · exact absurd y s), if_neg (show ¬ decide (fv k ≤ l ∧ stnd n d f k) = true from fun h => s (of_decide_eq_true h).2), go]
        exact ih'
    · rw [if_pos (show f + l < f + fv k by omega), if_neg (show ¬ decide (fv k ≤ l ∧ stnd n d f k) = true from fun h => c (of_decide_eq_true h).1), go]
      exact ih'
theorem C_next {K : zK} {n d f l : Int} {F : zF} {B : zB} (hK : 3002 ≤ K.1) (hn : 1 ≤ n ∧ n ≤ 12) (hd : d = 2 ∨ d = 4 ∨ d = 8 ∨ d = 16) (f0 : 0 ≤ f) (f1 : f ≤ 10000) (l0 : 0 ≤ l) (l1 : l ≤ 10000) : f_S_nextValue K n d f l F B = some (nvF n d f l, F, B) := by
  have zd : zdv 512 (zmax d 1) = 512 / d ∧ (¬ iI (zmax d 1) = 0) ∧ r32 d := by
    rcases hd with rfl | rfl | rfl | rfl <;> decide
  unfold f_S_nextValue
  rw [if_pos zd.2.2, if_pos zd.2.1, C_bc hn hd, zb_s, zd.1, C_str hK hn hd f0 (by first | decide | omega), zb_s, C_nv42 hK hn hd f0 f1 l0 l1 24 K.1 (Int.le_refl _) (by decide) (by first | decide | omega)]
  rfl
end
end
section
section
/-! ===== strengths, as the reference has them ===== -/
/-- a 512th of a whole -/
def X5 : Int := 1587600
theorem FR_5 {n d u : Int} (d0 : 0 < d) (h : d * u = 512 * n) (n0 : 0 ≤ n) (hd : ∃ x, 512 = d * x) : FR n d (X5 * u) := by
  obtain ⟨x, hx⟩ := hd
  refine ⟨d0, ⟨1587600 * x, ?_⟩, n0, ?_⟩
  · unfold WW
    calc (812851200 : Int) = 1587600 * 512 := by decide
      _ = 1587600 * (d * x) := by rw [← hx]
      _ = d * (1587600 * x) := by ac_rfl
  · unfold WW X5
    calc n * 812851200 = 1587600 * (512 * n) := by omega
      _ = 1587600 * (d * u) := by rw [← h]
      _ = 1587600 * u * d := by ac_rfl
theorem X5_m {a b : Int} (b0 : 0 < b) : (X5 * a) % (X5 * b) = 0 ↔ a % b = 0 := by
  rw [Int.mul_emod_mul_of_pos a b (show 0 < X5 by decide)]
  unfold X5
  omega
theorem X5_d {a b : Int} : (X5 * a) / (X5 * b) = a / b := Int.mul_ediv_mul_of_pos _ _ (by decide)
theorem bar5 {n d : Int} (hd : d = 2 ∨ d = 4 ∨ d = 8 ∨ d = 16) : barV n d = X5 * (512 / d * n) := by
  unfold barV X5
  rcases hd with rfl | rfl | rfl | rfl
  · rw [show (812851200 : Int) / 2 = 406425600 by decide, show (512 : Int) / 2 = 256 by decide]; omega
  · rw [show (812851200 : Int) / 4 = 203212800 by decide, show (512 : Int) / 4 = 128 by decide]; omega
  · rw [show (812851200 : Int) / 8 = 101606400 by decide, show (512 : Int) / 8 = 64 by decide]; omega
  · rw [show (812851200 : Int) / 16 = 50803200 by decide, show (512 : Int) / 16 = 32 by decide]; omega
theorem L_beat {K : Nat} {w n d : Int} {F : zF} {B : zB} (w0 : 0 ≤ w ∧ w < 3) (m4 : F 13 w 4 = n) (m5 : F 13 w 5 = d) (hn : 1 ≤ n ∧ n ≤ 12) (hd : d = 2 ∨ d = 4 ∨ d = 8 ∨ d = 16) : f_M_beat K w F B = some (bc n d, F, B) := by
  have m1 := Int.emod_nonneg n (show (3 : Int) ≠ 0 by decide)
  have m2 := Int.emod_lt_of_pos n (show (0 : Int) < 3 by decide)
  have rm : r32 (n % 3) := by unfold r32; omega
  unfold f_M_beat f_M_isCompound f_M_isCompound_18 f_M_isCompound_31 f_M_isCompound_32 f_M_beat_27 f_M_beat_32 bc
  rw [if_pos w0, m5, m4, zrm_e (by first | decide | omega) (by unfold r32; omega) (by decide) (by decide)]
  rcases hd with rfl | rfl | rfl | rfl
  · rw [if_pos (by decide), if_neg (by decide), if_neg (by decide), if_pos (by decide), zb_s, if_pos (by decide), if_pos rfl, if_pos w0, m5, if_pos (by decide), if_pos rfl, if_neg (by first | decide | omega), if_pos (by decide)]
  · rw [if_pos (by decide), if_neg (by decide), if_neg (by decide), if_pos (by decide), zb_s, if_pos (by decide), if_pos rfl, if_pos w0, m5, if_pos (by decide), if_neg (by decide), if_pos rfl, if_neg (by first | decide | omega), if_pos (by decide)]
  · rw [if_pos (by decide), if_pos rfl, if_pos w0, if_pos rm]
    by_cases c : n % 3 = 0
    · rw [if_pos c, if_pos (by decide), zb_s, if_pos (by decide), if_neg (by decide), if_pos ⟨by decide, c⟩]
    · rw [if_neg c, if_pos (by decide), zb_s, if_pos (by decide), if_pos rfl, if_pos w0, m5, if_pos (by decide), if_neg (by decide), if_neg (by decide), if_neg (fun h => c h.2), if_neg (by decide)]
  · rw [if_pos (by decide), if_neg (by decide), if_pos rfl, if_pos w0, if_pos rm]
    by_cases c : n % 3 = 0
    · rw [if_pos c, if_pos (by decide), zb_s, if_pos (by decide), if_neg (by decide), if_pos ⟨by decide, c⟩]
    · rw [if_neg c, if_pos (by decide), zb_s, if_pos (by decide), if_pos rfl, if_pos w0, m5, if_pos (by decide), if_neg (by decide), if_neg (by decide), if_neg (fun h => c h.2), if_neg (by decide)]
/-- d, and its doubles, divide 512 -/
theorem dv_5 {d : Int} (hd : d = 2 ∨ d = 4 ∨ d = 8 ∨ d = 16) : (∃ x, 512 = d * x) ∧ (∃ x, 512 = 2 * d * x) ∧ (d * (512 / d) = 512 ∧ d * 2 * (512 / d / 2) = 512 ∧ d * 2 * 2 * (512 / d / 4) = 512 ∧ d * 2 * 2 * 2 * (512 / d / 8) = 512 ∧ d * 2 * 2 * 2 * 2 * (512 / d / 16) = 512) ∧ 2 * (256 / d) = 512 / d ∧ 2 * d * (256 / d) = 512 := by
  rcases hd with rfl | rfl | rfl | rfl
  · exact ⟨⟨256, by decide⟩, ⟨128, by decide⟩, by decide, by decide, by decide⟩
  · exact ⟨⟨128, by decide⟩, ⟨64, by decide⟩, by decide, by decide, by decide⟩
  · exact ⟨⟨64, by decide⟩, ⟨32, by decide⟩, by decide, by decide, by decide⟩
  · exact ⟨⟨32, by decide⟩, ⟨16, by decide⟩, by decide, by decide, by decide⟩
theorem L_mul5 {K : Nat} {u v a c l m : Int} {F : zF} {B : zB} (h : FR u v (X5 * a)) (a1 : a ≤ 100000) (e : l * m = 512 * c) (c0 : 0 < c) (c1 : c ≤ 100) (l0 : 0 < l) (l1 : l ≤ 1000) (m0 : 0 < m) : f_M_isMultiple K u v c l F B = some (if a % m = 0 then 1 else 0, F, B) := by
  have h' : c * WW = X5 * m * l := by
    unfold WW X5
    calc c * 812851200 = 1587600 * (512 * c) := by omega
      _ = 1587600 * (l * m) := by rw [← e]
      _ = 1587600 * m * l := by ac_rfl
  rw [L_multR h h' c0 (by first | decide | omega) l0 (by first | decide | omega) (Int.mul_pos (by decide) m0) (by unfold X5; omega)]
  by_cases z : a % m = 0
  · rw [if_pos ((X5_m m0).mpr z), if_pos z]
  · rw [if_neg (fun t => z ((X5_m m0).mp t)), if_neg z]
theorem L_str {K : Nat} {w n d u v a : Int} {F : zF} {B : zB} (hK : 812851200 < K) (w0 : 0 ≤ w ∧ w < 3) (m4 : F 13 w 4 = n) (m5 : F 13 w 5 = d) (hn : 1 ≤ n ∧ n ≤ 12) (hd : d = 2 ∨ d = 4 ∨ d = 8 ∨ d = 16) (h : FR u v (X5 * a)) (a0 : 0 ≤ a) (a1 : a ≤ 100000) : f_M_strength K w u v F B = some (st n d a, F, B) := by
  obtain ⟨dv1, dv2, ⟨d0, d1, d2, d3, d4⟩, dv4, dv5⟩ := dv_5 hd
  have hu := un_d hd
  have bb := bc_b (n := n) (d := d)
  have b3 := un_3 hu (n := n) (by first | decide | omega)
  have fb := FR_b h
  have rn : r32 n := by unfold r32; omega
  have rd : r32 d := by unfold r32; omega
  have X5e : X5 = 1587600 := rfl
  have xa : ∀ b : Int, X5 * b = 1587600 * b := fun _ => rfl
  have x1 := xa a
  have x2 := xa (512 / d * n)
  have x3 := xa (256 / d * n)
  have u0 : u = 0 ↔ a = 0 := by
    obtain ⟨v0, _, _, e⟩ := h
    have WWe : WW = 812851200 := rfl
    constructor
    · intro z
      rw [z, Int.zero_mul] at e
      rcases Int.mul_eq_zero.mp e.symm with y | y <;> omega
    · intro z
      rw [z, Int.mul_zero, Int.zero_mul] at e
      rcases Int.mul_eq_zero.mp e with y | y <;> omega
  have m1 := Int.emod_nonneg n (show (2 : Int) ≠ 0 by decide)
  have m2 := Int.emod_lt_of_pos n (show (0 : Int) < 2 by decide)
  have f1 : FR n d (X5 * (512 / d * n)) := FR_5 (by first | decide | omega) (by rw [← Int.mul_assoc, d0]) (by first | decide | omega) dv1
  have f2 : FR n (2 * d) (X5 * (256 / d * n)) := FR_5 (by first | decide | omega) (by rw [← Int.mul_assoc, dv5]) (by first | decide | omega) dv2
  have b4 := un_3 (u := 512 / d) hu (n := bc n d) (by first | decide | omega)
  have b5 := un_4 (u := 512 / d) hu (n := bc n d) (by first | decide | omega)
  have hh : 2 * (256 / d * n) = 512 / d * n := by rw [← Int.mul_assoc, dv4]
  have e63 : f_M_strength_63 K w u v F B = some (if a % (512 / d * bc n d) = 0 then 7 else st5 (512 / d) a, F, B) := by
    unfold f_M_strength_63
    rw [L_beat w0 m4 m5 hn hd, zb_s, if_pos (show r32 (bc n d) by unfold r32; omega), if_pos w0, m5, if_pos rd, L_mul5 h a1 (show d * (512 / d * bc n d) = 512 * bc n d by rw [← Int.mul_assoc, d0]) (by first | decide | omega) (by first | decide | omega) (by first | decide | omega) (by first | decide | omega) (by first | decide | omega), zb_s]
    by_cases c : a % (512 / d * bc n d) = 0
    · rw [if_pos c, if_pos c, if_pos (by decide), if_neg (by decide)]
    rw [if_neg c, if_neg c, if_pos (by decide), if_pos rfl, m5, if_pos rd]
    obtain ⟨m, hm⟩ : ∃ m, K = m + 1 + 1 + 1 + 1 + 1 + 1 := ⟨K - 6, (by first | decide | omega)⟩
    obtain ⟨_, zz⟩ := un_z hu
    have stp : ∀ (m : Nat) (l s p s' l' : Int), 2 ≤ s → s ≤ 6 → s - 1 = s' → l * 2 = l' → 2 ≤ l → l ≤ 300 → l * p = 512 → 0 < p → f_M_strength_96 K (m + 1) l s u v F B = if a % p = 0 then some (s, F, B) else f_M_strength_96 K m l' s' u v F B := fun m l s p s' l' s0 s1 es el l0 l1 e p0 => by
      rw [f_M_strength_96, if_pos (by unfold r32; omega), if_neg (by first | decide | omega), L_mul5 h a1 (show l * p = 512 * 1 by omega) (by decide) (by decide) (by first | decide | omega) (by first | decide | omega) p0, zb_s]
      by_cases y : a % p = 0
      · rw [if_pos y, if_pos y, if_pos (by decide), if_neg (by decide)]
      · rw [if_neg y, if_neg y, if_pos (by decide), if_pos rfl, es, el]
    have t1 : f_M_strength_96 K (m + 1) (d * 2 * 2 * 2 * 2 * 2) 1 u v F B = some (1, F, B) := by rw [f_M_strength_96, if_pos (by decide), if_pos (by decide)]
    have t2 := stp (m + 1) (d * 2 * 2 * 2 * 2) 2 _ 1 _ (by decide) (by decide) (by decide) rfl (by first | decide | omega) (by first | decide | omega) d4 (by first | decide | omega)
    have t3 := stp (m + 1 + 1) (d * 2 * 2 * 2) 3 _ 2 _ (by decide) (by decide) (by decide) rfl (by first | decide | omega) (by first | decide | omega) d3 (by first | decide | omega)
    have t4 := stp (m + 1 + 1 + 1) (d * 2 * 2) 4 _ 3 _ (by decide) (by decide) (by decide) rfl (by first | decide | omega) (by first | decide | omega) d2 (by first | decide | omega)
    have t5 := stp (m + 1 + 1 + 1 + 1) (d * 2) 5 _ 4 _ (by decide) (by decide) (by decide) rfl (by first | decide | omega) (by first | decide | omega) d1 (by first | decide | omega)
    have t6 := stp (m + 1 + 1 + 1 + 1 + 1) d 6 _ 5 _ (by decide) (by decide) (by decide) rfl (by first | decide | omega) (by first | decide | omega) d0 (by first | decide | omega)
    rw [show f_M_strength_96 K K = f_M_strength_96 K (m + 1 + 1 + 1 + 1 + 1 + 1) by rw [← hm], t6, t5, t4, t3, t2, t1]
    unfold st5
    generalize 512 / d = q
    by_cases c0 : a % q = 0
    · rw [if_pos c0, if_pos c0]
    rw [if_neg c0, if_neg c0]
    by_cases c1 : a % (q / 2) = 0
    · rw [if_pos c1, if_pos c1]
    rw [if_neg c1, if_neg c1]
    by_cases c2 : a % (q / 4) = 0
    · rw [if_pos c2, if_pos c2]
    rw [if_neg c2, if_neg c2]
    by_cases c3 : a % (q / 8) = 0
    · rw [if_pos c3, if_pos c3]
    rw [if_neg c3, if_neg c3]
    by_cases c4 : a % (q / 16) = 0
    · rw [if_pos c4, if_pos c4]
    rw [if_neg c4, if_neg c4]
  unfold f_M_strength f_M_strength_25 st
  have ru : r64 u := by
    obtain ⟨_, _, u0, _⟩ := h
    unfold r64
    omega
  rw [if_pos ru]
  by_cases z0 : a = 0
  · rw [if_pos (zcmp_0.mpr (u0.mpr z0)), if_pos (Or.inl z0)]
  rw [if_neg (fun t => z0 (u0.mp (zcmp_0.mp t))), if_pos w0, m4, m5, if_pos rn, if_pos rd, L_cmpR hK h f1 (by first | decide | omega) (by first | decide | omega), zb_s]
  by_cases z1 : a = 512 / d * n
  · rw [if_neg (show ¬ X5 * a < X5 * (512 / d * n) by rw [z1]; omega), if_pos (show X5 * a = X5 * (512 / d * n) by rw [z1]), if_pos (by decide), if_pos rfl, if_pos (show a = 0 ∨ a = 512 / d * n from Or.inr z1)]
  have r6 : ∀ b : Int, ¬ a = b → r32 (if X5 * a < X5 * b then (-1 : Int) else if X5 * a = X5 * b then 0 else 1) ∧ ¬ (if X5 * a < X5 * b then (-1 : Int) else if X5 * a = X5 * b then 0 else 1) = 0 := fun b hb => by
    have := xa b
    by_cases y : X5 * a < X5 * b
    · rw [if_pos y]; decide
    · rw [if_neg y, if_neg (by first | decide | omega)]; decide
  rw [if_pos (r6 _ z1).1, if_neg (r6 _ z1).2, if_neg (show ¬ (a = 0 ∨ a = 512 / d * n) from fun t => by rcases t with t | t; exact z0 t; exact z1 t), m4, zrm_e (by first | decide | omega) rn (by decide) (by decide), if_pos (show r32 (n % 2) by unfold r32; omega)]
  by_cases z2 : n % 2 = 0
  · rw [if_pos z2, if_pos rn, m5, if_pos rd, L_cmpR hK h f2 (by first | decide | omega) (by first | decide | omega), zb_s]
    by_cases z3 : 2 * a = 512 / d * n
    · have e : a = 256 / d * n := by omega
      rw [if_neg (show ¬ X5 * a < X5 * (256 / d * n) by rw [e]; omega), if_pos (show X5 * a = X5 * (256 / d * n) by rw [e]), if_pos (by decide), if_pos rfl, if_pos (show n % 2 = 0 ∧ 2 * a = 512 / d * n from ⟨z2, z3⟩)]
    · have e : ¬ a = 256 / d * n := by omega
      rw [if_pos (r6 _ e).1, if_neg (r6 _ e).2, if_neg (show ¬ (n % 2 = 0 ∧ 2 * a = 512 / d * n) from fun t => z3 t.2), e63]
  · rw [if_neg z2, if_neg (show ¬ (n % 2 = 0 ∧ 2 * a = 512 / d * n) from fun t => z2 t.1), e63]
end
end
section
section
/-! ===== the reference: what lies between two places; whether a value stands ===== -/
theorem L_isB {K : Nat} {a b c d u l f t m : Int} {F : zF} {B : zB} (hK : 812851200 < K) (h1 : FR a b (X5 * f)) (h2 : FR c d (X5 * t)) (hu : FR u l (X5 * m)) (u0 : 0 < u) (u1 : u ≤ 100) (l1 : l ≤ 1000) (m0 : 0 < m) (m1 : m ≤ 10000) (f0 : 0 ≤ f) (f1 : f ≤ 100000) (t1 : t ≤ 100000) : f_M_isBetween K a b c d u l F B = some (if bw m f t then 1 else 0, F, B) := by
  have xa : ∀ b : Int, X5 * b = 1587600 * b := fun _ => rfl
  have x1 := xa f
  have x2 := xa t
  have x3 := xa m
  have q1 : 0 ≤ f / m := Int.ediv_nonneg f0 (by first | decide | omega)
  have q2 : f / m * m ≤ f := Int.ediv_mul_le _ (by first | decide | omega)
  have q3 : (f / m + 1) * m = f / m * m + m := by rw [Int.add_mul, Int.one_mul]
  have q4 : (f / m + 1) * (X5 * m) = X5 * ((f / m + 1) * m) := by ac_rfl
  have x4 := xa ((f / m + 1) * m)
  unfold f_M_isBetween f_M_isBetween_35
  rw [L_oftR h1 hu.2.2.2 u0 (by first | decide | omega) hu.1 (by first | decide | omega) (by first | decide | omega) (by first | decide | omega), zb_s, X5_d, L_cmpR hK (FR_k hu (by first | decide | omega)) h2 (by first | decide | omega) (by first | decide | omega), zb_s, q4]
  by_cases y : bw m f t
  · have y' : (f / m + 1) * m < t := y
    rw [if_pos y, if_pos (show X5 * ((f / m + 1) * m) < X5 * t by omega), if_pos (by decide), if_neg (by decide), if_pos (by decide)]
  · have y' : ¬ (f / m + 1) * m < t := y
    rw [if_neg y, if_neg (show ¬ X5 * ((f / m + 1) * m) < X5 * t by omega)]
    by_cases z : X5 * ((f / m + 1) * m) = X5 * t
    · rw [if_pos z, if_pos (by decide), if_pos (by decide), if_pos (by decide)]
    · rw [if_neg z, if_pos (by decide), if_pos (by decide), if_pos (by decide)]
theorem L_btw {K : Nat} {w n d a b c e f t : Int} {F : zF} {B : zB} (hK : 812851200 < K) (w0 : 0 ≤ w ∧ w < 3) (m4 : F 13 w 4 = n) (m5 : F 13 w 5 = d) (hn : 1 ≤ n ∧ n ≤ 12) (hd : d = 2 ∨ d = 4 ∨ d = 8 ∨ d = 16) (h1 : FR a b (X5 * f)) (h2 : FR c e (X5 * t)) (f0 : 0 ≤ f) (ft : f < t) (t1 : t ≤ 100000) : f_M_between_1 K w a b c e F B = some (bt n d f t, F, B) := by
  obtain ⟨dv1, dv2, ⟨d0, d1, d2, d3, d4⟩, dv4, dv5⟩ := dv_5 hd
  have hu := un_d hd
  have bb := bc_b (n := n) (d := d)
  have b3 := un_3 hu (n := n) (by first | decide | omega)
  have rn : r32 n := by unfold r32; omega
  have rd : r32 d := by unfold r32; omega
  have xa : ∀ b : Int, X5 * b = 1587600 * b := fun _ => rfl
  have x1 := xa f
  have x2 := xa t
  have x3 := xa (256 / d * n)
  have m1 := Int.emod_nonneg n (show (2 : Int) ≠ 0 by decide)
  have m2 := Int.emod_lt_of_pos n (show (0 : Int) < 2 by decide)
  have f2 : FR n (2 * d) (X5 * (256 / d * n)) := FR_5 (by first | decide | omega) (by rw [← Int.mul_assoc, dv5]) (by first | decide | omega) dv2
  have hh : 2 * (256 / d * n) = 512 / d * n := by rw [← Int.mul_assoc, dv4]
  have b4 := un_3 (u := 512 / d) hu (n := bc n d) (by first | decide | omega)
  have b5 := un_4 (u := 512 / d) hu (n := bc n d) (by first | decide | omega)
  have fb : FR (bc n d) d (X5 * (512 / d * bc n d)) := FR_5 (by first | decide | omega) (by rw [← Int.mul_assoc, d0]) (by first | decide | omega) dv1
  have e59 : f_M_between_1_59 K w a b c e F B = some (if bw (512 / d * bc n d) f t then 7 else bt5 (512 / d) f t, F, B) := by
    unfold f_M_between_1_59
    rw [L_beat w0 m4 m5 hn hd, zb_s, if_pos (show r32 (bc n d) by unfold r32; omega), if_pos w0, m5, if_pos rd, L_isB hK h1 h2 fb (by first | decide | omega) (by first | decide | omega) (by first | decide | omega) (by first | decide | omega) (by first | decide | omega) f0 (by first | decide | omega) t1, zb_s]
    by_cases y : bw (512 / d * bc n d) f t
    · rw [if_pos y, if_pos y, if_pos (by decide), if_neg (by decide)]
    rw [if_neg y, if_neg y, if_pos (by decide), if_pos rfl, m5, if_pos rd]
    obtain ⟨m, hm⟩ : ∃ m, K = m + 1 + 1 + 1 + 1 + 1 + 1 := ⟨K - 6, (by first | decide | omega)⟩
    obtain ⟨_, zz⟩ := un_z hu
    have stp : ∀ (m : Nat) (l s p s' l' : Int), 2 ≤ s → s ≤ 6 → s - 1 = s' → l * 2 = l' → 2 ≤ l → l ≤ 300 → l * p = 512 → 0 < p → p ≤ 256 → f_M_between_1_96 K (m + 1) l s a b c e F B = if bw p f t then some (s, F, B) else f_M_between_1_96 K m l' s' a b c e F B := fun m l s p s' l' s0 s1 es el l0 l1 ee p0 p1 => by
      rw [f_M_between_1_96, if_pos (by unfold r32; omega), if_neg (by first | decide | omega), L_isB hK h1 h2 (FR_5 (n := 1) (d := l) (u := p) (by first | decide | omega) (by first | decide | omega) (by decide) ⟨p, ee.symm⟩) (by decide) (by decide) (by first | decide | omega) p0 (by first | decide | omega) f0 (by first | decide | omega) t1, zb_s]
      by_cases y : bw p f t
      · rw [if_pos y, if_pos y, if_pos (by decide), if_neg (by decide)]
      · rw [if_neg y, if_neg y, if_pos (by decide), if_pos rfl, es, el]
    have t1 : f_M_between_1_96 K (m + 1) (d * 2 * 2 * 2 * 2 * 2) 1 a b c e F B = some (1, F, B) := by rw [f_M_between_1_96, if_pos (by decide), if_pos (by decide)]
    have t2 := stp (m + 1) (d * 2 * 2 * 2 * 2) 2 _ 1 _ (by decide) (by decide) (by decide) rfl (by first | decide | omega) (by first | decide | omega) d4 (by first | decide | omega) (by first | decide | omega)
    have t3 := stp (m + 1 + 1) (d * 2 * 2 * 2) 3 _ 2 _ (by decide) (by decide) (by decide) rfl (by first | decide | omega) (by first | decide | omega) d3 (by first | decide | omega) (by first | decide | omega)
    have t4 := stp (m + 1 + 1 + 1) (d * 2 * 2) 4 _ 3 _ (by decide) (by decide) (by decide) rfl (by first | decide | omega) (by first | decide | omega) d2 (by first | decide | omega) (by first | decide | omega)
    have t5 := stp (m + 1 + 1 + 1 + 1) (d * 2) 5 _ 4 _ (by decide) (by decide) (by decide) rfl (by first | decide | omega) (by first | decide | omega) d1 (by first | decide | omega) (by first | decide | omega)
    have t6 := stp (m + 1 + 1 + 1 + 1 + 1) d 6 _ 5 _ (by decide) (by decide) (by decide) rfl (by first | decide | omega) (by first | decide | omega) d0 (by first | decide | omega) (by first | decide | omega)
    rw [show f_M_between_1_96 K K = f_M_between_1_96 K (m + 1 + 1 + 1 + 1 + 1 + 1) by rw [← hm], t6, t5, t4, t3, t2, t1]
    unfold bt5
    generalize 512 / d = q
    by_cases c0 : bw q f t
    · rw [if_pos c0, if_pos c0]
    rw [if_neg c0, if_neg c0]
    by_cases c1 : bw (q / 2) f t
    · rw [if_pos c1, if_pos c1]
    rw [if_neg c1, if_neg c1]
    by_cases c2 : bw (q / 4) f t
    · rw [if_pos c2, if_pos c2]
    rw [if_neg c2, if_neg c2]
    by_cases c3 : bw (q / 8) f t
    · rw [if_pos c3, if_pos c3]
    rw [if_neg c3, if_neg c3]
    by_cases c4 : bw (q / 16) f t
    · rw [if_pos c4, if_pos c4]
    rw [if_neg c4, if_neg c4]
  have cmp : ∀ x y : Int, r32 (if x < y then (-1 : Int) else if x = y then 0 else 1) ∧ (0 ≤ (if x < y then (-1 : Int) else if x = y then 0 else 1) ↔ y ≤ x) := fun x y => by
    by_cases z : x < y
    · rw [if_pos z]; exact ⟨by decide, (by first | decide | omega)⟩
    · rw [if_neg z]
      by_cases z' : x = y
      · rw [if_pos z']; exact ⟨by decide, (by first | decide | omega)⟩
      · rw [if_neg z']; exact ⟨by decide, (by first | decide | omega)⟩
  unfold f_M_between_1 bt
  rw [if_pos w0, m4, zrm_e (by first | decide | omega) rn (by decide) (by decide), if_pos (show r32 (n % 2) by unfold r32; omega)]
  by_cases z2 : n % 2 = 0
  · rw [if_pos z2, if_pos rn, m5, if_pos rd, L_cmpR hK h1 f2 (by first | decide | omega) (by first | decide | omega), zb_s, if_pos (cmp _ _).1]
    by_cases z3 : 512 / d * n ≤ 2 * f
    · rw [if_pos ((cmp _ _).2.mpr (by first | decide | omega)), if_neg (show ¬ (n % 2 = 0 ∧ 2 * f < 512 / d * n ∧ 512 / d * n < 2 * t) from fun h => (by first | decide | omega)), e59]
    · rw [if_neg (fun h => z3 (by have := (cmp _ _).2.mp h; omega)), m4, if_pos rn, m5, if_pos rd, L_cmpR hK f2 h2 (by first | decide | omega) (by first | decide | omega), zb_s, if_pos (cmp _ _).1]
      by_cases z4 : 2 * t ≤ 512 / d * n
      · rw [if_pos ((cmp _ _).2.mpr (by first | decide | omega)), if_neg (show ¬ (n % 2 = 0 ∧ 2 * f < 512 / d * n ∧ 512 / d * n < 2 * t) from fun h => (by first | decide | omega)), e59]
      · rw [if_neg (fun h => z4 (by have := (cmp _ _).2.mp h; omega)), if_pos (show n % 2 = 0 ∧ 2 * f < 512 / d * n ∧ 512 / d * n < 2 * t from ⟨z2, (by first | decide | omega), (by first | decide | omega)⟩)]
  · rw [if_neg z2, if_neg (show ¬ (n % 2 = 0 ∧ 2 * f < 512 / d * n ∧ 512 / d * n < 2 * t) from fun h => z2 h.1), e59]
theorem L_stands {K : Nat} {w n d a b f t : Int} {F : zF} {B : zB} (hK : 812851200 < K) (w0 : 0 ≤ w ∧ w < 3) (m4 : F 13 w 4 = n) (m5 : F 13 w 5 = d) (hn : 1 ≤ n ∧ n ≤ 12) (hd : d = 2 ∨ d = 4 ∨ d = 8 ∨ d = 16) (h1 : FR (F 14 0 54) (F 14 0 55) (X5 * f)) (h2 : FR a b (X5 * t)) (f0 : 0 ≤ f) (t0 : 0 < t) (f1 : f ≤ 10000) (t1 : t ≤ 10000) : f_M_stands K w a b F B = some (if bt n d f (f + t) ≤ mx (st n d f) (st n d (f + t)) then 1 else 0, fr F (X5 * (f + t)), B) := by
  have xa : ∀ b : Int, X5 * b = 1587600 * b := fun _ => rfl
  have x1 := xa f
  have x2 := xa t
  have x3 := xa (f + t)
  have e : X5 * f + X5 * t = X5 * (f + t) := by omega
  have g4 : fr F (X5 * (f + t)) 13 w 4 = n := by rw [fr_n (by first | decide | omega)]; exact m4
  have g5 : fr F (X5 * (f + t)) 13 w 5 = d := by rw [fr_n (by first | decide | omega)]; exact m5
  have s1 := st_b (n := n) (d := d) (a := f)
  have s2 := st_b (n := n) (d := d) (a := f + t)
  have s3 := bt_b (n := n) (d := d) (f := f) (t := f + t)
  unfold f_M_stands f_M_stands_84 f_M_stands_92
  rw [L_plusR hK h1 h2 (by first | decide | omega), zb_s, e, fr_n (k := 54) (by first | decide | omega), fr_n (k := 55) (by first | decide | omega), L_str hK w0 g4 g5 hn hd h1 f0 (by first | decide | omega), zb_s, fr_0, fr_1, L_str hK w0 g4 g5 hn hd (FR_r (by first | decide | omega)) (by first | decide | omega) (by first | decide | omega), zb_s, fr_n (k := 54) (by first | decide | omega), fr_n (k := 55) (by first | decide | omega), L_btw hK w0 g4 g5 hn hd h1 (FR_r (by first | decide | omega)) f0 (by first | decide | omega) (by first | decide | omega), zb_s, if_pos (show r32 (st n d f) by unfold r32; omega), if_pos (show r32 (st n d (f + t)) by unfold r32; omega)]
  unfold mx
  have rb : r32 (bt n d f (f + t)) := by unfold r32; omega
  by_cases c : st n d f ≤ st n d (f + t)
  · rw [if_pos c, if_pos c, if_pos rb, if_pos (show r32 (st n d (f + t)) by unfold r32; omega)]
    by_cases z : bt n d f (f + t) ≤ st n d (f + t)
    · rw [if_neg (by first | decide | omega), if_pos (by decide), if_pos z]
    · rw [if_pos (by first | decide | omega), if_pos (by decide), if_neg z]
  · rw [if_neg c, if_neg c, if_pos rb, if_pos (show r32 (st n d f) by unfold r32; omega)]
    by_cases z : bt n d f (f + t) ≤ st n d f
    · rw [if_neg (by first | decide | omega), if_pos (by decide), if_pos z]
    · rw [if_pos (by first | decide | omega), if_pos (by decide), if_neg z]
end
end
section
section
/-! ===== the reference's choice of a note's value ===== -/
def fuK (k : Int) : Int := if k % 3 = 0 then 7 else if k % 3 = 1 then 3 else 1
def fdK (k : Int) : Int := zlshl 1 (k / 3) * zlshl 1 (2 - k % 3)
theorem fk_f : ∀ k : Fin 24, (1 ≤ fuK (k.val : Int) ∧ fuK (k.val : Int) ≤ 7) ∧ (1 ≤ fdK (k.val : Int) ∧ fdK (k.val : Int) ≤ 512) ∧ fdK (k.val : Int) * fv (k.val : Int) = 512 * fuK (k.val : Int) ∧ 512 = fdK (k.val : Int) * (512 / fdK (k.val : Int)) := by decide +kernel
theorem fk_i {k : Int} (h0 : 0 ≤ k) (h1 : k < 24) : (1 ≤ fuK k ∧ fuK k ≤ 7) ∧ (1 ≤ fdK k ∧ fdK k ≤ 512) ∧ fdK k * fv k = 512 * fuK k ∧ 512 = fdK k * (512 / fdK k) := by
  have h := fk_f ⟨k.toNat, (by first | decide | omega)⟩
  rw [show (((⟨k.toNat, (by first | decide | omega)⟩ : Fin 24).val : Nat) : Int) = k by show ((k.toNat : Nat) : Int) = k; omega] at h
  exact h
theorem fk_F {k : Int} (h0 : 0 ≤ k) (h1 : k < 24) : FR (fuK k) (fdK k) (X5 * fv k) := by
  obtain ⟨a, b, c, d⟩ := fk_i h0 h1
  exact FR_5 (by first | decide | omega) c (by first | decide | omega) ⟨_, d⟩
theorem fv_s : ∀ j k : Fin 24, j.val < k.val → fv (k.val : Int) < fv (j.val : Int) := by decide +kernel
theorem fv_l {j k : Int} (h0 : 0 ≤ j) (h : j < k) (h1 : k < 24) : fv k < fv j := by
  have t := fv_s ⟨j.toNat, (by first | decide | omega)⟩ ⟨k.toNat, (by first | decide | omega)⟩ (by show j.toNat < k.toNat; omega)
  rw [show (((⟨j.toNat, (by first | decide | omega)⟩ : Fin 24).val : Nat) : Int) = j by show ((j.toNat : Nat) : Int) = j; omega, show (((⟨k.toNat, (by first | decide | omega)⟩ : Fin 24).val : Nat) : Int) = k by show ((k.toNat : Nat) : Int) = k; omega] at t
  exact t
theorem fsN_a {P : Int → Bool} : ∀ (m : Nat) {j : Nat} {k : Int}, 0 ≤ k → fsN P (m + j) k = if fsN P m k < 0 then fsN P j (k + m) else fsN P m k := by
  intro m
  induction m with
  | zero => intro j k h0; rw [fsN, if_pos (by decide), Nat.zero_add]; simp
  | succ m ih =>
    intro j k h0
    rw [show m + 1 + j = (m + j) + 1 by omega, show fsN P (m + j + 1) k = if P k = true then k else fsN P (m + j) (k + 1) from rfl, show fsN P (m + 1) k = if P k = true then k else fsN P m (k + 1) from rfl]
    by_cases c : P k = true
    · rw [if_pos c, if_pos c, if_neg (by first | decide | omega)]
    · rw [if_neg c, if_neg c, ih (by first | decide | omega), show k + 1 + (m : Int) = k + ((m + 1 : Nat) : Int) by omega]
/-- the best so far, and how the reference keeps it -/
def BST (b l3 l5 : Int) (F : zF) : Prop := (b = -1 ∧ l3 = 0 ∧ l5 = 1) ∨ ((0 ≤ b ∧ b < 24) ∧ l3 = fuK b ∧ l5 = fdK b ∧ F 14 0 56 = b / 3 ∧ F 14 0 57 = 2 - b % 3)
def fvB (b : Int) : Int := if b < 0 then 0 else fv b
theorem BST_F {b l3 l5 : Int} {F : zF} (h : BST b l3 l5 F) : FR l3 l5 (X5 * fvB b) ∧ (0 ≤ fvB b ∧ fvB b ≤ 896) ∧ (-1 ≤ b ∧ b < 24) ∧ (l3 ≤ 0 ↔ b < 0) ∧ r64 l3 := by
  unfold fvB
  rcases h with ⟨rfl, rfl, rfl⟩ | ⟨hb, rfl, rfl, _⟩
  · rw [if_pos (by decide)]
    exact ⟨⟨by decide, ⟨WW, by decide⟩, by decide, by decide⟩, by decide, by decide, by decide, by decide⟩
  · rw [if_neg (by first | decide | omega)]
    have := fk_i hb.1 hb.2
    have f := fv_b hb.1 hb.2
    exact ⟨fk_F hb.1 hb.2, (by first | decide | omega), (by first | decide | omega), (by first | decide | omega), by unfold r64; omega⟩
/-- what a choice may change -/
def chF (F F' : zF) : Prop := ∀ c y k, ¬ (c = 14 ∧ y = 0 ∧ (k ≤ 1 ∨ k = 56 ∨ k = 57)) → F' c y k = F c y k
/-- what a choice stands on -/
def CHS (w n d here left asks : Int) (F : zF) : Prop := (0 ≤ w ∧ w < 3) ∧ F 13 w 4 = n ∧ F 13 w 5 = d ∧ (1 ≤ n ∧ n ≤ 12) ∧ (d = 2 ∨ d = 4 ∨ d = 8 ∨ d = 16) ∧ FR (F 14 0 52) (F 14 0 53) (X5 * left) ∧ (0 ≤ left ∧ left ≤ 10000) ∧ (asks = 0 ∨ (asks = 1 ∧ FR (F 14 0 54) (F 14 0 55) (X5 * here) ∧ (0 ≤ here ∧ here ≤ 9000)))
theorem CHS_f {w n d here left asks : Int} {F F' : zF} (h : CHS w n d here left asks F) (f : chF F F') : CHS w n d here left asks F' := by
  obtain ⟨a, b, c, e, g, i, j, k⟩ := h
  refine ⟨a, by rw [f 13 w 4 (by first | decide | omega)]; exact b, by rw [f 13 w 5 (by first | decide | omega)]; exact c, e, g, by rw [f 14 0 52 (by first | decide | omega), f 14 0 53 (by first | decide | omega)]; exact i, j, ?_⟩
  rw [f 14 0 54 (by first | decide | omega), f 14 0 55 (by first | decide | omega)]
  exact k
theorem chF_t {F F1 F2 : zF} (h : chF F F1) (h' : chF F1 F2) : chF F F2 := fun c y k n => by rw [h' c y k n, h c y k n]
/-- value k may be taken -/
abbrev chP (n d here left asks k : Int) : Prop := fv k ≤ left ∧ (asks = 0 ∨ stnd n d here k)
theorem L_fu {K : Nat} {p : Int} {F : zF} {B : zB} (hp : p = 0 ∨ p = 1 ∨ p = 2) : f_M_formUp K p F B = some (fuK (2 - p), F, B) := by
  unfold f_M_formUp f_M_formUp_22
  rcases hp with rfl | rfl | rfl
  · rw [if_pos (by decide), if_pos rfl]; rfl
  · rw [if_pos (by decide), if_neg (by decide), if_pos rfl]; rfl
  · rw [if_pos (by decide), if_neg (by decide), if_neg (by decide)]; rfl
theorem L_c18 {K m : Nat} {rec8 : Int → Int → Int → Int → Int → zF → zB → zO} {w n d here left asks p fo l5 l3 b k : Int} {F : zF} {B : zB} (hK : 812851200 < K) (hS : CHS w n d here left asks F) (hp : p = 0 ∨ p = 1 ∨ p = 2) (hf : 0 ≤ fo ∧ fo < 8) (hk : k = 3 * fo + 2 - p) (hB : BST b l3 l5 F) : ∃ F' l5' l3', f_M_choose_18 rec8 K (m + 1) p fo l5 l3 w asks F B = f_M_choose_18 rec8 K m (p + 1) fo l5' l3' w asks F' B ∧ chF F F' ∧ BST (if chP n d here left asks k ∧ fvB b < fv k then k else b) l3' l5' F' := by
  have k0 : 0 ≤ k ∧ k < 24 := by omega
  have km : k % 3 = 2 - p := by omega
  have kd : k / 3 = fo := by omega
  obtain ⟨w0, m4, m5, hn, hd, hl, hl0, ha⟩ := hS
  have hS' : CHS w n d here left asks F := ⟨w0, m4, m5, hn, hd, hl, hl0, ha⟩
  obtain ⟨bF, b0, b1, b2, b3⟩ := BST_F hB
  have fb := fv_b k0.1 k0.2
  have kF := fk_F k0.1 k0.2
  have xa : ∀ b : Int, X5 * b = 1587600 * b := fun _ => rfl
  have x1 := xa left
  have x2 := xa (fv k)
  have x3 := xa (fvB b)
  have fu : fuK (2 - p) = fuK k := by unfold fuK; rw [km]; rcases hp with rfl | rfl | rfl <;> decide
  have fd : zlshl 1 fo * zlshl 1 p = fdK k := by unfold fdK; rw [kd, km, show 2 - (2 - p) = p by omega]
  have cmp : ∀ x y : Int, r32 (if x < y then (-1 : Int) else if x = y then 0 else 1) ∧ (0 < (if x < y then (-1 : Int) else if x = y then 0 else 1) ↔ y < x) := fun x y => by
    by_cases z : x < y
    · rw [if_pos z]; exact ⟨by decide, (by first | decide | omega)⟩
    · rw [if_neg z]
      by_cases z' : x = y
      · rw [if_pos z']; exact ⟨by decide, (by first | decide | omega)⟩
      · rw [if_neg z']; exact ⟨by decide, (by first | decide | omega)⟩
  have take : ∀ G : zF, chF F G → ∃ F' l5' l3', f_M_choose_93 rec8 (f_M_choose_18 rec8 K m) K (fdK k) (fuK k) p fo w asks G B = f_M_choose_18 rec8 K m (p + 1) fo l5' l3' w asks F' B ∧ chF F F' ∧ BST k l3' l5' F' := fun G hG => by
    refine ⟨zup3 (zup3 G 14 0 56 fo) 14 0 57 p, fdK k, fuK k, rfl, fun c y t h => by rw [zup3_v, if_neg (by first | decide | omega), zup3_v, if_neg (by first | decide | omega)]; exact hG c y t h, Or.inr ⟨k0, rfl, rfl, ?_, ?_⟩⟩
    · rw [zup3_v, if_neg (by first | decide | omega), zup3_v, if_pos (by first | decide | omega), kd]
    · rw [zup3_v, if_pos (by first | decide | omega), km]; omega
  have skip : ∀ G : zF, chF F G → G 14 0 56 = F 14 0 56 → G 14 0 57 = F 14 0 57 → ∃ F' l5' l3', f_M_choose_112 rec8 (f_M_choose_18 rec8 K m) K p fo l5 l3 w asks G B = f_M_choose_18 rec8 K m (p + 1) fo l5' l3' w asks F' B ∧ chF F F' ∧ BST b l3' l5' F' := fun G hG h6 h7 => by
    refine ⟨G, l5, l3, rfl, hG, ?_⟩
    rcases hB with h | ⟨h1, h2, h3, h4, h5⟩
    · exact Or.inl h
    · exact Or.inr ⟨h1, h2, h3, by rw [h6]; exact h4, by rw [h7]; exact h5⟩
  rw [f_M_choose_18, if_pos (by unfold r32; omega), if_neg (by first | decide | omega), L_fu hp, zb_s, f_M_formDown, zb_s, fu, fd, L_cmpR hK kF hl (by first | decide | omega) (by first | decide | omega), zb_s, if_pos (cmp _ _).1]
  by_cases c1 : fv k ≤ left
  case neg =>
    rw [if_pos ((cmp _ _).2.mpr (by first | decide | omega)), if_neg (fun h => c1 h.1.1)]
    exact skip F (fun _ _ _ _ => rfl) rfl rfl
  rw [if_neg (fun h => by have := (cmp _ _).2.mp h; omega), L_cmpR hK kF bF (by first | decide | omega) (by first | decide | omega), zb_s, if_pos (cmp _ _).1]
  by_cases c2 : fvB b < fv k
  case neg =>
    rw [if_neg (fun h => by have := (cmp _ _).2.mp h; omega), if_neg (fun h => c2 h.2)]
    exact skip F (fun _ _ _ _ => rfl) rfl rfl
  rw [if_pos ((cmp _ _).2.mpr (by first | decide | omega))]
  rcases ha with rfl | ⟨rfl, ha, h0⟩
  · rw [if_pos (by decide), if_pos rfl, if_pos ⟨⟨c1, Or.inl rfl⟩, c2⟩]
    exact take F (fun _ _ _ _ => rfl)
  · rw [if_pos (by decide), if_neg (by decide), L_stands hK w0 m4 m5 hn hd ha kF h0.1 (by first | decide | omega) (by first | decide | omega) (by first | decide | omega), zb_s]
    have gf : chF F (fr F (X5 * (here + fv k))) := fun c y t h => fr_n (by first | decide | omega)
    by_cases s : stnd n d here k
    · have s' : bt n d here (here + fv k) ≤ mx (st n d here) (st n d (here + fv k)) := s
      rw [if_pos s', if_pos (by decide), if_neg (by decide), if_pos ⟨⟨c1, Or.inr s⟩, c2⟩]
      exact take _ gf
    · have s' : ¬ bt n d here (here + fv k) ≤ mx (st n d here) (st n d (here + fv k)) := s
      rw [if_neg s', if_pos (by decide), if_pos rfl, if_neg (fun h => by rcases h.1.2 with y | y; exact absurd y (by decide); exact s y)]
      exact skip _ gf (fr_n (by first | decide | omega)) (fr_n (by first | decide | omega))
theorem L_ch8 {K : Nat} {w n d here left asks : Int} {B : zB} (hK : 812851200 < K) : ∀ (r m fo : Nat) {l5 l3 : Int} {F : zF}, fo + r = 8 → r < m → CHS w n d here left asks F → BST (fsN (fun k => decide (chP n d here left asks k)) (3 * fo) 0) l3 l5 F → ∃ F', f_M_choose_8 K m fo l5 l3 w asks F B = some (if fsN (fun k => decide (chP n d here left asks k)) 24 0 < 0 then 0 else 1, F', B) ∧ chF F F' ∧ (0 ≤ fsN (fun k => decide (chP n d here left asks k)) 24 0 → F' 14 0 56 = fsN (fun k => decide (chP n d here left asks k)) 24 0 / 3 ∧ F' 14 0 57 = 2 - fsN (fun k => decide (chP n d here left asks k)) 24 0 % 3) := by
  intro r
  induction r with
  | zero =>
    intro m fo l5 l3 F hr hm hS hB
    obtain ⟨m, rfl⟩ : ∃ j, m = j + 1 := ⟨m - 1, (by first | decide | omega)⟩
    obtain rfl : fo = 8 := by omega
    obtain ⟨_, _, _, b2, b3⟩ := BST_F hB
    refine ⟨F, ?_, fun _ _ _ _ => rfl, fun h => ?_⟩
    · rw [f_M_choose_8, if_pos (by decide), if_pos (by decide), if_pos b3]
      unfold f_M_choose_135
      by_cases c : l3 ≤ 0
      · rw [if_pos (zcmp_m.mpr c), if_pos (by decide), if_pos (b2.mp c)]
      · rw [if_neg (fun h => c (zcmp_m.mp h)), if_pos (by decide), if_neg (fun h => c (b2.mpr h))]
    · rcases hB with ⟨h1, _⟩ | ⟨_, _, _, h4, h5⟩
      · exact absurd (show (0 : Int) ≤ -1 by rw [← h1]; exact h) (by decide)
      · exact ⟨h4, h5⟩
  | succ r ih =>
    intro m fo l5 l3 F hr hm hS hB
    obtain ⟨m, rfl⟩ : ∃ j, m = j + 1 := ⟨m - 1, (by first | decide | omega)⟩
    obtain ⟨j, hj⟩ : ∃ j, K = j + 1 + 1 + 1 + 1 := ⟨K - 4, (by first | decide | omega)⟩
    obtain ⟨G1, a5, a3, e1, f1, B1⟩ := L_c18 (m := j + 1 + 1 + 1) (rec8 := f_M_choose_8 K m) (p := 0) (fo := fo) (k := 3 * fo + 2) (B := B) hK hS (Or.inl rfl) (by first | decide | omega) (by first | decide | omega) hB
    obtain ⟨G2, c5, c3, e2, f2, B2⟩ := L_c18 (m := j + 1 + 1) (rec8 := f_M_choose_8 K m) (p := 1) (fo := fo) (k := 3 * fo + 1) (B := B) hK (CHS_f hS f1) (Or.inr (Or.inl rfl)) (by first | decide | omega) (by first | decide | omega) B1
    obtain ⟨G3, d5, d3, e3, f3, B3⟩ := L_c18 (m := j + 1) (rec8 := f_M_choose_8 K m) (p := 2) (fo := fo) (k := 3 * fo) (B := B) hK (CHS_f hS (chF_t f1 f2)) (Or.inr (Or.inr rfl)) (by first | decide | omega) (by first | decide | omega) B2
    have F3 := chF_t f1 (chF_t f2 f3)
    have fin : fsN (fun k => decide (chP n d here left asks k)) (3 * (fo + 1)) 0 = (if chP n d here left asks (3 * fo) ∧ fvB (if chP n d here left asks (3 * fo + 1) ∧ fvB (if chP n d here left asks (3 * fo + 2) ∧ fvB (fsN (fun k => decide (chP n d here left asks k)) (3 * fo) 0) < fv (3 * fo + 2) then 3 * fo + 2 else fsN (fun k => decide (chP n d here left asks k)) (3 * fo) 0) < fv (3 * fo + 1) then 3 * fo + 1 else (if chP n d here left asks (3 * fo + 2) ∧ fvB (fsN (fun k => decide (chP n d here left asks k)) (3 * fo) 0) < fv (3 * fo + 2) then 3 * fo + 2 else fsN (fun k => decide (chP n d here left asks k)) (3 * fo) 0)) < fv (3 * fo) then 3 * (fo : Int) else (if chP n d here left asks (3 * fo + 1) ∧ fvB (if chP n d here left asks (3 * fo + 2) ∧ fvB (fsN (fun k => decide (chP n d here left asks k)) (3 * fo) 0) < fv (3 * fo + 2) then 3 * fo + 2 else fsN (fun k => decide (chP n d here left asks k)) (3 * fo) 0) < fv (3 * fo + 1) then 3 * fo + 1 else (if chP n d here left asks (3 * fo + 2) ∧ fvB (fsN (fun k => decide (chP n d here left asks k)) (3 * fo) 0) < fv (3 * fo + 2) then 3 * fo + 2 else fsN (fun k => decide (chP n d here left asks k)) (3 * fo) 0))) := by
      have l1 := fv_l (j := 3 * fo) (k := 3 * fo + 1) (by first | decide | omega) (by first | decide | omega) (by first | decide | omega)
      have l2 := fv_l (j := 3 * fo + 1) (k := 3 * fo + 2) (by first | decide | omega) (by first | decide | omega) (by first | decide | omega)
      have l0 := fv_b (k := 3 * fo + 2) (by first | decide | omega) (by first | decide | omega)
      rw [show 3 * (fo + 1) = 3 * fo + 3 by omega, fsN_a (3 * fo) (Int.le_refl _)]
      rcases fsN_r (P := fun k => decide (chP n d here left asks k)) (3 * fo) (k := 0) (Int.le_refl _) with z | ⟨z1, z2, _⟩
      · rw [z, if_pos (by decide), show (0 : Int) + ((3 * fo : Nat) : Int) = 3 * fo by omega]
        have fm1 : fvB (-1) = 0 := rfl
        have p2 : fvB (3 * (fo : Int) + 2) = fv (3 * fo + 2) := if_neg (by first | decide | omega)
        have p1 : fvB (3 * (fo : Int) + 1) = fv (3 * fo + 1) := if_neg (by first | decide | omega)
        unfold fsN fsN fsN fsN
        rw [show (3 : Int) * fo + 1 + 1 = 3 * fo + 2 by omega]
        by_cases q2 : chP n d here left asks (3 * fo + 2)
        · rw [if_pos (show chP n d here left asks (3 * fo + 2) ∧ fvB (-1) < fv (3 * fo + 2) from ⟨q2, (by first | decide | omega)⟩)]
          by_cases q1 : chP n d here left asks (3 * fo + 1)
          · rw [if_pos (show chP n d here left asks (3 * fo + 1) ∧ fvB (3 * fo + 2) < fv (3 * fo + 1) from ⟨q1, (by first | decide | omega)⟩)]
            by_cases q0 : chP n d here left asks (3 * fo)
            · rw [if_pos (show chP n d here left asks (3 * fo) ∧ fvB (3 * fo + 1) < fv (3 * fo) from ⟨q0, (by first | decide | omega)⟩), if_pos (decide_eq_true q0)]
            · rw [if_neg (show ¬ (chP n d here left asks (3 * fo) ∧ fvB (3 * fo + 1) < fv (3 * fo)) from fun h => q0 h.1), if_neg (show ¬ decide (chP n d here left asks (3 * fo)) = true from fun h => q0 (of_decide_eq_true h)), if_pos (decide_eq_true q1)]
          · rw [if_neg (show ¬ (chP n d here left asks (3 * fo + 1) ∧ fvB (3 * fo + 2) < fv (3 * fo + 1)) from fun h => q1 h.1)]
            by_cases q0 : chP n d here left asks (3 * fo)
            · rw [if_pos (show chP n d here left asks (3 * fo) ∧ fvB (3 * fo + 2) < fv (3 * fo) from ⟨q0, (by first | decide | omega)⟩), if_pos (decide_eq_true q0)]
            · rw [if_neg (show ¬ (chP n d here left asks (3 * fo) ∧ fvB (3 * fo + 2) < fv (3 * fo)) from fun h => q0 h.1), if_neg (show ¬ decide (chP n d here left asks (3 * fo)) = true from fun h => q0 (of_decide_eq_true h)), if_neg (show ¬ decide (chP n d here left asks (3 * fo + 1)) = true from fun h => q1 (of_decide_eq_true h)), if_pos (decide_eq_true q2)]
        · rw [if_neg (show ¬ (chP n d here left asks (3 * fo + 2) ∧ fvB (-1) < fv (3 * fo + 2)) from fun h => q2 h.1)]
          by_cases q1 : chP n d here left asks (3 * fo + 1)
          · rw [if_pos (show chP n d here left asks (3 * fo + 1) ∧ fvB (-1) < fv (3 * fo + 1) from ⟨q1, (by first | decide | omega)⟩)]
            by_cases q0 : chP n d here left asks (3 * fo)
            · rw [if_pos (show chP n d here left asks (3 * fo) ∧ fvB (3 * fo + 1) < fv (3 * fo) from ⟨q0, (by first | decide | omega)⟩), if_pos (decide_eq_true q0)]
            · rw [if_neg (show ¬ (chP n d here left asks (3 * fo) ∧ fvB (3 * fo + 1) < fv (3 * fo)) from fun h => q0 h.1), if_neg (show ¬ decide (chP n d here left asks (3 * fo)) = true from fun h => q0 (of_decide_eq_true h)), if_pos (decide_eq_true q1)]
          · rw [if_neg (show ¬ (chP n d here left asks (3 * fo + 1) ∧ fvB (-1) < fv (3 * fo + 1)) from fun h => q1 h.1)]
            by_cases q0 : chP n d here left asks (3 * fo)
            · rw [if_pos (show chP n d here left asks (3 * fo) ∧ fvB (-1) < fv (3 * fo) from ⟨q0, (by first | decide | omega)⟩), if_pos (decide_eq_true q0)]
            · rw [if_neg (show ¬ (chP n d here left asks (3 * fo) ∧ fvB (-1) < fv (3 * fo)) from fun h => q0 h.1), if_neg (show ¬ decide (chP n d here left asks (3 * fo)) = true from fun h => q0 (of_decide_eq_true h)), if_neg (show ¬ decide (chP n d here left asks (3 * fo + 1)) = true from fun h => q1 (of_decide_eq_true h)), if_neg (show ¬ decide (chP n d here left asks (3 * fo + 2)) = true from fun h => q2 (of_decide_eq_true h))]
      · generalize fsN (fun k => decide (chP n d here left asks k)) (3 * fo) 0 = b at *
        have g0 := fv_l (j := b) (k := 3 * fo) z1 (by first | decide | omega) (by first | decide | omega)
        have gb : fvB b = fv b := if_neg (by first | decide | omega)
        rw [if_neg (show ¬ b < 0 by omega), if_neg (show ¬ (chP n d here left asks (3 * fo + 2) ∧ fvB b < fv (3 * fo + 2)) from fun h => (by first | decide | omega)), if_neg (show ¬ (chP n d here left asks (3 * fo + 1) ∧ fvB b < fv (3 * fo + 1)) from fun h => (by first | decide | omega)), if_neg (show ¬ (chP n d here left asks (3 * fo) ∧ fvB b < fv (3 * fo)) from fun h => (by first | decide | omega))]
    rw [← fin] at B3
    obtain ⟨F', e4, f4, h4⟩ := ih m (fo + 1) (by first | decide | omega) (by first | decide | omega) (CHS_f hS F3) B3
    refine ⟨F', ?_, chF_t F3 f4, h4⟩
    rw [f_M_choose_8, if_pos (by unfold r32; omega), if_neg (by first | decide | omega), show f_M_choose_18 (f_M_choose_8 K m) K K = f_M_choose_18 (f_M_choose_8 K m) K (j + 1 + 1 + 1 + 1) by rw [← hj], e1, show (0 : Int) + 1 = 1 by decide, e2, show (1 : Int) + 1 = 2 by decide, e3, f_M_choose_18, if_pos (by decide), if_pos (by decide), ← e4]
    rfl
theorem L_choose {K : Nat} {w n d here left asks : Int} {F : zF} {B : zB} (hK : 812851200 < K) (hS : CHS w n d here left asks F) : ∃ F', f_M_choose K w asks F B = some (if fsN (fun k => decide (chP n d here left asks k)) 24 0 < 0 then 0 else 1, F', B) ∧ chF F F' ∧ (0 ≤ fsN (fun k => decide (chP n d here left asks k)) 24 0 → F' 14 0 56 = fsN (fun k => decide (chP n d here left asks k)) 24 0 / 3 ∧ F' 14 0 57 = 2 - fsN (fun k => decide (chP n d here left asks k)) 24 0 % 3) :=
  L_ch8 hK 8 K 0 (by decide) (by first | decide | omega) hS (Or.inl ⟨rfl, rfl, rfl⟩)
end
end
section
section
/-! ===== a note written, both sides ===== -/
theorem L_timesR {K : Nat} {F : zF} {B : zB} {a b c d p r : Int} (hK : 70000000000 < K) (h : FR a b p) (hp : p ≤ 2000000000000) (c0 : 0 < c) (c1 : c ≤ 81) (d0 : 0 < d) (d1 : d ≤ 81) (r0 : 0 ≤ r) (e : p * c = r * d) : f_M_times K a b c d F B = some (0, fr F r, B) := by
  have hb := FR_b h
  have WWe : WW = 812851200 := rfl
  obtain ⟨b0, _, a0, ab⟩ := h
  have g1 := gc_pos (a := a) d0
  have g2 := gc_pos (a := c) b0
  have l1 := gc_le (a := a) d0
  have l2 := gc_le (a := c) b0
  obtain ⟨a', ha⟩ := gc_dl (a := a) (b := d) a0
  obtain ⟨d', hd⟩ := gc_dr (a := a) (b := d) (Int.le_of_lt d0)
  obtain ⟨c', hc⟩ := gc_dl (a := c) (b := b) (Int.le_of_lt c0)
  obtain ⟨b', hb'⟩ := gc_dr (a := c) (b := b) (Int.le_of_lt b0)
  unfold f_M_times
  rw [L_gcd a0 (by first | decide | omega) (Int.le_of_lt d0) (by first | decide | omega) (by first | decide | omega), zb_s, L_gcd (Int.le_of_lt c0) (by first | decide | omega) (Int.le_of_lt b0) (by first | decide | omega) (by first | decide | omega), zb_s, if_pos (lI_n0 g1 (by unfold r64; omega)), if_pos (lI_n0 g2 (by unfold r64; omega)), zldv_e a0 (by first | decide | omega) g1 (by first | decide | omega), zldv_e (Int.le_of_lt c0) (by first | decide | omega) g2 (by first | decide | omega), zldv_e (Int.le_of_lt b0) (by first | decide | omega) g2 (by first | decide | omega), zldv_e (Int.le_of_lt d0) (by first | decide | omega) g1 (by first | decide | omega)]
  generalize gc a d = x at *
  generalize gc c b = y at *
  have qa : a / x = a' := by rw [ha, Int.mul_ediv_cancel_left _ (Int.ne_of_gt g1)]
  have qd : d / x = d' := by rw [hd, Int.mul_ediv_cancel_left _ (Int.ne_of_gt g1)]
  have qc : c / y = c' := by rw [hc, Int.mul_ediv_cancel_left _ (Int.ne_of_gt g2)]
  have qb : b / y = b' := by rw [hb', Int.mul_ediv_cancel_left _ (Int.ne_of_gt g2)]
  have pos : ∀ {s t u : Int}, 0 < s → 0 < u → u = s * t → 0 < t ∧ t ≤ u := fun {s t u} hs hu e => by
    have t0 : 0 < t := by
      rcases Int.lt_or_le 0 t with z | z
      · exact z
      · have := Int.mul_nonpos_of_nonneg_of_nonpos (Int.le_of_lt hs) z
        omega
    have := Int.mul_le_mul_of_nonneg_right (show (1 : Int) ≤ s by omega) (Int.le_of_lt t0)
    exact ⟨t0, (by first | decide | omega)⟩
  obtain ⟨d0', d1'⟩ := pos g1 d0 hd
  obtain ⟨c0', c1'⟩ := pos g2 c0 hc
  obtain ⟨b0', b1'⟩ := pos g2 b0 hb'
  have a0' : 0 ≤ a' ∧ a' ≤ a := by
    have t0 : 0 ≤ a' := by
      rcases Int.lt_or_le a' 0 with z | z
      · have := Int.mul_neg_of_pos_of_neg g1 z
        omega
      · exact z
    have := Int.mul_le_mul_of_nonneg_right (show (1 : Int) ≤ x by omega) t0
    exact ⟨t0, (by first | decide | omega)⟩
  rw [qa, qd, qc, qb]
  have u0 : 0 ≤ a' * c' := Int.mul_nonneg a0'.1 (by first | decide | omega)
  have u1 : a' * c' ≤ 2000000000000 * 81 := Int.mul_le_mul (by first | decide | omega) (by first | decide | omega) (by first | decide | omega) (by decide)
  have v0 : 0 < b' * d' := Int.mul_pos b0' d0'
  have v1 : b' * d' ≤ 812851200 * 81 := Int.mul_le_mul (by first | decide | omega) (by first | decide | omega) (by first | decide | omega) (by decide)
  have eq : a' * c' * WW = r * (b' * d') := by
    have : x * y * (a' * c' * WW) = x * y * (r * (b' * d')) := by
      calc x * y * (a' * c' * WW) = (x * a') * WW * (y * c') := by ac_rfl
        _ = a * WW * c := by rw [← ha, ← hc]
        _ = p * b * c := by rw [ab]
        _ = p * c * b := by ac_rfl
        _ = r * d * b := by rw [e]
        _ = r * (x * d') * (y * b') := by rw [← hd, ← hb']
        _ = x * y * (r * (b' * d')) := by ac_rfl
    exact Int.eq_of_mul_eq_mul_left (Int.ne_of_gt (Int.mul_pos g1 g2)) this
  rw [L_is u0 (by first | decide | omega) v0 (by first | decide | omega) (by first | decide | omega), zb_s]
  obtain ⟨r1, r2⟩ := red_u (W := WW) (by decide) r0 u0 v0 eq
  rw [r1, r2]
  rfl
/-- note i as both sides have written it -/
def NE (q v w : Int) (m : Nat) (Z : Int → Int → Prop) (B Bm : zB) (i : Int) : Prop := (B 4 q 360 i = Bm 13 w 30 (800 * v + i) ∧ -1 ≤ B 4 q 360 i ∧ B 4 q 360 i < m) ∧ (B 4 q 361 i = Bm 13 w 31 (800 * v + i) ∧ 0 ≤ B 4 q 361 i ∧ B 4 q 361 i ≤ 100) ∧ (0 ≤ B 4 q 9 i ∧ B 4 q 9 i ≤ 1000000000000 ∧ Bm 13 w 32 (800 * v + i) = nu (B 4 q 9 i) ∧ Bm 13 w 33 (800 * v + i) = de (B 4 q 9 i)) ∧ (B 4 q 364 i = Bm 13 w 34 (800 * v + i) ∧ 0 ≤ B 4 q 364 i ∧ B 4 q 364 i ≤ 9) ∧ (B 4 q 365 i = Bm 13 w 35 (800 * v + i) ∧ 0 ≤ B 4 q 365 i ∧ B 4 q 365 i ≤ 2) ∧ Z (B 4 q 361 i) (B 4 q 9 i)
def NW (q v w : Int) (m : Nat) (Z : Int → Int → Prop) (c : Int) (F : zF) (B Bm : zB) : Prop := (0 ≤ c ∧ c ≤ 800) ∧ F 4 q 10 = c ∧ F 4 q 11 = 0 ∧ Bm 13 w 13 v = c ∧ ∀ i, 0 ≤ i → i < c → NE q v w m Z B Bm i
def NX (q v w : Int) (F : zF) (Bm : zB) : Prop := F 4 q 10 = 800 ∧ F 4 q 11 = 1 ∧ Bm 13 w 13 v = 801
/-- what writing notes may change -/
def nF (q : Int) (F F' : zF) : Prop := ∀ c y k, ¬ (c = 4 ∧ y = q ∧ (k = 10 ∨ k = 11)) → F' c y k = F c y k
def nB (q : Int) (B B' : zB) : Prop := ∀ c y k x, ¬ (c = 4 ∧ y = q ∧ (k = 9 ∨ 360 ≤ k)) → B' c y k x = B c y k x
def nG (F F' : zF) : Prop := ∀ c y k, ¬ (c = 14 ∧ y = 0 ∧ (k ≤ 1 ∨ 52 ≤ k ∧ k ≤ 57)) → F' c y k = F c y k
def nM' (v w : Int) (B B' : zB) : Prop := ∀ c y k x, ¬ (c = 13 ∧ y = w ∧ k = 13 ∧ x = v) → ¬ (c = 13 ∧ y = w ∧ 30 ≤ k ∧ k ≤ 35 ∧ 800 * v ≤ x ∧ x < 800 * v + 800) → B' c y k x = B c y k x
/-- the event of the note before, and the order of the notes' events -/
def lE (q : Int) (B : zB) (c : Int) : Int := if c = 0 then -1 else B 4 q 360 (c - 1)
def LX (a b c d : Int) : Prop := a < c ∨ a = c ∧ b < d
def EO (q : Int) (B : zB) (c : Int) : Prop := ∀ i, 0 ≤ i → i < c → (B 4 q 360 i = lE q B i ∨ B 4 q 360 i = lE q B i + 1 ∨ B 4 q 360 i = -1) ∧ (0 < i → LX (B 4 q 361 (i - 1)) (B 4 q 9 (i - 1)) (B 4 q 361 i) (B 4 q 9 i))
def LPe (q ev : Int) (Q : Prop) (nb y : Int) (B : zB) (c : Int) : Prop := EO q B c ∧ (ev = lE q B c ∨ ev = lE q B c + 1 ∨ ev = -1) ∧ (Q → lE q B c = ev) ∧ (0 < c → LX (B 4 q 361 (c - 1)) (B 4 q 9 (c - 1)) nb y)
theorem LPe_add {q ev c nb y y' : Int} {Q Q' : Prop} {B B' : zB} (h : LPe q ev Q nb y B c) (c0 : 0 ≤ c) (e : B' 4 q 360 c = ev) (f : ∀ i, i < c → B' 4 q 360 i = B 4 q 360 i) (e1 : B' 4 q 361 c = nb ∧ B' 4 q 9 c = y) (g : ∀ i, i < c → B' 4 q 361 i = B 4 q 361 i ∧ B' 4 q 9 i = B 4 q 9 i) (hy : y < y') : LPe q ev Q' nb y' B' (c + 1) := by
  obtain ⟨h1, h2, _, h4⟩ := h
  have l1 : lE q B' (c + 1) = ev := by
    unfold lE
    rw [if_neg (by first | decide | omega), show c + 1 - 1 = c by omega]
    exact e
  have l2 : ∀ i, 0 ≤ i → i ≤ c → lE q B' i = lE q B i := fun i i0 i1 => by
    unfold lE
    by_cases z : i = 0
    · rw [if_pos z, if_pos z]
    · rw [if_neg z, if_neg z]; exact f _ (by first | decide | omega)
  refine ⟨fun i i0 i1 => ?_, Or.inl l1.symm, fun _ => l1, fun _ => ?_⟩
  · by_cases z : i = c
    · refine ⟨by rw [z, e, l2 c c0 (Int.le_refl _)]; exact h2, fun ip => ?_⟩
      rw [z, e1.1, e1.2, (g (c - 1) (by first | decide | omega)).1, (g (c - 1) (by first | decide | omega)).2]
      exact h4 (by first | decide | omega)
    · obtain ⟨a, b⟩ := h1 i i0 (by first | decide | omega)
      refine ⟨by rw [f i (by first | decide | omega), l2 i i0 (by first | decide | omega)]; exact a, fun ip => ?_⟩
      rw [(g (i - 1) (by first | decide | omega)).1, (g (i - 1) (by first | decide | omega)).2, (g i (by first | decide | omega)).1, (g i (by first | decide | omega)).2]
      exact b ip
  · rw [show c + 1 - 1 = c by omega, e1.1, e1.2]
    exact Or.inr ⟨rfl, hy⟩
theorem LPe_m {q ev c nb y nb' y' : Int} {Q Q' : Prop} {B : zB} (h : LPe q ev Q nb y B c) (g : Q' → Q) (x : nb < nb' ∨ nb = nb' ∧ y ≤ y') : LPe q ev Q' nb' y' B c := ⟨h.1, h.2.1, fun a => h.2.2.1 (g a), fun a => by
  have t := h.2.2.2 a
  unfold LX at t ⊢
  omega⟩
/-- the place behind a piece -/
theorem LX_n {b a e : Int} (b0 : 0 < b) (h : a % b + (e - a) ≤ b) (h' : a ≤ e) : a / b < e / b ∨ a / b = e / b ∧ a % b + (e - a) = e % b := by
  have e1 := Int.ediv_mul_add_emod a b
  have e2 := Int.emod_nonneg a (show b ≠ 0 by omega)
  by_cases z : a % b + (e - a) = b
  · have t : e = (a / b + 1) * b := by rw [Int.add_mul, Int.one_mul]; omega
    have q : e / b = a / b + 1 := by rw [t]; exact Int.mul_ediv_cancel _ (by first | decide | omega)
    exact Or.inl (by first | decide | omega)
  · have t : e = (a % b + (e - a)) + (a / b) * b := by omega
    have q : e / b = a / b := by
      rw [t, Int.add_mul_ediv_right _ _ (by first | decide | omega), Int.ediv_eq_zero_of_lt (by first | decide | omega) (by first | decide | omega), Int.zero_add]
    have q2 := Int.ediv_mul_add_emod e b
    rw [q] at q2
    exact Or.inr ⟨q.symm, (by first | decide | omega)⟩
theorem P_add {K : zK} {Km m : Nat} {Z : Int → Int → Prop} {q v w ev bar pl val fo po : Int} {F : zF} {B : zB} {Fm : zF} {Bm : zB} (h4 : 0 ≤ q ∧ q < K.2 4) (v0 : 0 ≤ v ∧ v < 4) (w0 : 0 ≤ w ∧ w < 3) (he : -1 ≤ ev ∧ ev < m) (hb : 0 ≤ bar ∧ bar ≤ 100) (hp : 0 ≤ pl ∧ pl ≤ 1000000000000) (hv : 0 ≤ val ∧ val ≤ 29) (hfo : fo = val / 3) (hpo : po = 2 - val % 3) (h54 : Fm 14 0 54 = nu pl) (h55 : Fm 14 0 55 = de pl) (hZ : Z bar pl) {c : Int} (hN : NW q v w m Z c F B Bm) : ∃ F' B' Bm', f_Part_addNote K q ev bar pl val F B = some (0, F', B') ∧ f_M_note_1 Km w v ev bar fo po Fm Bm = some (0, Fm, Bm') ∧ nF q F F' ∧ nB q B B' ∧ nM' v w Bm Bm' ∧ ((c < 800 ∧ NW q v w m Z (c + 1) F' B' Bm' ∧ B' 4 q 360 c = ev ∧ (∀ i, i < c → B' 4 q 360 i = B 4 q 360 i) ∧ (B' 4 q 361 c = bar ∧ B' 4 q 9 c = pl) ∧ ∀ i, i < c → B' 4 q 361 i = B 4 q 361 i ∧ B' 4 q 9 i = B 4 q 9 i) ∨ NX q v w F' Bm') := by
  obtain ⟨c0, n10, n11, n13, hne⟩ := hN
  have zd : zdv val 3 = fo := by rw [zdv_e hv.1 (by unfold r32; omega) (by decide) (by decide)]; exact hfo.symm
  have zm : 2 - zrm val 3 = po := by rw [zrm_e hv.1 (by unfold r32; omega) (by decide) (by decide)]; exact hpo.symm
  have e13 : (zup4 Bm 13 w 13 v (c + 1)) 13 w 13 v = c + 1 := by rw [zup4_v, if_pos (by first | decide | omega)]
  unfold f_Part_addNote f_M_note_1
  rw [if_pos h4, n10, if_pos (show r32 c by unfold r32; omega), if_pos w0, if_pos v0, n13, e13, if_pos (show r32 (c + 1) by unfold r32; omega), zd, zm]
  by_cases z : c < 800
  · rw [if_pos z, if_pos (show 0 ≤ c ∧ c < 800 by omega), if_pos (show c + 1 ≤ 800 by omega), if_pos (show 0 ≤ 800 * v + c ∧ 800 * v + c < 3200 by omega), h54, h55]
    generalize hB' : zup4 (zup4 (zup4 (zup4 (zup4 B 4 q 360 c ev) 4 q 361 c bar) 4 q 9 c pl) 4 q 364 c fo) 4 q 365 c po = B'
    generalize hM' : zup4 (zup4 (zup4 (zup4 (zup4 (zup4 (zup4 Bm 13 w 13 v (c + 1)) 13 w 30 (800 * v + c) ev) 13 w 31 (800 * v + c) bar) 13 w 32 (800 * v + c) (nu pl)) 13 w 33 (800 * v + c) (de pl)) 13 w 34 (800 * v + c) fo) 13 w 35 (800 * v + c) po = M'
    have bn : ∀ d y k x, ¬ (d = 4 ∧ y = q ∧ (k = 9 ∨ k = 360 ∨ k = 361 ∨ k = 364 ∨ k = 365) ∧ x = c) → B' d y k x = B d y k x := fun d y k x h => by rw [← hB', zup4_v, if_neg (by first | decide | omega), zup4_v, if_neg (by first | decide | omega), zup4_v, if_neg (by first | decide | omega), zup4_v, if_neg (by first | decide | omega), zup4_v, if_neg (by first | decide | omega)]
    have mn : ∀ d y k x, ¬ (d = 13 ∧ y = w ∧ k = 13 ∧ x = v) → ¬ (d = 13 ∧ y = w ∧ (30 ≤ k ∧ k ≤ 35) ∧ x = 800 * v + c) → M' d y k x = Bm d y k x := fun d y k x h h' => by rw [← hM', zup4_v, if_neg (by first | decide | omega), zup4_v, if_neg (by first | decide | omega), zup4_v, if_neg (by first | decide | omega), zup4_v, if_neg (by first | decide | omega), zup4_v, if_neg (by first | decide | omega), zup4_v, if_neg (by first | decide | omega), zup4_v, if_neg (by first | decide | omega)]
    refine ⟨_, B', M', rfl, rfl, fun d y k h => by rw [zup3_v, if_neg (by first | decide | omega)], fun d y k x h => bn d y k x (by first | decide | omega), fun d y k x h h' => mn d y k x h (by first | decide | omega), Or.inl ⟨z, ⟨(by first | decide | omega), by rw [zup3_v, if_pos (by first | decide | omega)], by rw [zup3_v, if_neg (by first | decide | omega)]; exact n11, ?_, fun i i0 i1 => ?_⟩, by rw [← hB']; simp [zup4_v], fun i hi => bn 4 q 360 i (by first | decide | omega), ⟨by rw [← hB']; simp [zup4_v], by rw [← hB']; simp [zup4_v]⟩, fun i hi => ⟨bn 4 q 361 i (by first | decide | omega), bn 4 q 9 i (by first | decide | omega)⟩⟩⟩
    · rw [← hM', zup4_v, if_neg (by first | decide | omega), zup4_v, if_neg (by first | decide | omega), zup4_v, if_neg (by first | decide | omega), zup4_v, if_neg (by first | decide | omega), zup4_v, if_neg (by first | decide | omega), zup4_v, if_neg (by first | decide | omega), zup4_v, if_pos (by first | decide | omega)]
    · by_cases y : i = c
      · subst y
        have b360 : B' 4 q 360 i = ev := by rw [← hB']; simp [zup4_v]
        have b361 : B' 4 q 361 i = bar := by rw [← hB']; simp [zup4_v]
        have b9 : B' 4 q 9 i = pl := by rw [← hB']; simp [zup4_v]
        have b364 : B' 4 q 364 i = fo := by rw [← hB']; simp [zup4_v]
        have b365 : B' 4 q 365 i = po := by rw [← hB']; simp [zup4_v]
        have m30 : M' 13 w 30 (800 * v + i) = ev := by rw [← hM']; simp [zup4_v]
        have m31 : M' 13 w 31 (800 * v + i) = bar := by rw [← hM']; simp [zup4_v]
        have m32 : M' 13 w 32 (800 * v + i) = nu pl := by rw [← hM']; simp [zup4_v]
        have m33 : M' 13 w 33 (800 * v + i) = de pl := by rw [← hM']; simp [zup4_v]
        have m34 : M' 13 w 34 (800 * v + i) = fo := by rw [← hM']; simp [zup4_v]
        have m35 : M' 13 w 35 (800 * v + i) = po := by rw [← hM']; simp [zup4_v]
        unfold NE
        rw [b360, b361, b9, b364, b365, m30, m31, m32, m33, m34, m35]
        exact ⟨⟨rfl, he⟩, ⟨rfl, hb⟩, ⟨hp.1, hp.2, rfl, rfl⟩, ⟨rfl, (by first | decide | omega), (by first | decide | omega)⟩, ⟨rfl, (by first | decide | omega), (by first | decide | omega)⟩, hZ⟩
      · have := hne i i0 (by first | decide | omega)
        unfold NE at this ⊢
        rw [bn 4 q 360 i (by first | decide | omega), bn 4 q 361 i (by first | decide | omega), bn 4 q 9 i (by first | decide | omega), bn 4 q 364 i (by first | decide | omega), bn 4 q 365 i (by first | decide | omega), mn 13 w 30 _ (by first | decide | omega) (by first | decide | omega), mn 13 w 31 _ (by first | decide | omega) (by first | decide | omega), mn 13 w 32 _ (by first | decide | omega) (by first | decide | omega), mn 13 w 33 _ (by first | decide | omega) (by first | decide | omega), mn 13 w 34 _ (by first | decide | omega) (by first | decide | omega), mn 13 w 35 _ (by first | decide | omega) (by first | decide | omega)]
        exact this
  · rw [if_neg z, if_neg (show ¬ c + 1 ≤ 800 by omega)]
    refine ⟨_, B, _, rfl, rfl, fun d y k h => by rw [zup3_v, if_neg (by first | decide | omega)], fun _ _ _ _ _ => rfl, fun d y k x h h' => by rw [zup4_v, if_neg (by first | decide | omega)], Or.inr ⟨by rw [zup3_v, if_neg (by first | decide | omega)]; omega, by rw [zup3_v, if_pos (by first | decide | omega)], by rw [zup4_v, if_pos (by first | decide | omega)]; omega⟩⟩
end
end
section
section
/-! ===== outside brackets everything is a multiple of 4 parts of 512 ===== -/
theorem bw_4 {p f t T : Int} (hp : p % 4 = 0) (f4 : f % 4 = 0) (T4 : T % 4 = 0) (h1 : T - 4 < t) (h2 : t ≤ T) : bw p f (f + T) ↔ bw p f (f + t) := by
  obtain ⟨p', rfl⟩ : ∃ p', p = 4 * p' := ⟨p / 4, (by first | decide | omega)⟩
  show (f / (4 * p') + 1) * (4 * p') < f + T ↔ (f / (4 * p') + 1) * (4 * p') < f + t
  have e : (f / (4 * p') + 1) * (4 * p') = 4 * ((f / (4 * p') + 1) * p') := by ac_rfl
  rw [e]
  generalize (f / (4 * p') + 1) * p' = z
  omega
theorem u_4 {u : Int} (hu : u = 256 ∨ u = 128 ∨ u = 64 ∨ u = 32) : u % 4 = 0 ∧ u / 2 % 4 = 0 ∧ u / 4 % 4 = 0 ∧ u / 8 % 4 = 0 ∧ (u / 16 % 4 = 0 ∨ (u = 32 ∧ u / 16 = 2)) := by
  rcases hu with rfl | rfl | rfl | rfl <;> decide
theorem u_32 {u n : Int} (hu : u = 256 ∨ u = 128 ∨ u = 64 ∨ u = 32) : ∃ y, u * n = 32 * y := by
  rcases hu with rfl | rfl | rfl | rfl
  · exact ⟨8 * n, (by first | decide | omega)⟩
  · exact ⟨4 * n, (by first | decide | omega)⟩
  · exact ⟨2 * n, (by first | decide | omega)⟩
  · exact ⟨n, rfl⟩
theorem ifc {b c : Prop} [Decidable b] [Decidable c] {x u y v : Int} (h : b ↔ c) (h1 : x = u) (h2 : y = v) : (if b then x else y) = (if c then u else v) := by
  by_cases z : b
  · rw [if_pos z, if_pos (h.mp z)]; exact h1
  · rw [if_neg z, if_neg (fun t => z (h.mpr t))]; exact h2
theorem bt_4 {n d f t T : Int} (hd : d = 2 ∨ d = 4 ∨ d = 8 ∨ d = 16) (f4 : f % 4 = 0) (T4 : T % 4 = 0) (h1 : T - 4 < t) (h2 : t ≤ T) (t2 : 2 < t) : bt n d f (f + T) = bt n d f (f + t) := by
  have hu := un_d hd
  obtain ⟨y, hy⟩ := u_32 (n := n) hu
  obtain ⟨b, hb⟩ := u_32 (n := bc n d) hu
  obtain ⟨u0, u1, u2, u3, u4⟩ := u_4 hu
  unfold bt bt5
  rw [hy, hb]
  generalize 512 / d = u at *
  refine ifc (by first | decide | omega) rfl (ifc (bw_4 (by first | decide | omega) f4 T4 h1 h2) rfl (ifc (bw_4 u0 f4 T4 h1 h2) rfl (ifc (bw_4 u1 f4 T4 h1 h2) rfl (ifc (bw_4 u2 f4 T4 h1 h2) rfl (ifc (bw_4 u3 f4 T4 h1 h2) rfl (ifc ?_ rfl rfl))))))
  rcases u4 with u4 | ⟨_, u4⟩
  · exact bw_4 u4 f4 T4 h1 h2
  · rw [u4]
    show (f / 2 + 1) * 2 < f + T ↔ (f / 2 + 1) * 2 < f + t
    omega
theorem m_4 {a p : Int} (hp : p % 4 = 0) (h : ¬ a % 4 = 0) : ¬ a % p = 0 := by
  obtain ⟨p', rfl⟩ : ∃ p', p = 4 * p' := ⟨p / 4, (by first | decide | omega)⟩
  intro z
  have e := Int.mul_ediv_add_emod a (4 * p')
  rw [z, show 4 * p' * (a / (4 * p')) = 4 * (p' * (a / (4 * p'))) by ac_rfl] at e
  generalize p' * (a / (4 * p')) = y at e
  omega
theorem st_4 {n d f a : Int} (hd : d = 2 ∨ d = 4 ∨ d = 8 ∨ d = 16) (f4 : f % 4 = 0) (a4 : ¬ a % 4 = 0) : st n d a ≤ st n d f := by
  have hu := un_d hd
  have sb := st_b (n := n) (d := d) (a := f)
  obtain ⟨y, hy⟩ := u_32 (n := n) hu
  obtain ⟨b, hb⟩ := u_32 (n := bc n d) hu
  obtain ⟨u0, u1, u2, u3, u4⟩ := u_4 hu
  have e : st n d a = if a % (512 / d / 16) = 0 then 2 else 1 := by
    unfold st st5
    rw [hy, hb, if_neg (by first | decide | omega), if_neg (by first | decide | omega), if_neg (m_4 (by first | decide | omega) a4)]
    generalize 512 / d = u at *
    rw [if_neg (m_4 u0 a4), if_neg (m_4 u1 a4), if_neg (m_4 u2 a4), if_neg (m_4 u3 a4)]
  rw [e]
  rcases u4 with u4 | ⟨u5, u4⟩
  · rw [if_neg (m_4 u4 a4)]; omega
  · have : 3 ≤ st n d f := by
      unfold st st5
      rw [u5]
      rw [show (32 : Int) / 8 = 4 by decide, if_pos f4]
      split
      · decide
      · split
        · decide
        · split
          · decide
          · split
            · decide
            · split
              · decide
              · split <;> decide
    split <;> omega
theorem sd_4 {n d f t T : Int} (hd : d = 2 ∨ d = 4 ∨ d = 8 ∨ d = 16) (f4 : f % 4 = 0) (T4 : T % 4 = 0) (h1 : T - 4 < t) (h2 : t < T) (t2 : 2 < t) (h : bt n d f (f + t) ≤ mx (st n d f) (st n d (f + t))) : bt n d f (f + T) ≤ mx (st n d f) (st n d (f + T)) := by
  rw [bt_4 hd f4 T4 h1 (by first | decide | omega) t2]
  have s := st_4 (n := n) (d := d) (f := f) (a := f + t) hd f4 (by first | decide | omega)
  unfold mx at h ⊢
  have : bt n d f (f + t) ≤ st n d f := by
    by_cases c : st n d f ≤ st n d (f + t)
    · rw [if_pos c] at h; omega
    · rw [if_neg c] at h; exact h
  split <;> omega
theorem fv_4 : (∀ k : Fin 24, fv (k.val : Int) % 4 = 0 ∨ k.val = 18 ∨ k.val = 21 ∨ k.val = 22) ∧ fv 17 = 16 ∧ fv 18 = 14 ∧ fv 20 = 8 ∧ fv 21 = 7 ∧ fv 22 = 6 ∧ fv 23 = 4 := by decide +kernel
theorem fv_m {k : Int} (h0 : 0 ≤ k) (h1 : k < 24) : fv k % 4 = 0 ∨ k = 18 ∨ k = 21 ∨ k = 22 := by
  have h := fv_4.1 ⟨k.toNat, (by first | decide | omega)⟩
  rw [show (((⟨k.toNat, (by first | decide | omega)⟩ : Fin 24).val : Nat) : Int) = k by show ((k.toNat : Nat) : Int) = k; omega] at h
  rcases h with h | h | h | h
  · exact Or.inl h
  · have : k.toNat = 18 := h
    omega
  · have : k.toNat = 21 := h
    omega
  · have : k.toNat = 22 := h
    omega
theorem gv_4 {l : Int} (l0 : 0 < l) (l4 : l % 4 = 0) : fv (gvF l) ≤ l ∧ fv (gvF l) % 4 = 0 ∧ 0 ≤ fsN (fun k => decide (fv k ≤ l)) 24 0 := by
  obtain ⟨_, f17, f18, f20, f21, f22, f23⟩ := fv_4
  have nn := fsN_n (P := fun k => decide (fv k ≤ l)) 24 (k := 0) (Int.le_refl _)
  have P : ∀ j : Int, 0 ≤ j → j < 24 → fv j ≤ l → ¬ (j < fsN (fun k => decide (fv k ≤ l)) 24 0 ∨ fsN (fun k => decide (fv k ≤ l)) 24 0 < 0) := fun j a b c h => by
    have := nn j a (by first | decide | omega) h
    have : decide (fv j ≤ l) = false := this
    exact absurd c (of_decide_eq_false this)
  have p23 := P 23 (by decide) (by decide) (by first | decide | omega)
  unfold gvF
  rcases fsN_r (P := fun k => decide (fv k ≤ l)) 24 (k := 0) (Int.le_refl _) with h | ⟨h1, h2, h3⟩
  · exact absurd (Or.inr (by rw [h]; decide)) p23
  · have h3' : fv (fsN (fun k => decide (fv k ≤ l)) 24 0) ≤ l := of_decide_eq_true h3
    generalize fsN (fun k => decide (fv k ≤ l)) 24 0 = r at *
    rw [if_neg (by first | decide | omega)]
    refine ⟨h3', ?_, h1⟩
    rcases fv_m h1 (by first | decide | omega) with z | z | z | z
    · exact z
    · exfalso; rw [z] at h3' P; exact P 17 (by decide) (by decide) (by first | decide | omega) (Or.inl (by decide))
    · exfalso; rw [z] at h3' P; exact P 20 (by decide) (by decide) (by first | decide | omega) (Or.inl (by decide))
    · exfalso; rw [z] at h3' P; exact P 20 (by decide) (by decide) (by first | decide | omega) (Or.inl (by decide))
theorem nv_4 {n d f l : Int} (hd : d = 2 ∨ d = 4 ∨ d = 8 ∨ d = 16) (f4 : f % 4 = 0) (l0 : 0 < l) (l4 : l % 4 = 0) : fv (nvF n d f l) ≤ l ∧ fv (nvF n d f l) % 4 = 0 := by
  obtain ⟨_, f17, f18, f20, f21, f22, f23⟩ := fv_4
  have nn := fsN_n (P := fun k => decide (fv k ≤ l ∧ stnd n d f k)) 24 (k := 0) (Int.le_refl _)
  have P : ∀ j : Int, 0 ≤ j → j < 24 → fv j ≤ l ∧ stnd n d f j → ¬ (j < fsN (fun k => decide (fv k ≤ l ∧ stnd n d f k)) 24 0 ∨ fsN (fun k => decide (fv k ≤ l ∧ stnd n d f k)) 24 0 < 0) := fun j a b c h => by
    have := nn j a (by first | decide | omega) h
    have : decide (fv j ≤ l ∧ stnd n d f j) = false := this
    exact absurd c (of_decide_eq_false this)
  unfold nvF
  rcases fsN_r (P := fun k => decide (fv k ≤ l ∧ stnd n d f k)) 24 (k := 0) (Int.le_refl _) with h | ⟨h1, h2, h3⟩
  · rw [h, if_pos (by decide)]
    exact ⟨(gv_4 l0 l4).1, (gv_4 l0 l4).2.1⟩
  · have h3' : fv (fsN (fun k => decide (fv k ≤ l ∧ stnd n d f k)) 24 0) ≤ l ∧ stnd n d f (fsN (fun k => decide (fv k ≤ l ∧ stnd n d f k)) 24 0) := of_decide_eq_true h3
    generalize fsN (fun k => decide (fv k ≤ l ∧ stnd n d f k)) 24 0 = r at *
    rw [if_neg (by first | decide | omega)]
    obtain ⟨q1, q2⟩ := h3'
    refine ⟨q1, ?_⟩
    rcases fv_m h1 (by first | decide | omega) with z | z | z | z
    · exact z
    · exfalso
      rw [z] at q1 q2 P
      have s : bt n d f (f + fv 18) ≤ mx (st n d f) (st n d (f + fv 18)) := q2
      rw [f18] at s
      refine P 17 (by decide) (by decide) ⟨(by first | decide | omega), ?_⟩ (Or.inl (by decide))
      show bt n d f (f + fv 17) ≤ mx (st n d f) (st n d (f + fv 17))
      rw [f17]
      exact sd_4 hd f4 (by decide) (by decide) (by decide) (by decide) s
    · exfalso
      rw [z] at q1 q2 P
      have s : bt n d f (f + fv 21) ≤ mx (st n d f) (st n d (f + fv 21)) := q2
      rw [f21] at s
      refine P 20 (by decide) (by decide) ⟨(by first | decide | omega), ?_⟩ (Or.inl (by decide))
      show bt n d f (f + fv 20) ≤ mx (st n d f) (st n d (f + fv 20))
      rw [f20]
      exact sd_4 hd f4 (by decide) (by decide) (by decide) (by decide) s
    · exfalso
      rw [z] at q1 q2 P
      have s : bt n d f (f + fv 22) ≤ mx (st n d f) (st n d (f + fv 22)) := q2
      rw [f22] at s
      refine P 20 (by decide) (by decide) ⟨(by first | decide | omega), ?_⟩ (Or.inl (by decide))
      show bt n d f (f + fv 20) ≤ mx (st n d f) (st n d (f + fv 20))
      rw [f20]
      exact sd_4 hd f4 (by decide) (by decide) (by decide) (by decide) s
end
end
section
section
/-! ===== the notes of one piece of an event, both sides ===== -/
theorem nF_t {q : Int} {F F1 F2 : zF} (h : nF q F F1) (h' : nF q F1 F2) : nF q F F2 := fun c y k n => by rw [h' c y k n, h c y k n]
theorem nB_t {q : Int} {B B1 B2 : zB} (h : nB q B B1) (h' : nB q B1 B2) : nB q B B2 := fun c y k x n => by rw [h' c y k x n, h c y k x n]
theorem nG_t {F F1 F2 : zF} (h : nG F F1) (h' : nG F1 F2) : nG F F2 := fun c y k n => by rw [h' c y k n, h c y k n]
theorem nM_t {v w : Int} {B B1 B2 : zB} (h : nM' v w B B1) (h' : nM' v w B1 B2) : nM' v w B B2 := fun c y k x n n' => by rw [h' c y k x n n', h c y k x n n']
theorem nG_c {F F' : zF} (h : chF F F') : nG F F' := fun c y k n => h c y k (by first | decide | omega)
def NO (q v w : Int) (m : Nat) (Z : Int → Int → Prop) (ev : Int) (Q : Prop) (nb y : Int) (F : zF) (B : zB) (Fm : zF) (Bm : zB) (F' : zF) (B' : zB) (Fm' : zF) (Bm' : zB) : Prop := nF q F F' ∧ nB q B B' ∧ nG Fm Fm' ∧ nM' v w Bm Bm' ∧ ((∃ c, NW q v w m Z c F' B' Bm' ∧ LPe q ev Q nb y B' c) ∨ NX q v w F' Bm')
theorem NO_t {q v w ev nb y : Int} {Q : Prop} {m : Nat} {Z : Int → Int → Prop} {F F1 F2 : zF} {B B1 B2 : zB} {Fm Fm1 Fm2 : zF} {Bm Bm1 Bm2 : zB} (h1 : nF q F F1) (h2 : nB q B B1) (h3 : nG Fm Fm1) (h4 : nM' v w Bm Bm1) (h : NO q v w m Z ev Q nb y F1 B1 Fm1 Bm1 F2 B2 Fm2 Bm2) : NO q v w m Z ev Q nb y F B Fm Bm F2 B2 Fm2 Bm2 := ⟨nF_t h1 h.1, nB_t h2 h.2.1, nG_t h3 h.2.2.1, nM_t h4 h.2.2.2.1, h.2.2.2.2⟩
theorem NO_r {q v w ev nb y nb' y' : Int} {Q Q' : Prop} {m : Nat} {Z : Int → Int → Prop} {F : zF} {B : zB} {Fm : zF} {Bm : zB} (h : (∃ c, NW q v w m Z c F B Bm ∧ LPe q ev Q nb y B c) ∨ NX q v w F Bm) (g : Q' → Q) (x : nb < nb' ∨ nb = nb' ∧ y ≤ y') : NO q v w m Z ev Q' nb' y' F B Fm Bm F B Fm Bm := ⟨fun _ _ _ _ => rfl, fun _ _ _ _ _ => rfl, fun _ _ _ _ => rfl, fun _ _ _ _ _ _ => rfl, h.imp (fun ⟨c, s, t⟩ => ⟨c, s, LPe_m t g x⟩) id⟩
theorem NO_m {q v w ev nb y nb' y' : Int} {Q Q' : Prop} {m : Nat} {Z : Int → Int → Prop} {F F' : zF} {B B' : zB} {Fm Fm' : zF} {Bm Bm' : zB} (h : NO q v w m Z ev Q nb y F B Fm Bm F' B' Fm' Bm') (g : Q' → Q) (x : nb < nb' ∨ nb = nb' ∧ y ≤ y') : NO q v w m Z ev Q' nb' y' F B Fm Bm F' B' Fm' Bm' := ⟨h.1, h.2.1, h.2.2.1, h.2.2.2.1, h.2.2.2.2.imp (fun ⟨c, s, t⟩ => ⟨c, s, LPe_m t g x⟩) id⟩
theorem L_216 {K : Nat} {rec : Int → Int → Int → Int → Int → Int → Int → zF → zB → zO} {k l pl s dn up wi w v ev bar : Int} {F : zF} {B B' : zB} (hK : 70000000000 < K) (k0 : 0 ≤ k ∧ k < 24) (h56 : F 14 0 56 = k / 3) (h57 : F 14 0 57 = 2 - k % 3) (h52 : F 14 0 52 = nu (X5 * l)) (h53 : F 14 0 53 = de (X5 * l)) (h54 : F 14 0 54 = nu pl) (h55 : F 14 0 55 = de pl) (l0 : fv k ≤ l) (l1 : l ≤ 10000) (p0 : 0 ≤ pl ∧ pl ≤ 1000000000000) (u0 : 0 < up ∧ up ≤ 81) (d0 : 0 < dn ∧ dn ≤ 81) (s0 : 0 ≤ s ∧ s ≤ 1000000000000) (hs : X5 * fv k * up = s * dn) (hn : f_M_note_1 K w v ev bar (k / 3) (2 - k % 3) F B = some (0, F, B')) : ∃ G, f_M_part_216 rec K dn up wi w v ev bar F B = rec dn up wi w v ev bar G B' ∧ nG F G ∧ G 14 0 52 = nu (X5 * (l - fv k)) ∧ G 14 0 53 = de (X5 * (l - fv k)) ∧ G 14 0 54 = nu (pl + s) ∧ G 14 0 55 = de (pl + s) := by
  have xa : ∀ b : Int, X5 * b = 1587600 * b := fun _ => rfl
  have x1 := xa l
  have x2 := xa (fv k)
  have x3 := xa (l - fv k)
  have fb := fv_b k0.1 k0.2
  have kF := fk_F k0.1 k0.2
  have e : X5 * l - X5 * fv k = X5 * (l - fv k) := by omega
  have fu : fuK (2 - (2 - k % 3)) = fuK k := by unfold fuK; rw [show (2 - (2 - k % 3)) % 3 = k % 3 by omega]
  unfold f_M_part_216
  rw [h57, L_fu (by first | decide | omega), zb_s, f_M_formDown, zb_s, h56, h57, fu, show zlshl 1 (k / 3) * zlshl 1 (2 - k % 3) = fdK k from rfl, hn, zb_s, h52, h53, L_minusR (by first | decide | omega) (FR_r (by first | decide | omega)) kF (by first | decide | omega) (by first | decide | omega), zb_s, e]
  generalize hG1 : fr F (X5 * (l - fv k)) = G1
  have g0 : G1 14 0 0 = nu (X5 * (l - fv k)) := by rw [← hG1, fr_0]
  have g1 : G1 14 0 1 = de (X5 * (l - fv k)) := by rw [← hG1, fr_1]
  have gn : ∀ c y t, ¬ (c = 14 ∧ y = 0 ∧ t ≤ 1) → G1 c y t = F c y t := fun c y t h => by rw [← hG1, fr_n h]
  rw [g0, g1, L_timesR hK kF (by first | decide | omega) u0.1 u0.2 d0.1 d0.2 s0.1 hs, zb_s]
  generalize hG2 : zup3 (zup3 G1 14 0 52 (nu (X5 * (l - fv k)))) 14 0 53 (de (X5 * (l - fv k))) = G2
  have q52 : G2 14 0 52 = nu (X5 * (l - fv k)) := by rw [← hG2, zup3_v, if_neg (by first | decide | omega), zup3_v, if_pos (by first | decide | omega)]
  have q53 : G2 14 0 53 = de (X5 * (l - fv k)) := by rw [← hG2, zup3_v, if_pos (by first | decide | omega)]
  have qn : ∀ c y t, ¬ (c = 14 ∧ y = 0 ∧ (t ≤ 1 ∨ t = 52 ∨ t = 53)) → G2 c y t = F c y t := fun c y t h => by rw [← hG2, zup3_v, if_neg (by first | decide | omega), zup3_v, if_neg (by first | decide | omega), gn c y t (by first | decide | omega)]
  rw [fr_n (k := 54) (by first | decide | omega), fr_n (k := 55) (by first | decide | omega), fr_0, fr_1, qn 14 0 54 (by first | decide | omega), qn 14 0 55 (by first | decide | omega), h54, h55, L_plusR (by first | decide | omega) (FR_r p0.1) (FR_r s0.1) (by first | decide | omega), zb_s, fr_0, fr_1]
  refine ⟨_, rfl, fun c y t h => ?_, ?_, ?_, ?_, ?_⟩
  · rw [zup3_v, if_neg (by first | decide | omega), zup3_v, if_neg (by first | decide | omega), fr_n (by first | decide | omega), fr_n (by first | decide | omega), qn c y t (by first | decide | omega)]
  · rw [zup3_v, if_neg (by first | decide | omega), zup3_v, if_neg (by first | decide | omega), fr_n (by first | decide | omega), fr_n (by first | decide | omega), q52]
  · rw [zup3_v, if_neg (by first | decide | omega), zup3_v, if_neg (by first | decide | omega), fr_n (by first | decide | omega), fr_n (by first | decide | omega), q53]
  · rw [zup3_v, if_neg (by first | decide | omega), zup3_v, if_pos (by first | decide | omega)]
  · rw [zup3_v, if_pos (by first | decide | omega)]
theorem P_wX {K : zK} {Km m n1 n2 : Nat} {q p v w l f cnt nb ev dn up wi : Int} {F : zF} {B : zB} {Fm : zF} {Bm : zB} (h4 : 0 ≤ q ∧ q < K.2 4) (v0 : 0 ≤ v ∧ v < 4) (w0 : 0 ≤ w ∧ w < 3) (r52 : r64 (Fm 14 0 52)) (rc : r32 cnt) (rl : r32 l) (hX : NX q v w F Bm) : f_Part_writeCut_43 K (n1 + 1) cnt l f nb 1587600 q p ev F B = some (0, F, B) ∧ f_M_part_174 Km (n2 + 1) dn up wi w v ev nb Fm Bm = some (0, Fm, Bm) := by
  obtain ⟨x1, x2, x3⟩ := hX
  constructor
  · rw [f_Part_writeCut_43]
    simp only [f_Part_writeCut_121]
    rw [if_pos rc]
    by_cases c1 : 800 ≤ cnt
    · rw [if_pos c1]
    rw [if_neg c1, if_pos rl]
    by_cases c2 : l ≤ 0
    · rw [if_pos c2]
    rw [if_neg c2, if_pos h4, x2, if_pos (by decide), if_neg (by decide)]
  · rw [f_M_part_174]
    simp only [f_M_part_338]
    rw [if_pos r52]
    by_cases c1 : zcmp (Fm 14 0 52) 0 ≤ 0
    · rw [if_pos c1]
    rw [if_neg c1, if_pos w0, if_pos v0, x3, if_pos (by decide), if_pos (by decide)]
theorem nu_0 {l : Int} (l0 : 0 ≤ l) (l1 : l ≤ 10000) : (zcmp (nu (X5 * l)) 0 ≤ 0 ↔ l = 0) ∧ r64 (nu (X5 * l)) := by
  have x1 : X5 * l = 1587600 * l := rfl
  have h := FR_r (p := X5 * l) (by first | decide | omega)
  have b := FR_b h
  obtain ⟨d0, _, n0, e⟩ := h
  have WWe : WW = 812851200 := rfl
  refine ⟨?_, by unfold r64; omega⟩
  rw [zcmp_m]
  constructor
  · intro z
    have : nu (X5 * l) = 0 := by omega
    rw [this, Int.zero_mul] at e
    rcases Int.mul_eq_zero.mp e.symm with y | y <;> omega
  · intro z
    rw [z, Int.mul_zero, Int.zero_mul] at e
    rw [z, Int.mul_zero]
    rcases Int.mul_eq_zero.mp e with y | y
    · omega
    · exact absurd y (by decide)
/-- a piece outside brackets -/
theorem P_cutL {K : zK} {Km m : Nat} {Z : Int → Int → Prop} {q p v w n d nb ev U : Int} (hK : 3002 ≤ K.1) (hKm : 70000000000 < Km) (h4 : 0 ≤ q ∧ q < K.2 4) (hp : 0 ≤ p ∧ p < K.2 6) (v0 : 0 ≤ v ∧ v < 4) (w0 : 0 ≤ w ∧ w < 3) (hn : 1 ≤ n ∧ n ≤ 12) (hd : d = 2 ∨ d = 4 ∨ d = 8 ∨ d = 16) (hnb : 0 ≤ nb ∧ nb ≤ 100) (hev : -1 ≤ ev ∧ ev < m) (hU : U ≤ 3072) (hZ : ∀ y, 0 ≤ y → y < U → Z nb (X5 * y)) : ∀ (r n1 n2 : Nat) {l f cnt : Int} {F : zF} {B : zB} {Fm : zF} {Bm : zB} {Q : Prop}, l ≤ 4 * r → 0 ≤ l → l % 4 = 0 → f % 4 = 0 → 0 ≤ f → f + l ≤ U → 0 ≤ cnt → 4 * cnt + l ≤ 3072 → r < n1 → r < n2 → F 6 p 4 = n → F 6 p 5 = d → Fm 13 w 4 = n → Fm 13 w 5 = d → Fm 14 0 52 = nu (X5 * l) → Fm 14 0 53 = de (X5 * l) → Fm 14 0 54 = nu (X5 * f) → Fm 14 0 55 = de (X5 * f) → (∃ c, NW q v w m Z c F B Bm ∧ LPe q ev Q nb (X5 * f) B c) ∨ NX q v w F Bm → zP (f_Part_writeCut_43 K n1 cnt l f nb 1587600 q p ev F B) (f_M_part_174 Km n2 1 1 0 w v ev nb Fm Bm) (fun _ F' B' _ Fm' Bm' => NO q v w m Z ev (Q ∨ 0 < l) nb (X5 * (f + l)) F B Fm Bm F' B' Fm' Bm') := by
  intro r
  induction r with
  | zero =>
    intro n1 n2 l f cnt F B Fm Bm Q lr l0 l4 f4 f0 fl c0 cl hn1 hn2 e4 e5 m4 m5 h52 h53 h54 h55 hN
    obtain ⟨n1, rfl⟩ : ∃ k, n1 = k + 1 := ⟨n1 - 1, (by first | decide | omega)⟩
    obtain ⟨n2, rfl⟩ : ∃ k, n2 = k + 1 := ⟨n2 - 1, (by first | decide | omega)⟩
    obtain ⟨z1, z2⟩ := nu_0 (l := l) l0 (by first | decide | omega)
    rw [f_Part_writeCut_43, if_pos (by unfold r32; omega), if_neg (by first | decide | omega), if_pos (by unfold r32; omega), if_pos (by first | decide | omega), f_Part_writeCut_121, f_M_part_174, h52, if_pos z2, if_pos (z1.mpr (by first | decide | omega)), f_M_part_338]
    exact zP_s (NO_r hN (fun h => h.resolve_right (by first | decide | omega)) (Or.inr ⟨rfl, by have y1 : X5 * f = 1587600 * f := rfl; have y2 : X5 * (f + l) = 1587600 * (f + l) := rfl; omega⟩))
  | succ r ih =>
    intro n1 n2 l f cnt F B Fm Bm Q lr l0 l4 f4 f0 fl c0 cl hn1 hn2 e4 e5 m4 m5 h52 h53 h54 h55 hN
    obtain ⟨n1, rfl⟩ : ∃ k, n1 = k + 1 := ⟨n1 - 1, (by first | decide | omega)⟩
    obtain ⟨n2, rfl⟩ : ∃ k, n2 = k + 1 := ⟨n2 - 1, (by first | decide | omega)⟩
    obtain ⟨z1, z2⟩ := nu_0 (l := l) l0 (by first | decide | omega)
    rcases hN with ⟨c, hN, hL⟩ | hX
    case inr =>
      obtain ⟨y1, y2⟩ := P_wX (K := K) (Km := Km) (m := m) (n1 := n1) (n2 := n2) (p := p) (l := l) (f := f) (cnt := cnt) (nb := nb) (ev := ev) (dn := 1) (up := 1) (wi := 0) (F := F) (B := B) (Fm := Fm) (Bm := Bm) h4 v0 w0 (by rw [h52]; exact z2) (by unfold r32; omega) (by unfold r32; omega) hX
      rw [y1, y2]
      exact zP_s (NO_r (Q := Q ∨ 0 < l) (Or.inr hX) id (Or.inr ⟨rfl, Int.le_refl _⟩))
    by_cases lz : l = 0
    · rw [f_Part_writeCut_43, if_pos (by unfold r32; omega), if_neg (by first | decide | omega), if_pos (by unfold r32; omega), if_pos (by first | decide | omega), f_Part_writeCut_121, f_M_part_174, h52, if_pos z2, if_pos (z1.mpr lz), f_M_part_338]
      exact zP_s (NO_r (Or.inl ⟨c, hN, hL⟩) (fun h => h.resolve_right (by first | decide | omega)) (Or.inr ⟨rfl, by have y1 : X5 * f = 1587600 * f := rfl; have y2 : X5 * (f + l) = 1587600 * (f + l) := rfl; omega⟩))
    have xa : ∀ b : Int, X5 * b = 1587600 * b := fun _ => rfl
    obtain ⟨q1, q2⟩ := nv_4 (n := n) (f := f) hd f4 (show 0 < l by omega) l4
    have kb := nvF_b (n := n) (d := d) (f := f) (l := l)
    have hS : ∀ asks : Int, asks = 0 ∨ asks = 1 → CHS w n d f l asks Fm := fun asks ha => by
      refine ⟨w0, m4, m5, hn, hd, by rw [h52, h53]; exact FR_r (by have := xa l; omega), (by first | decide | omega), ?_⟩
      rcases ha with h | h
      · exact Or.inl h
      · exact Or.inr ⟨h, by rw [h54, h55]; exact FR_r (by have := xa f; omega), (by first | decide | omega)⟩
    have p1 : (fun k => decide (chP n d f l 1 k)) = (fun k => decide (fv k ≤ l ∧ stnd n d f k)) := by
      funext k
      congr 1
      exact propext ⟨fun h => ⟨h.1, h.2.resolve_left (by decide)⟩, fun h => ⟨h.1, Or.inr h.2⟩⟩
    have p0 : ∀ a, (fun k => decide (chP n d a l 0 k)) = (fun k => decide (fv k ≤ l)) := fun a => by
      funext k
      congr 1
      exact propext ⟨fun h => h.1, fun h => ⟨h, Or.inl rfl⟩⟩
    -- the reference comes to the same value
    have ch : ∃ G, chF Fm G ∧ G 14 0 56 = nvF n d f l / 3 ∧ G 14 0 57 = 2 - nvF n d f l % 3 ∧ f_M_part_174 Km (n2 + 1) 1 1 0 w v ev nb Fm Bm = f_M_part_216 (f_M_part_174 Km n2) Km 1 1 0 w v ev nb G Bm := by
      obtain ⟨G1, g1, g2, g3⟩ := L_choose (K := Km) (B := Bm) (by first | decide | omega) (hS 1 (Or.inr rfl))
      rw [p1] at g1 g3
      rw [f_M_part_174, h52, if_pos z2, if_neg (fun h => lz (z1.mp h)), if_pos w0, if_pos v0, hN.2.2.2.1, if_pos (show r32 c by have := hN.1; unfold r32; omega), if_neg (by have := hN.1; omega), if_pos (by decide), if_pos rfl, g1, zb_s]
      unfold nvF
      by_cases y : fsN (fun k => decide (fv k ≤ l ∧ stnd n d f k)) 24 0 < 0
      · obtain ⟨G2, h1, h2, h3⟩ := L_choose (K := Km) (B := Bm) (by first | decide | omega) (CHS_f (hS 0 (Or.inl rfl)) g2)
        rw [p0] at h1 h3
        have gz := (gv_4 (show 0 < l by omega) l4).2.2
        obtain ⟨h4', h5'⟩ := h3 gz
        rw [if_pos y, if_pos y, if_pos (show r32 0 by decide), if_pos (show (0 : Int) = 0 from rfl), f_M_part_209, h1, zb_s]
        refine ⟨G2, chF_t g2 h2, ?_, ?_, rfl⟩
        · rw [h4']; unfold gvF; rw [if_neg (by first | decide | omega)]
        · rw [h5']; unfold gvF; rw [if_neg (by first | decide | omega)]
      · obtain ⟨h4', h5'⟩ := g3 (by first | decide | omega)
        rw [if_neg y, if_neg y, if_pos (show r32 1 by decide), if_neg (show ¬ (1 : Int) = 0 by decide)]
        exact ⟨G1, g2, h4', h5', rfl⟩
    obtain ⟨G, gc, g56, g57, eM⟩ := ch
    generalize hk : nvF n d f l = k at *
    have fb := fv_b kb.1 kb.2
    have x1 := xa f
    have x2 := xa (fv k)
    have x3 := xa (f + fv k)
    have g54 : G 14 0 54 = nu (X5 * f) := by rw [gc _ _ _ (by first | decide | omega)]; exact h54
    have g55 : G 14 0 55 = de (X5 * f) := by rw [gc _ _ _ (by first | decide | omega)]; exact h55
    obtain ⟨F1, B1, M1, a1, a2, a3, a4, a5, a6⟩ := P_add (K := K) (Km := Km) (ev := ev) (bar := nb) (pl := X5 * f) (val := k) (fo := k / 3) (po := 2 - k % 3) (Fm := G) h4 v0 w0 hev hnb (by first | decide | omega) (by first | decide | omega) rfl rfl g54 g55 (hZ f f0 (by first | decide | omega)) hN
    obtain ⟨G', b1, b2, b3, b4, b5, b6⟩ := L_216 (K := Km) (rec := f_M_part_174 Km n2) (k := k) (l := l) (pl := X5 * f) (s := X5 * fv k) (dn := 1) (up := 1) (wi := 0) (w := w) (v := v) (ev := ev) (bar := nb) (F := G) (B := Bm) (B' := M1) hKm kb g56 g57 (by rw [gc _ _ _ (by first | decide | omega)]; exact h52) (by rw [gc _ _ _ (by first | decide | omega)]; exact h53) g54 g55 q1 (by first | decide | omega) (by first | decide | omega) (by decide) (by decide) (by first | decide | omega) rfl a2
    rw [eM, b1, f_Part_writeCut_43, if_pos (by unfold r32; omega), if_neg (by first | decide | omega), if_pos (by unfold r32; omega), if_neg (by first | decide | omega), if_pos h4, hN.2.2.1, if_pos (by decide), if_pos rfl, if_pos hp, e4, e5, C_next hK hn hd f0 (by first | decide | omega) (by first | decide | omega) (by first | decide | omega), zb_s, hk, if_pos (by unfold r32; omega), show f * 1587600 = X5 * f by omega, a1, zb_s, C_fine kb.1 kb.2, zb_s, C_fine kb.1 kb.2, zb_s]
    have N1 : (∃ c, NW q v w m Z c F1 B1 M1 ∧ LPe q ev True nb (X5 * (f + fv k)) B1 c) ∨ NX q v w F1 M1 := by
      rcases a6 with ⟨_, h, he, hf, h1, hg⟩ | h
      · exact Or.inl ⟨_, h, LPe_add hL hN.1.1 he hf h1 hg (by first | decide | omega)⟩
      · exact Or.inr h
    have gG := nG_t (nG_c gc) b2
    refine zP_m (ih n1 n2 (l := l - fv k) (f := f + fv k) (cnt := cnt + 1) (F := F1) (B := B1) (Fm := G') (Bm := M1) (by first | decide | omega) (by first | decide | omega) (by first | decide | omega) (by first | decide | omega) (by first | decide | omega) (by first | decide | omega) (by first | decide | omega) (by first | decide | omega) (by first | decide | omega) (by first | decide | omega) (by rw [a3 6 p 4 (by first | decide | omega)]; exact e4) (by rw [a3 6 p 5 (by first | decide | omega)]; exact e5) (by rw [gG 13 w 4 (by first | decide | omega)]; exact m4) (by rw [gG 13 w 5 (by first | decide | omega)]; exact m5) b3 b4 (by rw [b5]; congr 1; omega) (by rw [b6]; congr 1; omega) N1) ?_
    intro _ F2 B2 _ Fm2 Bm2 h
    exact NO_t a3 a4 gG a5 (NO_m h (fun _ => Or.inl trivial) (Or.inr ⟨rfl, by rw [show f + fv k + (l - fv k) = f + l by omega]; exact Int.le_refl _⟩))
end
end
section
section
/-! ===== where brackets stand: places outside them are multiples of a 128th; the notes of an event in a bracket ===== -/
theorem run_s {f : Nat → Int} : ∀ (i : Nat), ∃ s : Nat, s ≤ i ∧ (∀ t : Nat, s ≤ t → t ≤ i → f t = f i) ∧ (s = 0 ∨ ∃ s' : Nat, s = s' + 1 ∧ ¬ f s' = f i) := by
  intro i
  induction i with
  | zero => exact ⟨0, Nat.le_refl _, fun t _ b => by rw [show t = 0 by omega], Or.inl rfl⟩
  | succ i ih =>
    by_cases c : f i = f (i + 1)
    · obtain ⟨s, s0, s1, s2⟩ := ih
      refine ⟨s, (by first | decide | omega), fun t a b => ?_, ?_⟩
      · by_cases e : t = i + 1
        · rw [e]
        · rw [s1 t a (by first | decide | omega), c]
      · rcases s2 with h | ⟨s', h1, h2⟩
        · exact Or.inl h
        · exact Or.inr ⟨s', h1, by rw [← c]; exact h2⟩
    · exact ⟨i + 1, Nat.le_refl _, fun t a b => by rw [show t = i + 1 by omega], Or.inr ⟨i, rfl, c⟩⟩
theorem BS_all {q bar : Int} {m : Nat} {g : Int → Int} {F : zF} {B : zB} (hb : 0 < bar) (hg : ∀ j : Int, 0 ≤ j → j < m → 1 ≤ g j) (h0 : ∀ i : Nat, i < m → F 1 (B 4 q 5 i) 5 = 0 → g i % 6350400 = 0) (h : ∀ i : Nat, i < m → BSk q m bar g F B i) : (∀ i : Nat, i ≤ m → (i = m ∨ F 1 (B 4 q 5 i) 5 = 0) → sumZ g i % 6350400 = 0) ∧ (∀ i : Nat, i < m → ¬ F 1 (B 4 q 5 i) 5 = 0 → sumZ g (i + 1) ≤ (sumZ g i / bar + 1) * bar) := by
  have mono : ∀ a b : Nat, a ≤ b → b ≤ m → sumZ g a ≤ sumZ g b := fun a b h1 h2 => by
    have := sumZ_m (m := b) (fun j p r => hg j p (by first | decide | omega)) (b - a) a (by first | decide | omega)
    omega
  have nn := sumZ_0 hg
  -- a bracket's first event and its end
  have run : ∀ i : Nat, i < m → ¬ F 1 (B 4 q 5 i) 5 = 0 → ∃ s j : Nat, s ≤ i ∧ i < j ∧ j ≤ m ∧ (∀ t : Nat, s ≤ t → t < j → F 1 (B 4 q 5 t) 5 = F 1 (B 4 q 5 i) 5) ∧ (s = 0 ∨ ∃ s' : Nat, s = s' + 1 ∧ ¬ F 1 (B 4 q 5 s') 5 = F 1 (B 4 q 5 i) 5) ∧ (j = m ∨ ¬ F 1 (B 4 q 5 j) 5 = F 1 (B 4 q 5 i) 5) ∧ sumZ g j ≤ (sumZ g s / bar + 1) * bar ∧ (sumZ g j - sumZ g s) % 6350400 = 0 := fun i hi hz => by
    obtain ⟨s, s0, s1, s2⟩ := run_s (f := fun t => F 1 (B 4 q 5 t) 5) i
    have es := s1 s (Nat.le_refl _) s0
    have es' : F 1 (B 4 q 5 s) 5 = F 1 (B 4 q 5 i) 5 := es
    rcases h s (by first | decide | omega) with y | ⟨s', y1, y2⟩ | ⟨j, j0, j1, j2, j3, j4, j5⟩
    · exact absurd (by rw [← es']; exact y) hz
    · rcases s2 with z | ⟨s'', z1, z2⟩
      · omega
      · exfalso
        apply z2
        show F 1 (B 4 q 5 s'') 5 = F 1 (B 4 q 5 i) 5
        rw [show s'' = s' by omega, y2, es']
    · have ij : i < j := by
        rcases Nat.lt_or_ge i j with z | z
        · exact z
        · exfalso
          rcases j3 with w | w
          · omega
          · exact w (by rw [es']; exact s1 j (by first | decide | omega) z)
      refine ⟨s, j, s0, ij, j1, fun t a b => by rw [j2 t a b, es'], s2, ?_, j4, j5⟩
      rcases j3 with w | w
      · exact Or.inl w
      · exact Or.inr (fun e => w (by rw [es']; exact e))
  have A : ∀ (n i : Nat), i ≤ n → i ≤ m → (i = 0 ∨ i = m ∨ F 1 (B 4 q 5 i) 5 = 0 ∨ ∃ i' : Nat, i = i' + 1 ∧ ¬ F 1 (B 4 q 5 i') 5 = F 1 (B 4 q 5 i) 5) → sumZ g i % 6350400 = 0 := by
    intro n
    induction n with
    | zero => intro i hi _ _; rw [show i = 0 by omega]; rfl
    | succ n ih =>
      intro i hi im hb'
      by_cases i0 : i = 0
      · rw [i0]; rfl
      obtain ⟨k, rfl⟩ : ∃ k, i = k + 1 := ⟨i - 1, (by first | decide | omega)⟩
      by_cases z : F 1 (B 4 q 5 k) 5 = 0
      · have a := ih k (by first | decide | omega) (by first | decide | omega) (Or.inr (Or.inr (Or.inl z)))
        have b := h0 k (by first | decide | omega) z
        rw [sumZ]
        omega
      · obtain ⟨s, j, r0, r1, r2, r3, r4, r5, r6, r7⟩ := run k (by first | decide | omega) z
        have js : j = k + 1 := by
          rcases Nat.lt_or_ge (k + 1) j with y | y
          · exfalso
            have e := r3 (k + 1) (by first | decide | omega) y
            rcases hb' with t | t | t | ⟨i', t1, t2⟩
            · omega
            · omega
            · exact z (by rw [← e]; exact t)
            · exact t2 (by rw [show i' = k by omega]; exact e.symm)
          · omega
        have a : sumZ g s % 6350400 = 0 := by
          refine ih s (by first | decide | omega) (by first | decide | omega) ?_
          rcases r4 with t | ⟨s', t1, t2⟩
          · exact Or.inl t
          · exact Or.inr (Or.inr (Or.inr ⟨s', t1, fun e => t2 (by rw [e]; exact r3 s (Nat.le_refl _) (by first | decide | omega))⟩))
        rw [js] at r7
        omega
  constructor
  · intro i im hi
    exact A i i (Nat.le_refl _) im (hi.elim (fun t => Or.inr (Or.inl t)) (fun t => Or.inr (Or.inr (Or.inl t))))
  · intro i im hz
    obtain ⟨s, j, r0, r1, r2, r3, r4, r5, r6, r7⟩ := run i im hz
    have m1 := mono (i + 1) j (by first | decide | omega) r2
    have m2 := mono s i r0 (by first | decide | omega)
    have m3 : sumZ g s / bar ≤ sumZ g i / bar := Int.ediv_le_ediv hb m2
    have m4 : (sumZ g s / bar + 1) * bar ≤ (sumZ g i / bar + 1) * bar := Int.mul_le_mul_of_nonneg_right (by first | decide | omega) (by first | decide | omega)
    omega
end
end
section
section
/-! ===== the notes of an event in a bracket, both sides ===== -/
theorem gv_8 {l : Int} (l8 : 8 ≤ l) : 8 ≤ fv (gvF l) := by
  obtain ⟨_, f17, f18, f20, f21, f22, f23⟩ := fv_4
  have nn := fsN_n (P := fun k => decide (fv k ≤ l)) 24 (k := 0) (Int.le_refl _)
  have p20 : ¬ (20 < fsN (fun k => decide (fv k ≤ l)) 24 0 ∨ fsN (fun k => decide (fv k ≤ l)) 24 0 < 0) := fun h => by
    have := nn 20 (by decide) (by decide) h
    have : decide (fv 20 ≤ l) = false := this
    exact absurd (by first | decide | omega) (of_decide_eq_false this)
  unfold gvF
  generalize fsN (fun k => decide (fv k ≤ l)) 24 0 = r at *
  have r0 : 0 ≤ r ∧ r ≤ 20 := by omega
  rw [if_neg (by first | decide | omega)]
  rcases Int.lt_or_le r 20 with z | z
  · have := fv_l r0.1 z (by decide)
    omega
  · rw [show r = 20 by omega, f20]; decide
theorem C_wtX {K : zK} {n1 : Nat} {q v w l at' cnt nb e i : Int} {F : zF} {B Bm : zB} (h4 : 0 ≤ q ∧ q < K.2 4) (rc : r32 cnt) (rl : r32 l) (hX : NX q v w F Bm) : f_Part_writeTuplet_23 K (n1 + 1) cnt l at' e q i nb F B = some (0, F, B) := by
  obtain ⟨x1, x2, x3⟩ := hX
  rw [f_Part_writeTuplet_23]
  simp only [f_Part_writeTuplet_109]
  rw [if_pos rc]
  by_cases c1 : 800 ≤ cnt
  · rw [if_pos c1]
  rw [if_neg c1, if_pos rl]
  by_cases c2 : l ≤ 0
  · rw [if_pos c2]
  rw [if_neg c2, if_pos h4, x2, if_pos (by decide), if_neg (by decide)]
theorem P_tupL {K : zK} {Km m : Nat} {Z : Int → Int → Prop} {q v w nb ev e t1 t2 z A n d : Int} (hK : 3002 ≤ K.1) (hKm : 70000000000 < Km) (h4 : 0 ≤ q ∧ q < K.2 4) (v0 : 0 ≤ v ∧ v < 4) (w0 : 0 ≤ w ∧ w < 3) (hn : 1 ≤ n ∧ n ≤ 12) (hd : d = 2 ∨ d = 4 ∨ d = 8 ∨ d = 16) (hnb : 0 ≤ nb ∧ nb ≤ 100) (hev : -1 ≤ ev ∧ ev < m) (he : 0 ≤ e ∧ e < K.2 1) (ht1 : 1 ≤ t1 ∧ t1 ≤ 81) (ht2 : 1 ≤ t2 ∧ t2 ≤ 81) (hz : 6350400 = t1 * z) (hA : A ≤ 1000000000000) (hZ : ∀ y, 0 ≤ y → y < A → Z nb y) : ∀ (r n1 n2 : Nat) {l at' cnt : Int} {F : zF} {B : zB} {Fm : zF} {Bm : zB} {Q : Prop}, l ≤ 4 * r → 0 ≤ l → l % 4 = 0 → l ≤ 4096 → 0 ≤ at' → at' + z * (l / 4) * t2 = A → 0 ≤ cnt → cnt ≤ 600 → (0 < l → 8 * cnt + l ≤ 4096) → r < n1 → r < n2 → F 1 e 3 = t1 → F 1 e 4 = t2 → Fm 13 w 4 = n → Fm 13 w 5 = d → Fm 14 0 52 = nu (X5 * l) → Fm 14 0 53 = de (X5 * l) → Fm 14 0 54 = nu at' → Fm 14 0 55 = de at' → (∃ c, NW q v w m Z c F B Bm ∧ LPe q ev Q nb at' B c) ∨ NX q v w F Bm → zP (f_Part_writeTuplet_23 K n1 cnt l at' e q ev nb F B) (f_M_part_174 Km n2 t1 t2 1 w v ev nb Fm Bm) (fun _ F' B' _ Fm' Bm' => NO q v w m Z ev (Q ∨ 0 < l) nb A F B Fm Bm F' B' Fm' Bm') := by
  have z0 : 0 < z := by
    rcases Int.lt_or_le 0 z with y | y
    · exact y
    · have := Int.mul_nonpos_of_nonneg_of_nonpos (show 0 ≤ t1 by omega) y
      omega
  have hAle : ∀ l : Int, 0 ≤ l → 0 ≤ z * (l / 4) * t2 := fun l l0 => Int.mul_nonneg (Int.mul_nonneg (by first | decide | omega) (by first | decide | omega)) (by first | decide | omega)
  intro r
  induction r with
  | zero =>
    intro n1 n2 l at' cnt F B Fm Bm Q lr l0 l4 l1 a0 hA' c0 c6 cl hn1 hn2 e3 e4 m4 m5 h52 h53 h54 h55 hN
    obtain ⟨n1, rfl⟩ : ∃ k, n1 = k + 1 := ⟨n1 - 1, (by first | decide | omega)⟩
    obtain ⟨n2, rfl⟩ : ∃ k, n2 = k + 1 := ⟨n2 - 1, (by first | decide | omega)⟩
    obtain ⟨z1, z2⟩ := nu_0 (l := l) l0 (by first | decide | omega)
    rw [f_Part_writeTuplet_23, if_pos (by unfold r32; omega), if_neg (by first | decide | omega), if_pos (by unfold r32; omega), if_pos (by first | decide | omega), f_Part_writeTuplet_109, f_M_part_174, h52, if_pos z2, if_pos (z1.mpr (by first | decide | omega)), f_M_part_338]
    exact zP_s (NO_r hN (fun h => h.resolve_right (by first | decide | omega)) (Or.inr ⟨rfl, by have := hAle l l0; omega⟩))
  | succ r ih =>
    intro n1 n2 l at' cnt F B Fm Bm Q lr l0 l4 l1 a0 hA' c0 c6 cl hn1 hn2 e3 e4 m4 m5 h52 h53 h54 h55 hN
    obtain ⟨n1, rfl⟩ : ∃ k, n1 = k + 1 := ⟨n1 - 1, (by first | decide | omega)⟩
    obtain ⟨n2, rfl⟩ : ∃ k, n2 = k + 1 := ⟨n2 - 1, (by first | decide | omega)⟩
    obtain ⟨z1, z2⟩ := nu_0 (l := l) l0 (by first | decide | omega)
    rcases hN with ⟨c, hN, hL⟩ | hX
    case inr =>
      have y1 := C_wtX (n1 := n1) (l := l) (at' := at') (cnt := cnt) (nb := nb) (e := e) (i := ev) (B := B) h4 (by unfold r32; omega) (by unfold r32; omega) hX
      obtain ⟨_, y2⟩ := P_wX (K := K) (Km := Km) (m := m) (n1 := n1) (n2 := n2) (p := 0) (l := l) (f := 0) (cnt := cnt) (nb := nb) (ev := ev) (dn := t1) (up := t2) (wi := 1) (F := F) (B := B) (Fm := Fm) (Bm := Bm) h4 v0 w0 (by rw [h52]; exact z2) (by unfold r32; omega) (by unfold r32; omega) hX
      rw [y1, y2]
      exact zP_s (NO_r (Q := Q ∨ 0 < l) (Or.inr hX) id (Or.inr ⟨rfl, Int.le_refl _⟩))
    by_cases lz : l = 0
    · rw [f_Part_writeTuplet_23, if_pos (by unfold r32; omega), if_neg (by first | decide | omega), if_pos (by unfold r32; omega), if_pos (by first | decide | omega), f_Part_writeTuplet_109, f_M_part_174, h52, if_pos z2, if_pos (z1.mpr lz), f_M_part_338]
      exact zP_s (NO_r (Or.inl ⟨c, hN, hL⟩) (fun h => h.resolve_right (by first | decide | omega)) (Or.inr ⟨rfl, by have := hAle l l0; omega⟩))
    have xa : ∀ b : Int, X5 * b = 1587600 * b := fun _ => rfl
    obtain ⟨q1, q2, q3⟩ := gv_4 (show 0 < l by omega) l4
    have q8 : 8 ≤ l → 8 ≤ fv (gvF l) := gv_8
    have kb := gvF_b (l := l)
    have p0 : (fun k => decide (chP n d 0 l 0 k)) = (fun k => decide (fv k ≤ l)) := by
      funext k
      congr 1
      exact propext ⟨fun h => h.1, fun h => ⟨h, Or.inl rfl⟩⟩
    obtain ⟨G, g1, gc, g3⟩ := L_choose (K := Km) (w := w) (n := n) (d := d) (here := 0) (left := l) (asks := 0) (F := Fm) (B := Bm) (by first | decide | omega) ⟨w0, m4, m5, hn, hd, by rw [h52, h53]; exact FR_r (by have := xa l; omega), (by first | decide | omega), Or.inl rfl⟩
    rw [p0] at g1 g3
    obtain ⟨g56, g57⟩ := g3 q3
    have gk : fsN (fun k => decide (fv k ≤ l)) 24 0 = gvF l := by unfold gvF; rw [if_neg (by first | decide | omega)]
    rw [gk] at g56 g57
    generalize hk : gvF l = k at *
    have fb := fv_b kb.1 kb.2
    have x2 := xa (fv k)
    -- how far the note reaches
    have yz : z * (l / 4) * t2 = z * ((l - fv k) / 4) * t2 + z * (fv k / 4) * t2 := by
      rw [show l / 4 = (l - fv k) / 4 + fv k / 4 by omega, Int.mul_add, Int.add_mul]
    have y0 : 0 ≤ z * (fv k / 4) * t2 := Int.mul_nonneg (Int.mul_nonneg (by first | decide | omega) (by first | decide | omega)) (by first | decide | omega)
    have y1 : 0 ≤ z * ((l - fv k) / 4) * t2 := Int.mul_nonneg (Int.mul_nonneg (by first | decide | omega) (by first | decide | omega)) (by first | decide | omega)
    have dv : 1587600 * fv k = t1 * (z * (fv k / 4)) := by
      rw [← Int.mul_assoc, ← hz]
      omega
    have ds : X5 * fv k * t2 = z * (fv k / 4) * t2 * t1 := by
      rw [x2, dv]
      ac_rfl
    have yp : 0 < z * (l / 4) * t2 := Int.mul_pos (Int.mul_pos z0 (by first | decide | omega)) (by first | decide | omega)
    have g54 : G 14 0 54 = nu at' := by rw [gc _ _ _ (by first | decide | omega)]; exact h54
    have g55 : G 14 0 55 = de at' := by rw [gc _ _ _ (by first | decide | omega)]; exact h55
    obtain ⟨F1, B1, M1, a1, a2, a3, a4, a5, a6⟩ := P_add (K := K) (Km := Km) (ev := ev) (bar := nb) (pl := at') (val := k) (fo := k / 3) (po := 2 - k % 3) (Fm := G) h4 v0 w0 hev hnb (by first | decide | omega) (by first | decide | omega) rfl rfl g54 g55 (hZ at' a0 (by first | decide | omega)) hN
    obtain ⟨G', b1, b2, b3, b4, b5, b6⟩ := L_216 (K := Km) (rec := f_M_part_174 Km n2) (k := k) (l := l) (pl := at') (s := z * (fv k / 4) * t2) (dn := t1) (up := t2) (wi := 1) (w := w) (v := v) (ev := ev) (bar := nb) (F := G) (B := Bm) (B' := M1) hKm kb g56 g57 (by rw [gc _ _ _ (by first | decide | omega)]; exact h52) (by rw [gc _ _ _ (by first | decide | omega)]; exact h53) g54 g55 q1 (by first | decide | omega) (by first | decide | omega) (by first | decide | omega) (by first | decide | omega) (by first | decide | omega) ds a2
    have eM : f_M_part_174 Km (n2 + 1) t1 t2 1 w v ev nb Fm Bm = f_M_part_174 Km n2 t1 t2 1 w v ev nb G' M1 := by
      rw [f_M_part_174, h52, if_pos z2, if_neg (fun h => lz (z1.mp h)), if_pos w0, if_pos v0, hN.2.2.2.1, if_pos (show r32 c by have := hN.1; unfold r32; omega), if_neg (by have := hN.1; omega), if_pos (by decide), if_neg (by decide), f_M_part_209, g1, zb_s, b1]
    have zm : zmax t1 1 = t1 := by unfold zmax; rw [if_neg (by first | decide | omega)]
    have f13 : F1 1 e 3 = t1 := by rw [a3 1 e 3 (by first | decide | omega)]; exact e3
    have f14 : F1 1 e 4 = t2 := by rw [a3 1 e 4 (by first | decide | omega)]; exact e4
    have qd : zldv (1587600 * fv k) t1 = z * (fv k / 4) := by
      rw [zldv_e (by first | decide | omega) (by first | decide | omega) (by first | decide | omega) (by first | decide | omega), dv, Int.mul_ediv_cancel_left _ (by first | decide | omega)]
    rw [eM, f_Part_writeTuplet_23, if_pos (by unfold r32; omega), if_neg (by first | decide | omega), if_pos (by unfold r32; omega), if_neg (by first | decide | omega), if_pos h4, hN.2.2.1, if_pos (by decide), if_pos rfl, C_great hK (by unfold r32; omega), zb_s, hk, a1, zb_s, C_fine kb.1 kb.2, zb_s, C_fine kb.1 kb.2, zb_s, if_pos (show r32 (fv k) by unfold r32; omega), if_pos he, f13, if_pos (show r32 t1 by unfold r32; omega), zm, if_pos (show r32 t1 by unfold r32; omega), if_pos (lI_n0 (by first | decide | omega) (by unfold r64; omega)), f14, if_pos (show r32 t2 by unfold r32; omega), qd]
    have N1 : (∃ c, NW q v w m Z c F1 B1 M1 ∧ LPe q ev True nb (at' + z * (fv k / 4) * t2) B1 c) ∨ NX q v w F1 M1 := by
      rcases a6 with ⟨_, h, he, hf, h1, hg⟩ | h
      · exact Or.inl ⟨_, h, LPe_add hL hN.1.1 he hf h1 hg (by have := Int.mul_pos (Int.mul_pos z0 (show 0 < fv k / 4 by omega)) (show 0 < t2 by omega); omega)⟩
      · exact Or.inr h
    have gG := nG_t (nG_c gc) b2
    refine zP_m (ih n1 n2 (l := l - fv k) (at' := at' + z * (fv k / 4) * t2) (cnt := cnt + 1) (F := F1) (B := B1) (Fm := G') (Bm := M1) (by first | decide | omega) (by first | decide | omega) (by first | decide | omega) (by first | decide | omega) (by first | decide | omega) (by first | decide | omega) (by first | decide | omega) (by have := cl (by first | decide | omega); omega) (by intro h; have := cl (by first | decide | omega); have := q8 (by first | decide | omega); omega) (by first | decide | omega) (by first | decide | omega) f13 f14 (by rw [gG 13 w 4 (by first | decide | omega)]; exact m4) (by rw [gG 13 w 5 (by first | decide | omega)]; exact m5) b3 b4 b5 b6 N1) ?_
    intro _ F2 B2 _ Fm2 Bm2 h
    exact NO_t a3 a4 gG a5 (NO_m h (fun _ => Or.inl trivial) (Or.inr ⟨rfl, Int.le_refl _⟩))
end
end
section
section
/-! ===== an event cut at the bars, both sides ===== -/
/-- an event outside brackets, or the rest behind the end -/
def EK (K : zK) (q v w : Int) (m : Nat) (ev ro : Int) (F : zF) (B Bm : zB) : Prop := (ev = -1 ∧ ro = 1) ∨ ∃ i : Nat, ev = i ∧ i < m ∧ m ≤ 200 ∧ (0 ≤ B 4 q 5 i ∧ B 4 q 5 i < K.2 1) ∧ F 1 (B 4 q 5 i) 5 = 0 ∧ Bm 13 w 22 (1000 * v + i) = 0 ∧ F 1 (B 4 q 5 i) 10 = Bm 13 w 21 (1000 * v + i) ∧ (0 ≤ F 1 (B 4 q 5 i) 10 ∧ F 1 (B 4 q 5 i) 10 ≤ 6) ∧ ro = if F 1 (B 4 q 5 i) 10 = 0 then 1 else 0
theorem EK_f {K : zK} {q v w ev ro : Int} {m : Nat} {F F' : zF} {B B' Bm Bm' : zB} (h : EK K q v w m ev ro F B Bm) (f : nF q F F') (b : nB q B B') (g : nM' v w Bm Bm') : EK K q v w m ev ro F' B' Bm' := by
  rcases h with h | ⟨i, h1, h2, h3, h4, h5, h6, h7, h8, h9⟩
  · exact Or.inl h
  · refine Or.inr ⟨i, h1, h2, h3, ?_⟩
    rw [b 4 q 5 i (by first | decide | omega), f 1 _ 5 (by first | decide | omega), f 1 _ 10 (by first | decide | omega), g 13 w 22 _ (by first | decide | omega) (by first | decide | omega), g 13 w 21 _ (by first | decide | omega) (by first | decide | omega)]
    exact ⟨h4, h5, h6, h7, h8, h9⟩
theorem EK_b {K : zK} {q v w ev ro : Int} {m : Nat} {F : zF} {B Bm : zB} (h : EK K q v w m ev ro F B Bm) : (ro = 0 ∨ ro = 1) ∧ (-1 ≤ ev ∧ ev < m) ∧ (ev < 200 ∨ m ≤ 200) := by
  rcases h with ⟨h, h'⟩ | ⟨i, h1, h2, h3, h4, h5, h6, h7, h8, h9⟩
  · exact ⟨Or.inr h', (by first | decide | omega), (by first | decide | omega)⟩
  · refine ⟨?_, (by first | decide | omega), (by first | decide | omega)⟩
    rw [h9]
    split
    · exact Or.inr rfl
    · exact Or.inl rfl
/-- where the piece at a ends -/
def cuE (b a t : Int) : Int := if (a / b + 1) * b < t then (a / b + 1) * b else t
theorem cuE_b {b a t : Int} (b0 : 0 < b) (a0 : 0 ≤ a) (h : a < t) : a < cuE b a t ∧ cuE b a t ≤ t ∧ cuE b a t - a ≤ b ∧ a % b + (cuE b a t - a) ≤ b ∧ (cuE b a t - a = b → a % b = 0) := by
  have e1 := Int.mul_ediv_add_emod a b
  have e2 := Int.emod_nonneg a (show b ≠ 0 by omega)
  have e3 := Int.emod_lt_of_pos a b0
  have e4 : (a / b + 1) * b = b * (a / b) + b := by rw [Int.add_mul, Int.one_mul, Int.mul_comm]
  unfold cuE
  split <;> omega
theorem C_cstep {K : zK} {m n1 : Nat} {q p v w n d ev ro cnt a t : Int} {F : zF} {B Bm : zB} (h4 : 0 ≤ q ∧ q < K.2 4) (hp : 0 ≤ p ∧ p < K.2 6) (hn : 1 ≤ n ∧ n ≤ 12) (hd : d = 2 ∨ d = 4 ∨ d = 8 ∨ d = 16) (e4 : F 6 p 4 = n) (e5 : F 6 p 5 = d) (hE : EK K q v w m ev ro F B Bm) (c0 : 0 ≤ cnt ∧ cnt ≤ 100) (a0 : 0 ≤ a) (at' : a < t) (t1 : t ≤ 307200) : f_Part_cut_18 K (n1 + 1) cnt (X5 * t) (X5 * a) (X5 * (512 / d * n)) q p ev F B = if ro = 1 ∧ cuE (512 / d * n) a t - a = 512 / d * n then zbind (f_Part_addNote K q ev (a / (512 / d * n)) 0 29 F B) (fun _ F1 B1 => f_Part_cut_18 K n1 (cnt + 1) (X5 * t) (X5 * cuE (512 / d * n) a t) (X5 * (512 / d * n)) q p ev F1 B1) else zbind (f_Part_writeCut_43 K K.1 0 (cuE (512 / d * n) a t - a) (a % (512 / d * n)) (a / (512 / d * n)) 1587600 q p ev F B) (fun _ F1 B1 => f_Part_cut_18 K n1 (cnt + 1) (X5 * t) (X5 * cuE (512 / d * n) a t) (X5 * (512 / d * n)) q p ev F1 B1) := by
  have hu := un_d hd
  have b3 := un_3 hu (n := n) (by first | decide | omega)
  have b4 := un_4 hu (n := n) (by first | decide | omega)
  have bV := bar5 (n := n) hd
  have cb := C_bar (F := F) (B := B) hp e4 e5 hn hd
  rw [bV] at cb
  generalize hb : 512 / d * n = b at *
  have xa : ∀ y : Int, X5 * y = 1587600 * y := fun _ => rfl
  have x1 := xa a
  have x2 := xa t
  have x3 := xa b
  have e1 := Int.mul_ediv_add_emod a b
  have e2 := Int.emod_nonneg a (show b ≠ 0 by omega)
  have e3 := Int.emod_lt_of_pos a (show 0 < b by omega)
  have q0 : 0 ≤ a / b := Int.ediv_nonneg a0 (by first | decide | omega)
  have q1 : a / b ≤ a := Int.ediv_le_self _ a0
  have q2 : (a / b + 1) * b = b * (a / b) + b := by rw [Int.add_mul, Int.one_mul, Int.mul_comm]
  have q3 : (a / b + 1) * (X5 * b) = X5 * ((a / b + 1) * b) := by ac_rfl
  have x4 := xa ((a / b + 1) * b)
  have dv : zldv (X5 * a) (X5 * b) = a / b := by rw [zldv_e (by first | decide | omega) (by first | decide | omega) (by first | decide | omega) (by first | decide | omega), X5_d]
  obtain ⟨k1, k2, k3, k4, k5⟩ := cuE_b (b := b) (a := a) (t := t) (by first | decide | omega) a0 at'
  have x5 := xa (cuE b a t)
  have cu : zmin (X5 * t) ((a / b + 1) * (X5 * b)) = X5 * cuE b a t := by
    rw [q3]
    unfold zmin cuE
    by_cases c : (a / b + 1) * b < t
    · rw [if_pos c, if_pos (by first | decide | omega)]
    · rw [if_neg c, if_neg (by first | decide | omega)]
  have e152 : ∀ F1 B1, F1 = F → B1 = B → f_Part_cut_152 (f_Part_cut_18 K n1) K (X5 * cuE b a t) cnt (X5 * t) (X5 * a) (X5 * b) q p ev F1 B1 = zbind (f_Part_writeCut_43 K K.1 0 (cuE b a t - a) (a % b) (a / b) 1587600 q p ev F B) (fun _ F1 B1 => f_Part_cut_18 K n1 (cnt + 1) (X5 * t) (X5 * cuE b a t) (X5 * b) q p ev F1 B1) := by
    intro F1 B1 h1 h2
    subst h1 h2
    have y1 : X5 * a - a / b * (X5 * b) = X5 * (a % b) := by
      rw [show a / b * (X5 * b) = X5 * (b * (a / b)) by ac_rfl]
      have := xa (b * (a / b))
      have := xa (a % b)
      omega
    have y2 : X5 * cuE b a t - X5 * a = X5 * (cuE b a t - a) := by have := xa (cuE b a t - a); omega
    have y3 : zldv (X5 * (a % b)) 1587600 = a % b := by
      have := xa (a % b)
      rw [zldv_e (by first | decide | omega) (by first | decide | omega) (by decide) (by decide), this, Int.mul_ediv_cancel_left _ (by decide)]
    have y4 : zldv (X5 * (cuE b a t - a)) 1587600 = cuE b a t - a := by
      have := xa (cuE b a t - a)
      rw [zldv_e (by first | decide | omega) (by first | decide | omega) (by decide) (by decide), this, Int.mul_ediv_cancel_left _ (by decide)]
    unfold f_Part_cut_152 f_Part_writeCut
    rw [if_pos h4, if_pos hp, cb, zb_s, if_pos (lI_n0 (by first | decide | omega) (by unfold r64; omega)), dv, if_pos (by unfold r32; omega), y1, y2, y3, y4]
    rfl
  have e128 : f_Part_cut_128 (f_Part_cut_18 K n1) K (X5 * cuE b a t) (a / b) cnt (X5 * t) (X5 * a) (X5 * b) q p ev F B = if cuE b a t - a = b then zbind (f_Part_addNote K q ev (a / b) 0 29 F B) (fun _ F1 B1 => f_Part_cut_18 K n1 (cnt + 1) (X5 * t) (X5 * cuE b a t) (X5 * b) q p ev F1 B1) else zbind (f_Part_writeCut_43 K K.1 0 (cuE b a t - a) (a % b) (a / b) 1587600 q p ev F B) (fun _ F1 B1 => f_Part_cut_18 K n1 (cnt + 1) (X5 * t) (X5 * cuE b a t) (X5 * b) q p ev F1 B1) := by
    unfold f_Part_cut_128
    rw [if_pos (show r64 (X5 * cuE b a t - X5 * a) by unfold r64; omega), if_pos (show r64 (X5 * b) by unfold r64; omega)]
    by_cases c : cuE b a t - a = b
    · rw [if_pos c, if_pos (zcmp_0.mpr (by first | decide | omega)), if_pos h4]
      rfl
    · rw [if_neg c, if_neg (fun h => c (by have := zcmp_0.mp h; omega))]
      exact e152 F B rfl rfl
  rw [f_Part_cut_18, if_pos (show r32 cnt by unfold r32; omega), if_neg (show ¬ 100 < cnt by omega), if_pos (show r64 (X5 * a) by unfold r64; omega), if_pos (show r64 (X5 * t) by unfold r64; omega), if_neg (show ¬ 0 ≤ zcmp (X5 * a) (X5 * t) from fun h => by
    have : zcmp (X5 * a) (X5 * t) < 0 := zcmp_lt.mpr (by first | decide | omega)
    omega), if_pos (show r64 (X5 * b) by unfold r64; omega), if_neg (show ¬ zcmp (X5 * b) 0 ≤ 0 from fun h => by have := zcmp_m.mp h; omega), if_pos (lI_n0 (by first | decide | omega) (by unfold r64; omega)), dv, if_pos (show r32 (a / b + 1) by unfold r32; omega), if_pos (show r64 ((a / b + 1) * (X5 * b)) by rw [q3]; unfold r64; omega), cu]
  have eb := EK_b hE
  rcases hE with ⟨h1, h2⟩ | ⟨i, h1, h2, h3, h4', h5, h6, h7, h8, h9⟩
  · rw [h1] at e128
    rw [h1, h2, if_pos (show r32 (-1) by decide), if_pos (show (-1 : Int) = -1 from rfl), f_Part_cut_84, f_Part_cut_85, if_pos (show r32 0 by decide), if_pos (show (0 : Int) = 0 from rfl), if_pos (show r32 (-1) by decide), if_pos (show (-1 : Int) = -1 from rfl), e128]
    by_cases c : cuE b a t - a = b
    · rw [if_pos c, if_pos (show (1 : Int) = 1 ∧ cuE b a t - a = b from ⟨rfl, c⟩)]
    · rw [if_neg c, if_neg (show ¬ ((1 : Int) = 1 ∧ cuE b a t - a = b) from fun h => c h.2)]
  · rw [if_pos (show r32 ev by unfold r32; omega), if_neg (show ¬ ev = -1 by omega), if_pos h4, if_pos (show 0 ≤ ev ∧ ev < 200 by omega), h1, if_pos h4', h5, if_pos (show r32 0 by decide), if_pos (show (0 : Int) = 0 from rfl)]
    rw [h1] at e128 e152
    unfold f_Part_cut_84 f_Part_cut_85
    rw [if_pos (show r32 0 by decide), if_pos (show (0 : Int) = 0 from rfl), if_pos (show r32 (i : Int) by unfold r32; omega), if_neg (show ¬ (i : Int) = -1 by omega), if_pos h4, if_pos (show 0 ≤ (i : Int) ∧ (i : Int) < 200 by omega), if_pos h4']
    unfold f_Event_isRest f_Event_isRest_12
    rw [if_pos h4', if_pos (show r32 (F 1 (B 4 q 5 i) 10) by unfold r32; omega)]
    by_cases z : F 1 (B 4 q 5 i) 10 = 0
    · rw [if_pos z, if_pos (show (1 : Int) = 0 ∨ (1 : Int) = 1 from Or.inr rfl), zb_s, if_pos (show r32 1 by decide), if_neg (show ¬ (1 : Int) = 0 by decide), e128]
      rw [if_pos z] at h9
      by_cases c : cuE b a t - a = b
      · rw [if_pos c, if_pos (show ro = 1 ∧ cuE b a t - a = b from ⟨h9, c⟩)]
      · rw [if_neg c, if_neg (show ¬ (ro = 1 ∧ cuE b a t - a = b) from fun h => c h.2)]
    · rw [if_neg z, if_pos (show (0 : Int) = 0 ∨ (0 : Int) = 1 from Or.inl rfl), zb_s, if_pos (show r32 0 by decide), if_pos (show (0 : Int) = 0 from rfl), e152 F B rfl rfl]
      rw [if_neg z] at h9
      rw [if_neg (show ¬ (ro = 1 ∧ cuE b a t - a = b) from fun h => (by first | decide | omega))]
end
end
section
section
/-! ===== the reference's pieces of an event ===== -/
theorem nu_L {l : Int} (l0 : 0 ≤ l) (l1 : l ≤ 1000000) : (zcmp (nu (X5 * l)) 0 ≤ 0 ↔ l = 0) ∧ r64 (nu (X5 * l)) := by
  have x1 : X5 * l = 1587600 * l := rfl
  have h := FR_r (p := X5 * l) (by first | decide | omega)
  have b := FR_b h
  obtain ⟨d0, _, n0, e⟩ := h
  have WWe : WW = 812851200 := rfl
  refine ⟨?_, by unfold r64; omega⟩
  rw [zcmp_m]
  constructor
  · intro z
    have : nu (X5 * l) = 0 := by omega
    rw [this, Int.zero_mul] at e
    rcases Int.mul_eq_zero.mp e.symm with y | y <;> omega
  · intro z
    rw [z, Int.mul_zero, Int.zero_mul] at e
    rw [z, Int.mul_zero]
    rcases Int.mul_eq_zero.mp e with y | y
    · omega
    · exact absurd y (by decide)
theorem L_pstep {K n2 : Nat} {v w n d ev a t c : Int} {F : zF} {B : zB} (hK : 812851200 < K) (v0 : 0 ≤ v ∧ v < 4) (w0 : 0 ≤ w ∧ w < 3) (hn : 1 ≤ n ∧ n ≤ 12) (hd : d = 2 ∨ d = 4 ∨ d = 8 ∨ d = 16) (m4 : F 13 w 4 = n) (m5 : F 13 w 5 = d) (a0 : 0 ≤ a) (at' : a < t) (t1 : t ≤ 307200) (hc : B 13 w 13 v = c) (c0 : 0 ≤ c ∧ c ≤ 800) : ∃ G, nG F G ∧ G 14 0 54 = nu (X5 * (a % (512 / d * n))) ∧ G 14 0 55 = de (X5 * (a % (512 / d * n))) ∧ f_M_pieces_16 K (n2 + 1) (de (X5 * (t - a))) (nu (X5 * (t - a))) (de (X5 * a)) (nu (X5 * a)) w v ev 1 F B = zbind (f_M_part K w v ev (a / (512 / d * n)) (nu (X5 * (cuE (512 / d * n) a t - a))) (de (X5 * (cuE (512 / d * n) a t - a))) 1 G B) (fun _ F1 B1 => f_M_pieces_16 K n2 (de (X5 * (t - cuE (512 / d * n) a t))) (nu (X5 * (t - cuE (512 / d * n) a t))) (de (X5 * cuE (512 / d * n) a t)) (nu (X5 * cuE (512 / d * n) a t)) w v ev 1 (fr (fr F1 (X5 * cuE (512 / d * n) a t)) (X5 * (t - cuE (512 / d * n) a t))) B1) := by
  have hu := un_d hd
  have b3 := un_3 hu (n := n) (by first | decide | omega)
  have b4 := un_4 hu (n := n) (by first | decide | omega)
  obtain ⟨bv1, _, _, bv4, bv5⟩ := bar_v hn hd
  rw [bar5 (n := n) hd] at bv1 bv4 bv5
  generalize hb : 512 / d * n = b at *
  have rn : r32 n := by unfold r32; omega
  have rd : r32 d := by unfold r32; omega
  have xa : ∀ y : Int, X5 * y = 1587600 * y := fun _ => rfl
  have x1 := xa a
  have x2 := xa t
  have x3 := xa b
  have x6 := xa (t - a)
  have e1 := Int.mul_ediv_add_emod a b
  have e2 := Int.emod_nonneg a (show b ≠ 0 by omega)
  have e3 := Int.emod_lt_of_pos a (show 0 < b by omega)
  have q0 : 0 ≤ a / b := Int.ediv_nonneg a0 (by first | decide | omega)
  have q1 : a / b ≤ a := Int.ediv_le_self _ a0
  have q2 : (a / b + 1) * b = b * (a / b) + b := by rw [Int.add_mul, Int.one_mul, Int.mul_comm]
  have q3 : (a / b + 1) * (X5 * b) = X5 * ((a / b + 1) * b) := by ac_rfl
  have x4 := xa ((a / b + 1) * b)
  obtain ⟨k1, k2, k3, k4, k5⟩ := cuE_b (b := b) (a := a) (t := t) (by first | decide | omega) a0 at'
  have x5 := xa (cuE b a t)
  have x7 := xa (t - cuE b a t)
  have x8 := xa (cuE b a t - a)
  have x9 := xa (a % b)
  have x10 := xa (b * (a / b))
  obtain ⟨nz1, nz2⟩ := nu_L (l := t - a) (by first | decide | omega) (by first | decide | omega)
  have hr : X5 * ((a / b + 1) * b) - X5 * a = X5 * ((a / b + 1) * b - a) := by have := xa ((a / b + 1) * b - a); omega
  have f1 : FR ((a / b + 1) * n) d (X5 * ((a / b + 1) * b)) := by rw [← q3]; exact FR_k bv1 (by first | decide | omega)
  have f2 : FR (a / b * n) d (X5 * (b * (a / b))) := by
    have := FR_k bv1 q0
    rwa [show a / b * (X5 * b) = X5 * (b * (a / b)) by ac_rfl] at this
  have hm : X5 * a - X5 * (b * (a / b)) = X5 * (a % b) := by omega
  have cmp : ∀ x y : Int, r32 (if x < y then (-1 : Int) else if x = y then 0 else 1) ∧ (0 ≤ (if x < y then (-1 : Int) else if x = y then 0 else 1) ↔ y ≤ x) := fun x y => by
    by_cases z : x < y
    · rw [if_pos z]; exact ⟨by decide, (by first | decide | omega)⟩
    · rw [if_neg z]
      by_cases z' : x = y
      · rw [if_pos z']; exact ⟨by decide, (by first | decide | omega)⟩
      · rw [if_neg z']; exact ⟨by decide, (by first | decide | omega)⟩
  -- the second half
  have e111 : ∀ G : zF, (∀ c y k, ¬ (c = 14 ∧ y = 0 ∧ k ≤ 1) → G c y k = F c y k) → f_M_pieces_111 (f_M_pieces_16 K n2) K (de (X5 * (cuE b a t - a))) (nu (X5 * (cuE b a t - a))) (a / b) (de (X5 * (t - a))) (nu (X5 * (t - a))) (de (X5 * a)) (nu (X5 * a)) w v ev 1 G B = zbind (f_M_part K w v ev (a / b) (nu (X5 * (cuE b a t - a))) (de (X5 * (cuE b a t - a))) 1 (zup3 (zup3 (fr G (X5 * (a % b))) 14 0 54 (nu (X5 * (a % b)))) 14 0 55 (de (X5 * (a % b)))) B) (fun _ F1 B1 => f_M_pieces_16 K n2 (de (X5 * (t - cuE b a t))) (nu (X5 * (t - cuE b a t))) (de (X5 * cuE b a t)) (nu (X5 * cuE b a t)) w v ev 1 (fr (fr F1 (X5 * cuE b a t)) (X5 * (t - cuE b a t))) B1) := fun G hG => by
    unfold f_M_pieces_111
    rw [if_pos w0, hG 13 w 4 (by first | decide | omega), hG 13 w 5 (by first | decide | omega), m4, m5, if_pos rn, if_pos rd, L_minusR hK (FR_r (by first | decide | omega)) f2 (by first | decide | omega) (by first | decide | omega), zb_s, if_pos (show r32 (a / b) by unfold r32; omega), hm, fr_0, fr_1]
    congr 1
    funext r1 F1 B1
    rw [L_plusR hK (FR_r (by first | decide | omega)) (FR_r (by first | decide | omega)) (by first | decide | omega), zb_s, L_minusR hK (FR_r (by first | decide | omega)) (FR_r (by first | decide | omega)) (by first | decide | omega) (by first | decide | omega), zb_s, show X5 * a + X5 * (cuE b a t - a) = X5 * cuE b a t by omega, show X5 * (t - a) - X5 * (cuE b a t - a) = X5 * (t - cuE b a t) by omega, fr_0, fr_1, fr_0, fr_1]
  refine ⟨zup3 (zup3 (fr (fr F (X5 * ((a / b + 1) * b - a))) (X5 * (a % b))) 14 0 54 (nu (X5 * (a % b)))) 14 0 55 (de (X5 * (a % b))), fun c y k h => by rw [zup3_v, if_neg (by first | decide | omega), zup3_v, if_neg (by first | decide | omega), fr_n (by first | decide | omega), fr_n (by first | decide | omega)], by rw [zup3_v, if_neg (by first | decide | omega), zup3_v, if_pos (by first | decide | omega)], by rw [zup3_v, if_pos (by first | decide | omega)], ?_⟩
  rw [f_M_pieces_16, if_pos nz2, if_neg (fun h => by have := nz1.mp h; omega), if_pos w0, if_pos v0, hc, if_pos (show r32 c by unfold r32; omega), if_neg (show ¬ 800 < c by omega), m4, m5, if_pos rn, if_pos rd, L_oftR (FR_r (by first | decide | omega)) bv5 (by first | decide | omega) (by first | decide | omega) (by first | decide | omega) (by first | decide | omega) (by first | decide | omega) (by first | decide | omega), zb_s, X5_d, m4, m5, if_pos rn, if_pos rd, L_minusR hK f1 (FR_r (by first | decide | omega)) (by first | decide | omega) (by first | decide | omega), zb_s, hr, fr_0, fr_1, L_cmpR hK (FR_r (by first | decide | omega)) (FR_r (by have := xa ((a / b + 1) * b - a); omega)) (by first | decide | omega) (by have := xa ((a / b + 1) * b - a); omega), zb_s, if_pos (cmp _ _).1]
  have x11 := xa ((a / b + 1) * b - a)
  by_cases z : (a / b + 1) * b ≤ t
  · have ce : cuE b a t = (a / b + 1) * b := by unfold cuE; split <;> omega
    rw [if_pos ((cmp _ _).2.mpr (by first | decide | omega)), show (a / b + 1) * b - a = cuE b a t - a by rw [ce]]
    exact e111 _ (fun c y k h => fr_n h)
  · have ce : cuE b a t = t := by unfold cuE; rw [if_neg (by first | decide | omega)]
    rw [if_neg (fun h => z (by have := (cmp _ _).2.mp h; omega))]
    have := e111 (fr F (X5 * ((a / b + 1) * b - a))) (fun c y k h => fr_n h)
    rw [show cuE b a t - a = t - a by rw [ce]] at this ⊢
    exact this
/-- a piece outside brackets -/
theorem L_partP {K : zK} {Km m : Nat} {q v w n d ev ro nb f l : Int} {F : zF} {B : zB} {Fm : zF} {Bm : zB} (hKm : 70000000000 < Km) (v0 : 0 ≤ v ∧ v < 4) (w0 : 0 ≤ w ∧ w < 3) (hn : 1 ≤ n ∧ n ≤ 12) (hd : d = 2 ∨ d = 4 ∨ d = 8 ∨ d = 16) (m4 : Fm 13 w 4 = n) (m5 : Fm 13 w 5 = d) (hE : EK K q v w m ev ro F B Bm) (h54 : Fm 14 0 54 = nu (X5 * f)) (f0 : 0 ≤ f) (f1 : f ≤ 3072) (l0 : 0 < l) (l1 : l ≤ 3072) (hfl : l = 512 / d * n → f = 0) : f_M_part Km w v ev nb (nu (X5 * l)) (de (X5 * l)) 1 Fm Bm = if ro = 1 ∧ l = 512 / d * n then zbind (f_M_note_1 Km w v ev nb 9 0 Fm Bm) (fun _ F1 B1 => some (0, F1, B1)) else f_M_part_174 Km Km 1 1 0 w v ev nb (zup3 (zup3 (fr Fm (X5 * l)) 14 0 52 (nu (X5 * l))) 14 0 53 (de (X5 * l))) Bm := by
  have hu := un_d hd
  have b3 := un_3 hu (n := n) (by first | decide | omega)
  obtain ⟨bv1, _, _, bv4, bv5⟩ := bar_v hn hd
  rw [bar5 (n := n) hd] at bv1
  have rn : r32 n := by unfold r32; omega
  have rd : r32 d := by unfold r32; omega
  have xa : ∀ y : Int, X5 * y = 1587600 * y := fun _ => rfl
  have x1 := xa l
  have x2 := xa (512 / d * n)
  obtain ⟨nz1, nz2⟩ := nu_0 (l := f) f0 (by first | decide | omega)
  have nz3 : zcmp (nu (X5 * f)) 0 = 0 ↔ f = 0 := by
    have b := FR_r (p := X5 * f) (by have := xa f; omega)
    have c := b.2.2.1
    rw [zcmp_0]
    constructor
    · intro h; exact nz1.mp (zcmp_m.mpr (by first | decide | omega))
    · intro h; have := zcmp_m.mp (nz1.mpr h); omega
  have e146 : f_M_part_146 Km 1 1 0 w v ev nb (nu (X5 * l)) (de (X5 * l)) Fm Bm = f_M_part_174 Km Km 1 1 0 w v ev nb (zup3 (zup3 (fr Fm (X5 * l)) 14 0 52 (nu (X5 * l))) 14 0 53 (de (X5 * l))) Bm := by
    unfold f_M_part_146
    rw [L_timesR (r := X5 * l) hKm (FR_r (by first | decide | omega)) (by first | decide | omega) (by decide) (by decide) (by decide) (by decide) (by first | decide | omega) rfl, zb_s, fr_0, fr_1]
  have e87 : f_M_part_87 Km 1 0 ro w v ev nb (nu (X5 * l)) (de (X5 * l)) 1 1 Fm Bm = if ro = 1 ∧ l = 512 / d * n then zbind (f_M_note_1 Km w v ev nb 9 0 Fm Bm) (fun _ F1 B1 => some (0, F1, B1)) else f_M_part_174 Km Km 1 1 0 w v ev nb (zup3 (zup3 (fr Fm (X5 * l)) 14 0 52 (nu (X5 * l))) 14 0 53 (de (X5 * l))) Bm := by
    unfold f_M_part_87
    rw [e146]
    rcases (EK_b hE).1 with z | z
    · rw [z, if_pos (by decide), if_pos rfl, if_neg (show ¬ ((0 : Int) = 1 ∧ l = 512 / d * n) from fun h => absurd h.1 (by decide))]
    · rw [z, if_pos (by decide), if_neg (by decide), if_pos (by decide), if_pos rfl, if_pos (by decide), if_neg (by decide), h54, if_pos nz2]
      by_cases y : f = 0
      · rw [if_pos (nz3.mpr y), if_pos w0, m4, m5, if_pos rn, if_pos rd, L_cmpR (by first | decide | omega) (FR_r (by first | decide | omega)) bv1 (by first | decide | omega) (by first | decide | omega), zb_s]
        by_cases c : l = 512 / d * n
        · rw [if_neg (show ¬ X5 * l < X5 * (512 / d * n) by rw [c]; omega), if_pos (show X5 * l = X5 * (512 / d * n) by rw [c]), if_pos (by decide), if_pos rfl, if_pos (show (1 : Int) = 1 ∧ l = 512 / d * n from ⟨rfl, c⟩)]
        · rw [if_neg (show ¬ ((1 : Int) = 1 ∧ l = 512 / d * n) from fun h => c h.2)]
          by_cases c2 : X5 * l < X5 * (512 / d * n)
          · rw [if_pos c2, if_pos (show r32 (-1) by decide), if_neg (show ¬ (-1 : Int) = 0 by decide), e146]
          · rw [if_neg c2, if_neg (show ¬ X5 * l = X5 * (512 / d * n) by omega), if_pos (show r32 1 by decide), if_neg (show ¬ (1 : Int) = 0 by decide), e146]
      · rw [if_neg (fun h => y (nz3.mp h)), if_neg (show ¬ ((1 : Int) = 1 ∧ l = 512 / d * n) from fun h => y (hfl h.2))]
  have e48 : ∀ l10, f_M_part_48 Km ro l10 w v ev nb (nu (X5 * l)) (de (X5 * l)) 1 Fm Bm = f_M_part_87 Km 1 0 ro w v ev nb (nu (X5 * l)) (de (X5 * l)) 1 1 Fm Bm := fun l10 => by
    unfold f_M_part_48 f_M_part_49
    rw [if_pos (by decide), if_pos rfl, f_M_part_68, if_pos (by decide), if_pos rfl]
  rw [← e87]
  unfold f_M_part f_M_part_23
  rcases hE with ⟨h1, h2⟩ | ⟨i, h1, h2, h3, h4', h5, h6, h7, h8, h9⟩
  · rw [h2] at e48 ⊢
    rw [h1] at e48 ⊢
    rw [if_pos (show r32 (-1) by decide), if_pos (by decide), f_M_part_28, if_pos (show r32 (-1) by decide), if_pos (by decide), e48]
  · have e28 : f_M_part_28 Km (1000 * v + ev) w v ev nb (nu (X5 * l)) (de (X5 * l)) 1 ro Fm Bm = f_M_part_87 Km 1 0 ro w v ev nb (nu (X5 * l)) (de (X5 * l)) 1 1 Fm Bm := by
      unfold f_M_part_28
      rw [h1] at e48 ⊢
      rw [if_pos (by unfold r32; omega), if_neg (by first | decide | omega), if_pos w0, if_pos (by first | decide | omega), h6, if_pos (by decide), if_pos (by decide), e48]
    rw [if_pos (by unfold r32; omega), if_neg (by first | decide | omega), if_pos w0, if_pos (by first | decide | omega)]
    rw [show Bm 13 w 21 (1000 * v + ev) = F 1 (B 4 q 5 i) 10 by rw [h1, h7], if_pos (by unfold r32; omega)]
    by_cases z : F 1 (B 4 q 5 i) 10 = 0
    · rw [if_pos z] at h9
      rw [if_pos z, ← e28, h9]
    · rw [if_neg z] at h9
      rw [if_neg z, ← e28, h9]
end
end
section
section
/-! ===== an event cut at the bars and written, both sides ===== -/
theorem m4_m {a b : Int} (ha : a % 4 = 0) (hb : b % 4 = 0) : (a % b) % 4 = 0 ∧ ((a / b + 1) * b) % 4 = 0 := by
  obtain ⟨b', rfl⟩ : ∃ b', b = 4 * b' := ⟨b / 4, (by first | decide | omega)⟩
  have e1 := Int.mul_ediv_add_emod a (4 * b')
  have e2 : 4 * b' * (a / (4 * b')) = 4 * (b' * (a / (4 * b'))) := by ac_rfl
  have e3 : (a / (4 * b') + 1) * (4 * b') = 4 * ((a / (4 * b') + 1) * b') := by ac_rfl
  rw [e2] at e1
  rw [e3]
  generalize b' * (a / (4 * b')) = x at e1
  generalize (a / (4 * b') + 1) * b' = y
  omega
theorem cuE_4 {b a t : Int} (ha : a % 4 = 0) (hb : b % 4 = 0) (ht : t % 4 = 0) : cuE b a t % 4 = 0 := by
  unfold cuE
  split
  · exact (m4_m ha hb).2
  · exact ht
theorem cuE_n {b a t : Int} {r : Nat} (b0 : 0 < b) (h : t ≤ (a / b + ((r + 1 : Nat) : Int)) * b) : cuE b a t = t ∨ t ≤ (cuE b a t / b + (r : Int)) * b := by
  unfold cuE
  by_cases c : (a / b + 1) * b < t
  · rw [if_pos c, Int.mul_ediv_cancel _ (by first | decide | omega)]
    right
    rw [show a / b + 1 + (r : Int) = a / b + ((r + 1 : Nat) : Int) by omega]
    exact h
  · rw [if_neg c]; exact Or.inl rfl
theorem C_cend {K : zK} {n1 : Nat} {q p ev cnt t b : Int} {F : zF} {B : zB} (c0 : 0 ≤ cnt ∧ cnt ≤ 100) (t0 : 0 ≤ t) (t1 : t ≤ 307200) : f_Part_cut_18 K (n1 + 1) cnt (X5 * t) (X5 * t) b q p ev F B = some (0, F, B) := by
  have x1 : X5 * t = 1587600 * t := rfl
  rw [f_Part_cut_18, if_pos (show r32 cnt by unfold r32; omega), if_neg (show ¬ 100 < cnt by omega), if_pos (show r64 (X5 * t) by unfold r64; omega), if_pos (show r64 (X5 * t) by unfold r64; omega), if_pos (show 0 ≤ zcmp (X5 * t) (X5 * t) by rw [zcmp_0.mpr rfl]; decide), f_Part_cut_175]
theorem L_pend {K n2 : Nat} {v w ev y1 y2 : Int} {F : zF} {B : zB} : f_M_pieces_16 K (n2 + 1) (de (X5 * 0)) (nu (X5 * 0)) y1 y2 w v ev 1 F B = some (0, F, B) := by
  obtain ⟨z1, z2⟩ := nu_L (l := 0) (by decide) (by decide)
  rw [f_M_pieces_16, if_pos z2, if_pos (z1.mpr rfl), f_M_pieces_215]
theorem C_cutX {K : zK} {m : Nat} {q p v w n d ev ro t : Int} {B Bm : zB} (hK : 3002 ≤ K.1) (h4 : 0 ≤ q ∧ q < K.2 4) (hp : 0 ≤ p ∧ p < K.2 6) (v0 : 0 ≤ v ∧ v < 4) (w0 : 0 ≤ w ∧ w < 3) (hn : 1 ≤ n ∧ n ≤ 12) (hd : d = 2 ∨ d = 4 ∨ d = 8 ∨ d = 16) (t1 : t ≤ 307200) : ∀ (r n1 : Nat) {cnt a : Int} {F : zF}, 0 ≤ a → a ≤ t → (a = t ∨ t ≤ (a / (512 / d * n) + r) * (512 / d * n)) → 0 ≤ cnt → cnt + r ≤ 100 → r < n1 → F 6 p 4 = n → F 6 p 5 = d → EK K q v w m ev ro F B Bm → NX q v w F Bm → ∃ F', f_Part_cut_18 K n1 cnt (X5 * t) (X5 * a) (X5 * (512 / d * n)) q p ev F B = some (0, F', B) ∧ nF q F F' ∧ NX q v w F' Bm := by
  have hu := un_d hd
  have b3 := un_3 hu (n := n) (by first | decide | omega)
  have b4 := un_4 hu (n := n) (by first | decide | omega)
  intro r
  induction r with
  | zero =>
    intro n1 cnt a F a0 at' ha c0 cr hn1 e4 e5 hE hX
    obtain ⟨n1, rfl⟩ : ∃ k, n1 = k + 1 := ⟨n1 - 1, (by first | decide | omega)⟩
    have : a = t := by
      rcases ha with h | h
      · exact h
      · have := Int.ediv_mul_le a (show 512 / d * n ≠ 0 by omega)
        rw [show (((0 : Nat) : Int)) = 0 from rfl, Int.add_zero] at h
        omega
    rw [this]
    exact ⟨F, C_cend (by first | decide | omega) (by first | decide | omega) t1, fun _ _ _ _ => rfl, hX⟩
  | succ r ih =>
    intro n1 cnt a F a0 at' ha c0 cr hn1 e4 e5 hE hX
    obtain ⟨n1, rfl⟩ : ∃ k, n1 = k + 1 := ⟨n1 - 1, (by first | decide | omega)⟩
    by_cases ae : a = t
    · rw [ae]
      exact ⟨F, C_cend (by first | decide | omega) (by first | decide | omega) t1, fun _ _ _ _ => rfl, hX⟩
    have alt : a < t := by omega
    obtain ⟨k1, k2, k3, k4, k5⟩ := cuE_b (b := 512 / d * n) (a := a) (t := t) (by first | decide | omega) a0 alt
    have nx := cuE_n (b := 512 / d * n) (a := a) (t := t) (r := r) (by first | decide | omega) (ha.resolve_left ae)
    have e2 := Int.emod_nonneg a (show 512 / d * n ≠ 0 by omega)
    rw [C_cstep h4 hp hn hd e4 e5 hE (by first | decide | omega) a0 alt t1]
    by_cases y : ro = 1 ∧ cuE (512 / d * n) a t - a = 512 / d * n
    · rw [if_pos y]
      have ad : f_Part_addNote K q ev (a / (512 / d * n)) 0 29 F B = some (0, zup3 F 4 q 11 1, B) := by
        unfold f_Part_addNote
        rw [if_pos h4, hX.1, if_pos (by decide), if_neg (by decide)]
      have nf : nF q F (zup3 F 4 q 11 1) := fun c y k h => by rw [zup3_v, if_neg (by first | decide | omega)]
      have nx' : NX q v w (zup3 F 4 q 11 1) Bm := ⟨by rw [zup3_v, if_neg (by first | decide | omega)]; exact hX.1, by rw [zup3_v, if_pos (by first | decide | omega)], hX.2.2⟩
      rw [ad, zb_s]
      obtain ⟨F', g1, g2, g3⟩ := ih n1 (cnt := cnt + 1) (a := cuE (512 / d * n) a t) (F := zup3 F 4 q 11 1) (by first | decide | omega) k2 nx (by first | decide | omega) (by first | decide | omega) (by first | decide | omega) (by rw [nf 6 p 4 (by first | decide | omega)]; exact e4) (by rw [nf 6 p 5 (by first | decide | omega)]; exact e5) (EK_f hE nf (fun _ _ _ _ _ => rfl) (fun _ _ _ _ _ _ => rfl)) nx'
      exact ⟨F', g1, nF_t nf g2, g3⟩
    · rw [if_neg y]
      obtain ⟨k, hk⟩ : ∃ k, K.1 = k + 1 := ⟨K.1 - 1, (by first | decide | omega)⟩
      have w43 := (P_wX (K := K) (Km := 1) (m := m) (n1 := k) (n2 := 0) (p := p) (l := cuE (512 / d * n) a t - a) (f := a % (512 / d * n)) (cnt := 0) (nb := a / (512 / d * n)) (ev := ev) (dn := 1) (up := 1) (wi := 0) (F := F) (B := B) (Fm := fun _ _ _ => 0) (Bm := Bm) h4 v0 w0 (by decide) (by decide) (by unfold r32; omega) hX).1
      rw [← hk] at w43
      rw [w43, zb_s]
      exact ih n1 (cnt := cnt + 1) (a := cuE (512 / d * n) a t) (F := F) (by first | decide | omega) k2 nx (by first | decide | omega) (by first | decide | omega) (by first | decide | omega) e4 e5 hE hX
theorem P_cutP {K : zK} {Km m : Nat} {Z : Int → Int → Prop} {q p v w n d ev ro t : Int} (hK : 3002 ≤ K.1) (hKm : 70000000000 < Km) (h4 : 0 ≤ q ∧ q < K.2 4) (hp : 0 ≤ p ∧ p < K.2 6) (v0 : 0 ≤ v ∧ v < 4) (w0 : 0 ≤ w ∧ w < 3) (hn : 1 ≤ n ∧ n ≤ 12) (hd : d = 2 ∨ d = 4 ∨ d = 8 ∨ d = 16) (t1 : t ≤ 100 * (512 / d * n)) (t4 : t % 4 = 0) (hZ : ∀ nb y, 0 ≤ nb → 0 ≤ y → y < 512 / d * n → nb * (512 / d * n) + y < t → Z nb (X5 * y)) : ∀ (r n1 n2 : Nat) {cnt a : Int} {F : zF} {B : zB} {Fm : zF} {Bm : zB} {Q : Prop}, 0 ≤ a → a ≤ t → a % 4 = 0 → (a = t ∨ t ≤ (a / (512 / d * n) + r) * (512 / d * n)) → 0 ≤ cnt → cnt + r ≤ 100 → r < n1 → r < n2 → F 6 p 4 = n → F 6 p 5 = d → Fm 13 w 4 = n → Fm 13 w 5 = d → EK K q v w m ev ro F B Bm → (∃ c, NW q v w m Z c F B Bm ∧ LPe q ev Q (a / (512 / d * n)) (X5 * (a % (512 / d * n))) B c) ∨ NX q v w F Bm → zP (f_Part_cut_18 K n1 cnt (X5 * t) (X5 * a) (X5 * (512 / d * n)) q p ev F B) (f_M_pieces_16 Km n2 (de (X5 * (t - a))) (nu (X5 * (t - a))) (de (X5 * a)) (nu (X5 * a)) w v ev 1 Fm Bm) (fun _ F' B' _ Fm' Bm' => NO q v w m Z ev (Q ∨ a < t) (t / (512 / d * n)) (X5 * (t % (512 / d * n))) F B Fm Bm F' B' Fm' Bm') := by
  have hu := un_d hd
  have b3 := un_3 hu (n := n) (by first | decide | omega)
  have b4 := un_4 hu (n := n) (by first | decide | omega)
  have b44 : (512 / d * n) % 4 = 0 := by
    obtain ⟨y, hy⟩ := u_32 (n := n) hu
    omega
  have xa : ∀ y : Int, X5 * y = 1587600 * y := fun _ => rfl
  have fin : ∀ (n1 n2 : Nat) {cnt a : Int} {F : zF} {B : zB} {Fm : zF} {Bm : zB} {Q : Prop}, a = t → 0 ≤ a → 0 ≤ cnt → cnt ≤ 100 → (∃ c, NW q v w m Z c F B Bm ∧ LPe q ev Q (a / (512 / d * n)) (X5 * (a % (512 / d * n))) B c) ∨ NX q v w F Bm → zP (f_Part_cut_18 K (n1 + 1) cnt (X5 * t) (X5 * a) (X5 * (512 / d * n)) q p ev F B) (f_M_pieces_16 Km (n2 + 1) (de (X5 * (t - a))) (nu (X5 * (t - a))) (de (X5 * a)) (nu (X5 * a)) w v ev 1 Fm Bm) (fun _ F' B' _ Fm' Bm' => NO q v w m Z ev (Q ∨ a < t) (t / (512 / d * n)) (X5 * (t % (512 / d * n))) F B Fm Bm F' B' Fm' Bm') := by
    intro n1 n2 cnt a F B Fm Bm Q e a0 c0 c1 hN
    subst e
    rw [C_cend (by first | decide | omega) a0 (by first | decide | omega), Int.sub_self, L_pend]
    exact zP_s (NO_r hN (fun h => h.resolve_right (by first | decide | omega)) (Or.inr ⟨rfl, Int.le_refl _⟩))
  intro r
  induction r with
  | zero =>
    intro n1 n2 cnt a F B Fm Bm Q a0 at' a4 ha c0 cr hn1 hn2 e4 e5 m4 m5 hE hN
    obtain ⟨n1, rfl⟩ : ∃ k, n1 = k + 1 := ⟨n1 - 1, (by first | decide | omega)⟩
    obtain ⟨n2, rfl⟩ : ∃ k, n2 = k + 1 := ⟨n2 - 1, (by first | decide | omega)⟩
    refine fin n1 n2 ?_ a0 c0 (by first | decide | omega) hN
    rcases ha with h | h
    · exact h
    · have := Int.ediv_mul_le a (show 512 / d * n ≠ 0 by omega)
      rw [show (((0 : Nat) : Int)) = 0 from rfl, Int.add_zero] at h
      omega
  | succ r ih =>
    intro n1 n2 cnt a F B Fm Bm Q a0 at' a4 ha c0 cr hn1 hn2 e4 e5 m4 m5 hE hN
    obtain ⟨n1, rfl⟩ : ∃ k, n1 = k + 1 := ⟨n1 - 1, (by first | decide | omega)⟩
    obtain ⟨n2, rfl⟩ : ∃ k, n2 = k + 1 := ⟨n2 - 1, (by first | decide | omega)⟩
    by_cases ae : a = t
    · exact fin n1 n2 ae a0 c0 (by first | decide | omega) hN
    have alt : a < t := by omega
    rcases hN with ⟨c, hN, hL⟩ | hX
    case inr =>
      obtain ⟨F', g1, g2, g3⟩ := C_cutX (m := m) (ev := ev) (ro := ro) (B := B) (Bm := Bm) hK h4 hp v0 w0 hn hd (by first | decide | omega) (r + 1) (n1 + 1) (cnt := cnt) (a := a) (F := F) a0 at' ha c0 cr hn1 e4 e5 hE hX
      obtain ⟨z1, z2⟩ := nu_L (l := t - a) (by first | decide | omega) (by first | decide | omega)
      rw [g1, f_M_pieces_16, if_pos z2, if_neg (fun h => by have := z1.mp h; omega), if_pos w0, if_pos v0, hX.2.2, if_pos (by decide), if_pos (by decide), f_M_pieces_215]
      exact zP_s ⟨g2, fun _ _ _ _ _ => rfl, fun _ _ _ _ => rfl, fun _ _ _ _ _ _ => rfl, Or.inr g3⟩
    obtain ⟨k1, k2, k3, k4, k5⟩ := cuE_b (b := 512 / d * n) (a := a) (t := t) (by first | decide | omega) a0 alt
    have nx := cuE_n (b := 512 / d * n) (a := a) (t := t) (r := r) (by first | decide | omega) (ha.resolve_left ae)
    have e2 := Int.emod_nonneg a (show 512 / d * n ≠ 0 by omega)
    have c4 := cuE_4 (b := 512 / d * n) (t := t) a4 b44 t4
    have f4 := (m4_m a4 b44).1
    have q0 : 0 ≤ a / (512 / d * n) := Int.ediv_nonneg a0 (by first | decide | omega)
    have q1 : a / (512 / d * n) < 100 := Int.ediv_lt_of_lt_mul (by first | decide | omega) (by first | decide | omega)
    have eb := EK_b hE
    obtain ⟨G, g1, g2, g3, g4⟩ := L_pstep (K := Km) (n2 := n2) (ev := ev) (F := Fm) (B := Bm) (by first | decide | omega) v0 w0 hn hd m4 m5 a0 alt (by first | decide | omega) hN.2.2.2.1 hN.1
    rw [C_cstep h4 hp hn hd e4 e5 hE (by first | decide | omega) a0 alt (by first | decide | omega), g4, L_partP (Km := Km) (nb := a / (512 / d * n)) (f := a % (512 / d * n)) (Fm := G) hKm v0 w0 hn hd (by rw [g1 13 w 4 (by first | decide | omega)]; exact m4) (by rw [g1 13 w 5 (by first | decide | omega)]; exact m5) hE g2 e2 (by first | decide | omega) (show 0 < cuE (512 / d * n) a t - a by omega) (by first | decide | omega) k5]
    -- behind the piece
    have rest : ∀ (F1 : zF) (B1 : zB) (Fm1 : zF) (Bm1 : zB), NO q v w m Z ev True (cuE (512 / d * n) a t / (512 / d * n)) (X5 * (cuE (512 / d * n) a t % (512 / d * n))) F B Fm Bm F1 B1 Fm1 Bm1 → zP (f_Part_cut_18 K n1 (cnt + 1) (X5 * t) (X5 * cuE (512 / d * n) a t) (X5 * (512 / d * n)) q p ev F1 B1) (f_M_pieces_16 Km n2 (de (X5 * (t - cuE (512 / d * n) a t))) (nu (X5 * (t - cuE (512 / d * n) a t))) (de (X5 * cuE (512 / d * n) a t)) (nu (X5 * cuE (512 / d * n) a t)) w v ev 1 (fr (fr Fm1 (X5 * cuE (512 / d * n) a t)) (X5 * (t - cuE (512 / d * n) a t))) Bm1) (fun _ F' B' _ Fm' Bm' => NO q v w m Z ev (Q ∨ a < t) (t / (512 / d * n)) (X5 * (t % (512 / d * n))) F B Fm Bm F' B' Fm' Bm') := by
      intro F1 B1 Fm1 Bm1 ⟨o1, o2, o3, o4, o5⟩
      have o3' : nG Fm (fr (fr Fm1 (X5 * cuE (512 / d * n) a t)) (X5 * (t - cuE (512 / d * n) a t))) := nG_t o3 (fun c y k h => by rw [fr_n (by first | decide | omega), fr_n (by first | decide | omega)])
      refine zP_m (ih n1 n2 (cnt := cnt + 1) (a := cuE (512 / d * n) a t) (by first | decide | omega) k2 c4 nx (by first | decide | omega) (by first | decide | omega) (by first | decide | omega) (by first | decide | omega) (by rw [o1 6 p 4 (by first | decide | omega)]; exact e4) (by rw [o1 6 p 5 (by first | decide | omega)]; exact e5) (by rw [o3' 13 w 4 (by first | decide | omega)]; exact m4) (by rw [o3' 13 w 5 (by first | decide | omega)]; exact m5) (EK_f hE o1 o2 o4) o5) ?_
      intro _ F2 B2 _ Fm2 Bm2 h
      exact NO_t o1 o2 o3' o4 (NO_m h (fun _ => Or.inl trivial) (Or.inr ⟨rfl, Int.le_refl _⟩))
    by_cases y : ro = 1 ∧ cuE (512 / d * n) a t - a = 512 / d * n
    · rw [if_pos y, if_pos y]
      have fz := k5 y.2
      rw [fz, show X5 * 0 = 0 by decide] at g2 g3 hL
      have hq : a / (512 / d * n) < cuE (512 / d * n) a t / (512 / d * n) := by
        rw [show cuE (512 / d * n) a t = a + 1 * (512 / d * n) by omega, Int.add_mul_ediv_right _ _ (show 512 / d * n ≠ 0 by omega)]
        omega
      obtain ⟨F1, B1, M1, a1, a2, a3, a4', a5, a6⟩ := P_add (K := K) (Km := Km) (ev := ev) (bar := a / (512 / d * n)) (pl := 0) (val := 29) (fo := 9) (po := 0) (Fm := G) h4 v0 w0 eb.2.1 (by first | decide | omega) (by decide) (by decide) (by decide) (by decide) g2 g3 (hZ (a / (512 / d * n)) 0 q0 (by decide) (by first | decide | omega) (by have := Int.ediv_mul_le a (show 512 / d * n ≠ 0 by omega); omega)) hN
      rw [a1, a2, zb_s, zb_s, zb_s]
      refine rest F1 B1 G M1 ⟨a3, a4', g1, a5, ?_⟩
      rcases a6 with ⟨_, h, he, hf, h1, hg⟩ | h
      · exact Or.inl ⟨_, h, LPe_m (LPe_add (y' := 1) (Q' := True) hL hN.1.1 he hf h1 hg (by decide)) id (Or.inl hq)⟩
      · exact Or.inr h
    · rw [if_neg y, if_neg y]
      have gx : ∀ c y k, ¬ (c = 14 ∧ y = 0 ∧ (k ≤ 1 ∨ k = 52 ∨ k = 53)) → zup3 (zup3 (fr G (X5 * (cuE (512 / d * n) a t - a))) 14 0 52 (nu (X5 * (cuE (512 / d * n) a t - a)))) 14 0 53 (de (X5 * (cuE (512 / d * n) a t - a))) c y k = G c y k := fun c y k h => by rw [zup3_v, if_neg (by first | decide | omega), zup3_v, if_neg (by first | decide | omega), fr_n (by first | decide | omega)]
      have g52 : zup3 (zup3 (fr G (X5 * (cuE (512 / d * n) a t - a))) 14 0 52 (nu (X5 * (cuE (512 / d * n) a t - a)))) 14 0 53 (de (X5 * (cuE (512 / d * n) a t - a))) 14 0 52 = nu (X5 * (cuE (512 / d * n) a t - a)) := by rw [zup3_v, if_neg (by first | decide | omega), zup3_v, if_pos (by first | decide | omega)]
      have g53 : zup3 (zup3 (fr G (X5 * (cuE (512 / d * n) a t - a))) 14 0 52 (nu (X5 * (cuE (512 / d * n) a t - a)))) 14 0 53 (de (X5 * (cuE (512 / d * n) a t - a))) 14 0 53 = de (X5 * (cuE (512 / d * n) a t - a)) := by rw [zup3_v, if_pos (by first | decide | omega)]
      generalize zup3 (zup3 (fr G (X5 * (cuE (512 / d * n) a t - a))) 14 0 52 (nu (X5 * (cuE (512 / d * n) a t - a)))) 14 0 53 (de (X5 * (cuE (512 / d * n) a t - a))) = G2 at gx g52 g53 ⊢
      have gg : nG Fm G2 := nG_t g1 (fun c y k h => gx c y k (by first | decide | omega))
      refine zP_c (P_cutL (K := K) (Km := Km) (m := m) (q := q) (p := p) (v := v) (w := w) (n := n) (d := d) (nb := a / (512 / d * n)) (ev := ev) (U := a % (512 / d * n) + (cuE (512 / d * n) a t - a)) hK hKm h4 hp v0 w0 hn hd (by first | decide | omega) eb.2.1 (by first | decide | omega) (fun y y0 y1 => hZ _ y q0 y0 (by first | decide | omega) (by have := Int.ediv_mul_add_emod a (512 / d * n); omega)) 768 K.1 Km (l := cuE (512 / d * n) a t - a) (f := a % (512 / d * n)) (cnt := 0) (F := F) (B := B) (Fm := G2) (Bm := Bm) (by first | decide | omega) (by first | decide | omega) (by first | decide | omega) f4 e2 (by first | decide | omega) (by decide) (by first | decide | omega) (by first | decide | omega) (by first | decide | omega) e4 e5 (by rw [gg 13 w 4 (by first | decide | omega)]; exact m4) (by rw [gg 13 w 5 (by first | decide | omega)]; exact m5) g52 g53 (by rw [gx _ _ _ (by first | decide | omega)]; exact g2) (by rw [gx _ _ _ (by first | decide | omega)]; exact g3) (Or.inl ⟨c, hN, hL⟩)) ?_
      intro _ F1 B1 _ Fm1 Bm1 h
      exact rest F1 B1 Fm1 Bm1 (NO_t (fun _ _ _ _ => rfl) (fun _ _ _ _ _ => rfl) gg (fun _ _ _ _ _ _ => rfl) (NO_m h (fun _ => Or.inr (by first | decide | omega)) ((LX_n (b := 512 / d * n) (a := a) (e := cuE (512 / d * n) a t) (by first | decide | omega) k4 (by first | decide | omega)).imp id (fun h => ⟨h.1, by rw [h.2]; exact Int.le_refl _⟩))))
end
end
section
section
/-! ===== an event in a bracket, cut and written, both sides ===== -/
theorem P_cutT {K : zK} {Km m n1 n2 i : Nat} {Z : Int → Int → Prop} {Q : Prop} {q p v w n d P : Int} {F : zF} {B : zB} {Fm : zF} {Bm : zB} (hK : 3002 ≤ K.1) (hKm : 70000000000 < Km) (h4 : 0 ≤ q ∧ q < K.2 4) (v0 : 0 ≤ v ∧ v < 4) (w0 : 0 ≤ w ∧ w < 3) (hn : 1 ≤ n ∧ n ≤ 12) (hd : d = 2 ∨ d = 4 ∨ d = 8 ∨ d = 16) (m4 : Fm 13 w 4 = n) (m5 : Fm 13 w 5 = d) (hi : i < m) (m1 : m ≤ 200) (he : 0 ≤ B 4 q 5 i ∧ B 4 q 5 i < K.2 1) (hE : EVW w (B 4 q 5 i) (1000 * v + i) F B Bm) (h5 : ¬ F 1 (B 4 q 5 i) 5 = 0) (P0 : 0 ≤ P) (P1 : P + F 1 (B 4 q 5 i) 1 ≤ 100 * barV n d) (hw : P + F 1 (B 4 q 5 i) 1 ≤ (P / barV n d + 1) * barV n d) (hZ : ∀ y, 0 ≤ y → y < P % barV n d + F 1 (B 4 q 5 i) 1 → Z (P / barV n d) y) (hN : (∃ c, NW q v w m Z c F B Bm ∧ LPe q i Q (P / barV n d) (P % barV n d) B c) ∨ NX q v w F Bm) : zP (f_Part_cut_18 K (n1 + 1 + 1) 0 (P + F 1 (B 4 q 5 i) 1) P (barV n d) q p i F B) (f_M_pieces_16 Km (n2 + 1 + 1) (de (F 1 (B 4 q 5 i) 1)) (nu (F 1 (B 4 q 5 i) 1)) (de P) (nu P) w v i 1 Fm Bm) (fun _ F' B' _ Fm' Bm' => NO q v w m Z i True ((P + F 1 (B 4 q 5 i) 1) / barV n d) ((P + F 1 (B 4 q 5 i) 1) % barV n d) F B Fm Bm F' B' Fm' Bm') := by
  obtain ⟨bv1, _, bv3, bv4, bv5⟩ := bar_v hn hd
  obtain ⟨a1, ⟨a2, a2', a2''⟩, ⟨a3, a3', a3''⟩, ⟨z, hz, hl⟩, ⟨a5, a5', a5'', a5'''⟩, a6, ⟨a7, a7', a7'', _⟩, _, _, _, _, ep⟩ := hE
  have e21 : Bm 13 w 21 (1000 * v + i) = F 1 (B 4 q 5 i) 10 ∧ (0 ≤ F 1 (B 4 q 5 i) 10 ∧ F 1 (B 4 q 5 i) 10 ≤ 6) := ⟨ep.2.1, ep.2.2.1⟩
  generalize hee : B 4 q 5 i = e at *
  generalize hg : F 1 e 1 = g at *
  generalize hvl : F 1 e 2 = vl at *
  generalize ht1 : F 1 e 3 = t1 at *
  generalize ht2 : F 1 e 4 = t2 at *
  generalize hbar : barV n d = bar at *
  have q1 := Int.mul_ediv_add_emod P bar
  have q2 := Int.emod_nonneg P (show bar ≠ 0 by omega)
  have q3 := Int.emod_lt_of_pos P bv4
  have q4 : 0 ≤ P / bar := Int.ediv_nonneg P0 (by first | decide | omega)
  have q5 : P / bar < 100 := Int.ediv_lt_of_lt_mul bv4 (by first | decide | omega)
  have q6 : (P / bar + 1) * bar = bar * (P / bar) + bar := by rw [Int.add_mul, Int.one_mul, Int.mul_comm]
  have q7 : P / bar * bar = bar * (P / bar) := Int.mul_comm _ _
  have g1 : 1 ≤ g := a5''
  -- the class: one piece
  have cE : f_Part_cut_18 K (n1 + 1 + 1) 0 (P + g) P bar q p i F B = zbind (f_Part_writeTuplet_23 K K.1 0 (vl * 4) (P % bar) e q i (P / bar) F B) (fun _ F1 B1 => some (0, F1, B1)) := by
    rw [f_Part_cut_18, if_pos (by decide), if_neg (by decide), if_pos (show r64 P by unfold r64; omega), if_pos (show r64 (P + g) by unfold r64; omega), if_neg (show ¬ 0 ≤ zcmp P (P + g) from fun h => by
      have : zcmp P (P + g) < 0 := zcmp_lt.mpr (by first | decide | omega)
      omega), if_pos (show r64 bar by unfold r64; omega), if_neg (show ¬ zcmp bar 0 ≤ 0 from fun h => by have := zcmp_m.mp h; omega), if_pos (lI_n0 bv4 (by unfold r64; omega)), zldv_e P0 (by first | decide | omega) bv4 (by first | decide | omega), if_pos (show r32 (P / bar + 1) by unfold r32; omega), if_pos (show r64 ((P / bar + 1) * bar) by unfold r64; omega), if_pos (show r32 (i : Int) by unfold r32; omega), if_neg (show ¬ (i : Int) = -1 by omega), if_pos h4, if_pos (show 0 ≤ (i : Int) ∧ (i : Int) < 200 by omega), hee, if_pos he, if_pos (show r32 (F 1 e 5) by unfold r32; omega), if_neg h5]
    have zm : zmin (P + g) ((P / bar + 1) * bar) = P + g := by unfold zmin; rw [if_neg (by first | decide | omega)]
    unfold f_Part_cut_85 f_Part_writeTuplet
    rw [zm, if_pos (show r32 1 by decide), if_neg (show ¬ (1 : Int) = 0 by decide), if_pos (show r32 (P / bar) by unfold r32; omega), if_pos h4, if_pos h4, if_pos (show 0 ≤ (i : Int) ∧ (i : Int) < 200 by omega), hee, if_pos he, hvl, show P - P / bar * bar = P % bar by omega]
    congr 1
    funext r1 F1 B1
    rw [f_Part_cut_165, f_Part_cut_18, if_pos (by decide), if_neg (by decide), if_pos (show r64 (P + g) by unfold r64; omega), if_pos (show r64 (P + g) by unfold r64; omega), if_pos (show 0 ≤ zcmp (P + g) (P + g) by rw [zcmp_0.mpr rfl]; decide), f_Part_cut_175]
  have hg2 : g * t1 = X5 * (4 * vl) * t2 := by
    rw [hl, show X5 * (4 * vl) = 6350400 * vl by unfold X5; omega, hz]
    ac_rfl
  have nuz : zcmp (nu g) 0 ≤ 0 ↔ False := by
    have h := FR_r (p := g) (by first | decide | omega)
    obtain ⟨d0, _, n0, e'⟩ := h
    rw [zcmp_m]
    refine ⟨fun h => ?_, fun h => h.elim⟩
    have : nu g = 0 := by omega
    rw [this, Int.zero_mul] at e'
    rcases Int.mul_eq_zero.mp e'.symm with y | y <;> omega
  have rnu : r64 (nu g) := by
    have := FR_b (FR_r (p := g) (by first | decide | omega))
    have := (FR_r (p := g) (by first | decide | omega)).2.2.1
    unfold r64
    omega
  rcases hN with ⟨c, hN, hL⟩ | hX
  case inr =>
    obtain ⟨k, hk⟩ : ∃ k, K.1 = k + 1 := ⟨K.1 - 1, (by first | decide | omega)⟩
    have wt := C_wtX (K := K) (n1 := k) (l := vl * 4) (at' := P % bar) (cnt := 0) (nb := P / bar) (e := e) (i := i) (F := F) (B := B) h4 (by decide) (by unfold r32; omega) hX
    rw [← hk] at wt
    rw [cE, wt, zb_s, f_M_pieces_16, if_pos rnu, if_neg (fun h => nuz.mp h), if_pos w0, if_pos v0, hX.2.2, if_pos (by decide), if_pos (by decide), f_M_pieces_215]
    exact zP_s (NO_r (Q := True) (Or.inr hX) id (Or.inr ⟨rfl, Int.le_refl _⟩))
  have rn : r32 n := by unfold r32; omega
  have rd : r32 d := by unfold r32; omega
  have f1 : FR ((P / bar + 1) * n) d ((P / bar + 1) * bar) := FR_k bv1 (by first | decide | omega)
  have f2 : FR (P / bar * n) d (P / bar * bar) := FR_k bv1 q4
  have cmp : ∀ x y : Int, r32 (if x < y then (-1 : Int) else if x = y then 0 else 1) ∧ (0 ≤ (if x < y then (-1 : Int) else if x = y then 0 else 1) ↔ y ≤ x) := fun x y => by
    by_cases z : x < y
    · rw [if_pos z]; exact ⟨by decide, (by first | decide | omega)⟩
    · rw [if_neg z]
      by_cases z' : x = y
      · rw [if_pos z']; exact ⟨by decide, (by first | decide | omega)⟩
      · rw [if_neg z']; exact ⟨by decide, (by first | decide | omega)⟩
  -- the reference: one part
  have ptE : ∀ G : zF, G 13 w 4 = n → G 13 w 5 = d → f_M_part Km w v i (P / bar) (nu g) (de g) 1 G Bm = f_M_part_174 Km Km t1 t2 1 w v i (P / bar) (zup3 (zup3 (fr G (X5 * (4 * vl))) 14 0 52 (nu (X5 * (4 * vl)))) 14 0 53 (de (X5 * (4 * vl)))) Bm := fun G g4 g5 => by
    have e146 : f_M_part_146 Km t1 t2 1 w v i (P / bar) (nu g) (de g) G Bm = f_M_part_174 Km Km t1 t2 1 w v i (P / bar) (zup3 (zup3 (fr G (X5 * (4 * vl))) 14 0 52 (nu (X5 * (4 * vl)))) 14 0 53 (de (X5 * (4 * vl)))) Bm := by
      unfold f_M_part_146
      rw [L_timesR (r := X5 * (4 * vl)) hKm (FR_r (by first | decide | omega)) (by first | decide | omega) (by first | decide | omega) (by first | decide | omega) (by first | decide | omega) (by first | decide | omega) (by unfold X5; omega) hg2, zb_s, fr_0, fr_1]
    have e28 : ∀ ro : Int, ro = 0 ∨ ro = 1 → f_M_part_28 Km (1000 * v + i) w v i (P / bar) (nu g) (de g) 1 ro G Bm = f_M_part_146 Km t1 t2 1 w v i (P / bar) (nu g) (de g) G Bm := fun ro hr => by
      unfold f_M_part_28 f_M_part_49 f_M_part_68 f_M_part_87
      rw [if_pos (show r32 (i : Int) by unfold r32; omega), if_neg (show ¬ (i : Int) < 0 by omega), if_pos w0, if_pos (show 0 ≤ 1000 * v + (i : Int) ∧ 1000 * v + (i : Int) < 4000 by omega), if_pos (show r32 (Bm 13 w 22 (1000 * v + i)) by unfold r32; omega), if_neg (show ¬ Bm 13 w 22 (1000 * v + i) ≤ 0 from fun h => h5 (a7''.mpr (by first | decide | omega))), if_pos (show r32 1 by decide), if_neg (show ¬ (1 : Int) = 0 by decide), if_pos w0, if_pos (show 0 ≤ 1000 * v + (i : Int) ∧ 1000 * v + (i : Int) < 4000 by omega), ← a3, ← a2, if_pos (show r32 t2 by unfold r32; omega), if_pos (show r32 1 by decide), if_neg (show ¬ (1 : Int) = 0 by decide), if_pos w0, if_pos (show 0 ≤ 1000 * v + (i : Int) ∧ 1000 * v + (i : Int) < 4000 by omega), if_pos (show r32 t1 by unfold r32; omega)]
      rcases hr with rfl | rfl
      · rw [if_pos (show r32 0 by decide), if_pos (show (0 : Int) = 0 from rfl)]
      · rw [if_pos (show r32 1 by decide), if_neg (show ¬ (1 : Int) = 0 by decide), if_pos (show r32 1 by decide), if_neg (show ¬ (1 : Int) = 0 by decide)]
    unfold f_M_part f_M_part_23
    rw [if_pos (show r32 (i : Int) by unfold r32; omega), if_neg (show ¬ (i : Int) < 0 by omega), if_pos w0, if_pos (show 0 ≤ 1000 * v + (i : Int) ∧ 1000 * v + (i : Int) < 4000 by omega), if_pos (show r32 (Bm 13 w 21 (1000 * v + i)) by unfold r32; omega), e28 1 (Or.inr rfl), e28 0 (Or.inl rfl), e146]
    split <;> rfl
  have mE : ∃ G, nG Fm G ∧ G 14 0 54 = nu (P % bar) ∧ G 14 0 55 = de (P % bar) ∧ f_M_pieces_16 Km (n2 + 1 + 1) (de g) (nu g) (de P) (nu P) w v i 1 Fm Bm = zbind (f_M_part Km w v i (P / bar) (nu g) (de g) 1 G Bm) (fun _ F1 B1 => some (0, fr (fr F1 (P + g)) 0, B1)) := by
    have e111 : ∀ G : zF, (∀ c y k, ¬ (c = 14 ∧ y = 0 ∧ k ≤ 1) → G c y k = Fm c y k) → f_M_pieces_111 (f_M_pieces_16 Km (n2 + 1)) Km (de g) (nu g) (P / bar) (de g) (nu g) (de P) (nu P) w v i 1 G Bm = zbind (f_M_part Km w v i (P / bar) (nu g) (de g) 1 (zup3 (zup3 (fr G (P % bar)) 14 0 54 (nu (P % bar))) 14 0 55 (de (P % bar))) Bm) (fun _ F1 B1 => some (0, fr (fr F1 (P + g)) 0, B1)) := fun G hG => by
      unfold f_M_pieces_111
      rw [if_pos w0, hG 13 w 4 (by first | decide | omega), hG 13 w 5 (by first | decide | omega), m4, m5, if_pos rn, if_pos rd, L_minusR (by first | decide | omega) (FR_r P0) f2 (by first | decide | omega) (by first | decide | omega), zb_s, if_pos (show r32 (P / bar) by unfold r32; omega), show P - P / bar * bar = P % bar by omega, fr_0, fr_1]
      congr 1
      funext r1 F1 B1
      rw [L_plusR (by first | decide | omega) (FR_r P0) (FR_r (by first | decide | omega)) (by first | decide | omega), zb_s, L_minusR (by first | decide | omega) (FR_r (by first | decide | omega)) (FR_r (by first | decide | omega)) (by first | decide | omega) (by first | decide | omega), zb_s, Int.sub_self, fr_0, fr_1]
      obtain ⟨y1, y2⟩ := nu_L (l := 0) (by decide) (by decide)
      rw [show X5 * 0 = 0 by decide] at y1 y2
      rw [f_M_pieces_16, if_pos y2, if_pos (y1.mpr rfl), f_M_pieces_215]
    refine ⟨zup3 (zup3 (fr (fr Fm ((P / bar + 1) * bar - P)) (P % bar)) 14 0 54 (nu (P % bar))) 14 0 55 (de (P % bar)), fun c y k h => by rw [zup3_v, if_neg (by first | decide | omega), zup3_v, if_neg (by first | decide | omega), fr_n (by first | decide | omega), fr_n (by first | decide | omega)], by rw [zup3_v, if_neg (by first | decide | omega), zup3_v, if_pos (by first | decide | omega)], by rw [zup3_v, if_pos (by first | decide | omega)], ?_⟩
    rw [f_M_pieces_16, if_pos rnu, if_neg (fun h => nuz.mp h), if_pos w0, if_pos v0, hN.2.2.2.1, if_pos (show r32 c by have := hN.1; unfold r32; omega), if_neg (show ¬ 800 < c by have := hN.1; omega), m4, m5, if_pos rn, if_pos rd, L_oftR (FR_r P0) bv5 (by first | decide | omega) (by first | decide | omega) (by first | decide | omega) (by first | decide | omega) bv4 (by first | decide | omega), zb_s, m4, m5, if_pos rn, if_pos rd, L_minusR (by first | decide | omega) f1 (FR_r P0) (by first | decide | omega) (by first | decide | omega), zb_s, fr_0, fr_1, L_cmpR (by first | decide | omega) (FR_r (by first | decide | omega)) (FR_r (by first | decide | omega)) (by first | decide | omega) (by first | decide | omega), zb_s, if_pos (cmp _ _).1]
    by_cases y : (P / bar + 1) * bar - P ≤ g
    · rw [if_pos ((cmp _ _).2.mpr y)]
      have := e111 (fr Fm ((P / bar + 1) * bar - P)) (fun c y k h => fr_n h)
      rw [show (P / bar + 1) * bar - P = g by omega] at this ⊢
      exact this
    · rw [if_neg (fun h => y ((cmp _ _).2.mp h))]
      exact e111 (fr Fm ((P / bar + 1) * bar - P)) (fun c y k h => fr_n h)
  obtain ⟨G, g1', g2', g3', g4'⟩ := mE
  have G4 : G 13 w 4 = n := by rw [g1' 13 w 4 (by first | decide | omega)]; exact m4
  have G5 : G 13 w 5 = d := by rw [g1' 13 w 5 (by first | decide | omega)]; exact m5
  rw [cE, g4', ptE G G4 G5]
  have gx : ∀ c y k, ¬ (c = 14 ∧ y = 0 ∧ (k ≤ 1 ∨ k = 52 ∨ k = 53)) → zup3 (zup3 (fr G (X5 * (4 * vl))) 14 0 52 (nu (X5 * (4 * vl)))) 14 0 53 (de (X5 * (4 * vl))) c y k = G c y k := fun c y k h => by rw [zup3_v, if_neg (by first | decide | omega), zup3_v, if_neg (by first | decide | omega), fr_n (by first | decide | omega)]
  have g52 : zup3 (zup3 (fr G (X5 * (4 * vl))) 14 0 52 (nu (X5 * (4 * vl)))) 14 0 53 (de (X5 * (4 * vl))) 14 0 52 = nu (X5 * (4 * vl)) := by rw [zup3_v, if_neg (by first | decide | omega), zup3_v, if_pos (by first | decide | omega)]
  have g53 : zup3 (zup3 (fr G (X5 * (4 * vl))) 14 0 52 (nu (X5 * (4 * vl)))) 14 0 53 (de (X5 * (4 * vl))) 14 0 53 = de (X5 * (4 * vl)) := by rw [zup3_v, if_pos (by first | decide | omega)]
  generalize zup3 (zup3 (fr G (X5 * (4 * vl))) 14 0 52 (nu (X5 * (4 * vl)))) 14 0 53 (de (X5 * (4 * vl))) = G2 at gx g52 g53 ⊢
  have gg : nG Fm G2 := nG_t g1' (fun c y k h => gx c y k (by first | decide | omega))
  rw [show vl * 4 = 4 * vl by omega]
  have zz : z * (4 * vl / 4) * t2 = g := by rw [show 4 * vl / 4 = vl by omega]; exact hl.symm
  refine zP_c (P_tupL (K := K) (Km := Km) (m := m) (q := q) (v := v) (w := w) (nb := P / bar) (ev := i) (e := e) (t1 := t1) (t2 := t2) (z := z) (A := P % bar + g) (n := n) (d := d) hK hKm h4 v0 w0 hn hd (by first | decide | omega) (by first | decide | omega) he (by first | decide | omega) (by first | decide | omega) hz (by first | decide | omega) hZ 1024 K.1 Km (l := 4 * vl) (at' := P % bar) (cnt := 0) (F := F) (B := B) (Fm := G2) (Bm := Bm) (by first | decide | omega) (by first | decide | omega) (by first | decide | omega) (by first | decide | omega) q2 (by rw [zz]) (by decide) (by decide) (by first | decide | omega) (by first | decide | omega) (by first | decide | omega) ht1 ht2 (by rw [gg 13 w 4 (by first | decide | omega)]; exact m4) (by rw [gg 13 w 5 (by first | decide | omega)]; exact m5) g52 g53 (by rw [gx _ _ _ (by first | decide | omega)]; exact g2') (by rw [gx _ _ _ (by first | decide | omega)]; exact g3') (Or.inl ⟨c, hN, hL⟩)) ?_
  intro _ F1 B1 _ Fm1 Bm1 h
  obtain ⟨o1, o2, o3, o4, o5⟩ := h
  exact zP_s ⟨o1, o2, nG_t gg (nG_t o3 (fun c y k h => by rw [fr_n (by first | decide | omega), fr_n (by first | decide | omega)])), o4, o5.imp (fun ⟨c, x, y⟩ => ⟨c, x, LPe_m y (fun _ => Or.inr (by first | decide | omega)) ((LX_n (b := bar) (a := P) (e := P + g) bv4 (by first | decide | omega) (by first | decide | omega)).imp id (fun h => ⟨h.1, (by first | decide | omega)⟩))⟩) id⟩
end
end
section
section
/-! ===== a voice's notes, both sides ===== -/
theorem JS_n {K : zK} {q v w bar : Int} {m : Nat} {g : Int → Int} {F F' : zF} {B B' : zB} {Fm Fm' : zF} {Bm Bm' : zB} (h : JS K q v w m bar g F B Fm Bm) (f : nF q F F') (b : nB q B B') (fm : ∀ k, k = 36 ∨ k = 35 ∨ k = 6 → Fm' 14 0 k = Fm 14 0 k) (bm : nM' v w Bm Bm') : JS K q v w m bar g F' B' Fm' Bm' := by
  obtain ⟨a1, a2, a3, a4, a5⟩ := h
  refine ⟨by rw [f 4 q 6 (by first | decide | omega), fm 36 (by first | decide | omega), fm 35 (by first | decide | omega), fm 6 (by first | decide | omega)]; exact a1, a2, a3, fun i hi => ?_, fun t t0 t1 => by rw [b 4 q 5 t (by first | decide | omega)]; exact a5 t t0 t1⟩
  obtain ⟨d1, d2, d3, d4, d5⟩ := a4 i hi
  rw [b 4 q 5 i (by first | decide | omega), f 1 _ 0 (by first | decide | omega), f 1 _ 1 (by first | decide | omega), bm 13 w 14 _ (by first | decide | omega) (by first | decide | omega), bm 13 w 15 _ (by first | decide | omega) (by first | decide | omega)]
  exact ⟨EVW_h d1 (fun k _ _ => f 1 _ k (by first | decide | omega)) (fun k y => b 1 _ k y (by first | decide | omega)) (fun k h h' => bm 13 w k _ (by first | decide | omega) (by first | decide | omega)) (fun k y h h' _ _ => bm 13 w k y (by first | decide | omega) (by first | decide | omega)) (fun y => bm 14 0 8 y (by first | decide | omega) (by first | decide | omega)), d2, d3, d4, d5⟩
def nH (w : Int) (F F' : zF) : Prop := ∀ c y k, ¬ (c = 14 ∧ y = 0 ∧ (k ≤ 1 ∨ 52 ≤ k ∧ k ≤ 57)) → ¬ (c = 13 ∧ y = w ∧ k = 7) → F' c y k = F c y k
theorem nH_t {w : Int} {F F1 F2 : zF} (h : nH w F F1) (h' : nH w F1 F2) : nH w F F2 := fun c y k n n' => by rw [h' c y k n n', h c y k n n']
theorem nH_g {w : Int} {F F' : zF} (h : nG F F') : nH w F F' := fun c y k n _ => h c y k n
/-- places outside brackets are whole 128ths, and a bracket keeps within its bar -/
def BW (q : Int) (m : Nat) (bar : Int) (g : Int → Int) (F : zF) (B : zB) : Prop := (∀ i : Nat, i ≤ m → (i = m ∨ F 1 (B 4 q 5 i) 5 = 0) → sumZ g i % 6350400 = 0) ∧ (∀ i : Nat, i < m → F 1 (B 4 q 5 i) 5 = 0 → g i % 6350400 = 0) ∧ (∀ i : Nat, i < m → ¬ F 1 (B 4 q 5 i) 5 = 0 → sumZ g (i + 1) ≤ (sumZ g i / bar + 1) * bar) ∧ (∀ i : Nat, i < m → TIk q m F B i)
theorem BW_n {q bar : Int} {m : Nat} {g : Int → Int} {F F' : zF} {B B' : zB} (h : BW q m bar g F B) (f : nF q F F') (b : nB q B B') : BW q m bar g F' B' := by
  have e : ∀ i : Nat, F' 1 (B' 4 q 5 i) 5 = F 1 (B 4 q 5 i) 5 := fun i => by rw [b 4 q 5 i (by first | decide | omega), f 1 _ 5 (by first | decide | omega)]
  have e7 : ∀ i : Nat, F' 1 (B' 4 q 5 i) 7 = F 1 (B 4 q 5 i) 7 := fun i => by rw [b 4 q 5 i (by first | decide | omega), f 1 _ 7 (by first | decide | omega)]
  unfold BW TIk at h ⊢
  simp only [e, e7]
  exact h
/-- how many bars reach to S -/
def clB (S bar : Int) : Int := if S % bar = 0 then S / bar else S / bar + 1
theorem X5_dm {n d a P : Int} (hd : d = 2 ∨ d = 4 ∨ d = 8 ∨ d = 16) (h : P = X5 * a) : P / barV n d = a / (512 / d * n) ∧ P % barV n d = X5 * (a % (512 / d * n)) := by
  have b5 := bar5 (n := n) hd
  have dv : P / barV n d = a / (512 / d * n) := by rw [h, b5, X5_d]
  have h1 := Int.ediv_mul_add_emod P (barV n d)
  have h2 := Int.ediv_mul_add_emod a (512 / d * n)
  have h3 : a / (512 / d * n) * barV n d = X5 * (a / (512 / d * n) * (512 / d * n)) := by rw [b5]; ac_rfl
  have h4 : X5 * (a / (512 / d * n) * (512 / d * n)) = 1587600 * (a / (512 / d * n) * (512 / d * n)) := rfl
  have h5 : X5 * (a % (512 / d * n)) = 1587600 * (a % (512 / d * n)) := rfl
  have h6 : X5 * a = 1587600 * a := rfl
  rw [dv] at h1
  exact ⟨dv, (by first | decide | omega)⟩
/-- where a note may stand -/
def ZG (Z : Int → Int → Prop) (T E : Int) : Prop := ∀ nb y, 0 ≤ nb → nb < E → 0 ≤ y → y < T → Z nb y
def NR (K : zK) (q v w : Int) (m : Nat) (Z : Int → Int → Prop) (F : zF) (B : zB) (Fm : zF) (Bm : zB) (r : Int) (F' : zF) (B' : zB) (Fm' : zF) (Bm' : zB) : Prop := nF q F F' ∧ nB q B B' ∧ nH w Fm Fm' ∧ nM' v w Bm Bm' ∧ ((NW q v w m Z r F' B' Bm' ∧ Fm' 13 w 7 = clB (F' 4 q 7) (barV (Fm' 13 w 4) (Fm' 13 w 5)) ∧ EO q B' r) ∨ (r = 801 ∧ NX q v w F' Bm'))
theorem P_wend {K : zK} {Km m : Nat} {Z : Int → Int → Prop} {q p v w n d Pk : Int} {g : Int → Int} {F : zF} {B : zB} {Fm : zF} {Bm : zB} (hK : 3002 ≤ K.1) (hKm : 70000000000 < Km) (h4 : 0 ≤ q ∧ q < K.2 4) (hp : 0 ≤ p ∧ p < K.2 6) (v0 : 0 ≤ v ∧ v < 4) (w0 : 0 ≤ w ∧ w < 3) (hn : 1 ≤ n ∧ n ≤ 12) (hd : d = 2 ∨ d = 4 ∨ d = 8 ∨ d = 16) (e4 : F 6 p 4 = n) (e5 : F 6 p 5 = d) (m4 : Fm 13 w 4 = n) (m5 : Fm 13 w 5 = d) (h7 : F 4 q 7 = sumZ g m) (hs0 : 0 ≤ sumZ g m) (hs1 : sumZ g m ≤ 100 * barV n d) (hs6 : sumZ g m % 6350400 = 0) (k0 : 0 ≤ Pk) (k1 : Pk ≤ 100 * barV n d) (hZ : ZG Z (barV n d) (clB (sumZ g m) (barV n d))) (hN : ((∃ c, NW q v w m Z c F B Bm ∧ EO q B c ∧ (0 < c → LX (B 4 q 361 (c - 1)) (B 4 q 9 (c - 1)) (Pk / barV n d) (Pk % barV n d))) ∧ Pk = sumZ g m) ∨ NX q v w F Bm) : ∃ F' B' Fm' Bm' r, f_Part_writeNotes_57 K q p F B = f_Part_writeNotes_101 K q p F' B' ∧ f_M_notes_150 Km (de Pk) (nu Pk) w v 1 Fm Bm = some (r, Fm', Bm') ∧ NR K q v w m Z F B Fm Bm r F' B' Fm' Bm' := by
  have hu := un_d hd
  have b3 := un_3 hu (n := n) (by first | decide | omega)
  have b4 := un_4 hu (n := n) (by first | decide | omega)
  obtain ⟨bv1, _, bv3, bv4, bv5⟩ := bar_v hn hd
  have b5 := bar5 (n := n) hd
  have b44 : (512 / d * n) % 4 = 0 := by
    obtain ⟨y, hy⟩ := u_32 (n := n) hu
    omega
  have rn : r32 n := by clear hN; unfold r32; omega
  have rd : r32 d := by clear hN; unfold r32; omega
  have xa : ∀ y : Int, X5 * y = 1587600 * y := fun _ => rfl
  generalize hS : sumZ g m = S at *
  -- the class
  have cb := C_bar (F := F) (B := B) hp e4 e5 hn hd
  have o1 := Int.emod_nonneg S (show barV n d ≠ 0 by omega)
  have o2 := Int.emod_lt_of_pos S bv4
  have c57 : f_Part_writeNotes_57 K q p F B = if S % barV n d = 0 then f_Part_writeNotes_101 K q p F B else zbind (f_Part_cut_18 K K.1 0 (S + (barV n d - S % barV n d)) S (barV n d) q p (-1) F B) (fun _ F1 B1 => f_Part_writeNotes_101 K q p F1 B1) := by
    unfold f_Part_writeNotes_57 f_Part_writeNotes_78 f_Part_cut
    rw [if_pos hp, cb, zb_s, if_pos (show r64 (barV n d) by unfold r64; omega), if_neg (show ¬ zcmp (barV n d) 0 ≤ 0 from fun h => by have := zcmp_m.mp h; omega), if_pos h4, if_pos (lI_n0 bv4 (by unfold r64; omega)), h7, zlrm_e hs0 (by first | decide | omega) bv4 (by first | decide | omega), if_pos (show r64 (S % barV n d) by unfold r64; omega)]
    by_cases z : S % barV n d = 0
    · rw [if_pos z, if_pos (zcmp_0.mpr z)]
    · rw [if_neg z, if_neg (fun h => z (zcmp_0.mp h)), if_pos h4, if_pos hp, cb, zb_s]
  -- the reference
  have p1 := Int.mul_ediv_add_emod Pk (barV n d)
  have p2 := Int.emod_nonneg Pk (show barV n d ≠ 0 by omega)
  have p3 := Int.emod_lt_of_pos Pk bv4
  have p4 : 0 ≤ Pk / barV n d := Int.ediv_nonneg k0 (by first | decide | omega)
  have p5 : Pk / barV n d ≤ 100 := Int.ediv_le_of_le_mul bv4 (by first | decide | omega)
  have p6 : (Pk / barV n d + 1) * barV n d = barV n d * (Pk / barV n d) + barV n d := by rw [Int.add_mul, Int.one_mul, Int.mul_comm]
  have m150 : f_M_notes_150 Km (de Pk) (nu Pk) w v 1 Fm Bm = if Pk % barV n d = 0 then some (Bm 13 w 13 v, zup3 Fm 13 w 7 (Pk / barV n d), Bm) else zbind (f_M_pieces_16 Km Km (de ((Pk / barV n d + 1) * barV n d - Pk)) (nu ((Pk / barV n d + 1) * barV n d - Pk)) (de Pk) (nu Pk) w v (-1) 1 (fr (zup3 (zup3 Fm 13 w 7 (Pk / barV n d)) 13 w 7 (Pk / barV n d + 1)) ((Pk / barV n d + 1) * barV n d - Pk)) Bm) (fun _ F1 B1 => some (B1 13 w 13 v, F1, B1)) := by
    unfold f_M_notes_150
    have q4 : (zup3 Fm 13 w 7 (Pk / barV n d)) 13 w 4 = n := by rw [zup3_v, if_neg (by first | decide | omega)]; exact m4
    have q5 : (zup3 Fm 13 w 7 (Pk / barV n d)) 13 w 5 = d := by rw [zup3_v, if_neg (by first | decide | omega)]; exact m5
    rw [if_pos w0, m4, m5, if_pos rn, if_pos rd, L_oftR (FR_r k0) bv5 (by first | decide | omega) (by first | decide | omega) (by first | decide | omega) (by first | decide | omega) bv4 (by first | decide | omega), zb_s, if_pos (show r32 (Pk / barV n d) by unfold r32; omega), m4, m5, if_pos rn, if_pos rd, L_multR (FR_r k0) bv5 (by first | decide | omega) (by first | decide | omega) (by first | decide | omega) (by first | decide | omega) bv4 (by first | decide | omega), zb_s]
    by_cases z : Pk % barV n d = 0
    · rw [if_pos z, if_pos z, if_pos (by decide), if_neg (by decide), f_M_notes_248, if_pos w0, if_pos v0]
    · rw [if_neg z, if_neg z, if_pos (by decide), if_pos rfl, q4, q5, if_pos rn, if_pos rd, L_minusR (by first | decide | omega) (FR_k bv1 (show 0 ≤ Pk / barV n d + 1 by omega)) (FR_r k0) (by first | decide | omega) (by first | decide | omega), zb_s, fr_0, fr_1]
      unfold f_M_pieces
      congr 1
      funext r1 F1 B1
      rw [f_M_notes_248, if_pos w0, if_pos v0]
  rcases hN with ⟨⟨c, hN, hO, hLX⟩, hPk⟩ | hX
  · -- the notes so far fit
    subst hPk
    rw [c57, m150]
    by_cases z : Pk % barV n d = 0
    · rw [if_pos z, if_pos z]
      refine ⟨F, B, _, Bm, _, rfl, rfl, fun _ _ _ _ => rfl, fun _ _ _ _ _ => rfl, fun c y k _ h => by rw [zup3_v, if_neg h], fun _ _ _ _ _ _ => rfl, Or.inl ⟨by rw [hN.2.2.2.1]; exact hN, by rw [zup3_v, if_pos (by first | decide | omega), zup3_v, if_neg (by first | decide | omega), zup3_v, if_neg (by first | decide | omega), m4, m5, h7]; unfold clB; rw [if_pos z], by rw [hN.2.2.2.1]; exact hO⟩⟩
    · rw [if_neg z, if_neg z]
      -- in 512ths
      obtain ⟨a, ha⟩ : ∃ a, Pk = X5 * a := ⟨4 * (Pk / 6350400), by rw [xa]; omega⟩
      have a4 : a % 4 = 0 := by have := xa a; omega
      have x1 := xa a
      have x2 := xa (512 / d * n)
      have dv : Pk / barV n d = a / (512 / d * n) := by rw [ha, b5, X5_d]
      have q1 : a / (512 / d * n) < 100 := by
        rw [← dv]
        apply Int.ediv_lt_of_lt_mul bv4
        rcases Int.lt_or_le Pk (100 * barV n d) with y | y
        · exact y
        · exfalso
          apply z
          rw [show Pk = 100 * barV n d by omega]
          exact Int.mul_emod_left _ _
      have te : (Pk / barV n d + 1) * barV n d = X5 * ((a / (512 / d * n) + 1) * (512 / d * n)) := by
        rw [dv, b5]
        ac_rfl
      have x3 := xa ((a / (512 / d * n) + 1) * (512 / d * n))
      have c1 : Pk + (barV n d - Pk % barV n d) = X5 * ((a / (512 / d * n) + 1) * (512 / d * n)) := by omega
      have c2 : (Pk / barV n d + 1) * barV n d - Pk = X5 * ((a / (512 / d * n) + 1) * (512 / d * n) - a) := by
        have := xa ((a / (512 / d * n) + 1) * (512 / d * n) - a)
        omega
      have ub : (a / (512 / d * n) + 1) * (512 / d * n) ≤ 100 * (512 / d * n) := Int.mul_le_mul_of_nonneg_right (by first | decide | omega) (by first | decide | omega)
      have q0 : 0 ≤ a / (512 / d * n) := Int.ediv_nonneg (by first | decide | omega) (by first | decide | omega)
      have ub2 : (a / (512 / d * n) + 1) * (512 / d * n) ≤ (a / (512 / d * n) + ((100 : Nat) : Int)) * (512 / d * n) := Int.mul_le_mul_of_nonneg_right (by first | decide | omega) (by first | decide | omega)
      have hZ' : ∀ nb y, 0 ≤ nb → 0 ≤ y → y < 512 / d * n → nb * (512 / d * n) + y < (a / (512 / d * n) + 1) * (512 / d * n) → Z nb (X5 * y) := fun nb y n0 y0 y1 h => by
        have x9 := xa y
        refine hZ nb (X5 * y) n0 ?_ (by first | decide | omega) (by first | decide | omega)
        unfold clB
        rw [if_neg z, dv]
        exact Int.lt_of_mul_lt_mul_right (show nb * (512 / d * n) < (a / (512 / d * n) + 1) * (512 / d * n) by omega) (by first | decide | omega)
      have W := P_cutP (K := K) (Km := Km) (m := m) (q := q) (p := p) (v := v) (w := w) (n := n) (d := d) (ev := -1) (ro := 1) (t := (a / (512 / d * n) + 1) * (512 / d * n)) hK hKm h4 hp v0 w0 hn hd ub (m4_m a4 b44).2 hZ' 100 K.1 Km (cnt := 0) (a := a) (F := F) (B := B) (Fm := fr (zup3 (zup3 Fm 13 w 7 (Pk / barV n d)) 13 w 7 (Pk / barV n d + 1)) ((Pk / barV n d + 1) * barV n d - Pk)) (Bm := Bm) (by first | decide | omega) (by first | decide | omega) a4 (Or.inr ub2) (by decide) (by decide) (by first | decide | omega) (by first | decide | omega) e4 e5 (by rw [fr_n (by first | decide | omega), zup3_v, if_neg (by first | decide | omega), zup3_v, if_neg (by first | decide | omega)]; exact m4) (by rw [fr_n (by first | decide | omega), zup3_v, if_neg (by first | decide | omega), zup3_v, if_neg (by first | decide | omega)]; exact m5) (Or.inl ⟨rfl, rfl⟩) (Q := False) (Or.inl ⟨c, hN, hO, Or.inr (Or.inr rfl), False.elim, fun hc => by have t := hLX hc; rw [(X5_dm (n := n) hd ha).1, (X5_dm (n := n) hd ha).2] at t; exact t⟩)
      rw [← b5, ← ha, ← c1, ← c2] at W
      obtain ⟨r1, F1, B1, r1', Fm1, Bm1, y1, y2, o1', o2', o3', o4', o5'⟩ := W
      rw [y1, y2, zb_s, zb_s]
      have h0 : nH w Fm (fr (zup3 (zup3 Fm 13 w 7 (Pk / barV n d)) 13 w 7 (Pk / barV n d + 1)) ((Pk / barV n d + 1) * barV n d - Pk)) := fun c y k h h' => by rw [fr_n (by first | decide | omega), zup3_v, if_neg h', zup3_v, if_neg h']
      refine ⟨F1, B1, Fm1, Bm1, _, rfl, rfl, o1', o2', nH_t h0 (nH_g o3'), o4', ?_⟩
      rcases o5' with ⟨c', h, hl⟩ | h
      · exact Or.inl ⟨by rw [h.2.2.2.1]; exact h, by rw [o3' 13 w 7 (by first | decide | omega), o3' 13 w 4 (by first | decide | omega), o3' 13 w 5 (by first | decide | omega), o1' 4 q 7 (by first | decide | omega), h7, fr_n (by first | decide | omega), fr_n (by first | decide | omega), fr_n (by first | decide | omega), zup3_v, if_pos (by first | decide | omega), zup3_v, if_neg (by first | decide | omega), zup3_v, if_neg (by first | decide | omega), zup3_v, if_neg (by first | decide | omega), zup3_v, if_neg (by first | decide | omega), m4, m5]; unfold clB; rw [if_neg z], by rw [h.2.2.2.1]; exact hl.1⟩
      · exact Or.inr ⟨h.2.2, h⟩
  · -- too many already
    have cE : ∃ F', f_Part_writeNotes_57 K q p F B = f_Part_writeNotes_101 K q p F' B ∧ nF q F F' ∧ NX q v w F' Bm := by
      rw [c57]
      by_cases z : S % barV n d = 0
      · rw [if_pos z]; exact ⟨F, rfl, fun _ _ _ _ => rfl, hX⟩
      · rw [if_neg z]
        obtain ⟨a, ha⟩ : ∃ a, S = X5 * a := ⟨4 * (S / 6350400), by rw [xa]; omega⟩
        have x1 := xa a
        have x2 := xa (512 / d * n)
        have s1 := Int.mul_ediv_add_emod S (barV n d)
        have dv : S / barV n d = a / (512 / d * n) := by rw [ha, b5, X5_d]
        have te : barV n d * (S / barV n d) + barV n d = X5 * ((a / (512 / d * n) + 1) * (512 / d * n)) := by
          rw [dv, b5, Int.add_mul, Int.one_mul, Int.mul_add]
          congr 1
          ac_rfl
        have x3 := xa ((a / (512 / d * n) + 1) * (512 / d * n))
        have c1 : S + (barV n d - S % barV n d) = X5 * ((a / (512 / d * n) + 1) * (512 / d * n)) := by omega
        have q0 : 0 ≤ a / (512 / d * n) := Int.ediv_nonneg (by first | decide | omega) (by first | decide | omega)
        have q1 : a / (512 / d * n) ≤ 100 := by
          rw [← dv]
          exact Int.ediv_le_of_le_mul bv4 (by first | decide | omega)
        have ub : (a / (512 / d * n) + 1) * (512 / d * n) ≤ 101 * (512 / d * n) := Int.mul_le_mul_of_nonneg_right (by first | decide | omega) (by first | decide | omega)
        have ub2 : (a / (512 / d * n) + 1) * (512 / d * n) ≤ (a / (512 / d * n) + ((100 : Nat) : Int)) * (512 / d * n) := Int.mul_le_mul_of_nonneg_right (by first | decide | omega) (by first | decide | omega)
        have lt : S % barV n d < barV n d := o2
        have q1' : a / (512 / d * n) < 100 := by
          rw [← dv]
          apply Int.ediv_lt_of_lt_mul bv4
          rcases Int.lt_or_le S (100 * barV n d) with y | y
          · exact y
          · exfalso
            apply z
            rw [show S = 100 * barV n d by omega]
            exact Int.mul_emod_left _ _
        have ub' : (a / (512 / d * n) + 1) * (512 / d * n) ≤ 100 * (512 / d * n) := Int.mul_le_mul_of_nonneg_right (by first | decide | omega) (by first | decide | omega)
        obtain ⟨F', g1, g2, g3⟩ := C_cutX (m := m) (ev := -1) (ro := 1) (t := (a / (512 / d * n) + 1) * (512 / d * n)) (B := B) (Bm := Bm) hK h4 hp v0 w0 hn hd (by first | decide | omega) 100 K.1 (cnt := 0) (a := a) (F := F) (by first | decide | omega) (by first | decide | omega) (Or.inr ub2) (by decide) (by decide) (by first | decide | omega) e4 e5 (Or.inl ⟨rfl, rfl⟩) hX
        rw [← b5, ← ha, ← c1] at g1
        rw [g1, zb_s]
        exact ⟨F', rfl, g2, g3⟩
    obtain ⟨F', f1, f2, f3⟩ := cE
    have mE : ∃ Fm', f_M_notes_150 Km (de Pk) (nu Pk) w v 1 Fm Bm = some (801, Fm', Bm) ∧ nH w Fm Fm' := by
      rw [m150]
      by_cases z : Pk % barV n d = 0
      · rw [if_pos z, hX.2.2]
        exact ⟨_, rfl, fun c y k _ h => by rw [zup3_v, if_neg h]⟩
      · rw [if_neg z]
        obtain ⟨j, hj⟩ : ∃ j, Km = j + 1 := ⟨Km - 1, (by first | decide | omega)⟩
        have h := FR_r (p := (Pk / barV n d + 1) * barV n d - Pk) (by first | decide | omega)
        have hb := FR_b h
        obtain ⟨d0, _, n0, ee⟩ := h
        have nz : ¬ nu ((Pk / barV n d + 1) * barV n d - Pk) = 0 := fun y => by
          rw [y, Int.zero_mul] at ee
          rcases Int.mul_eq_zero.mp ee.symm with t | t <;> omega
        have e : ∀ G : zF, f_M_pieces_16 Km Km (de ((Pk / barV n d + 1) * barV n d - Pk)) (nu ((Pk / barV n d + 1) * barV n d - Pk)) (de Pk) (nu Pk) w v (-1) 1 G Bm = some (0, G, Bm) := fun G => by
          rw [show f_M_pieces_16 Km Km = f_M_pieces_16 Km (j + 1) by rw [← hj], f_M_pieces_16, if_pos (by unfold r64; omega), if_neg (fun y => by have := zcmp_m.mp y; omega), if_pos w0, if_pos v0, hX.2.2, if_pos (by decide), if_pos (by decide), f_M_pieces_215]
        rw [e, zb_s, hX.2.2]
        exact ⟨_, rfl, fun c y k h h' => by rw [fr_n (by first | decide | omega), zup3_v, if_neg h', zup3_v, if_neg h']⟩
    obtain ⟨Fm', n1, n2⟩ := mE
    exact ⟨F', B, Fm', Bm, 801, f1, n1, f2, fun _ _ _ _ _ => rfl, n2, fun _ _ _ _ _ _ => rfl, Or.inr ⟨rfl, f3⟩⟩
end
end
section
section
/-! ===== a voice's notes written, both sides ===== -/
theorem clB_lt {nb S T : Int} (T0 : 0 < T) (h : nb * T < S) : nb < clB S T := by
  have e := Int.ediv_mul_add_emod S T
  have e1 := Int.emod_lt_of_pos S T0
  unfold clB
  split
  · exact Int.lt_of_mul_lt_mul_right (show nb * T < S / T * T by omega) (by first | decide | omega)
  · refine Int.lt_of_mul_lt_mul_right (show nb * T < (S / T + 1) * T from ?_) (show 0 ≤ T by omega)
    rw [Int.add_mul, Int.one_mul]
    omega
theorem P_wn {K : zK} {Km m : Nat} {Z : Int → Int → Prop} {q p v w n d : Int} {g : Int → Int} (hK : 3002 ≤ K.1) (hKm : 70000000000 < Km) (h4 : 0 ≤ q ∧ q < K.2 4) (hp : 0 ≤ p ∧ p < K.2 6) (v0 : 0 ≤ v ∧ v < 4) (w0 : 0 ≤ w ∧ w < 3) (hn : 1 ≤ n ∧ n ≤ 12) (hd : d = 2 ∨ d = 4 ∨ d = 8 ∨ d = 16) (hZ : ZG Z (barV n d) (clB (sumZ g m) (barV n d))) : ∀ (r n1 n2 k : Nat) {F : zF} {B : zB} {Fm : zF} {Bm : zB}, k + r = m → r < n1 → r < n2 → F 6 p 4 = n → F 6 p 5 = d → Fm 13 w 4 = n → Fm 13 w 5 = d → Bm 13 w 12 v = m → F 4 q 7 = sumZ g m → JS K q v w m (barV n d) g F B Fm Bm → BW q m (barV n d) g F B → (∃ c, NW q v w m Z c F B Bm ∧ LPe q ((k : Int) - 1) True (sumZ g k / barV n d) (sumZ g k % barV n d) B c) ∨ NX q v w F Bm → ∃ F' B' Fm' Bm' r, f_Part_writeNotes_12 K n1 k q p F B = f_Part_writeNotes_101 K q p F' B' ∧ f_M_notes_22 Km n2 k (de (sumZ g k)) (nu (sumZ g k)) w v 1 Fm Bm = some (r, Fm', Bm') ∧ NR K q v w m Z F B Fm Bm r F' B' Fm' Bm' := by
  have hu := un_d hd
  have b3 := un_3 hu (n := n) (by first | decide | omega)
  have b4 := un_4 hu (n := n) (by first | decide | omega)
  obtain ⟨bv1, _, bv3, bv4, bv5⟩ := bar_v hn hd
  have b5 := bar5 (n := n) hd
  have xa : ∀ y : Int, X5 * y = 1587600 * y := fun _ => rfl
  intro r
  induction r with
  | zero =>
    intro n1 n2 k F B Fm Bm kr hn1 hn2 e4 e5 m4 m5 h12 h7 hJ hW hN
    obtain ⟨n1, rfl⟩ : ∃ j, n1 = j + 1 := ⟨n1 - 1, (by first | decide | omega)⟩
    obtain ⟨n2, rfl⟩ : ∃ j, n2 = j + 1 := ⟨n2 - 1, (by first | decide | omega)⟩
    obtain ⟨⟨c6, c36, c35, cw, mm0, mm1⟩, hg, hs, he, hV⟩ := hJ
    obtain rfl : k = m := by omega
    have s0 := sumZ_0 hg k (Nat.le_refl _)
    rw [f_Part_writeNotes_12, if_pos h4, if_pos (show r32 (k : Int) by unfold r32; omega), c6, if_pos (show r32 (k : Int) by unfold r32; omega), if_pos (Int.le_refl _), f_M_notes_22, if_pos w0, if_pos v0, if_pos (show r32 (k : Int) by unfold r32; omega), h12, if_pos (show r32 (k : Int) by unfold r32; omega), if_pos (Int.le_refl _)]
    refine P_wend (g := g) hK hKm h4 hp v0 w0 hn hd e4 e5 m4 m5 h7 s0 hs (hW.1 k (Nat.le_refl _) (Or.inl rfl)) s0 hs hZ ?_
    rcases hN with ⟨c, h, hl⟩ | h
    · exact Or.inl ⟨⟨c, h, hl.1, hl.2.2.2⟩, rfl⟩
    · exact Or.inr h
  | succ r ih =>
    intro n1 n2 k F B Fm Bm kr hn1 hn2 e4 e5 m4 m5 h12 h7 hJ hW hN
    obtain ⟨n1, rfl⟩ : ∃ j, n1 = j + 1 := ⟨n1 - 1, (by first | decide | omega)⟩
    obtain ⟨n2, rfl⟩ : ∃ j, n2 = j + 1 := ⟨n2 - 1, (by first | decide | omega)⟩
    have hJ' := hJ
    obtain ⟨⟨c6, c36, c35, cw, mm0, mm1⟩, hg, hs, he, hV⟩ := hJ
    have hk : k < m := by omega
    have s0 := sumZ_0 hg k (by first | decide | omega)
    have sm := sumZ_0 hg m (Nat.le_refl _)
    have s1 := sumZ_m hg r (k + 1) (by first | decide | omega)
    have s2 : sumZ g (k + 1) = sumZ g k + g k := rfl
    have gk := hg k (by first | decide | omega) (by first | decide | omega)
    obtain ⟨ek, p0, p14, p15, pg⟩ := he k hk
    have hke := hV k (by first | decide | omega) (by first | decide | omega)
    have len := ek.2.2.2.2.1
    have rk : r32 (k : Int) := by unfold r32; omega
    have rm : r32 (m : Int) := by unfold r32; omega
    rw [f_Part_writeNotes_12, if_pos h4, if_pos rk, c6, if_pos rm, if_neg (show ¬ (m : Int) ≤ k by omega), f_M_notes_22, if_pos w0, if_pos v0, if_pos rk, h12, if_pos rm, if_neg (show ¬ (m : Int) ≤ k by omega)]
    rcases hN with ⟨c, hN, hL⟩ | hX
    case inr =>
      rw [hX.2.1, if_pos (show r32 1 by decide), if_neg (show ¬ (1 : Int) = 0 by decide), hX.2.2, if_pos (show r32 801 by decide), if_pos (show (800 : Int) < 801 by decide)]
      exact P_wend (g := g) hK hKm h4 hp v0 w0 hn hd e4 e5 m4 m5 h7 sm hs (hW.1 m (Nat.le_refl _) (Or.inl rfl)) s0 (by first | decide | omega) hZ (Or.inr hX)
    rw [hN.2.2.1, if_pos (show r32 0 by decide), if_pos (show (0 : Int) = 0 from rfl), if_pos (show 0 ≤ (k : Int) ∧ (k : Int) < 200 by omega), if_pos hke, p0, pg, hN.2.2.2.1, if_pos (show r32 c by have := hN.1; unfold r32; omega), if_neg (show ¬ 800 < c by have := hN.1; omega), if_pos (show 0 ≤ 1000 * v + (k : Int) ∧ 1000 * v + (k : Int) < 4000 by omega), p14, p15, len.1, len.2.1, pg]
    have cb := C_bar (F := F) (B := B) hp e4 e5 hn hd
    unfold f_Part_cut f_M_pieces
    rw [if_pos hp, cb, zb_s]
    have W : zP (f_Part_cut_18 K K.1 0 (sumZ g k + g k) (sumZ g k) (barV n d) q p k F B) (f_M_pieces_16 Km Km (de (g k)) (nu (g k)) (de (sumZ g k)) (nu (sumZ g k)) w v k 1 Fm Bm) (fun _ F' B' _ Fm' Bm' => NO q v w m Z k True ((sumZ g k + g k) / barV n d) ((sumZ g k + g k) % barV n d) F B Fm Bm F' B' Fm' Bm') := by
      have hL' : LPe q k False (sumZ g k / barV n d) (sumZ g k % barV n d) B c := ⟨hL.1, Or.inr (Or.inl (by have := hL.2.2.1 trivial; omega)), False.elim, hL.2.2.2⟩
      by_cases z : F 1 (B 4 q 5 k) 5 = 0
      · have y1 := hW.1 k (by first | decide | omega) (Or.inr z)
        have y2 := hW.2.1 k hk z
        obtain ⟨a, ha⟩ : ∃ a, sumZ g k = X5 * a := ⟨4 * (sumZ g k / 6350400), by rw [xa]; omega⟩
        obtain ⟨l, hl⟩ : ∃ l, g k = X5 * l := ⟨4 * (g k / 6350400), by rw [xa]; omega⟩
        have x1 := xa a
        have x2 := xa l
        have x3 := xa (512 / d * n)
        have x4 := xa (a + l)
        obtain ⟨dv1, md1⟩ := X5_dm (n := n) hd ha
        obtain ⟨dv2, md2⟩ := X5_dm (n := n) (P := sumZ g k + g k) (a := a + l) hd (by first | decide | omega)
        have hL2 := hL'
        rw [dv1, md1] at hL2
        have q0 : 0 ≤ a / (512 / d * n) := Int.ediv_nonneg (by first | decide | omega) (by first | decide | omega)
        have ub : a + l ≤ (a / (512 / d * n) + ((100 : Nat) : Int)) * (512 / d * n) := by
          have : 100 * (512 / d * n) ≤ (a / (512 / d * n) + ((100 : Nat) : Int)) * (512 / d * n) := Int.mul_le_mul_of_nonneg_right (by first | decide | omega) (by first | decide | omega)
          omega
        have := P_cutP (K := K) (Km := Km) (m := m) (q := q) (p := p) (v := v) (w := w) (n := n) (d := d) (ev := k) (ro := if F 1 (B 4 q 5 k) 10 = 0 then 1 else 0) (t := a + l) hK hKm h4 hp v0 w0 hn hd (by first | decide | omega) (by first | decide | omega) (fun nb y n0 y0 y1 hh => hZ nb (X5 * y) n0 (clB_lt bv4 (by have x9 := xa y; have x8 := xa (nb * (512 / d * n)); rw [b5, show nb * (X5 * (512 / d * n)) = X5 * (nb * (512 / d * n)) by ac_rfl]; omega)) (by have x9 := xa y; omega) (by have x9 := xa y; omega)) 100 K.1 Km (cnt := 0) (a := a) (F := F) (B := B) (Fm := Fm) (Bm := Bm) (by first | decide | omega) (by first | decide | omega) (by first | decide | omega) (Or.inr ub) (by decide) (by decide) (by first | decide | omega) (by first | decide | omega) e4 e5 m4 m5 (Or.inr ⟨k, rfl, hk, mm1, hke, z, (ek.2.2.2.2.2.2.1.2.2.1).mp z, ek.2.2.2.2.2.2.2.2.2.2.2.2.1.symm, ek.2.2.2.2.2.2.2.2.2.2.2.2.2.1, rfl⟩) (Or.inl ⟨c, hN, hL2⟩)
        rw [show a + l - a = l by omega, show X5 * (a + l) = X5 * a + X5 * l by omega, ← ha, ← hl, ← b5] at this
        exact zP_m this (fun _ _ _ _ _ _ h => NO_m h (fun _ => Or.inr (by first | decide | omega)) (Or.inr ⟨dv2.symm, by rw [md2]; exact Int.le_refl _⟩))
      · obtain ⟨j1, hj1⟩ : ∃ j, K.1 = j + 1 + 1 := ⟨K.1 - 2, (by first | decide | omega)⟩
        obtain ⟨j2, hj2⟩ : ∃ j, Km = j + 1 + 1 := ⟨Km - 2, (by first | decide | omega)⟩
        have := P_cutT (K := K) (Km := Km) (m := m) (n1 := j1) (n2 := j2) (i := k) (q := q) (p := p) (v := v) (w := w) (n := n) (d := d) (P := sumZ g k) (F := F) (B := B) (Fm := Fm) (Bm := Bm) hK hKm h4 v0 w0 hn hd m4 m5 hk mm1 hke ek z s0 (by rw [pg]; omega) (by rw [pg]; exact hW.2.2.1 k hk z) (fun y y0 y1 => by
          have hw := hW.2.2.1 k hk z
          rw [pg] at y1
          have r1 := Int.ediv_mul_add_emod (sumZ g k) (barV n d)
          have r2 : (sumZ g k / barV n d + 1) * barV n d = sumZ g k / barV n d * barV n d + barV n d := by rw [Int.add_mul, Int.one_mul]
          exact hZ _ y (Int.ediv_nonneg s0 (by first | decide | omega)) (clB_lt bv4 (by first | decide | omega)) y0 (by first | decide | omega)) (Or.inl ⟨c, hN, hL'⟩)
        rw [pg, ← hj1, show f_M_pieces_16 Km (j2 + 1 + 1) = f_M_pieces_16 Km Km by rw [← hj2]] at this
        exact this
    obtain ⟨r1, F1, B1, r1', Fm1, Bm1, y1, y2, o1, o2, o3, o4, o5⟩ := W
    rw [y1, y2, zb_s, zb_s, o4 13 w 14 _ (by first | decide | omega) (by first | decide | omega), o4 13 w 15 _ (by first | decide | omega) (by first | decide | omega), o4 13 w 16 _ (by first | decide | omega) (by first | decide | omega), o4 13 w 17 _ (by first | decide | omega) (by first | decide | omega), p14, p15, len.1, len.2.1, pg, L_plusR (by first | decide | omega) (FR_r s0) (FR_r (by first | decide | omega)) (by first | decide | omega), zb_s, fr_0, fr_1, ← s2]
    have o3' : nG Fm (fr Fm1 (sumZ g (k + 1))) := nG_t o3 (fun c y k h => fr_n (by first | decide | omega))
    obtain ⟨F', B', Fm', Bm', r', z1, z2, z3, z4, z5, z6, z7⟩ := ih n1 n2 (k + 1) (F := F1) (B := B1) (Fm := fr Fm1 (sumZ g (k + 1))) (Bm := Bm1) (by first | decide | omega) (by first | decide | omega) (by first | decide | omega) (by rw [o1 6 p 4 (by first | decide | omega)]; exact e4) (by rw [o1 6 p 5 (by first | decide | omega)]; exact e5) (by rw [o3' 13 w 4 (by first | decide | omega)]; exact m4) (by rw [o3' 13 w 5 (by first | decide | omega)]; exact m5) (by rw [o4 13 w 12 v (by first | decide | omega) (by first | decide | omega)]; exact h12) (by rw [o1 4 q 7 (by first | decide | omega)]; exact h7) (JS_n hJ' o1 o2 (fun k h => o3' 14 0 k (by first | decide | omega)) o4) (BW_n hW o1 o2) (by rw [show (((k + 1 : Nat) : Int) - 1) = (k : Int) by omega, s2]; exact o5)
    rw [show ((k + 1 : Nat) : Int) = (k : Int) + 1 by omega] at z1 z2
    exact ⟨F', B', Fm', Bm', r', z1, z2, nF_t o1 z3, nB_t o2 z4, nH_t (nH_g o3') z5, nM_t o4 z6, z7⟩
theorem P_writeN {K : zK} {Km m : Nat} {Z : Int → Int → Prop} {q p v w n d : Int} {g : Int → Int} {F : zF} {B : zB} {Fm : zF} {Bm : zB} (hK : 3002 ≤ K.1) (hKm : 70000000000 < Km) (h4 : 0 ≤ q ∧ q < K.2 4) (hp : 0 ≤ p ∧ p < K.2 6) (v0 : 0 ≤ v ∧ v < 4) (w0 : 0 ≤ w ∧ w < 3) (hn : 1 ≤ n ∧ n ≤ 12) (hd : d = 2 ∨ d = 4 ∨ d = 8 ∨ d = 16) (e4 : F 6 p 4 = n) (e5 : F 6 p 5 = d) (m4 : Fm 13 w 4 = n) (m5 : Fm 13 w 5 = d) (h12 : Bm 13 w 12 v = m) (h7 : F 4 q 7 = sumZ g m) (hJ : JS K q v w m (barV n d) g F B Fm Bm) (hW : BW q m (barV n d) g F B) (hZ : ZG Z (barV n d) (clB (sumZ g m) (barV n d))) : ∃ F' B' Fm' Bm' r, f_Part_writeNotes K q p F B = f_Part_writeNotes_101 K q p F' B' ∧ f_M_notes Km w v 1 Fm Bm = some (r, Fm', Bm') ∧ NR K q v w m Z F B Fm Bm r F' B' Fm' Bm' := by
  have f0 : nF q F (zup3 (zup3 F 4 q 10 0) 4 q 11 0) := fun c y k h => by rw [zup3_v, if_neg (by first | decide | omega), zup3_v, if_neg (by first | decide | omega)]
  have b0 : nB q B B := fun _ _ _ _ _ => rfl
  have g0 : nG Fm (fr Fm 0) := fun c y k h => fr_n (by first | decide | omega)
  have m0 : nM' v w Bm (zup4 Bm 13 w 13 v 0) := fun c y k x h h' => by rw [zup4_v, if_neg (by first | decide | omega)]
  have mm : m ≤ 200 := hJ.1.2.2.2.2.2
  have N0 : NW q v w m Z 0 (zup3 (zup3 F 4 q 10 0) 4 q 11 0) B (zup4 Bm 13 w 13 v 0) := ⟨by decide, by rw [zup3_v, if_neg (by first | decide | omega), zup3_v, if_pos (by first | decide | omega)], by rw [zup3_v, if_pos (by first | decide | omega)], by rw [zup4_v, if_pos (by first | decide | omega)], fun i a b => (by first | decide | omega)⟩
  obtain ⟨F', B', Fm', Bm', r, z1, z2, z3, z4, z5, z6, z7⟩ := P_wn (K := K) (Km := Km) (m := m) (q := q) (p := p) (v := v) (w := w) (n := n) (d := d) (g := g) hK hKm h4 hp v0 w0 hn hd hZ m K.1 Km 0 (F := zup3 (zup3 F 4 q 10 0) 4 q 11 0) (B := B) (Fm := fr Fm 0) (Bm := zup4 Bm 13 w 13 v 0) (by first | decide | omega) (by first | decide | omega) (by first | decide | omega) (by rw [f0 6 p 4 (by first | decide | omega)]; exact e4) (by rw [f0 6 p 5 (by first | decide | omega)]; exact e5) (by rw [g0 13 w 4 (by first | decide | omega)]; exact m4) (by rw [g0 13 w 5 (by first | decide | omega)]; exact m5) (by rw [m0 13 w 12 v (by first | decide | omega) (by first | decide | omega)]; exact h12) (by rw [f0 4 q 7 (by first | decide | omega)]; exact h7) (JS_n hJ f0 b0 (fun k h => g0 14 0 k (by first | decide | omega)) m0) (BW_n hW f0 b0) (Or.inl ⟨0, N0, fun i a b => (by first | decide | omega), Or.inl (by unfold lE; rw [if_pos rfl]; decide), fun _ => by unfold lE; rw [if_pos rfl]; decide, fun h => absurd h (by decide)⟩)
  refine ⟨F', B', Fm', Bm', r, ?_, ?_, nF_t f0 z3, nB_t b0 z4, nH_t (nH_g g0) z5, nM_t m0 z6, z7⟩
  · unfold f_Part_writeNotes
    rw [if_pos h4]
    exact z1
  · unfold f_M_notes
    rw [if_pos w0, if_pos v0, L_isR (by first | decide | omega) (p := 0) ⟨by decide, ⟨WW, by decide⟩, by decide, by decide⟩ (by decide), zb_s, ← z2, show sumZ g 0 = 0 from rfl, nd0.1, nd0.2]
    rfl
end
end
section
section
/-! ===== what the signs of a voice's notes come to: over its notes and events alone ===== -/
abbrev zD := Nat → Int → Int → Int
/-- what the key does to a letter -/
def kaV (f s : Int) : Int := if f ≤ 0 then (if -f ≤ 6 - (2 * s - 6) % 7 then 0 else -1) else (if f ≤ (2 * s - 6) % 7 then 0 else 1)
theorem kaV_b {f s : Int} : -1 ≤ kaV f s ∧ kaV f s ≤ 1 := by
  unfold kaV
  split
  · split <;> omega
  · split <;> omega
/-- the lowest line of a clef -/
def lwV (c : Int) : Int := if c = 0 then 30 else if c = 1 then 18 else if c = 2 then 24 else 22
/-- the notes (0 event, 1 bar, 2 place, 3 form), the events (4 marks, 5 how many pitches, 6 steps, 7 alterations) and 8: how many notes, how many events, fifths, clef, beat -/
def cD (q : Int) (F : zF) (B : zB) (fi be : Int) : zD := fun k i j =>
  if k ≤ 3 then (if 0 ≤ i ∧ i < F 4 q 10 then (if k = 0 then B 4 q 360 i else if k = 1 then B 4 q 361 i else if k = 2 then B 4 q 9 i else B 4 q 364 i) else 0)
  else if k ≤ 7 then (if 0 ≤ i ∧ i < F 4 q 6 then (if k = 4 then F 1 (B 4 q 5 i) 7 else if k = 5 then F 1 (B 4 q 5 i) 10 else if 0 ≤ j ∧ j < F 1 (B 4 q 5 i) 10 then (if k = 6 then B 1 (B 4 q 5 i) 12 j else B 1 (B 4 q 5 i) 13 j) else 0) else 0)
  else if i = 0 then F 4 q 10 else if i = 1 then F 4 q 6 else if i = 2 then fi else if i = 3 then F 4 q 1 else be
theorem cD_n {q fi be c i : Int} {F : zF} {B : zB} {D : zD} (hD : cD q F B fi be = D) (h10 : F 4 q 10 = c) (i0 : 0 ≤ i) (i1 : i < c) : D 0 i 0 = B 4 q 360 i ∧ D 1 i 0 = B 4 q 361 i ∧ D 2 i 0 = B 4 q 9 i ∧ D 3 i 0 = B 4 q 364 i := by
  have h : 0 ≤ i ∧ i < F 4 q 10 := by omega
  rw [← hD]
  simp [cD, h]
theorem cD_e {q fi be t : Int} {m : Nat} {F : zF} {B : zB} {D : zD} (hD : cD q F B fi be = D) (h6 : F 4 q 6 = m) (t0 : 0 ≤ t) (t1 : t < m) : D 4 t 0 = F 1 (B 4 q 5 t) 7 ∧ D 5 t 0 = F 1 (B 4 q 5 t) 10 ∧ ∀ j, 0 ≤ j → j < F 1 (B 4 q 5 t) 10 → D 6 t j = B 1 (B 4 q 5 t) 12 j ∧ D 7 t j = B 1 (B 4 q 5 t) 13 j := by
  have h : 0 ≤ t ∧ t < F 4 q 6 := by omega
  rw [← hD]
  refine ⟨by simp [cD, h], by simp [cD, h], fun j j0 j1 => ⟨by simp [cD, h, j0, j1], by simp [cD, h, j0, j1]⟩⟩
theorem cD_s {q fi be : Int} {F : zF} {B : zB} {D : zD} (hD : cD q F B fi be = D) : D 8 0 0 = F 4 q 10 ∧ D 8 1 0 = F 4 q 6 ∧ D 8 2 0 = fi ∧ D 8 3 0 = F 4 q 1 ∧ D 8 4 0 = be := by
  rw [← hD]
  simp [cD]
/-- whether note i is a rest; whether it goes on from the one before -/
def rsN (D : zD) (i : Int) : Int := if D 0 i 0 < 0 then 1 else if D 5 (D 0 i 0) 0 = 0 then 1 else 0
def coN (D : zD) (i : Int) : Int := if 0 < i ∧ i < D 8 0 0 ∧ D 0 i 0 = D 0 (i - 1) 0 then 1 else 0
theorem rsN_b {D : zD} {i : Int} : rsN D i = 0 ∨ rsN D i = 1 := by
  unfold rsN
  split
  · exact Or.inr rfl
  · split
    · exact Or.inr rfl
    · exact Or.inl rfl
theorem coN_b {D : zD} {i : Int} : coN D i = 0 ∨ coN D i = 1 := by
  unfold coN
  split
  · exact Or.inr rfl
  · exact Or.inl rfl
/-- which pitch of event t is (s, a), or -1 -/
def fpD (D : zD) (t s a : Int) : Int := fP (D 6 t) (D 7 t) (D 5 t 0) s a 7 0
theorem fpD_c {q fi be t s a : Int} {m : Nat} {F : zF} {B : zB} {D : zD} (hD : cD q F B fi be = D) (h6 : F 4 q 6 = m) (t0 : 0 ≤ t) (t1 : t < m) : fpD D t s a = fP (B 1 (B 4 q 5 t) 12) (B 1 (B 4 q 5 t) 13) (F 1 (B 4 q 5 t) 10) s a 7 0 := by
  obtain ⟨_, h2, h3⟩ := cD_e hD h6 t0 t1
  unfold fpD
  rw [h2]
  exact fP_c (fun j j0 j1 => h3 j j0 j1)
/-- which pitches of note i are held into the next -/
def hbN (D : zD) (i k : Int) : Bool := decide (coN D (i + 1) = 1 ∨ (¬ zand (D 4 (D 0 i 0) 0) 1 = 0 ∧ D 0 i 0 + 1 < D 8 1 0 ∧ 0 ≤ fpD D (D 0 i 0 + 1) (D 6 (D 0 i 0) k) (D 7 (D 0 i 0) k)))
def hdN (D : zD) (i : Int) : Int := if rsN D i = 1 then 0 else shM (hbN D i) (D 5 (D 0 i 0) 0).toNat
theorem shM_c {h h' : Int → Bool} : ∀ (n : Nat), (∀ j : Int, 0 ≤ j → j < n → h j = h' j) → shM h n = shM h' n := by
  intro n
  induction n with
  | zero => intro _; rfl
  | succ n ih =>
    intro e
    rw [shM, shM, ih (fun j a b => e j a (by first | decide | omega)), e n (by first | decide | omega) (by first | decide | omega)]
theorem shM_1 : ∀ k : Fin 7, shM (fun _ => true) k.val = zshl 1 (k.val : Int) - 1 := by decide +kernel
/-- whether pitch k of event t comes tied -/
def tdN (D : zD) (t k : Int) : Int := if 0 < t ∧ ¬ zand (D 4 (t - 1) 0) 1 = 0 ∧ 0 ≤ fpD D (t - 1) (D 6 t k) (D 7 t k) then 1 else 0
/-- what is known, and the signs, behind the first k pitches of event t -/
def acS (D : zD) (t : Int) (f : Int → Int) : Nat → (Int → Int) × Int
  | 0 => (f, 0)
  | k + 1 => if tdN D t k = 1 ∨ (acS D t f k).1 (D 6 t k) = D 7 t k then acS D t f k else ((fun s => if s = D 6 t k then D 7 t k else (acS D t f k).1 s), (acS D t f k).2 + 2 ^ k)
theorem acS_b {D : zD} {t : Int} {f : Int → Int} : ∀ k : Nat, 0 ≤ (acS D t f k).2 ∧ (acS D t f k).2 < 2 ^ k := by
  intro k
  induction k with
  | zero => exact ⟨Int.le_refl _, by show (0 : Int) < 2 ^ 0; decide⟩
  | succ k ih =>
    have p : (2 : Int) ^ (k + 1) = 2 ^ k * 2 := Int.pow_succ 2 k
    have q : (0 : Int) < 2 ^ k := Int.pow_pos (by decide)
    rw [acS, p]
    split
    · omega
    · show 0 ≤ (acS D t f k).2 + 2 ^ k ∧ (acS D t f k).2 + 2 ^ k < 2 ^ k * 2
      omega
def kyN (D : zD) (s : Int) : Int := kaV (D 8 2 0) (s % 7)
/-- one note: what is known behind it, and its signs -/
def stN (D : zD) (i : Int) (f : Int → Int) : (Int → Int) × Int := if rsN D i = 1 ∨ coN D i = 1 then (f, 0) else acS D (D 0 i 0) f (D 5 (D 0 i 0) 0).toNat
/-- a bar begins with what the key says -/
def kbN (D : zD) (i : Int) (f : Int → Int) : Int → Int := if i = 0 ∨ ¬ D 1 i 0 = D 1 (i - 1) 0 then kyN D else f
def knN (D : zD) : Nat → Int → Int
  | 0 => kyN D
  | n + 1 => (stN D n (kbN D n (knN D n))).1
def acN (D : zD) (i : Int) : Int := (stN D i (kbN D i (knN D i.toNat))).2
/-- heights over the lowest line -/
def loN (D : zD) (i : Int) : Int := D 6 (D 0 i 0) 0 - lwV (D 8 3 0)
def hiN (D : zD) (i : Int) : Int := D 6 (D 0 i 0) (D 5 (D 0 i 0) 0 - 1) - lwV (D 8 3 0)
def lgN (D : zD) (i : Int) : Int := if rsN D i = 1 then 0 else (if 8 < hiN D i then (hiN D i - 8) / 2 else 0) + (if loN D i < 0 then (-loN D i) / 2 else 0)
/-- beams: whether a note has one, whether two stand under one -/
def bmN (D : zD) (i : Int) : Int := if rsN D i = 1 then 0 else if D 3 i 0 < 3 then 0 else 1
def tgN (D : zD) (i j : Int) : Int := if bmN D i = 1 ∧ bmN D j = 1 ∧ D 1 i 0 = D 1 j 0 ∧ D 2 i 0 / D 8 4 0 = D 2 j 0 / D 8 4 0 then 1 else 0
theorem tgN_1 {D : zD} {i j : Int} : tgN D i j = 1 ↔ (bmN D i = 1 ∧ bmN D j = 1 ∧ D 1 i 0 = D 1 j 0 ∧ D 2 i 0 / D 8 4 0 = D 2 j 0 / D 8 4 0) := by
  unfold tgN
  by_cases z : bmN D i = 1 ∧ bmN D j = 1 ∧ D 1 i 0 = D 1 j 0 ∧ D 2 i 0 / D 8 4 0 = D 2 j 0 / D 8 4 0
  · rw [if_pos z]; exact ⟨fun _ => z, fun _ => rfl⟩
  · rw [if_neg z]; exact ⟨fun h => absurd h (by decide), fun h => absurd h z⟩
theorem tgN_t {D : zD} {i j k : Int} (h : tgN D i j = 1) : tgN D j k = 1 ↔ tgN D i k = 1 := by
  obtain ⟨h1, h2, h3, h4⟩ := tgN_1.mp h
  rw [tgN_1, tgN_1, h1, h2, h3, h4]
/-- where the group from i on ends -/
def geN (D : zD) (i : Int) : Nat → Int → Int
  | 0, e => e
  | n + 1, e => if e < D 8 0 0 ∧ tgN D i e = 1 then geN D i n (e + 1) else e
def ge1 (D : zD) (i : Int) : Int := geN D i (D 8 0 0).toNat (i + 1)
/-- the group of note k: first, behind the last, number -/
def fgN (D : zD) (k : Int) : Nat → Int → Int → Int × Int × Int
  | 0, i, g => (i, i, g)
  | n + 1, i, g => if k < ge1 D i then (i, ge1 D i, g) else fgN D k n (ge1 D i) (g + if 1 < ge1 D i - i then 1 else 0)
def gpN (D : zD) (k : Int) : Int × Int × Int := fgN D k ((D 8 0 0).toNat + 1) 0 0
def grpN (D : zD) (k : Int) : Int := if 1 < (gpN D k).2.1 - (gpN D k).1 then (gpN D k).2.2 else -1
def bsN (D : zD) (k : Int) : Int := if k + 1 < (gpN D k).2.1 then (if D 3 k 0 < D 3 (k + 1) 0 then D 3 k 0 else D 3 (k + 1) 0) - 2 else 0
/-- the sum of heights of d notes from i on -/
def suN (D : zD) (i : Int) : Nat → Int
  | 0 => 0
  | d + 1 => suN D i d + (if rsN D (i + d) = 1 then 0 else loN D (i + d) + hiN D (i + d) - 8)
def smN (D : zD) (k : Int) : Int := if rsN D k = 1 ∨ D 3 k 0 = 0 then 0 else if suN D (gpN D k).1 ((gpN D k).2.1 - (gpN D k).1).toNat < 0 then 1 else 2
/-- a voice's rows of signs are those -/
def GSD (q : Int) (D : zD) (B : zB) : Prop := ∀ i, 0 ≤ i → i < D 8 0 0 → B 4 q 366 i = hdN D i ∧ B 4 q 367 i = acN D i ∧ B 4 q 368 i = lgN D i ∧ B 4 q 369 i = grpN D i ∧ B 4 q 370 i = bsN D i ∧ B 4 q 371 i = smN D i
end
end
section
section
/-! ===== the class's notes: what is made of them returns ===== -/
/-- what stands of a voice's notes and events -/
def QN (K : zK) (q : Int) (m : Nat) (c : Int) (F : zF) (B : zB) : Prop := (0 ≤ q ∧ q < K.2 4) ∧ (F 4 q 6 = m ∧ m ≤ 200) ∧ (F 4 q 10 = c ∧ 0 ≤ c ∧ c ≤ 800) ∧ (0 ≤ F 4 q 1 ∧ F 4 q 1 < 4) ∧ (∀ i, 0 ≤ i → i < c → (-1 ≤ B 4 q 360 i ∧ B 4 q 360 i < m) ∧ (0 ≤ B 4 q 361 i ∧ B 4 q 361 i ≤ 100) ∧ (0 ≤ B 4 q 9 i ∧ B 4 q 9 i ≤ 1000000000000) ∧ (0 ≤ B 4 q 364 i ∧ B 4 q 364 i ≤ 9)) ∧ (∀ t : Int, 0 ≤ t → t < m → (0 ≤ B 4 q 5 t ∧ B 4 q 5 t < K.2 1) ∧ (0 ≤ F 1 (B 4 q 5 t) 7 ∧ F 1 (B 4 q 5 t) 7 < 128) ∧ (0 ≤ F 1 (B 4 q 5 t) 10 ∧ F 1 (B 4 q 5 t) 10 ≤ 6) ∧ ∀ k, 0 ≤ k → k < F 1 (B 4 q 5 t) 10 → (0 ≤ B 1 (B 4 q 5 t) 12 k ∧ B 1 (B 4 q 5 t) 12 k ≤ 62) ∧ (-2 ≤ B 1 (B 4 q 5 t) 13 k ∧ B 1 (B 4 q 5 t) 13 k ≤ 2)) ∧ (∀ s, 0 ≤ s → s < 63 → r32 (B 4 q 12 s))
/-- what making changes -/
def qB (q : Int) (B B' : zB) : Prop := ∀ c y k x, ¬ (c = 4 ∧ y = q ∧ (k = 12 ∨ 366 ≤ k)) → B' c y k x = B c y k x
theorem qB_r {q : Int} {B : zB} : qB q B B := fun _ _ _ _ _ => rfl
theorem qB_t {q : Int} {B B1 B2 : zB} (h : qB q B B1) (h' : qB q B1 B2) : qB q B B2 := fun c y k x n => by rw [h' c y k x n, h c y k x n]
theorem QN_f {K : zK} {q c : Int} {m : Nat} {F : zF} {B B' : zB} (h : QN K q m c F B) (f : qB q B B') (r12 : ∀ s, 0 ≤ s → s < 63 → r32 (B' 4 q 12 s)) : QN K q m c F B' := by
  obtain ⟨a1, a2, a3, a4, a5, a6, _⟩ := h
  refine ⟨a1, a2, a3, a4, fun i u t => ?_, fun t u s => ?_, r12⟩
  · rw [f 4 q 360 i (by first | decide | omega), f 4 q 361 i (by first | decide | omega), f 4 q 9 i (by first | decide | omega), f 4 q 364 i (by first | decide | omega)]
    exact a5 i u t
  · rw [f 4 q 5 t (by first | decide | omega)]
    obtain ⟨b1, b2, b3, b4⟩ := a6 t u s
    refine ⟨b1, b2, b3, fun k x y => ?_⟩
    rw [f 1 _ 12 k (by first | decide | omega), f 1 _ 13 k (by first | decide | omega)]
    exact b4 k x y
theorem QN_w {K : zK} {q c : Int} {m : Nat} {F : zF} {B : zB} {k : Nat} {i x : Int} (h : QN K q m c F B) (hk : 366 ≤ k) : QN K q m c F (zup4 B 4 q k i x) ∧ qB q B (zup4 B 4 q k i x) := by
  have f : qB q B (zup4 B 4 q k i x) := fun c y k x n => by rw [zup4_v, if_neg (by first | decide | omega)]
  exact ⟨QN_f h f (fun s a b => by rw [zup4_v, if_neg (by first | decide | omega)]; exact h.2.2.2.2.2.2 s a b), f⟩
/-- rows behind 366 that are numbers stay so -/
def qR (q : Int) (B B' : zB) : Prop := ∀ k x, 366 ≤ k → r32 (B 4 q k x) → r32 (B' 4 q k x)
theorem qR_r {q : Int} {B : zB} : qR q B B := fun _ _ _ h => h
theorem qR_t {q : Int} {B B1 B2 : zB} (h : qR q B B1) (h' : qR q B1 B2) : qR q B B2 := fun k x n z => h' k x n (h k x n z)
theorem qR_w {q : Int} {B : zB} {k : Nat} {i x : Int} (hx : r32 x) : qR q B (zup4 B 4 q k i x) := fun k' x' _ z => by
  rw [zup4_v]
  split
  · exact hx
  · exact z
theorem qR_q {q : Int} {B B' : zB} (h : ∀ k x, 366 ≤ k → B' 4 q k x = B 4 q k x) : qR q B B' := fun k x n z => by rw [h k x n]; exact z
theorem C_rn {K : zK} {q c i : Int} {m : Nat} {F : zF} {B : zB} (h : QN K q m c F B) (i0 : 0 ≤ i) (i1 : i < c) : ∃ r, f_Part_isRestNote K q i F B = some (r, F, B) ∧ (r = 0 ∨ r = 1) ∧ (r = 0 → 0 ≤ B 4 q 360 i ∧ B 4 q 360 i < m ∧ 1 ≤ F 1 (B 4 q 5 (B 4 q 360 i)) 10) := by
  obtain ⟨h4, ⟨h6, m1⟩, ⟨h10, c0, c1⟩, hc, hn, he, _⟩ := h
  obtain ⟨n1, n2, n3, n4⟩ := hn i i0 i1
  unfold f_Part_isRestNote f_Part_isRestNote_33 f_Part_isRestNote_38
  rw [if_pos h4, if_pos (by first | decide | omega), if_pos (by unfold r32; omega)]
  by_cases z : B 4 q 360 i < 0
  · rw [if_pos z, if_pos (Or.inr rfl)]
    exact ⟨1, rfl, Or.inr rfl, fun y => absurd y (by decide)⟩
  obtain ⟨e1, e2, e3, e4⟩ := he (B 4 q 360 i) (by first | decide | omega) n1.2
  rw [if_neg z, h6, if_pos (by unfold r32; omega), if_neg (by first | decide | omega), if_pos (by first | decide | omega), if_pos e1, if_pos (by unfold r32; omega)]
  by_cases y : F 1 (B 4 q 5 (B 4 q 360 i)) 10 = 0
  · rw [if_pos y, if_pos (Or.inr rfl)]
    exact ⟨1, rfl, Or.inr rfl, fun y => absurd y (by decide)⟩
  · rw [if_neg y, if_pos (Or.inl rfl)]
    exact ⟨0, rfl, Or.inl rfl, fun _ => ⟨(by first | decide | omega), n1.2, (by first | decide | omega)⟩⟩
theorem C_ct {K : zK} {q c i : Int} {m : Nat} {F : zF} {B : zB} (h : QN K q m c F B) (i0 : 0 ≤ i) (i1 : i ≤ 800) : ∃ r, f_Part_continues K q i F B = some (r, F, B) ∧ (r = 0 ∨ r = 1) := by
  obtain ⟨h4, ⟨h6, m1⟩, ⟨h10, c0, c1⟩, hc, hn, he, _⟩ := h
  unfold f_Part_continues f_Part_continues_37 f_Part_continues_38
  rw [if_pos (by unfold r32; omega)]
  by_cases z : i ≤ 0
  · rw [if_pos z, if_pos (Or.inl rfl)]; exact ⟨0, rfl, Or.inl rfl⟩
  rw [if_neg z, if_pos h4, h10, if_pos (by unfold r32; omega)]
  by_cases y : c ≤ i
  · rw [if_pos y, if_pos (Or.inl rfl)]; exact ⟨0, rfl, Or.inl rfl⟩
  have a := hn i (by first | decide | omega) (by first | decide | omega)
  have b := hn (i - 1) (by first | decide | omega) (by first | decide | omega)
  rw [if_neg y, if_pos (by first | decide | omega), if_pos (by first | decide | omega), if_pos (by unfold r32; omega), if_pos (by unfold r32; omega)]
  by_cases x : B 4 q 360 i = B 4 q 360 (i - 1)
  · rw [if_pos x, if_pos (Or.inr rfl)]; exact ⟨1, rfl, Or.inr rfl⟩
  · rw [if_neg x, if_pos (Or.inl rfl)]; exact ⟨0, rfl, Or.inl rfl⟩
theorem C_tp {K : zK} {q c t : Int} {m : Nat} {F : zF} {B : zB} (hK : 3002 ≤ K.1) (h : QN K q m c F B) (t0 : 0 ≤ t) (t1 : t < m) : ∃ r, f_Part_tiedPitches K q t F B = some (r, F, B) ∧ 0 ≤ r ∧ r < 64 := by
  obtain ⟨h4, ⟨h6, m1⟩, _, hc, hn, he, _⟩ := h
  obtain ⟨e1, e2, e3, e4⟩ := he t t0 t1
  unfold f_Part_tiedPitches f_Part_tiedPitches_27
  rw [if_pos (by unfold r32; omega), if_neg (by first | decide | omega), if_pos h4, if_pos (by unfold r32; omega), h6, if_pos (by unfold r32; omega)]
  by_cases z : (m : Int) ≤ t + 1
  · rw [if_pos z]; exact ⟨0, rfl, by decide, by decide⟩
  obtain ⟨d1, d2, d3, d4⟩ := he (t + 1) (by first | decide | omega) (by first | decide | omega)
  rw [if_neg z, if_pos (by first | decide | omega), if_pos e1, C_has e1, zb_s]
  by_cases y : zand (F 1 (B 4 q 5 t) 7) 1 = 0
  · rw [if_pos y, if_pos (by decide), if_pos rfl]; exact ⟨0, rfl, by decide, by decide⟩
  · have sh := C_shared (K := K) (F := F) (B := B) hK e1 d1 rfl e3 rfl d3 (fun k u s => by have := e4 k u s; unfold r32; omega) (fun k u s => by have := d4 k u s; unfold r32; omega)
    have sb := shM_b (h := shB (B 4 q 5 t) (B 4 q 5 (t + 1)) (F 1 (B 4 q 5 (t + 1)) 10) B) (F 1 (B 4 q 5 t) 10).toNat
    have p64 : (2 : Int) ^ (F 1 (B 4 q 5 t) 10).toNat ≤ 64 := by
      obtain ⟨k, hk⟩ : ∃ k : Nat, F 1 (B 4 q 5 t) 10 = k := ⟨(F 1 (B 4 q 5 t) 10).toNat, (by first | decide | omega)⟩
      have : k = 0 ∨ k = 1 ∨ k = 2 ∨ k = 3 ∨ k = 4 ∨ k = 5 ∨ k = 6 := by omega
      rw [hk]
      rcases this with rfl | rfl | rfl | rfl | rfl | rfl | rfl <;> decide
    rw [if_neg y, if_pos (by decide), if_neg (by decide), if_pos (by first | decide | omega), if_pos e1, if_pos d1, sh, zb_s]
    exact ⟨_, rfl, sb.1, (by first | decide | omega)⟩
theorem C_hold {K : zK} {q c : Int} {m : Nat} {F : zF} (hK : 3002 ≤ K.1) : ∀ (r n : Nat) {i : Int} {B : zB}, 0 ≤ i → i + r = c → r < n → QN K q m c F B → ∃ B', f_Part_hold_2 K n i q F B = some (0, F, B') ∧ qB q B B' ∧ QN K q m c F B' ∧ qR q B B' ∧ ∀ j, i ≤ j → j < c → r32 (B' 4 q 366 j) := by
  intro r
  induction r with
  | zero =>
    intro n i B i0 ir hn h
    obtain ⟨n, rfl⟩ : ∃ k, n = k + 1 := ⟨n - 1, (by first | decide | omega)⟩
    have h' := h
    obtain ⟨h4, ⟨h6, m1⟩, ⟨h10, c0, c1⟩, _⟩ := h
    rw [f_Part_hold_2, if_pos h4, if_pos (by unfold r32; omega), h10, if_pos (by unfold r32; omega), if_pos (by first | decide | omega)]
    exact ⟨B, rfl, qB_r, h', qR_r, fun j a b => (by first | decide | omega)⟩
  | succ r ih =>
    intro n i B i0 ir hn h
    obtain ⟨n, rfl⟩ : ∃ k, n = k + 1 := ⟨n - 1, (by first | decide | omega)⟩
    have h' := h
    obtain ⟨h4, ⟨h6, m1⟩, ⟨h10, c0, c1⟩, hc, hno, he, _⟩ := h
    obtain ⟨r1, e1, z1, z2⟩ := C_rn h' i0 (by first | decide | omega)
    rw [f_Part_hold_2, if_pos h4, if_pos (by unfold r32; omega), h10, if_pos (by unfold r32; omega), if_neg (by first | decide | omega), if_pos (by first | decide | omega), e1, zb_s]
    have go : ∀ x : Int, r32 x → ∃ B', f_Part_hold_89 (f_Part_hold_2 K n) K i q F (zup4 B 4 q 366 i x) = some (0, F, B') ∧ qB q B B' ∧ QN K q m c F B' ∧ qR q B B' ∧ ∀ j, i ≤ j → j < c → r32 (B' 4 q 366 j) := fun x hx => by
      obtain ⟨w1, w2⟩ := QN_w (k := 366) (i := i) (x := x) h' (by decide)
      obtain ⟨B', a, b, c, d, e⟩ := ih n (i := i + 1) (by first | decide | omega) (by first | decide | omega) (by first | decide | omega) w1
      refine ⟨B', a, qB_t w2 b, c, qR_t (qR_w hx) d, fun j j0 j1 => ?_⟩
      by_cases ej : j = i
      · rw [ej]
        exact d 366 i (by decide) (by rw [zup4_v, if_pos ⟨rfl, rfl, rfl, rfl⟩]; exact hx)
      · exact e j (by first | decide | omega) j1
    have sh : ∀ k : Fin 7, r32 (zshl 1 (k.val : Int) - 1) := by decide +kernel
    rcases z1 with rfl | rfl
    · obtain ⟨y1, y2, y3⟩ := z2 rfl
      obtain ⟨r2, e2, z3⟩ := C_ct h' (i := i + 1) (by first | decide | omega) (by first | decide | omega)
      rw [if_pos (by decide), if_pos rfl, e2, zb_s]
      rcases z3 with rfl | rfl
      · obtain ⟨r3, e3, b3⟩ := C_tp hK h' y1 y2
        rw [if_pos (by decide), if_pos rfl, e3, zb_s]
        exact go _ (by unfold r32; omega)
      · rw [if_pos (by decide), if_neg (by decide), if_pos (by first | decide | omega), if_pos (he _ y1 y2).1]
        refine go _ ?_
        have y4 := (he _ y1 y2).2.2.1
        have z := sh ⟨(F 1 (B 4 q 5 (B 4 q 360 i)) 10).toNat, (by first | decide | omega)⟩
        rw [show (((⟨(F 1 (B 4 q 5 (B 4 q 360 i)) 10).toNat, (by first | decide | omega)⟩ : Fin 7).val : Nat) : Int) = F 1 (B 4 q 5 (B 4 q 360 i)) 10 by show (((F 1 (B 4 q 5 (B 4 q 360 i)) 10).toNat : Nat) : Int) = _; omega] at z
        exact z
    · rw [if_pos (by decide), if_neg (by decide)]
      exact go _ (by decide)
theorem zt8 : ztl 8 = 4 ∧ (∀ k : Fin 4, 0 ≤ ztv 8 (k.val : Int) ∧ ztv 8 (k.val : Int) ≤ 100) := by decide +kernel
theorem C_hts {K : zK} {q c i : Int} {m : Nat} {F : zF} {B : zB} (h : QN K q m c F B) (i0 : 0 ≤ i) (i1 : i < c) (y1 : 0 ≤ B 4 q 360 i) (y2 : B 4 q 360 i < m) (y3 : 1 ≤ F 1 (B 4 q 5 (B 4 q 360 i)) 10) : ∃ a b, f_Part_leastHeight K q i F B = some (a, F, B) ∧ f_Part_greatestHeight K q i F B = some (b, F, B) ∧ (-100 ≤ a ∧ a ≤ 62) ∧ (-100 ≤ b ∧ b ≤ 62) := by
  obtain ⟨h4, ⟨h6, m1⟩, ⟨h10, c0, c1⟩, hc, hno, he, _⟩ := h
  obtain ⟨e1, e2, e3, e4⟩ := he _ y1 y2
  have z := zt8.2 ⟨(F 4 q 1).toNat, (by first | decide | omega)⟩
  rw [show (((⟨(F 4 q 1).toNat, (by first | decide | omega)⟩ : Fin 4).val : Nat) : Int) = F 4 q 1 by show (((F 4 q 1).toNat : Nat) : Int) = F 4 q 1; omega] at z
  have zm : zmax (F 1 (B 4 q 5 (B 4 q 360 i)) 10 - 1) 0 = F 1 (B 4 q 5 (B 4 q 360 i)) 10 - 1 := by unfold zmax; split <;> omega
  have k0 := (e4 0 (by decide) (by first | decide | omega)).1
  have k1 := (e4 (F 1 (B 4 q 5 (B 4 q 360 i)) 10 - 1) (by first | decide | omega) (by first | decide | omega)).1
  unfold f_Part_leastHeight f_Part_greatestHeight
  rw [if_pos h4, if_pos (by first | decide | omega), if_pos (by first | decide | omega), if_pos e1, zt8.1, if_pos hc, if_pos h4, if_pos (by first | decide | omega), if_pos (by first | decide | omega), if_pos e1, if_pos (by unfold r32; omega), zm, if_pos (by first | decide | omega), if_pos hc]
  exact ⟨_, _, rfl, rfl, (by first | decide | omega), (by first | decide | omega)⟩
theorem C_ledg {K : zK} {q c : Int} {m : Nat} {F : zF} : ∀ (r n : Nat) {i : Int} {B : zB}, 0 ≤ i → i + r = c → r < n → QN K q m c F B → ∃ B', f_Part_setLedgers_2 K n i q F B = some (0, F, B') ∧ qB q B B' ∧ QN K q m c F B' ∧ qR q B B' ∧ ∀ j, i ≤ j → j < c → r32 (B' 4 q 368 j) := by
  intro r
  induction r with
  | zero =>
    intro n i B i0 ir hn h
    obtain ⟨n, rfl⟩ : ∃ k, n = k + 1 := ⟨n - 1, (by first | decide | omega)⟩
    have h' := h
    obtain ⟨h4, ⟨h6, m1⟩, ⟨h10, c0, c1⟩, _⟩ := h
    rw [f_Part_setLedgers_2, if_pos h4, if_pos (by unfold r32; omega), h10, if_pos (by unfold r32; omega), if_pos (by first | decide | omega)]
    exact ⟨B, rfl, qB_r, h', qR_r, fun j a b => (by first | decide | omega)⟩
  | succ r ih =>
    intro n i B i0 ir hn h
    obtain ⟨n, rfl⟩ : ∃ k, n = k + 1 := ⟨n - 1, (by first | decide | omega)⟩
    have h' := h
    obtain ⟨h4, ⟨h6, m1⟩, ⟨h10, c0, c1⟩, hc, hno, he, _⟩ := h
    obtain ⟨r1, e1, z1, z2⟩ := C_rn h' i0 (by first | decide | omega)
    have go : ∀ x : Int, r32 x → ∃ B', f_Part_setLedgers_52 (f_Part_setLedgers_2 K n) K x i q F B = some (0, F, B') ∧ qB q B B' ∧ QN K q m c F B' ∧ qR q B B' ∧ ∀ j, i ≤ j → j < c → r32 (B' 4 q 368 j) := fun x hx => by
      obtain ⟨w1, w2⟩ := QN_w (k := 368) (i := i) (x := x) h' (by decide)
      obtain ⟨B', a, b, c, d, e⟩ := ih n (i := i + 1) (by first | decide | omega) (by first | decide | omega) (by first | decide | omega) w1
      refine ⟨B', ?_, qB_t w2 b, c, qR_t (qR_w hx) d, fun j j0 j1 => by
        by_cases ej : j = i
        · rw [ej]
          exact d 368 i (by decide) (by rw [zup4_v, if_pos ⟨rfl, rfl, rfl, rfl⟩]; exact hx)
        · exact e j (by first | decide | omega) j1⟩
      unfold f_Part_setLedgers_52
      rw [if_pos h4, if_pos (by first | decide | omega)]
      exact a
    rw [f_Part_setLedgers_2, if_pos h4, if_pos (by unfold r32; omega), h10, if_pos (by unfold r32; omega), if_neg (by first | decide | omega), e1, zb_s]
    rcases z1 with rfl | rfl
    · obtain ⟨y1, y2, y3⟩ := z2 rfl
      obtain ⟨a, b, ea, eb, ba, bb⟩ := C_hts h' i0 (by first | decide | omega) y1 y2 y3
      rw [if_pos (by decide), if_pos rfl, eb, zb_s, if_pos (by unfold r32; omega), ea, zb_s, if_pos (by unfold r32; omega)]
      refine go _ ?_
      have hz : ∀ t : Int, t ≤ 200 → 0 ≤ zdv (zmax t 0) 2 ∧ zdv (zmax t 0) 2 ≤ 100 := fun t ht => by
        have q0 : 0 ≤ zmax t 0 ∧ zmax t 0 ≤ 200 := by unfold zmax; split <;> omega
        rw [zdv_e q0.1 (by unfold r32; omega) (by decide) (by decide)]
        omega
      have h1 := hz (b - 8) (by first | decide | omega)
      have h2 := hz (-a) (by first | decide | omega)
      unfold r32
      omega
    · rw [if_pos (by decide), if_neg (by decide)]
      exact go 0 (by decide)
end
end
section
section
/-! ===== accidentals: they return ===== -/
theorem C_fm {K : zK} {s : Int} {F : zF} {B : zB} (h0 : 0 ≤ s) (h1 : s ≤ 62) : f_Math_floorMod K s 7 F B = some (s % 7, F, B) := by
  have h := nat_f ⟨s.toNat, (by first | decide | omega)⟩
  rw [show (((⟨s.toNat, (by first | decide | omega)⟩ : Fin 63).val : Nat) : Int) = s by show ((s.toNat : Nat) : Int) = s; omega] at h
  obtain ⟨x0, x1, d, r, t⟩ := h
  unfold f_Math_floorMod f_Math_floorMod_18
  rw [if_pos (iI_n0 (by decide) (by decide)), if_pos (by first | decide | omega), if_pos x0, r]
theorem zt7 : ztl 7 = 7 ∧ (∀ k : Fin 7, 0 ≤ ztv 7 (k.val : Int) ∧ ztv 7 (k.val : Int) ≤ 100) := by decide +kernel
theorem C_key {K : zK} {f s : Int} {F : zF} {B : zB} (hf : -7 ≤ f ∧ f ≤ 7) (h0 : 0 ≤ s) (h1 : s ≤ 6) : ∃ r, f_S_keyAlteration K f s F B = some (r, F, B) ∧ (-1 ≤ r ∧ r ≤ 1) := by
  have z := zt7.2 ⟨s.toNat, (by first | decide | omega)⟩
  rw [show (((⟨s.toNat, (by first | decide | omega)⟩ : Fin 7).val : Nat) : Int) = s by show ((s.toNat : Nat) : Int) = s; omega] at z
  unfold f_S_keyAlteration f_S_keyAlteration_25 f_S_keyAlteration_40
  rw [C_fm h0 (by first | decide | omega), zb_s, show s % 7 = s by omega, zt7.1, if_pos (by first | decide | omega), if_pos (by unfold r32; omega)]
  by_cases c : f ≤ 0
  · rw [if_pos c, if_pos (by unfold r32; omega), if_pos (by unfold r32; omega)]
    by_cases y : -f ≤ 6 - ztv 7 s
    · rw [if_pos y]; exact ⟨0, rfl, by decide⟩
    · rw [if_neg y]; exact ⟨-1, rfl, by decide⟩
  · rw [if_neg c, if_pos (by unfold r32; omega)]
    by_cases y : f ≤ ztv 7 s
    · rw [if_pos y]; exact ⟨0, rfl, by decide⟩
    · rw [if_neg y]; exact ⟨1, rfl, by decide⟩
theorem C_tied {K : zK} {q c t k : Int} {m : Nat} {F : zF} {B : zB} (hK : 3002 ≤ K.1) (h : QN K q m c F B) (t0 : 0 ≤ t) (t1 : t < m) (k0 : 0 ≤ k) (k1 : k < F 1 (B 4 q 5 t) 10) : ∃ r, f_Part_isTiedFrom K q t k F B = some (r, F, B) ∧ (r = 0 ∨ r = 1) := by
  obtain ⟨h4, ⟨h6, m1⟩, _, hc, hn, he, _⟩ := h
  obtain ⟨e1, e2, e3, e4⟩ := he t t0 t1
  unfold f_Part_isTiedFrom f_Part_isTiedFrom_56 f_Part_isTiedFrom_57
  rw [if_pos h4, if_pos (by first | decide | omega), if_pos (by unfold r32; omega)]
  by_cases z : t ≤ 0
  · rw [if_pos z, if_pos (Or.inl rfl)]; exact ⟨0, rfl, Or.inl rfl⟩
  obtain ⟨d1, d2, d3, d4⟩ := he (t - 1) (by first | decide | omega) (by first | decide | omega)
  rw [if_neg z, if_pos (by first | decide | omega), if_pos d1, C_has d1, zb_s]
  by_cases y : zand (F 1 (B 4 q 5 (t - 1)) 7) 1 = 0
  · rw [if_pos y, if_pos (by decide), if_pos rfl, if_pos (Or.inl rfl)]; exact ⟨0, rfl, Or.inl rfl⟩
  · have ek := e4 k k0 k1
    rw [if_neg y, if_pos (by decide), if_neg (by decide), if_pos e1, if_pos (by first | decide | omega), if_pos d1, C_hasP hK d1 rfl d3.2 d3.1 (fun j u s => by have := d4 j u s; unfold r32; omega) (by unfold r32; omega) (by unfold r32; omega), zb_s]
    by_cases x : fP (B 1 (B 4 q 5 (t - 1)) 12) (B 1 (B 4 q 5 (t - 1)) 13) (F 1 (B 4 q 5 (t - 1)) 10) (B 1 (B 4 q 5 t) 12 k) (B 1 (B 4 q 5 t) 13 k) 7 0 < 0
    · rw [if_pos x, if_pos (by decide), if_pos rfl, if_pos (Or.inl rfl)]; exact ⟨0, rfl, Or.inl rfl⟩
    · rw [if_neg x, if_pos (by decide), if_neg (by decide), if_pos (Or.inr rfl)]; exact ⟨1, rfl, Or.inr rfl⟩
theorem C_acc12 {K : zK} {q c t : Int} {m : Nat} {F : zF} (hK : 3002 ≤ K.1) (t0 : 0 ≤ t) (t1 : t < m) : ∀ (r n : Nat) {k x : Int} {B : zB}, 0 ≤ k → k + r = F 1 (B 4 q 5 t) 10 → r < n → r32 x → QN K q m c F B → ∃ y B', f_Part_accidentalsOf_12 K n k x (B 4 q 5 t) q t F B = some (y, F, B') ∧ qB q B B' ∧ QN K q m c F B' ∧ qR q B B' ∧ r32 y := by
  intro r
  induction r with
  | zero =>
    intro n k x B k0 kr hn rx h
    obtain ⟨n, rfl⟩ : ∃ j, n = j + 1 := ⟨n - 1, (by first | decide | omega)⟩
    have h' := h
    obtain ⟨h4, ⟨h6, m1⟩, _, hc, hno, he, _⟩ := h
    obtain ⟨e1, e2, e3, e4⟩ := he t t0 t1
    rw [f_Part_accidentalsOf_12, if_pos e1, if_pos (by unfold r32; omega), if_pos (by unfold r32; omega), if_pos (by first | decide | omega)]
    exact ⟨x, B, rfl, qB_r, h', qR_r, rx⟩
  | succ r ih =>
    intro n k x B k0 kr hn rx h
    obtain ⟨n, rfl⟩ : ∃ j, n = j + 1 := ⟨n - 1, (by first | decide | omega)⟩
    have h' := h
    obtain ⟨h4, ⟨h6, m1⟩, _, hc, hno, he, h12⟩ := h
    obtain ⟨e1, e2, e3, e4⟩ := he t t0 t1
    obtain ⟨z, ez, zb⟩ := C_tied hK h' t0 t1 k0 (by first | decide | omega)
    have ek := e4 k k0 (by first | decide | omega)
    rw [f_Part_accidentalsOf_12, if_pos e1, if_pos (by unfold r32; omega), if_pos (by unfold r32; omega), if_neg (by first | decide | omega), if_pos (by first | decide | omega), if_pos h4, ez, zb_s]
    simp only [f_Part_accidentalsOf_78]
    rcases zb with rfl | rfl
    · rw [if_pos (by decide), if_pos rfl, if_pos (by first | decide | omega), if_pos (h12 _ (by first | decide | omega) (by first | decide | omega)), if_pos (by unfold r32; omega)]
      by_cases y : B 4 q 12 (B 1 (B 4 q 5 t) 12 k) = B 1 (B 4 q 5 t) 13 k
      · rw [if_pos y]
        exact ih n (k := k + 1) (by first | decide | omega) (by first | decide | omega) (by first | decide | omega) rx h'
      · rw [if_neg y]
        generalize hC : zup4 B 4 q 12 (B 1 (B 4 q 5 t) 12 k) (B 1 (B 4 q 5 t) 13 k) = C
        have f : qB q B C := fun d y j s nn => by rw [← hC, zup4_v, if_neg (by first | decide | omega)]
        have hC' : QN K q m c F C := QN_f h' f (fun s a b => by
          rw [← hC, zup4_v]
          split
          · unfold r32; omega
          · exact h12 s a b)
        have e5 : C 4 q 5 t = B 4 q 5 t := f 4 q 5 t (by first | decide | omega)
        obtain ⟨y', B', g1, g2, g3, g4, g5⟩ := ih n (k := k + 1) (x := zor x (zshl 1 k)) (B := C) (by first | decide | omega) (by rw [e5]; omega) (by first | decide | omega) (toI_r _) hC'
        rw [e5] at g1
        exact ⟨y', B', g1, qB_t f g2, g3, qR_t (qR_q (fun k x n => by rw [← hC, zup4_v, if_neg (by first | decide | omega)])) g4, g5⟩
    · rw [if_pos (by decide), if_neg (by decide)]
      exact ih n (k := k + 1) (by first | decide | omega) (by first | decide | omega) (by first | decide | omega) rx h'
theorem C_acc36 {K : zK} {q c f i b : Int} {m : Nat} {F : zF} {rec : Int → Int → Int → Int → zF → zB → zO} (hf : -7 ≤ f ∧ f ≤ 7) : ∀ (r n : Nat) {s : Int} {B : zB}, 0 ≤ s → s + r = 63 → r < n → QN K q m c F B → ∃ B', f_Part_setAccidentals_36 rec K n s b i q f F B = f_Part_setAccidentals_65 rec K i b q f F B' ∧ qB q B B' ∧ QN K q m c F B' ∧ qR q B B' := by
  intro r
  induction r with
  | zero =>
    intro n s B s0 sr hn h
    obtain ⟨n, rfl⟩ : ∃ j, n = j + 1 := ⟨n - 1, (by first | decide | omega)⟩
    rw [f_Part_setAccidentals_36, if_pos (by unfold r32; omega), if_pos (by first | decide | omega)]
    exact ⟨B, rfl, qB_r, h, qR_r⟩
  | succ r ih =>
    intro n s B s0 sr hn h
    obtain ⟨n, rfl⟩ : ∃ j, n = j + 1 := ⟨n - 1, (by first | decide | omega)⟩
    have h' := h
    obtain ⟨h4, _, _, _, _, _, h12⟩ := h
    have m1 := Int.emod_nonneg s (show (7 : Int) ≠ 0 by decide)
    have m2 := Int.emod_lt_of_pos s (show (0 : Int) < 7 by decide)
    obtain ⟨z, ez, zb⟩ := C_key (K := K) (F := F) (B := B) hf (s := s % 7) m1 (by first | decide | omega)
    rw [f_Part_setAccidentals_36, if_pos (by unfold r32; omega), if_neg (by first | decide | omega), if_pos h4, zrm_e s0 (by unfold r32; omega) (by decide) (by decide), ez, zb_s, if_pos (by first | decide | omega)]
    generalize hC : zup4 B 4 q 12 s z = C
    have f' : qB q B C := fun d y j s nn => by rw [← hC, zup4_v, if_neg (by first | decide | omega)]
    have hC' : QN K q m c F C := QN_f h' f' (fun s a b => by
      rw [← hC, zup4_v]
      split
      · unfold r32; omega
      · exact h12 s a b)
    obtain ⟨B', g1, g2, g3, g4⟩ := ih n (s := s + 1) (B := C) (by first | decide | omega) (by first | decide | omega) (by first | decide | omega) hC'
    exact ⟨B', g1, qB_t f' g2, g3, qR_t (qR_q (fun k x n => by rw [← hC, zup4_v, if_neg (by first | decide | omega)])) g4⟩
theorem C_acc {K : zK} {q c f : Int} {m : Nat} {F : zF} (hK : 3002 ≤ K.1) (hf : -7 ≤ f ∧ f ≤ 7) : ∀ (r n : Nat) {i b : Int} {B : zB}, 0 ≤ i → i + r = c → r < n → r32 b → QN K q m c F B → ∃ B', f_Part_setAccidentals_4 K n i b q f F B = some (0, F, B') ∧ qB q B B' ∧ QN K q m c F B' ∧ qR q B B' ∧ ∀ j, i ≤ j → j < c → r32 (B' 4 q 367 j) := by
  intro r
  induction r with
  | zero =>
    intro n i b B i0 ir hn rb h
    obtain ⟨n, rfl⟩ : ∃ k, n = k + 1 := ⟨n - 1, (by first | decide | omega)⟩
    have h' := h
    obtain ⟨h4, ⟨h6, m1⟩, ⟨h10, c0, c1⟩, _⟩ := h
    rw [f_Part_setAccidentals_4, if_pos h4, if_pos (by unfold r32; omega), h10, if_pos (by unfold r32; omega), if_pos (by first | decide | omega)]
    exact ⟨B, rfl, qB_r, h', qR_r, fun j a b => (by first | decide | omega)⟩
  | succ r ih =>
    intro n i b B i0 ir hn rb h
    obtain ⟨n, rfl⟩ : ∃ k, n = k + 1 := ⟨n - 1, (by first | decide | omega)⟩
    -- one note
    have note : ∀ (b' : Int) (C : zB), r32 b' → QN K q m c F C → ∃ B', f_Part_setAccidentals_65 (f_Part_setAccidentals_4 K n) K i b' q f F C = some (0, F, B') ∧ qB q C B' ∧ QN K q m c F B' ∧ qR q C B' ∧ ∀ j, i ≤ j → j < c → r32 (B' 4 q 367 j) := by
      intro b' C rb' hC
      have hC' := hC
      obtain ⟨h4, ⟨h6, m1⟩, ⟨h10, c0, c1⟩, hc, hno, he, _⟩ := hC
      have put : ∀ (x : Int) (D : zB), r32 x → QN K q m c F D → qB q C D → qR q C D → ∃ B', f_Part_setAccidentals_117 (f_Part_setAccidentals_4 K n) K i b' q f q i x F D = some (0, F, B') ∧ qB q C B' ∧ QN K q m c F B' ∧ qR q C B' ∧ ∀ j, i ≤ j → j < c → r32 (B' 4 q 367 j) := fun x D hx hD fD rD => by
        obtain ⟨w1, w2⟩ := QN_w (k := 367) (i := i) (x := x) hD (by decide)
        obtain ⟨B', g1, g2, g3, g4, g5⟩ := ih n (i := i + 1) (b := b') (by first | decide | omega) (by first | decide | omega) (by first | decide | omega) rb' w1
        refine ⟨B', ?_, qB_t fD (qB_t w2 g2), g3, qR_t rD (qR_t (qR_w hx) g4), fun j j0 j1 => by
          by_cases ej : j = i
          · rw [ej]
            exact g4 367 i (by decide) (by rw [zup4_v, if_pos ⟨rfl, rfl, rfl, rfl⟩]; exact hx)
          · exact g5 j (by first | decide | omega) j1⟩
        unfold f_Part_setAccidentals_117
        rw [if_pos h4, if_pos (by first | decide | omega)]
        exact g1
      obtain ⟨r1, e1, z1, z2⟩ := C_rn hC' i0 (by first | decide | omega)
      unfold f_Part_setAccidentals_65 f_Part_setAccidentals_85 f_Part_setAccidentals_86
      rw [if_pos h4, e1, zb_s]
      rcases z1 with rfl | rfl
      · obtain ⟨y1, y2, y3⟩ := z2 rfl
        obtain ⟨r2, e2, z3⟩ := C_ct hC' i0 (by first | decide | omega)
        rw [if_pos (show r32 0 by decide), if_pos (show (0 : Int) = 0 from rfl), e2, zb_s]
        rcases z3 with rfl | rfl
        · obtain ⟨y', D, g1, g2, g3, g4, g5⟩ := C_acc12 hK y1 y2 (F 1 (C 4 q 5 (C 4 q 360 i)) 10).toNat K.1 (k := 0) (x := 0) (B := C) (by decide) (by have := (he _ y1 y2).2.2.1; omega) (by have := (he _ y1 y2).2.2.1; omega) (by decide) hC'
          rw [if_pos (show r32 0 by decide), if_pos (show (0 : Int) = 0 from rfl), if_pos h4, if_pos (show r32 1 by decide), if_neg (show ¬ (1 : Int) = 0 by decide), if_pos (show 0 ≤ i ∧ i < 800 by omega), f_Part_accidentalsOf, if_pos h4, if_pos (show 0 ≤ C 4 q 360 i ∧ C 4 q 360 i < 200 by omega), g1, zb_s]
          exact put _ D g5 g3 g2 g4
        · rw [if_pos (show r32 1 by decide), if_neg (show ¬ (1 : Int) = 0 by decide), if_pos h4, if_pos (show r32 0 by decide), if_pos (show (0 : Int) = 0 from rfl)]
          exact put 0 C (by decide) hC' qB_r qR_r
      · rw [if_pos (show r32 1 by decide), if_neg (show ¬ (1 : Int) = 0 by decide), if_pos h4, if_pos (show r32 0 by decide), if_pos (show (0 : Int) = 0 from rfl)]
        exact put 0 C (by decide) hC' qB_r qR_r
    have h' := h
    obtain ⟨h4, ⟨h6, m1⟩, ⟨h10, c0, c1⟩, hc, hno, he, _⟩ := h
    obtain ⟨n1, n2, n3, n4⟩ := hno i i0 (by first | decide | omega)
    rw [f_Part_setAccidentals_4, if_pos h4, if_pos (by unfold r32; omega), h10, if_pos (by unfold r32; omega), if_neg (by first | decide | omega), if_pos (by first | decide | omega), if_pos (by unfold r32; omega), if_pos rb]
    by_cases z : B 4 q 361 i = b
    · rw [if_pos z]
      exact note b B rb h'
    · rw [if_neg z]
      obtain ⟨C, g1, g2, g3, g4⟩ := C_acc36 (rec := f_Part_setAccidentals_4 K n) (i := i) (b := B 4 q 361 i) hf 63 K.1 (s := 0) (B := B) (by decide) (by decide) (by first | decide | omega) h'
      rw [g1]
      obtain ⟨B', k1, k2, k3, k4, k5⟩ := note (B 4 q 361 i) C (by unfold r32; omega) g3
      exact ⟨B', k1, qB_t g2 k2, k3, qR_t g4 k4, k5⟩
end
end
section
section
theorem L_kaV {K : Nat} {f s : Int} {F : zF} {B : zB} (hf : -7 ≤ f ∧ f ≤ 7) (s0 : 0 ≤ s) (s1 : s ≤ 6) : f_M_inKey K f s F B = some (kaV f s, F, B) := by
  have m0 := Int.emod_nonneg (2 * s - 6) (show (7 : Int) ≠ 0 by decide)
  have m1 := Int.emod_lt_of_pos (2 * s - 6) (show (0 : Int) < 7 by decide)
  unfold f_M_inKey f_M_inKey_43 f_M_inKey_31 kaV
  rw [L_mod (show r32 (2 * s - 6) by unfold r32; omega) (by decide) (by decide), zb_s, if_pos (by unfold r32; omega)]
  by_cases a : f ≤ 0
  · rw [if_pos a, if_pos a, if_pos (by unfold r32; omega), if_pos (by unfold r32; omega)]
    by_cases b : -f ≤ 6 - (2 * s - 6) % 7
    · rw [if_pos b, if_pos b]
    · rw [if_neg b, if_neg b]
  · rw [if_neg a, if_neg a, if_pos (by unfold r32; omega)]
    by_cases b : f ≤ (2 * s - 6) % 7
    · rw [if_pos b, if_pos b]
    · rw [if_neg b, if_neg b]
theorem rank_f : ∀ n : Fin 7, ztv 7 (n.val : Nat) = (2 * ((n.val : Nat) : Int) - 6) % 7 := by decide +kernel
theorem C_kaV {K : zK} {f s : Int} {F : zF} {B : zB} (hf : -7 ≤ f ∧ f ≤ 7) (s0 : 0 ≤ s) (s1 : s ≤ 6) : f_S_keyAlteration K f s F B = some (kaV f s, F, B) := by
  have m0 := Int.emod_nonneg (2 * s - 6) (show (7 : Int) ≠ 0 by decide)
  have m1 := Int.emod_lt_of_pos (2 * s - 6) (show (0 : Int) < 7 by decide)
  have rk := rank_f ⟨s.toNat, (by first | decide | omega)⟩
  rw [show (((⟨s.toNat, (by first | decide | omega)⟩ : Fin 7).val : Nat) : Int) = s by show ((s.toNat : Nat) : Int) = s; omega] at rk
  have fm : f_Math_floorMod K s 7 F B = some (s, F, B) := by rw [C_fm s0 (by first | decide | omega), show s % 7 = s by omega]
  unfold f_S_keyAlteration f_S_keyAlteration_40 f_S_keyAlteration_25 kaV
  rw [fm, zb_s, if_pos (by rw [show ztl 7 = 7 by decide]; omega), if_pos (by unfold r32; omega), rk]
  by_cases a : f ≤ 0
  · rw [if_pos a, if_pos a, if_pos (by unfold r32; omega), if_pos (by unfold r32; omega)]
    by_cases b : -f ≤ 6 - (2 * s - 6) % 7
    · rw [if_pos b, if_pos b]
    · rw [if_neg b, if_neg b]
  · rw [if_neg a, if_neg a, if_pos (by unfold r32; omega)]
    by_cases b : f ≤ (2 * s - 6) % 7
    · rw [if_pos b, if_pos b]
    · rw [if_neg b, if_neg b]
end
end
