theorem r32_td {a b : Int} (ha : r32 a) (hb : 0 < b) : r32 (a.tdiv b) := by
  have h3 : (a.tdiv b).natAbs ≤ a.natAbs := by rw [Int.natAbs_tdiv]; exact Nat.div_le_self _ _
  rcases Int.le_total 0 a with h | h
  · have := Int.tdiv_nonneg h (Int.le_of_lt hb); omega
  · have h4 : (-a).tdiv b = -(a.tdiv b) := Int.neg_tdiv a b
    have := Int.tdiv_nonneg (show 0 ≤ -a by omega) (Int.le_of_lt hb); omega
theorem r32_tm {a b : Int} (ha : r32 a) : r32 (a.tmod b) := by
  have h3 : (a.tmod b).natAbs ≤ a.natAbs := by rw [Int.natAbs_tmod]; exact Nat.mod_le _ _
  rcases Int.le_total 0 a with h | h
  · have := Int.tmod_nonneg b h; omega
  · have h4 : -(a.tmod b) = (-a).tmod b := by rw [Int.neg_tmod]
    have := Int.tmod_nonneg b (show 0 ≤ -a by omega); omega
theorem zdv_t {a b : Int} (ha : r32 a) (hb : 0 < b) (hb2 : r32 b) : zdv a b = a.tdiv b := by
  unfold zdv
  rw [iI_div ha hb hb2, iI_to (r32_td ha hb)]
theorem zrm_t {a b : Int} (ha : r32 a) (hb : 0 < b) (hb2 : r32 b) : zrm a b = a.tmod b := by
  unfold zrm
  rw [iI_div ha hb hb2, iI_mul, iI_sub, show a - a.tdiv b * b = a.tmod b by rw [Int.tmod_def, Int.mul_comm], iI_to (r32_tm ha)]
theorem zdv_e {a b : Int} (h0 : 0 ≤ a) (ha : r32 a) (hb : 0 < b) (hb2 : r32 b) : zdv a b = a / b := by
  rw [zdv_t ha hb hb2, Int.tdiv_eq_ediv_of_nonneg h0]
theorem zrm_e {a b : Int} (h0 : 0 ≤ a) (ha : r32 a) (hb : 0 < b) (hb2 : r32 b) : zrm a b = a % b := by
  rw [zrm_t ha hb hb2, Int.tmod_eq_emod_of_nonneg h0]
theorem iI_n0 {b : Int} (hb : 0 < b) (hb2 : r32 b) : ¬ iI b = 0 := iI_ne0 hb2 (by omega)
theorem L_floor {K : Nat} {a b : Int} {F : zF} {B : zB} (ha : r32 a) (hb : 0 < b) (hb2 : r32 b) : f_M_floor K a b F B = some (a / b, F, B) := by
  unfold f_M_floor f_M_floor_17
  rw [if_pos (iI_n0 hb hb2), zrm_t ha hb hb2, zdv_t ha hb hb2, if_pos (r32_tm ha)]
  have e : a.tmod b + b * a.tdiv b = a := by rw [Int.tmod_def]; omega
  have e2 : a % b + b * (a / b) = a := by rw [Int.emod_def]; omega
  have l1 := Int.emod_nonneg a (show b ≠ 0 by omega)
  have l2 := Int.emod_lt_of_pos a hb
  have m1 : (a.tmod b).natAbs < b.natAbs := by rw [Int.natAbs_tmod]; exact Nat.mod_lt _ (by omega)
  by_cases h : 0 ≤ a.tmod b
  · rw [if_pos h]
    have : a.tdiv b = a / b := by
      have h5 : b * (a.tdiv b - a / b) = a % b - a.tmod b := by rw [Int.mul_sub]; omega
      have h6 : a.tdiv b - a / b < 1 := by
        apply Int.lt_of_mul_lt_mul_left (a := b) _ (by omega); omega
      have h7 : -1 < a.tdiv b - a / b := by
        apply Int.lt_of_mul_lt_mul_left (a := b) _ (by omega); omega
      omega
    rw [this]
  · rw [if_neg h]
    have : a.tdiv b - 1 = a / b := by
      have h5 : b * (a.tdiv b - 1 - a / b) = a % b - a.tmod b - b := by rw [Int.mul_sub, Int.mul_sub]; omega
      have h6 : a.tdiv b - 1 - a / b < 1 := by
        apply Int.lt_of_mul_lt_mul_left (a := b) _ (by omega); omega
      have h7 : -1 < a.tdiv b - 1 - a / b := by
        apply Int.lt_of_mul_lt_mul_left (a := b) _ (by omega); omega
      omega
    rw [this]
theorem L_mod {K : Nat} {a b : Int} {F : zF} {B : zB} (ha : r32 a) (hb : 0 < b) (hb2 : r32 b) : f_M_mod K a b F B = some (a % b, F, B) := by
  unfold f_M_mod
  rw [L_floor ha hb hb2]
  show some (a - b * (a / b), F, B) = _
  rw [Int.emod_def]
theorem L_tone {K : Nat} {s a : Int} {F : zF} {B : zB} (h0 : 0 ≤ s) (h1 : s < 1000) : f_M_tone K s a F B = some (12 * (s / 7 + 1) + (2 * (s % 7) - (if s % 7 ≤ 2 then 0 else 1)) + a, F, B) := by
  unfold f_M_tone f_M_tone_18
  rw [zrm_e h0 (by omega) (by decide) (by decide), zdv_e h0 (by omega) (by decide) (by decide)]
  grind
/-- what the loop of end() makes of the tape: the waiting bytes from k on to l come behind n bytes -/
noncomputable def endRow (h w : Int → Int) (n k l : Int) : Int → Int := fun x => if n + k ≤ x ∧ x < n + l then zi2b (w (x - n)) else h x
theorem L_end_loop {K : Nat} {l : Int} {F : zF} : ∀ {n : Nat} {k : Int} {B : zB}, 0 ≤ k → k ≤ l → l ≤ 20 → 0 ≤ F 14 0 3 → F 14 0 3 + l ≤ 3000 → l - k < n → ∃ B', f_M_end_26 K n k l F B = some (F 14 0 3 + l, zup3 F 14 0 3 (F 14 0 3 + l), B') ∧ (∀ c i x, ¬ (c = 14 ∧ i = 0 ∧ x = 2) → B' c i x = B c i x) ∧ B' 14 0 2 = endRow (B 14 0 2) (B 14 0 4) (F 14 0 3) k l := by
  intro n
  induction n with
  | zero => intro k B h0 h1 h2 h3 h4 h5; omega
  | succ n ih =>
    intro k B h0 h1 h2 h3 h4 h5
    unfold f_M_end_26
    rw [if_pos (by omega), if_pos (by omega)]
    by_cases h : l ≤ k
    · rw [if_pos h]
      refine ⟨B, rfl, fun _ _ _ _ => rfl, ?_⟩
      funext x
      unfold endRow
      rw [if_neg (by omega)]
    · rw [if_neg h, if_pos (by omega), if_pos (by omega)]
      obtain ⟨B', e, f1, f2⟩ := ih (k := k + 1) (B := zup4 B 14 0 2 (F 14 0 3 + k) (zi2b (B 14 0 4 k))) (by omega) (by omega) h2 h3 h4 (by omega)
      refine ⟨B', e, fun c i x hq => ?_, ?_⟩
      · rw [f1 c i x hq, zup4_ne hq]
      · rw [f2, zup4_self, zup4_ne (by decide)]
        funext x
        unfold endRow zup
        by_cases hx : x = F 14 0 3 + k
        · subst hx
          rw [if_neg (by omega), if_pos rfl, if_pos (by omega)]
          congr 2
          omega
        · by_cases hy : F 14 0 3 + (k + 1) ≤ x ∧ x < F 14 0 3 + l
          · rw [if_pos hy, if_pos (by omega)]
          · rw [if_neg hy, if_neg hx, if_neg (by omega)]
