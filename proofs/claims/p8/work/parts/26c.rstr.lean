section
/-! ===== strengths, as the reference has them ===== -/
/-- a 512th of a whole -/
def X5 : Int := 1587600
theorem FR_5 {n d u : Int} (d0 : 0 < d) (h : d * u = 512 * n) (n0 : 0 ≤ n) (hd : ∃ x, 512 = d * x) : FR n d (X5 * u) := by
  obtain ⟨x, hx⟩ := hd
  refine ⟨d0, ⟨1587600 * x, ?_⟩, n0, ?_⟩
  · unfold WW
    calc (812851200 : Int) = 1587600 * 512 := by decide
      _ = 1587600 * (d * x) := by rw [← hx]
      _ = d * (1587600 * x) := by ac_rfl
  · unfold WW X5
    calc n * 812851200 = 1587600 * (512 * n) := by omega
      _ = 1587600 * (d * u) := by rw [← h]
      _ = 1587600 * u * d := by ac_rfl
theorem X5_m {a b : Int} (b0 : 0 < b) : (X5 * a) % (X5 * b) = 0 ↔ a % b = 0 := by
  rw [Int.mul_emod_mul_of_pos a b (show 0 < X5 by decide)]
  unfold X5
  omega
theorem X5_d {a b : Int} : (X5 * a) / (X5 * b) = a / b := Int.mul_ediv_mul_of_pos _ _ (by decide)
theorem bar5 {n d : Int} (hd : d = 2 ∨ d = 4 ∨ d = 8 ∨ d = 16) : barV n d = X5 * (512 / d * n) := by
  unfold barV X5
  rcases hd with rfl | rfl | rfl | rfl
  · rw [show (812851200 : Int) / 2 = 406425600 by decide, show (512 : Int) / 2 = 256 by decide]; omega
  · rw [show (812851200 : Int) / 4 = 203212800 by decide, show (512 : Int) / 4 = 128 by decide]; omega
  · rw [show (812851200 : Int) / 8 = 101606400 by decide, show (512 : Int) / 8 = 64 by decide]; omega
  · rw [show (812851200 : Int) / 16 = 50803200 by decide, show (512 : Int) / 16 = 32 by decide]; omega
theorem L_beat {K : Nat} {w n d : Int} {F : zF} {B : zB} (w0 : 0 ≤ w ∧ w < 3) (m4 : F 13 w 4 = n) (m5 : F 13 w 5 = d) (hn : 1 ≤ n ∧ n ≤ 12) (hd : d = 2 ∨ d = 4 ∨ d = 8 ∨ d = 16) : f_M_beat K w F B = some (bc n d, F, B) := by
  have m1 := Int.emod_nonneg n (show (3 : Int) ≠ 0 by decide)
  have m2 := Int.emod_lt_of_pos n (show (0 : Int) < 3 by decide)
  have rm : r32 (n % 3) := by unfold r32; omega
  unfold f_M_beat f_M_isCompound f_M_isCompound_18 f_M_isCompound_31 f_M_isCompound_32 f_M_beat_27 f_M_beat_32 bc
  rw [if_pos w0, m5, m4, zrm_e (by first | decide | omega) (by unfold r32; omega) (by decide) (by decide)]
  rcases hd with rfl | rfl | rfl | rfl
  · rw [if_pos (by decide), if_neg (by decide), if_neg (by decide), if_pos (by decide), zb_s, if_pos (by decide), if_pos rfl, if_pos w0, m5, if_pos (by decide), if_pos rfl, if_neg (by first | decide | omega), if_pos (by decide)]
  · rw [if_pos (by decide), if_neg (by decide), if_neg (by decide), if_pos (by decide), zb_s, if_pos (by decide), if_pos rfl, if_pos w0, m5, if_pos (by decide), if_neg (by decide), if_pos rfl, if_neg (by first | decide | omega), if_pos (by decide)]
  · rw [if_pos (by decide), if_pos rfl, if_pos w0, if_pos rm]
    by_cases c : n % 3 = 0
    · rw [if_pos c, if_pos (by decide), zb_s, if_pos (by decide), if_neg (by decide), if_pos ⟨by decide, c⟩]
    · rw [if_neg c, if_pos (by decide), zb_s, if_pos (by decide), if_pos rfl, if_pos w0, m5, if_pos (by decide), if_neg (by decide), if_neg (by decide), if_neg (fun h => c h.2), if_neg (by decide)]
  · rw [if_pos (by decide), if_neg (by decide), if_pos rfl, if_pos w0, if_pos rm]
    by_cases c : n % 3 = 0
    · rw [if_pos c, if_pos (by decide), zb_s, if_pos (by decide), if_neg (by decide), if_pos ⟨by decide, c⟩]
    · rw [if_neg c, if_pos (by decide), zb_s, if_pos (by decide), if_pos rfl, if_pos w0, m5, if_pos (by decide), if_neg (by decide), if_neg (by decide), if_neg (fun h => c h.2), if_neg (by decide)]
/-- d, and its doubles, divide 512 -/
theorem dv_5 {d : Int} (hd : d = 2 ∨ d = 4 ∨ d = 8 ∨ d = 16) : (∃ x, 512 = d * x) ∧ (∃ x, 512 = 2 * d * x) ∧ (d * (512 / d) = 512 ∧ d * 2 * (512 / d / 2) = 512 ∧ d * 2 * 2 * (512 / d / 4) = 512 ∧ d * 2 * 2 * 2 * (512 / d / 8) = 512 ∧ d * 2 * 2 * 2 * 2 * (512 / d / 16) = 512) ∧ 2 * (256 / d) = 512 / d ∧ 2 * d * (256 / d) = 512 := by
  rcases hd with rfl | rfl | rfl | rfl
  · exact ⟨⟨256, by decide⟩, ⟨128, by decide⟩, by decide, by decide, by decide⟩
  · exact ⟨⟨128, by decide⟩, ⟨64, by decide⟩, by decide, by decide, by decide⟩
  · exact ⟨⟨64, by decide⟩, ⟨32, by decide⟩, by decide, by decide, by decide⟩
  · exact ⟨⟨32, by decide⟩, ⟨16, by decide⟩, by decide, by decide, by decide⟩
theorem L_mul5 {K : Nat} {u v a c l m : Int} {F : zF} {B : zB} (h : FR u v (X5 * a)) (a1 : a ≤ 100000) (e : l * m = 512 * c) (c0 : 0 < c) (c1 : c ≤ 100) (l0 : 0 < l) (l1 : l ≤ 1000) (m0 : 0 < m) : f_M_isMultiple K u v c l F B = some (if a % m = 0 then 1 else 0, F, B) := by
  have h' : c * WW = X5 * m * l := by
    unfold WW X5
    calc c * 812851200 = 1587600 * (512 * c) := by omega
      _ = 1587600 * (l * m) := by rw [← e]
      _ = 1587600 * m * l := by ac_rfl
  rw [L_multR h h' c0 (by first | decide | omega) l0 (by first | decide | omega) (Int.mul_pos (by decide) m0) (by unfold X5; omega)]
  by_cases z : a % m = 0
  · rw [if_pos ((X5_m m0).mpr z), if_pos z]
  · rw [if_neg (fun t => z ((X5_m m0).mp t)), if_neg z]
theorem L_str {K : Nat} {w n d u v a : Int} {F : zF} {B : zB} (hK : 812851200 < K) (w0 : 0 ≤ w ∧ w < 3) (m4 : F 13 w 4 = n) (m5 : F 13 w 5 = d) (hn : 1 ≤ n ∧ n ≤ 12) (hd : d = 2 ∨ d = 4 ∨ d = 8 ∨ d = 16) (h : FR u v (X5 * a)) (a0 : 0 ≤ a) (a1 : a ≤ 100000) : f_M_strength K w u v F B = some (st n d a, F, B) := by
  obtain ⟨dv1, dv2, ⟨d0, d1, d2, d3, d4⟩, dv4, dv5⟩ := dv_5 hd
  have hu := un_d hd
  have bb := bc_b (n := n) (d := d)
  have b3 := un_3 hu (n := n) (by first | decide | omega)
  have fb := FR_b h
  have rn : r32 n := by unfold r32; omega
  have rd : r32 d := by unfold r32; omega
  have X5e : X5 = 1587600 := rfl
  have xa : ∀ b : Int, X5 * b = 1587600 * b := fun _ => rfl
  have x1 := xa a
  have x2 := xa (512 / d * n)
  have x3 := xa (256 / d * n)
  have u0 : u = 0 ↔ a = 0 := by
    obtain ⟨v0, _, _, e⟩ := h
    have WWe : WW = 812851200 := rfl
    constructor
    · intro z
      rw [z, Int.zero_mul] at e
      rcases Int.mul_eq_zero.mp e.symm with y | y <;> omega
    · intro z
      rw [z, Int.mul_zero, Int.zero_mul] at e
      rcases Int.mul_eq_zero.mp e with y | y <;> omega
  have m1 := Int.emod_nonneg n (show (2 : Int) ≠ 0 by decide)
  have m2 := Int.emod_lt_of_pos n (show (0 : Int) < 2 by decide)
  have f1 : FR n d (X5 * (512 / d * n)) := FR_5 (by first | decide | omega) (by rw [← Int.mul_assoc, d0]) (by first | decide | omega) dv1
  have f2 : FR n (2 * d) (X5 * (256 / d * n)) := FR_5 (by first | decide | omega) (by rw [← Int.mul_assoc, dv5]) (by first | decide | omega) dv2
  have b4 := un_3 (u := 512 / d) hu (n := bc n d) (by first | decide | omega)
  have b5 := un_4 (u := 512 / d) hu (n := bc n d) (by first | decide | omega)
  have hh : 2 * (256 / d * n) = 512 / d * n := by rw [← Int.mul_assoc, dv4]
  have e63 : f_M_strength_63 K w u v F B = some (if a % (512 / d * bc n d) = 0 then 7 else st5 (512 / d) a, F, B) := by
    unfold f_M_strength_63
    rw [L_beat w0 m4 m5 hn hd, zb_s, if_pos (show r32 (bc n d) by unfold r32; omega), if_pos w0, m5, if_pos rd, L_mul5 h a1 (show d * (512 / d * bc n d) = 512 * bc n d by rw [← Int.mul_assoc, d0]) (by first | decide | omega) (by first | decide | omega) (by first | decide | omega) (by first | decide | omega) (by first | decide | omega), zb_s]
    by_cases c : a % (512 / d * bc n d) = 0
    · rw [if_pos c, if_pos c, if_pos (by decide), if_neg (by decide)]
    rw [if_neg c, if_neg c, if_pos (by decide), if_pos rfl, m5, if_pos rd]
    obtain ⟨m, hm⟩ : ∃ m, K = m + 1 + 1 + 1 + 1 + 1 + 1 := ⟨K - 6, (by first | decide | omega)⟩
    obtain ⟨_, zz⟩ := un_z hu
    have stp : ∀ (m : Nat) (l s p s' l' : Int), 2 ≤ s → s ≤ 6 → s - 1 = s' → l * 2 = l' → 2 ≤ l → l ≤ 300 → l * p = 512 → 0 < p → f_M_strength_96 K (m + 1) l s u v F B = if a % p = 0 then some (s, F, B) else f_M_strength_96 K m l' s' u v F B := fun m l s p s' l' s0 s1 es el l0 l1 e p0 => by
      rw [f_M_strength_96, if_pos (by unfold r32; omega), if_neg (by first | decide | omega), L_mul5 h a1 (show l * p = 512 * 1 by omega) (by decide) (by decide) (by first | decide | omega) (by first | decide | omega) p0, zb_s]
      by_cases y : a % p = 0
      · rw [if_pos y, if_pos y, if_pos (by decide), if_neg (by decide)]
      · rw [if_neg y, if_neg y, if_pos (by decide), if_pos rfl, es, el]
    have t1 : f_M_strength_96 K (m + 1) (d * 2 * 2 * 2 * 2 * 2) 1 u v F B = some (1, F, B) := by rw [f_M_strength_96, if_pos (by decide), if_pos (by decide)]
    have t2 := stp (m + 1) (d * 2 * 2 * 2 * 2) 2 _ 1 _ (by decide) (by decide) (by decide) rfl (by first | decide | omega) (by first | decide | omega) d4 (by first | decide | omega)
    have t3 := stp (m + 1 + 1) (d * 2 * 2 * 2) 3 _ 2 _ (by decide) (by decide) (by decide) rfl (by first | decide | omega) (by first | decide | omega) d3 (by first | decide | omega)
    have t4 := stp (m + 1 + 1 + 1) (d * 2 * 2) 4 _ 3 _ (by decide) (by decide) (by decide) rfl (by first | decide | omega) (by first | decide | omega) d2 (by first | decide | omega)
    have t5 := stp (m + 1 + 1 + 1 + 1) (d * 2) 5 _ 4 _ (by decide) (by decide) (by decide) rfl (by first | decide | omega) (by first | decide | omega) d1 (by first | decide | omega)
    have t6 := stp (m + 1 + 1 + 1 + 1 + 1) d 6 _ 5 _ (by decide) (by decide) (by decide) rfl (by first | decide | omega) (by first | decide | omega) d0 (by first | decide | omega)
    rw [show f_M_strength_96 K K = f_M_strength_96 K (m + 1 + 1 + 1 + 1 + 1 + 1) by rw [← hm], t6, t5, t4, t3, t2, t1]
    unfold st5
    generalize 512 / d = q
    by_cases c0 : a % q = 0
    · rw [if_pos c0, if_pos c0]
    rw [if_neg c0, if_neg c0]
    by_cases c1 : a % (q / 2) = 0
    · rw [if_pos c1, if_pos c1]
    rw [if_neg c1, if_neg c1]
    by_cases c2 : a % (q / 4) = 0
    · rw [if_pos c2, if_pos c2]
    rw [if_neg c2, if_neg c2]
    by_cases c3 : a % (q / 8) = 0
    · rw [if_pos c3, if_pos c3]
    rw [if_neg c3, if_neg c3]
    by_cases c4 : a % (q / 16) = 0
    · rw [if_pos c4, if_pos c4]
    rw [if_neg c4, if_neg c4]
  unfold f_M_strength f_M_strength_25 st
  have ru : r64 u := by
    obtain ⟨_, _, u0, _⟩ := h
    unfold r64
    omega
  rw [if_pos ru]
  by_cases z0 : a = 0
  · rw [if_pos (zcmp_0.mpr (u0.mpr z0)), if_pos (Or.inl z0)]
  rw [if_neg (fun t => z0 (u0.mp (zcmp_0.mp t))), if_pos w0, m4, m5, if_pos rn, if_pos rd, L_cmpR hK h f1 (by first | decide | omega) (by first | decide | omega), zb_s]
  by_cases z1 : a = 512 / d * n
  · rw [if_neg (show ¬ X5 * a < X5 * (512 / d * n) by rw [z1]; omega), if_pos (show X5 * a = X5 * (512 / d * n) by rw [z1]), if_pos (by decide), if_pos rfl, if_pos (show a = 0 ∨ a = 512 / d * n from Or.inr z1)]
  have r6 : ∀ b : Int, ¬ a = b → r32 (if X5 * a < X5 * b then (-1 : Int) else if X5 * a = X5 * b then 0 else 1) ∧ ¬ (if X5 * a < X5 * b then (-1 : Int) else if X5 * a = X5 * b then 0 else 1) = 0 := fun b hb => by
    have := xa b
    by_cases y : X5 * a < X5 * b
    · rw [if_pos y]; decide
    · rw [if_neg y, if_neg (by first | decide | omega)]; decide
  rw [if_pos (r6 _ z1).1, if_neg (r6 _ z1).2, if_neg (show ¬ (a = 0 ∨ a = 512 / d * n) from fun t => by rcases t with t | t; exact z0 t; exact z1 t), m4, zrm_e (by first | decide | omega) rn (by decide) (by decide), if_pos (show r32 (n % 2) by unfold r32; omega)]
  by_cases z2 : n % 2 = 0
  · rw [if_pos z2, if_pos rn, m5, if_pos rd, L_cmpR hK h f2 (by first | decide | omega) (by first | decide | omega), zb_s]
    by_cases z3 : 2 * a = 512 / d * n
    · have e : a = 256 / d * n := by omega
      rw [if_neg (show ¬ X5 * a < X5 * (256 / d * n) by rw [e]; omega), if_pos (show X5 * a = X5 * (256 / d * n) by rw [e]), if_pos (by decide), if_pos rfl, if_pos (show n % 2 = 0 ∧ 2 * a = 512 / d * n from ⟨z2, z3⟩)]
    · have e : ¬ a = 256 / d * n := by omega
      rw [if_pos (r6 _ e).1, if_neg (r6 _ e).2, if_neg (show ¬ (n % 2 = 0 ∧ 2 * a = 512 / d * n) from fun t => z3 t.2), e63]
  · rw [if_neg z2, if_neg (show ¬ (n % 2 = 0 ∧ 2 * a = 512 / d * n) from fun t => z2 t.1), e63]
end
