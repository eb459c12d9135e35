section
/-! ===== the reference: what lies between two places; whether a value stands ===== -/
theorem L_isB {K : Nat} {a b c d u l f t m : Int} {F : zF} {B : zB} (hK : 812851200 < K) (h1 : FR a b (X5 * f)) (h2 : FR c d (X5 * t)) (hu : FR u l (X5 * m)) (u0 : 0 < u) (u1 : u ≤ 100) (l1 : l ≤ 1000) (m0 : 0 < m) (m1 : m ≤ 10000) (f0 : 0 ≤ f) (f1 : f ≤ 100000) (t1 : t ≤ 100000) : f_M_isBetween K a b c d u l F B = some (if bw m f t then 1 else 0, F, B) := by
  have xa : ∀ b : Int, X5 * b = 1587600 * b := fun _ => rfl
  have x1 := xa f
  have x2 := xa t
  have x3 := xa m
  have q1 : 0 ≤ f / m := Int.ediv_nonneg f0 (by first | decide | omega)
  have q2 : f / m * m ≤ f := Int.ediv_mul_le _ (by first | decide | omega)
  have q3 : (f / m + 1) * m = f / m * m + m := by rw [Int.add_mul, Int.one_mul]
  have q4 : (f / m + 1) * (X5 * m) = X5 * ((f / m + 1) * m) := by ac_rfl
  have x4 := xa ((f / m + 1) * m)
  unfold f_M_isBetween f_M_isBetween_35
  rw [L_oftR h1 hu.2.2.2 u0 (by first | decide | omega) hu.1 (by first | decide | omega) (by first | decide | omega) (by first | decide | omega), zb_s, X5_d, L_cmpR hK (FR_k hu (by first | decide | omega)) h2 (by first | decide | omega) (by first | decide | omega), zb_s, q4]
  by_cases y : bw m f t
  · have y' : (f / m + 1) * m < t := y
    rw [if_pos y, if_pos (show X5 * ((f / m + 1) * m) < X5 * t by omega), if_pos (by decide), if_neg (by decide), if_pos (by decide)]
  · have y' : ¬ (f / m + 1) * m < t := y
    rw [if_neg y, if_neg (show ¬ X5 * ((f / m + 1) * m) < X5 * t by omega)]
    by_cases z : X5 * ((f / m + 1) * m) = X5 * t
    · rw [if_pos z, if_pos (by decide), if_pos (by decide), if_pos (by decide)]
    · rw [if_neg z, if_pos (by decide), if_pos (by decide), if_pos (by decide)]
theorem L_btw {K : Nat} {w n d a b c e f t : Int} {F : zF} {B : zB} (hK : 812851200 < K) (w0 : 0 ≤ w ∧ w < 3) (m4 : F 13 w 4 = n) (m5 : F 13 w 5 = d) (hn : 1 ≤ n ∧ n ≤ 12) (hd : d = 2 ∨ d = 4 ∨ d = 8 ∨ d = 16) (h1 : FR a b (X5 * f)) (h2 : FR c e (X5 * t)) (f0 : 0 ≤ f) (ft : f < t) (t1 : t ≤ 100000) : f_M_between_1 K w a b c e F B = some (bt n d f t, F, B) := by
  obtain ⟨dv1, dv2, ⟨d0, d1, d2, d3, d4⟩, dv4, dv5⟩ := dv_5 hd
  have hu := un_d hd
  have bb := bc_b (n := n) (d := d)
  have b3 := un_3 hu (n := n) (by first | decide | omega)
  have rn : r32 n := by unfold r32; omega
  have rd : r32 d := by unfold r32; omega
  have xa : ∀ b : Int, X5 * b = 1587600 * b := fun _ => rfl
  have x1 := xa f
  have x2 := xa t
  have x3 := xa (256 / d * n)
  have m1 := Int.emod_nonneg n (show (2 : Int) ≠ 0 by decide)
  have m2 := Int.emod_lt_of_pos n (show (0 : Int) < 2 by decide)
  have f2 : FR n (2 * d) (X5 * (256 / d * n)) := FR_5 (by first | decide | omega) (by rw [← Int.mul_assoc, dv5]) (by first | decide | omega) dv2
  have hh : 2 * (256 / d * n) = 512 / d * n := by rw [← Int.mul_assoc, dv4]
  have b4 := un_3 (u := 512 / d) hu (n := bc n d) (by first | decide | omega)
  have b5 := un_4 (u := 512 / d) hu (n := bc n d) (by first | decide | omega)
  have fb : FR (bc n d) d (X5 * (512 / d * bc n d)) := FR_5 (by first | decide | omega) (by rw [← Int.mul_assoc, d0]) (by first | decide | omega) dv1
  have e59 : f_M_between_1_59 K w a b c e F B = some (if bw (512 / d * bc n d) f t then 7 else bt5 (512 / d) f t, F, B) := by
    unfold f_M_between_1_59
    rw [L_beat w0 m4 m5 hn hd, zb_s, if_pos (show r32 (bc n d) by unfold r32; omega), if_pos w0, m5, if_pos rd, L_isB hK h1 h2 fb (by first | decide | omega) (by first | decide | omega) (by first | decide | omega) (by first | decide | omega) (by first | decide | omega) f0 (by first | decide | omega) t1, zb_s]
    by_cases y : bw (512 / d * bc n d) f t
    · rw [if_pos y, if_pos y, if_pos (by decide), if_neg (by decide)]
    rw [if_neg y, if_neg y, if_pos (by decide), if_pos rfl, m5, if_pos rd]
    obtain ⟨m, hm⟩ : ∃ m, K = m + 1 + 1 + 1 + 1 + 1 + 1 := ⟨K - 6, (by first | decide | omega)⟩
    obtain ⟨_, zz⟩ := un_z hu
    have stp : ∀ (m : Nat) (l s p s' l' : Int), 2 ≤ s → s ≤ 6 → s - 1 = s' → l * 2 = l' → 2 ≤ l → l ≤ 300 → l * p = 512 → 0 < p → p ≤ 256 → f_M_between_1_96 K (m + 1) l s a b c e F B = if bw p f t then some (s, F, B) else f_M_between_1_96 K m l' s' a b c e F B := fun m l s p s' l' s0 s1 es el l0 l1 ee p0 p1 => by
      rw [f_M_between_1_96, if_pos (by unfold r32; omega), if_neg (by first | decide | omega), L_isB hK h1 h2 (FR_5 (n := 1) (d := l) (u := p) (by first | decide | omega) (by first | decide | omega) (by decide) ⟨p, ee.symm⟩) (by decide) (by decide) (by first | decide | omega) p0 (by first | decide | omega) f0 (by first | decide | omega) t1, zb_s]
      by_cases y : bw p f t
      · rw [if_pos y, if_pos y, if_pos (by decide), if_neg (by decide)]
      · rw [if_neg y, if_neg y, if_pos (by decide), if_pos rfl, es, el]
    have t1 : f_M_between_1_96 K (m + 1) (d * 2 * 2 * 2 * 2 * 2) 1 a b c e F B = some (1, F, B) := by rw [f_M_between_1_96, if_pos (by decide), if_pos (by decide)]
    have t2 := stp (m + 1) (d * 2 * 2 * 2 * 2) 2 _ 1 _ (by decide) (by decide) (by decide) rfl (by first | decide | omega) (by first | decide | omega) d4 (by first | decide | omega) (by first | decide | omega)
    have t3 := stp (m + 1 + 1) (d * 2 * 2 * 2) 3 _ 2 _ (by decide) (by decide) (by decide) rfl (by first | decide | omega) (by first | decide | omega) d3 (by first | decide | omega) (by first | decide | omega)
    have t4 := stp (m + 1 + 1 + 1) (d * 2 * 2) 4 _ 3 _ (by decide) (by decide) (by decide) rfl (by first | decide | omega) (by first | decide | omega) d2 (by first | decide | omega) (by first | decide | omega)
    have t5 := stp (m + 1 + 1 + 1 + 1) (d * 2) 5 _ 4 _ (by decide) (by decide) (by decide) rfl (by first | decide | omega) (by first | decide | omega) d1 (by first | decide | omega) (by first | decide | omega)
    have t6 := stp (m + 1 + 1 + 1 + 1 + 1) d 6 _ 5 _ (by decide) (by decide) (by decide) rfl (by first | decide | omega) (by first | decide | omega) d0 (by first | decide | omega) (by first | decide | omega)
    rw [show f_M_between_1_96 K K = f_M_between_1_96 K (m + 1 + 1 + 1 + 1 + 1 + 1) by rw [← hm], t6, t5, t4, t3, t2, t1]
    unfold bt5
    generalize 512 / d = q
    by_cases c0 : bw q f t
    · rw [if_pos c0, if_pos c0]
    rw [if_neg c0, if_neg c0]
    by_cases c1 : bw (q / 2) f t
    · rw [if_pos c1, if_pos c1]
    rw [if_neg c1, if_neg c1]
    by_cases c2 : bw (q / 4) f t
    · rw [if_pos c2, if_pos c2]
    rw [if_neg c2, if_neg c2]
    by_cases c3 : bw (q / 8) f t
    · rw [if_pos c3, if_pos c3]
    rw [if_neg c3, if_neg c3]
    by_cases c4 : bw (q / 16) f t
    · rw [if_pos c4, if_pos c4]
    rw [if_neg c4, if_neg c4]
  have cmp : ∀ x y : Int, r32 (if x < y then (-1 : Int) else if x = y then 0 else 1) ∧ (0 ≤ (if x < y then (-1 : Int) else if x = y then 0 else 1) ↔ y ≤ x) := fun x y => by
    by_cases z : x < y
    · rw [if_pos z]; exact ⟨by decide, (by first | decide | omega)⟩
    · rw [if_neg z]
      by_cases z' : x = y
      · rw [if_pos z']; exact ⟨by decide, (by first | decide | omega)⟩
      · rw [if_neg z']; exact ⟨by decide, (by first | decide | omega)⟩
  unfold f_M_between_1 bt
  rw [if_pos w0, m4, zrm_e (by first | decide | omega) rn (by decide) (by decide), if_pos (show r32 (n % 2) by unfold r32; omega)]
  by_cases z2 : n % 2 = 0
  · rw [if_pos z2, if_pos rn, m5, if_pos rd, L_cmpR hK h1 f2 (by first | decide | omega) (by first | decide | omega), zb_s, if_pos (cmp _ _).1]
    by_cases z3 : 512 / d * n ≤ 2 * f
    · rw [if_pos ((cmp _ _).2.mpr (by first | decide | omega)), if_neg (show ¬ (n % 2 = 0 ∧ 2 * f < 512 / d * n ∧ 512 / d * n < 2 * t) from fun h => (by first | decide | omega)), e59]
    · rw [if_neg (fun h => z3 (by have := (cmp _ _).2.mp h; omega)), m4, if_pos rn, m5, if_pos rd, L_cmpR hK f2 h2 (by first | decide | omega) (by first | decide | omega), zb_s, if_pos (cmp _ _).1]
      by_cases z4 : 2 * t ≤ 512 / d * n
      · rw [if_pos ((cmp _ _).2.mpr (by first | decide | omega)), if_neg (show ¬ (n % 2 = 0 ∧ 2 * f < 512 / d * n ∧ 512 / d * n < 2 * t) from fun h => (by first | decide | omega)), e59]
      · rw [if_neg (fun h => z4 (by have := (cmp _ _).2.mp h; omega)), if_pos (show n % 2 = 0 ∧ 2 * f < 512 / d * n ∧ 512 / d * n < 2 * t from ⟨z2, (by first | decide | omega), (by first | decide | omega)⟩)]
  · rw [if_neg z2, if_neg (show ¬ (n % 2 = 0 ∧ 2 * f < 512 / d * n ∧ 512 / d * n < 2 * t) from fun h => z2 h.1), e59]
theorem L_stands {K : Nat} {w n d a b f t : Int} {F : zF} {B : zB} (hK : 812851200 < K) (w0 : 0 ≤ w ∧ w < 3) (m4 : F 13 w 4 = n) (m5 : F 13 w 5 = d) (hn : 1 ≤ n ∧ n ≤ 12) (hd : d = 2 ∨ d = 4 ∨ d = 8 ∨ d = 16) (h1 : FR (F 14 0 54) (F 14 0 55) (X5 * f)) (h2 : FR a b (X5 * t)) (f0 : 0 ≤ f) (t0 : 0 < t) (f1 : f ≤ 10000) (t1 : t ≤ 10000) : f_M_stands K w a b F B = some (if bt n d f (f + t) ≤ mx (st n d f) (st n d (f + t)) then 1 else 0, fr F (X5 * (f + t)), B) := by
  have xa : ∀ b : Int, X5 * b = 1587600 * b := fun _ => rfl
  have x1 := xa f
  have x2 := xa t
  have x3 := xa (f + t)
  have e : X5 * f + X5 * t = X5 * (f + t) := by omega
  have g4 : fr F (X5 * (f + t)) 13 w 4 = n := by rw [fr_n (by first | decide | omega)]; exact m4
  have g5 : fr F (X5 * (f + t)) 13 w 5 = d := by rw [fr_n (by first | decide | omega)]; exact m5
  have s1 := st_b (n := n) (d := d) (a := f)
  have s2 := st_b (n := n) (d := d) (a := f + t)
  have s3 := bt_b (n := n) (d := d) (f := f) (t := f + t)
  unfold f_M_stands f_M_stands_84 f_M_stands_92
  rw [L_plusR hK h1 h2 (by first | decide | omega), zb_s, e, fr_n (k := 54) (by first | decide | omega), fr_n (k := 55) (by first | decide | omega), L_str hK w0 g4 g5 hn hd h1 f0 (by first | decide | omega), zb_s, fr_0, fr_1, L_str hK w0 g4 g5 hn hd (FR_r (by first | decide | omega)) (by first | decide | omega) (by first | decide | omega), zb_s, fr_n (k := 54) (by first | decide | omega), fr_n (k := 55) (by first | decide | omega), L_btw hK w0 g4 g5 hn hd h1 (FR_r (by first | decide | omega)) f0 (by first | decide | omega) (by first | decide | omega), zb_s, if_pos (show r32 (st n d f) by unfold r32; omega), if_pos (show r32 (st n d (f + t)) by unfold r32; omega)]
  unfold mx
  have rb : r32 (bt n d f (f + t)) := by unfold r32; omega
  by_cases c : st n d f ≤ st n d (f + t)
  · rw [if_pos c, if_pos c, if_pos rb, if_pos (show r32 (st n d (f + t)) by unfold r32; omega)]
    by_cases z : bt n d f (f + t) ≤ st n d (f + t)
    · rw [if_neg (by first | decide | omega), if_pos (by decide), if_pos z]
    · rw [if_pos (by first | decide | omega), if_pos (by decide), if_neg z]
  · rw [if_neg c, if_neg c, if_pos rb, if_pos (show r32 (st n d f) by unfold r32; omega)]
    by_cases z : bt n d f (f + t) ≤ st n d f
    · rw [if_neg (by first | decide | omega), if_pos (by decide), if_pos z]
    · rw [if_pos (by first | decide | omega), if_pos (by decide), if_neg z]
end
