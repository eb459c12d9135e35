section
/-! ===== the reference's pieces of an event ===== -/
theorem nu_L {l : Int} (l0 : 0 ≤ l) (l1 : l ≤ 1000000) : (zcmp (nu (X5 * l)) 0 ≤ 0 ↔ l = 0) ∧ r64 (nu (X5 * l)) := by
  have x1 : X5 * l = 1587600 * l := rfl
  have h := FR_r (p := X5 * l) (by first | decide | omega)
  have b := FR_b h
  obtain ⟨d0, _, n0, e⟩ := h
  have WWe : WW = 812851200 := rfl
  refine ⟨?_, by unfold r64; omega⟩
  rw [zcmp_m]
  constructor
  · intro z
    have : nu (X5 * l) = 0 := by omega
    rw [this, Int.zero_mul] at e
    rcases Int.mul_eq_zero.mp e.symm with y | y <;> omega
  · intro z
    rw [z, Int.mul_zero, Int.zero_mul] at e
    rw [z, Int.mul_zero]
    rcases Int.mul_eq_zero.mp e with y | y
    · omega
    · exact absurd y (by decide)
theorem L_pstep {K n2 : Nat} {v w n d ev a t c : Int} {F : zF} {B : zB} (hK : 812851200 < K) (v0 : 0 ≤ v ∧ v < 4) (w0 : 0 ≤ w ∧ w < 3) (hn : 1 ≤ n ∧ n ≤ 12) (hd : d = 2 ∨ d = 4 ∨ d = 8 ∨ d = 16) (m4 : F 13 w 4 = n) (m5 : F 13 w 5 = d) (a0 : 0 ≤ a) (at' : a < t) (t1 : t ≤ 307200) (hc : B 13 w 13 v = c) (c0 : 0 ≤ c ∧ c ≤ 800) : ∃ G, nG F G ∧ G 14 0 54 = nu (X5 * (a % (512 / d * n))) ∧ G 14 0 55 = de (X5 * (a % (512 / d * n))) ∧ f_M_pieces_16 K (n2 + 1) (de (X5 * (t - a))) (nu (X5 * (t - a))) (de (X5 * a)) (nu (X5 * a)) w v ev 1 F B = zbind (f_M_part K w v ev (a / (512 / d * n)) (nu (X5 * (cuE (512 / d * n) a t - a))) (de (X5 * (cuE (512 / d * n) a t - a))) 1 G B) (fun _ F1 B1 => f_M_pieces_16 K n2 (de (X5 * (t - cuE (512 / d * n) a t))) (nu (X5 * (t - cuE (512 / d * n) a t))) (de (X5 * cuE (512 / d * n) a t)) (nu (X5 * cuE (512 / d * n) a t)) w v ev 1 (fr (fr F1 (X5 * cuE (512 / d * n) a t)) (X5 * (t - cuE (512 / d * n) a t))) B1) := by
  have hu := un_d hd
  have b3 := un_3 hu (n := n) (by first | decide | omega)
  have b4 := un_4 hu (n := n) (by first | decide | omega)
  obtain ⟨bv1, _, _, bv4, bv5⟩ := bar_v hn hd
  rw [bar5 (n := n) hd] at bv1 bv4 bv5
  generalize hb : 512 / d * n = b at *
  have rn : r32 n := by unfold r32; omega
  have rd : r32 d := by unfold r32; omega
  have xa : ∀ y : Int, X5 * y = 1587600 * y := fun _ => rfl
  have x1 := xa a
  have x2 := xa t
  have x3 := xa b
  have x6 := xa (t - a)
  have e1 := Int.mul_ediv_add_emod a b
  have e2 := Int.emod_nonneg a (show b ≠ 0 by omega)
  have e3 := Int.emod_lt_of_pos a (show 0 < b by omega)
  have q0 : 0 ≤ a / b := Int.ediv_nonneg a0 (by first | decide | omega)
  have q1 : a / b ≤ a := Int.ediv_le_self _ a0
  have q2 : (a / b + 1) * b = b * (a / b) + b := by rw [Int.add_mul, Int.one_mul, Int.mul_comm]
  have q3 : (a / b + 1) * (X5 * b) = X5 * ((a / b + 1) * b) := by ac_rfl
  have x4 := xa ((a / b + 1) * b)
  obtain ⟨k1, k2, k3, k4, k5⟩ := cuE_b (b := b) (a := a) (t := t) (by first | decide | omega) a0 at'
  have x5 := xa (cuE b a t)
  have x7 := xa (t - cuE b a t)
  have x8 := xa (cuE b a t - a)
  have x9 := xa (a % b)
  have x10 := xa (b * (a / b))
  obtain ⟨nz1, nz2⟩ := nu_L (l := t - a) (by first | decide | omega) (by first | decide | omega)
  have hr : X5 * ((a / b + 1) * b) - X5 * a = X5 * ((a / b + 1) * b - a) := by have := xa ((a / b + 1) * b - a); omega
  have f1 : FR ((a / b + 1) * n) d (X5 * ((a / b + 1) * b)) := by rw [← q3]; exact FR_k bv1 (by first | decide | omega)
  have f2 : FR (a / b * n) d (X5 * (b * (a / b))) := by
    have := FR_k bv1 q0
    rwa [show a / b * (X5 * b) = X5 * (b * (a / b)) by ac_rfl] at this
  have hm : X5 * a - X5 * (b * (a / b)) = X5 * (a % b) := by omega
  have cmp : ∀ x y : Int, r32 (if x < y then (-1 : Int) else if x = y then 0 else 1) ∧ (0 ≤ (if x < y then (-1 : Int) else if x = y then 0 else 1) ↔ y ≤ x) := fun x y => by
    by_cases z : x < y
    · rw [if_pos z]; exact ⟨by decide, (by first | decide | omega)⟩
    · rw [if_neg z]
      by_cases z' : x = y
      · rw [if_pos z']; exact ⟨by decide, (by first | decide | omega)⟩
      · rw [if_neg z']; exact ⟨by decide, (by first | decide | omega)⟩
  -- the second half
  have e111 : ∀ G : zF, (∀ c y k, ¬ (c = 14 ∧ y = 0 ∧ k ≤ 1) → G c y k = F c y k) → f_M_pieces_111 (f_M_pieces_16 K n2) K (de (X5 * (cuE b a t - a))) (nu (X5 * (cuE b a t - a))) (a / b) (de (X5 * (t - a))) (nu (X5 * (t - a))) (de (X5 * a)) (nu (X5 * a)) w v ev 1 G B = zbind (f_M_part K w v ev (a / b) (nu (X5 * (cuE b a t - a))) (de (X5 * (cuE b a t - a))) 1 (zup3 (zup3 (fr G (X5 * (a % b))) 14 0 54 (nu (X5 * (a % b)))) 14 0 55 (de (X5 * (a % b)))) B) (fun _ F1 B1 => f_M_pieces_16 K n2 (de (X5 * (t - cuE b a t))) (nu (X5 * (t - cuE b a t))) (de (X5 * cuE b a t)) (nu (X5 * cuE b a t)) w v ev 1 (fr (fr F1 (X5 * cuE b a t)) (X5 * (t - cuE b a t))) B1) := fun G hG => by
    unfold f_M_pieces_111
    rw [if_pos w0, hG 13 w 4 (by first | decide | omega), hG 13 w 5 (by first | decide | omega), m4, m5, if_pos rn, if_pos rd, L_minusR hK (FR_r (by first | decide | omega)) f2 (by first | decide | omega) (by first | decide | omega), zb_s, if_pos (show r32 (a / b) by unfold r32; omega), hm, fr_0, fr_1]
    congr 1
    funext r1 F1 B1
    rw [L_plusR hK (FR_r (by first | decide | omega)) (FR_r (by first | decide | omega)) (by first | decide | omega), zb_s, L_minusR hK (FR_r (by first | decide | omega)) (FR_r (by first | decide | omega)) (by first | decide | omega) (by first | decide | omega), zb_s, show X5 * a + X5 * (cuE b a t - a) = X5 * cuE b a t by omega, show X5 * (t - a) - X5 * (cuE b a t - a) = X5 * (t - cuE b a t) by omega, fr_0, fr_1, fr_0, fr_1]
  refine ⟨zup3 (zup3 (fr (fr F (X5 * ((a / b + 1) * b - a))) (X5 * (a % b))) 14 0 54 (nu (X5 * (a % b)))) 14 0 55 (de (X5 * (a % b))), fun c y k h => by rw [zup3_v, if_neg (by first | decide | omega), zup3_v, if_neg (by first | decide | omega), fr_n (by first | decide | omega), fr_n (by first | decide | omega)], by rw [zup3_v, if_neg (by first | decide | omega), zup3_v, if_pos (by first | decide | omega)], by rw [zup3_v, if_pos (by first | decide | omega)], ?_⟩
  rw [f_M_pieces_16, if_pos nz2, if_neg (fun h => by have := nz1.mp h; omega), if_pos w0, if_pos v0, hc, if_pos (show r32 c by unfold r32; omega), if_neg (show ¬ 800 < c by omega), m4, m5, if_pos rn, if_pos rd, L_oftR (FR_r (by first | decide | omega)) bv5 (by first | decide | omega) (by first | decide | omega) (by first | decide | omega) (by first | decide | omega) (by first | decide | omega) (by first | decide | omega), zb_s, X5_d, m4, m5, if_pos rn, if_pos rd, L_minusR hK f1 (FR_r (by first | decide | omega)) (by first | decide | omega) (by first | decide | omega), zb_s, hr, fr_0, fr_1, L_cmpR hK (FR_r (by first | decide | omega)) (FR_r (by have := xa ((a / b + 1) * b - a); omega)) (by first | decide | omega) (by have := xa ((a / b + 1) * b - a); omega), zb_s, if_pos (cmp _ _).1]
  have x11 := xa ((a / b + 1) * b - a)
  by_cases z : (a / b + 1) * b ≤ t
  · have ce : cuE b a t = (a / b + 1) * b := by unfold cuE; split <;> omega
    rw [if_pos ((cmp _ _).2.mpr (by first | decide | omega)), show (a / b + 1) * b - a = cuE b a t - a by rw [ce]]
    exact e111 _ (fun c y k h => fr_n h)
  · have ce : cuE b a t = t := by unfold cuE; rw [if_neg (by first | decide | omega)]
    rw [if_neg (fun h => z (by have := (cmp _ _).2.mp h; omega))]
    have := e111 (fr F (X5 * ((a / b + 1) * b - a))) (fun c y k h => fr_n h)
    rw [show cuE b a t - a = t - a by rw [ce]] at this ⊢
    exact this
/-- a piece outside brackets -/
theorem L_partP {K : zK} {Km m : Nat} {q v w n d ev ro nb f l : Int} {F : zF} {B : zB} {Fm : zF} {Bm : zB} (hKm : 70000000000 < Km) (v0 : 0 ≤ v ∧ v < 4) (w0 : 0 ≤ w ∧ w < 3) (hn : 1 ≤ n ∧ n ≤ 12) (hd : d = 2 ∨ d = 4 ∨ d = 8 ∨ d = 16) (m4 : Fm 13 w 4 = n) (m5 : Fm 13 w 5 = d) (hE : EK K q v w m ev ro F B Bm) (h54 : Fm 14 0 54 = nu (X5 * f)) (f0 : 0 ≤ f) (f1 : f ≤ 3072) (l0 : 0 < l) (l1 : l ≤ 3072) (hfl : l = 512 / d * n → f = 0) : f_M_part Km w v ev nb (nu (X5 * l)) (de (X5 * l)) 1 Fm Bm = if ro = 1 ∧ l = 512 / d * n then zbind (f_M_note_1 Km w v ev nb 9 0 Fm Bm) (fun _ F1 B1 => some (0, F1, B1)) else f_M_part_174 Km Km 1 1 0 w v ev nb (zup3 (zup3 (fr Fm (X5 * l)) 14 0 52 (nu (X5 * l))) 14 0 53 (de (X5 * l))) Bm := by
  have hu := un_d hd
  have b3 := un_3 hu (n := n) (by first | decide | omega)
  obtain ⟨bv1, _, _, bv4, bv5⟩ := bar_v hn hd
  rw [bar5 (n := n) hd] at bv1
  have rn : r32 n := by unfold r32; omega
  have rd : r32 d := by unfold r32; omega
  have xa : ∀ y : Int, X5 * y = 1587600 * y := fun _ => rfl
  have x1 := xa l
  have x2 := xa (512 / d * n)
  obtain ⟨nz1, nz2⟩ := nu_0 (l := f) f0 (by first | decide | omega)
  have nz3 : zcmp (nu (X5 * f)) 0 = 0 ↔ f = 0 := by
    have b := FR_r (p := X5 * f) (by have := xa f; omega)
    have c := b.2.2.1
    rw [zcmp_0]
    constructor
    · intro h; exact nz1.mp (zcmp_m.mpr (by first | decide | omega))
    · intro h; have := zcmp_m.mp (nz1.mpr h); omega
  have e146 : f_M_part_146 Km 1 1 0 w v ev nb (nu (X5 * l)) (de (X5 * l)) Fm Bm = f_M_part_174 Km Km 1 1 0 w v ev nb (zup3 (zup3 (fr Fm (X5 * l)) 14 0 52 (nu (X5 * l))) 14 0 53 (de (X5 * l))) Bm := by
    unfold f_M_part_146
    rw [L_timesR (r := X5 * l) hKm (FR_r (by first | decide | omega)) (by first | decide | omega) (by decide) (by decide) (by decide) (by decide) (by first | decide | omega) rfl, zb_s, fr_0, fr_1]
  have e87 : f_M_part_87 Km 1 0 ro w v ev nb (nu (X5 * l)) (de (X5 * l)) 1 1 Fm Bm = if ro = 1 ∧ l = 512 / d * n then zbind (f_M_note_1 Km w v ev nb 9 0 Fm Bm) (fun _ F1 B1 => some (0, F1, B1)) else f_M_part_174 Km Km 1 1 0 w v ev nb (zup3 (zup3 (fr Fm (X5 * l)) 14 0 52 (nu (X5 * l))) 14 0 53 (de (X5 * l))) Bm := by
    unfold f_M_part_87
    rw [e146]
    rcases (EK_b hE).1 with z | z
    · rw [z, if_pos (by decide), if_pos rfl, if_neg (show ¬ ((0 : Int) = 1 ∧ l = 512 / d * n) from fun h => absurd h.1 (by decide))]
    · rw [z, if_pos (by decide), if_neg (by decide), if_pos (by decide), if_pos rfl, if_pos (by decide), if_neg (by decide), h54, if_pos nz2]
      by_cases y : f = 0
      · rw [if_pos (nz3.mpr y), if_pos w0, m4, m5, if_pos rn, if_pos rd, L_cmpR (by first | decide | omega) (FR_r (by first | decide | omega)) bv1 (by first | decide | omega) (by first | decide | omega), zb_s]
        by_cases c : l = 512 / d * n
        · rw [if_neg (show ¬ X5 * l < X5 * (512 / d * n) by rw [c]; omega), if_pos (show X5 * l = X5 * (512 / d * n) by rw [c]), if_pos (by decide), if_pos rfl, if_pos (show (1 : Int) = 1 ∧ l = 512 / d * n from ⟨rfl, c⟩)]
        · rw [if_neg (show ¬ ((1 : Int) = 1 ∧ l = 512 / d * n) from fun h => c h.2)]
          by_cases c2 : X5 * l < X5 * (512 / d * n)
          · rw [if_pos c2, if_pos (show r32 (-1) by decide), if_neg (show ¬ (-1 : Int) = 0 by decide), e146]
          · rw [if_neg c2, if_neg (show ¬ X5 * l = X5 * (512 / d * n) by omega), if_pos (show r32 1 by decide), if_neg (show ¬ (1 : Int) = 0 by decide), e146]
      · rw [if_neg (fun h => y (nz3.mp h)), if_neg (show ¬ ((1 : Int) = 1 ∧ l = 512 / d * n) from fun h => y (hfl h.2))]
  have e48 : ∀ l10, f_M_part_48 Km ro l10 w v ev nb (nu (X5 * l)) (de (X5 * l)) 1 Fm Bm = f_M_part_87 Km 1 0 ro w v ev nb (nu (X5 * l)) (de (X5 * l)) 1 1 Fm Bm := fun l10 => by
    unfold f_M_part_48 f_M_part_49
    rw [if_pos (by decide), if_pos rfl, f_M_part_68, if_pos (by decide), if_pos rfl]
  rw [← e87]
  unfold f_M_part f_M_part_23
  rcases hE with ⟨h1, h2⟩ | ⟨i, h1, h2, h3, h4', h5, h6, h7, h8, h9⟩
  · rw [h2] at e48 ⊢
    rw [h1] at e48 ⊢
    rw [if_pos (show r32 (-1) by decide), if_pos (by decide), f_M_part_28, if_pos (show r32 (-1) by decide), if_pos (by decide), e48]
  · have e28 : f_M_part_28 Km (1000 * v + ev) w v ev nb (nu (X5 * l)) (de (X5 * l)) 1 ro Fm Bm = f_M_part_87 Km 1 0 ro w v ev nb (nu (X5 * l)) (de (X5 * l)) 1 1 Fm Bm := by
      unfold f_M_part_28
      rw [h1] at e48 ⊢
      rw [if_pos (by unfold r32; omega), if_neg (by first | decide | omega), if_pos w0, if_pos (by first | decide | omega), h6, if_pos (by decide), if_pos (by decide), e48]
    rw [if_pos (by unfold r32; omega), if_neg (by first | decide | omega), if_pos w0, if_pos (by first | decide | omega)]
    rw [show Bm 13 w 21 (1000 * v + ev) = F 1 (B 4 q 5 i) 10 by rw [h1, h7], if_pos (by unfold r32; omega)]
    by_cases z : F 1 (B 4 q 5 i) 10 = 0
    · rw [if_pos z] at h9
      rw [if_pos z, ← e28, h9]
    · rw [if_neg z] at h9
      rw [if_neg z, ← e28, h9]
end
