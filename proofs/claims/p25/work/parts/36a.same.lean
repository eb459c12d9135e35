section
section
variable {cc : Int}
/-! ===== answers alike: both sides only read and answer the same ===== -/
def zE (x y : zO) (F : zF) (B : zB) (Fm : zF) (Bm : zB) : Prop := ∃ r, x = some (r, F, B) ∧ y = some (r, Fm, Bm)
theorem zE_s {r r' : Int} {F Fm : zF} {B Bm : zB} (h : r = r') : zE (some (r, F, B)) (some (r', Fm, Bm)) F B Fm Bm := ⟨r, rfl, by rw [h]⟩
theorem zE_l1 {p : Prop} {d : Decidable p} {x x' y : zO} {F Fm : zF} {B Bm : zB} (h : p) (k : zE x y F B Fm Bm) : zE (@ite _ p d x x') y F B Fm Bm := by
  rw [if_pos h]; exact k
theorem zE_l0 {p : Prop} {d : Decidable p} {x x' y : zO} {F Fm : zF} {B Bm : zB} (h : ¬ p) (k : zE x' y F B Fm Bm) : zE (@ite _ p d x x') y F B Fm Bm := by
  rw [if_neg h]; exact k
theorem zE_r1 {p : Prop} {d : Decidable p} {x x' y : zO} {F Fm : zF} {B Bm : zB} (h : p) (k : zE y x F B Fm Bm) : zE y (@ite _ p d x x') F B Fm Bm := by
  rw [if_pos h]; exact k
theorem zE_r0 {p : Prop} {d : Decidable p} {x x' y : zO} {F Fm : zF} {B Bm : zB} (h : ¬ p) (k : zE y x' F B Fm Bm) : zE y (@ite _ p d x x') F B Fm Bm := by
  rw [if_neg h]; exact k
theorem zE_i {p : Prop} {d : Decidable p} {x x' y : zO} {F Fm : zF} {B Bm : zB} (h1 : p → zE x y F B Fm Bm) (h2 : ¬ p → zE x' y F B Fm Bm) : zE (@ite _ p d x x') y F B Fm Bm := by
  by_cases c : p
  · rw [if_pos c]; exact h1 c
  · rw [if_neg c]; exact h2 c
theorem zE_bl {x y : zO} {k : Int → zF → zB → zO} {r : Int} {F Fm : zF} {B Bm : zB} (e : x = some (r, F, B)) (h : zE (k r F B) y F B Fm Bm) : zE (zbind x k) y F B Fm Bm := by
  rw [e, zb_s]; exact h
theorem zE_br {x y : zO} {k : Int → zF → zB → zO} {r : Int} {F Fm : zF} {B Bm : zB} (e : x = some (r, Fm, Bm)) (h : zE y (k r Fm Bm) F B Fm Bm) : zE y (zbind x k) F B Fm Bm := by
  rw [e, zb_s]; exact h
theorem e_voice {Km : Nat} (a1 a2 a3 : Int) (h1 : r32 a1) (h2 : r32 a2) (h3 : r32 a3) {K : zK} {F Fm : zF} {B Bm : zB} (h : IV cc Km K F B Fm Bm) : zE (f_S_voice K 0 a1 a2 a3 F B) (f_M_voice Km a1 a2 a3 Fm Bm) F B Fm Bm := by
  obtain ⟨x, y, e, e1, e2, e3, e4⟩ := prt h h1 h2
  unfold f_S_voice f_M_voice f_M_voice_72
  refine zE_l1 (IV_12 h) (zE_bl e1 (zE_br e2 (zE_br e3 ?_)))
  rcases e4 with ⟨x0, rfl⟩ | ⟨rfl, x0, y0, z0, q, V, vV, ex, hP, _⟩
  · exact zE_l1 x0 (zE_r1 (by decide) (zE_r1 rfl (zE_s rfl)))
  · obtain ⟨hV, m, g, hW, _⟩ := hP.2.2 a2 z0.1 vV
    rw [← ex] at hW
    obtain ⟨_, v0, ⟨v1, _⟩, ⟨v2, _⟩, _⟩ := hV
    rw [← ex] at v0 v1 v2
    obtain ⟨⟨m1, _⟩, m2, _, _, _, _, _, _, c, ⟨_, n1, _, n2, _⟩, _⟩ := hW
    exact zE_l0 (by omega) (zE_l1 h3 (zE_r1 (by decide) (zE_r0 (by decide) (zE_r1 h3 (zE_i (fun c => zE_l1 x0 (zE_r1 c (zE_r1 y0 (zE_r1 z0 (zE_s v1))))) (fun c => zE_r0 c (zE_i (fun c => zE_l1 x0 (zE_r1 c (zE_r1 y0 (zE_r1 z0 (zE_s v2))))) (fun c => zE_r0 c (zE_i (fun c => zE_l1 x0 (zE_r1 c (zE_r1 y0 (zE_r1 z0 (zE_s (by rw [m1, m2])))))) (fun c => zE_r0 c (zE_i (fun c => zE_l1 x0 (zE_r1 c (zE_r1 y0 (zE_r1 z0 (zE_s (by rw [n1, n2])))))) (fun c => zE_r0 c (zE_s rfl)))))))))))))
theorem e_name {Km : Nat} (a1 a2 : Int) (h1 : r32 a1) (h2 : r32 a2) {K : zK} {F Fm : zF} {B Bm : zB} (h : IV cc Km K F B Fm Bm) : zE (f_S_name K 0 a1 a2 F B) (f_M_name Km a1 a2 Fm Bm) F B Fm Bm := by
  obtain ⟨x, y, e, e1, e2, e3, e4⟩ := prt h h1 h2
  unfold f_S_name f_S_name_19 f_M_name f_M_name_24
  refine zE_l1 (IV_12 h) (zE_bl e1 (zE_br e2 (zE_br e3 ?_)))
  rcases e4 with ⟨x0, rfl⟩ | ⟨rfl, x0, y0, z0, q, V, vV, ex, hP, _⟩
  · exact zE_l1 x0 (zE_r1 (by decide) (zE_r1 rfl (zE_s rfl)))
  · obtain ⟨hV, m, g, hW, _⟩ := hP.2.2 a2 z0.1 vV
    obtain ⟨_, v0, _⟩ := hV
    rw [← ex] at v0
    exact zE_l0 (by omega) (zE_l1 x0 (zE_r1 (by decide) (zE_r0 (by decide) (zE_r1 y0 (zE_r1 z0 (zE_s v0))))))
theorem C_gcd9 {K : zK} {F : zF} {B : zB} : ∀ (d n : Nat) (k x y : Int), k + d ≤ 199 → 0 ≤ k → d < n → 0 ≤ y → y ≤ x → x < 9223372036854775808 → x * y < 2 ^ d → f_S_gcd_9 K n k y x F B = some (gc x y, F, B) := by
  have z0 : ∀ x : Int, 0 ≤ x → gc x 0 = x := fun x x0 => by
    unfold gc
    rw [show (0 : Int).toNat = 0 from rfl, Nat.gcd_zero_right]
    omega
  intro d
  induction d with
  | zero =>
    intro n k x y hk k0 hn y0 yx x1 hp
    obtain ⟨p, rfl⟩ : ∃ p, n = p + 1 := ⟨n - 1, by omega⟩
    have e : y = 0 := by
      by_cases c : y = 0
      · exact c
      · have a1 : (1 : Int) * 1 ≤ x * y := Int.mul_le_mul (by omega) (by omega) (by omega) (by omega)
        rw [show (2 : Int) ^ 0 = 1 from rfl] at hp
        omega
    rw [f_S_gcd_9, if_pos (by unfold r32; omega), if_neg (by omega), if_pos (by unfold r64; omega), if_pos (zcmp_0.mpr e), f_S_gcd_45, e, z0 x (by omega)]
  | succ d ih =>
    intro n k x y hk k0 hn y0 yx x1 hp
    obtain ⟨p, rfl⟩ : ∃ p, n = p + 1 := ⟨n - 1, by omega⟩
    rw [f_S_gcd_9, if_pos (by unfold r32; omega), if_neg (by omega), if_pos (by unfold r64; omega)]
    by_cases e : y = 0
    · rw [if_pos (zcmp_0.mpr e), f_S_gcd_45, e, z0 x (by omega)]
    · rw [if_neg (fun z => e (zcmp_0.mp z)), if_pos (lI_n0 (by omega) (by unfold r64; omega)), zlrm_e (by omega) x1 (by omega) (by omega)]
      have m0 : 0 ≤ x % y := Int.emod_nonneg x e
      have m1 : x % y < y := Int.emod_lt_of_pos x (by omega)
      have hh : 2 * (x % y) ≤ x := by
        have a := Int.mul_ediv_add_emod x y
        have b : 1 ≤ x / y := Int.le_ediv_of_mul_le (by omega) (by omega)
        have c : y * 1 ≤ y * (x / y) := Int.mul_le_mul_of_nonneg_left b y0
        omega
      have hq : y * (x % y) < 2 ^ d := by
        have a : y * (2 * (x % y)) ≤ y * x := Int.mul_le_mul_of_nonneg_left hh y0
        rw [Int.mul_left_comm, Int.mul_comm y x] at a
        rw [Int.pow_succ] at hp
        omega
      rw [ih p (k + 1) y (x % y) (by omega) (by omega) (by omega) m0 (by omega) (by omega) hq]
      have g : gc y (x % y) = gc x y := by
        unfold gc
        have e2 : (x % y).toNat = x.toNat % y.toNat := by
          apply Int.ofNat_inj.mp
          rw [Int.natCast_emod, show ((x.toNat : Nat) : Int) = x by omega, show ((y.toNat : Nat) : Int) = y by omega]
          omega
        rw [e2, Nat.gcd_comm y.toNat, ← Nat.gcd_rec, Nat.gcd_comm]
      rw [g]
theorem C_gcdE {K : zK} {x : Int} {F : zF} {B : zB} (hK : 300 ≤ K.1) (hx : 0 ≤ x ∧ x ≤ 1000000000000) : f_S_gcd K x 812851200 F B = some (gc x 812851200, F, B) := by
  unfold f_S_gcd
  by_cases c : 812851200 ≤ x
  · exact C_gcd9 70 K.1 0 x 812851200 (by omega) (by omega) (by omega) (by omega) c (by omega) (by rw [show (2 : Int) ^ 70 = 1180591620717411303424 from rfl]; omega)
  · obtain ⟨p, ep⟩ : ∃ p, K.1 = p + 1 := ⟨K.1 - 1, by omega⟩
    rw [ep, f_S_gcd_9, if_pos (by decide), if_neg (by decide), if_pos (by decide), if_neg (by decide), if_pos (lI_n0 (by decide) (by decide)), zlrm_e hx.1 (by omega) (by decide) (by decide), Int.emod_eq_of_lt hx.1 (by omega)]
    rw [C_gcd9 70 p (0 + 1) 812851200 x (by omega) (by omega) (by omega) hx.1 (by omega) (by omega) (by rw [show (2 : Int) ^ 70 = 1180591620717411303424 from rfl]; omega)]
    unfold gc
    rw [Nat.gcd_comm]
theorem C_aboveE {K : zK} {x : Int} {F : zF} {B : zB} (hK : 300 ≤ K.1) (hx : 0 ≤ x ∧ x ≤ 1000000000000) : f_S_above K x F B = some (nu x, F, B) := by
  have g0 : 0 < gc x 812851200 := gc_pos (by decide)
  have g1 : gc x 812851200 ≤ 812851200 := gc_le (by decide)
  unfold f_S_above f_S_above_21
  rw [C_gcdE hK hx, zb_s, if_pos (by unfold r64; omega), if_neg (fun z => by have := zcmp_0.mp z; omega), if_pos (lI_n0 g0 (by unfold r64; omega)), zldv_e hx.1 (by omega) g0 (by omega)]
  rfl
theorem C_belowE {K : zK} {x : Int} {F : zF} {B : zB} (hK : 300 ≤ K.1) (hx : 0 ≤ x ∧ x ≤ 1000000000000) : f_S_below K x F B = some (de x, F, B) := by
  have g0 : 0 < gc x 812851200 := gc_pos (by decide)
  have g1 : gc x 812851200 ≤ 812851200 := gc_le (by decide)
  unfold f_S_below f_S_below_25
  rw [C_gcdE hK hx, zb_s, if_pos (by unfold r64; omega), if_neg (fun z => by have := zcmp_0.mp z; omega), if_pos (lI_n0 g0 (by unfold r64; omega)), zldv_e (by decide) (by decide) g0 (by omega)]
  rfl
theorem evn {Km : Nat} {K : zK} {F Fm : zF} {B Bm : zB} (h : IV cc Km K F B Fm Bm) {a1 a2 a3 x y : Int} (h1 : r32 a1) (h2 : r32 a2) (h3 : r32 a3) (c1 : f_S_eventAt K 0 a1 a2 a3 F B = some (x, F, B)) (c2 : f_M_piece Km a1 Fm Bm = some (y, Fm, Bm)) (x0 : 0 ≤ x) : Bm 13 y 14 (1000 * a2 + a3) = nu (F 1 x 0) ∧ Bm 13 y 15 (1000 * a2 + a3) = de (F 1 x 0) := by
  obtain ⟨x', y', e, e1, e2, e3, e4⟩ := prt h h1 h2
  obtain rfl : y' = y := congrArg Prod.fst (Option.some.inj (e2.symm.trans c2))
  have h12 := IV_12 h
  unfold f_S_eventAt f_S_eventAt_26 f_S_eventAt_37 at c1
  rw [if_pos h12, e1, zb_s] at c1
  rcases e4 with ⟨x0', rfl⟩ | ⟨rfl, x0', y0, z0, q, V, vV, ex, hP, _⟩
  · rw [if_pos x0'] at c1
    have : -1 = x := congrArg Prod.fst (Option.some.inj c1)
    omega
  · obtain ⟨_, m, g, hV, _⟩ := hP.2.2 a2 z0.1 vV
    rw [← ex] at hV
    obtain ⟨v1, v2, v3, v4, v5, v6, _⟩ := hV
    rw [if_neg (by omega), if_pos h3] at c1
    by_cases c : a3 < 0
    · rw [if_pos c] at c1
      have : -1 = x := congrArg Prod.fst (Option.some.inj c1)
      omega
    · rw [if_neg c, if_pos x0', if_pos (by unfold r32; omega)] at c1
      by_cases d : a3 < F 4 x' 6
      · rw [if_pos d, if_pos (by omega)] at c1
        obtain rfl : B 4 x' 5 a3 = x := congrArg Prod.fst (Option.some.inj c1)
        obtain ⟨w1, w2, w3, w4, _⟩ := v6 a3.toNat (by omega)
        rw [show ((a3.toNat : Nat) : Int) = a3 by omega] at w2 w3 w4
        exact ⟨by rw [w2]; exact w3, by rw [w2]; exact w4⟩
      · rw [if_neg d] at c1
        have : -1 = x := congrArg Prod.fst (Option.some.inj c1)
        omega
theorem e_event {Km : Nat} (a1 a2 a3 a4 : Int) (h1 : r32 a1) (h2 : r32 a2) (h3 : r32 a3) (h4 : r32 a4) {K : zK} {F Fm : zF} {B Bm : zB} (h : IV cc Km K F B Fm Bm) : zE (f_S_event K 0 a1 a2 a3 a4 F B) (f_M_event_1 Km a1 a2 a3 a4 Fm Bm) F B Fm Bm := by
  obtain ⟨x, y, e, e1, e2, e3, e4⟩ := evt h h1 h2 h3
  have hK := (IV_k h).1
  have nn := evn h h1 h2 h3 e1 e2
  unfold f_S_event f_M_event_1 f_M_event_1_31
  refine zE_l1 (IV_12 h) (zE_bl e1 (zE_br e2 (zE_br e3 ?_)))
  rcases e4 with ⟨x0, rfl | ⟨rfl, y0, z0, r0, c0⟩⟩ | ⟨rfl, x0, y0, z0, c0, ev, pl⟩
  · exact zE_l1 x0 (zE_r1 (by decide) (zE_r1 rfl (zE_s rfl)))
  · refine zE_l1 x0 (zE_r1 (by decide) (zE_r0 (by decide) (zE_r1 h3 ?_)))
    by_cases c : a3 < 0
    · exact zE_r1 c (zE_s rfl)
    · exact zE_r0 c (zE_r1 y0 (zE_r1 z0 (zE_r1 r0 (zE_r0 (by omega) (zE_s rfl)))))
  · obtain ⟨n1, n2⟩ := nn x0.1
    obtain ⟨_, _, _, _, l1, _, _, k7, k8, k9, k10⟩ := ev
    have k11 := k10.2.2.1
    have k12 := k10.2.1
    have pl1 : 0 ≤ F 1 x 1 ∧ F 1 x 1 ≤ 1000000000000 := by omega
    have xb : 0 ≤ 1000 * a2 + a3 ∧ 1000 * a2 + a3 < 4000 := by omega
    refine zE_l0 (by omega) (zE_l1 h4 (zE_r1 (by decide) (zE_r0 (by decide) (zE_r1 h3 (zE_r0 (by omega) (zE_r1 y0 (zE_r1 z0 (zE_r1 (by unfold r32; omega) (zE_r1 (by omega) (zE_r1 h4 ?_))))))))))
    refine zE_i (fun c => zE_r1 c (zE_l1 x0 (zE_bl (C_aboveE (by omega) pl) (zE_r1 xb (zE_s n1.symm))))) (fun c => zE_r0 c ?_)
    refine zE_i (fun c => zE_r1 c (zE_l1 x0 (zE_bl (C_belowE (by omega) pl) (zE_r1 xb (zE_s n2.symm))))) (fun c => zE_r0 c ?_)
    refine zE_i (fun c => zE_r1 c (zE_l1 x0 (zE_bl (C_aboveE (by omega) pl1) (zE_r1 xb (zE_s l1.1.symm))))) (fun c => zE_r0 c ?_)
    refine zE_i (fun c => zE_r1 c (zE_l1 x0 (zE_bl (C_belowE (by omega) pl1) (zE_r1 xb (zE_s l1.2.1.symm))))) (fun c => zE_r0 c ?_)
    refine zE_i (fun c => zE_r1 c (zE_l1 x0 (zE_l1 (by unfold r32; omega) (zE_r1 xb (zE_r1 (by unfold r32; omega) (zE_s k12.symm)))))) (fun c => zE_r0 c ?_)
    refine zE_i (fun c => zE_r1 c (zE_l1 x0 (zE_l1 (by unfold r32; omega) (zE_r1 xb (zE_r1 (by unfold r32; omega) (zE_s k7.1)))))) (fun c => zE_r0 c ?_)
    refine zE_i (fun c => zE_r1 c (zE_l1 x0 (zE_l1 (by unfold r32; omega) (zE_r1 xb (zE_r1 (by unfold r32; omega) (zE_s k8.1)))))) (fun c => zE_r0 c ?_)
    refine zE_i (fun c => zE_r1 c (zE_l1 x0 (zE_l1 (by unfold r32; omega) (zE_r1 xb (zE_r1 (by unfold r32; omega) (zE_s k9.1)))))) (fun c => zE_r0 c (zE_s rfl))
theorem e_pitch {Km : Nat} (a1 a2 a3 a4 a5 : Int) (h1 : r32 a1) (h2 : r32 a2) (h3 : r32 a3) (h4 : r32 a4) (h5 : r32 a5) {K : zK} {F Fm : zF} {B Bm : zB} (h : IV cc Km K F B Fm Bm) : zE (f_S_pitch K 0 a1 a2 a3 a4 a5 F B) (f_M_pitch Km a1 a2 a3 a4 a5 Fm Bm) F B Fm Bm := by
  obtain ⟨x, y, e, e1, e2, e3, e4⟩ := evt h h1 h2 h3
  unfold f_S_pitch f_S_pitch_29 f_M_pitch f_M_pitch_54 f_M_pitch_121
  refine zE_l1 (IV_12 h) (zE_bl e1 (zE_br e2 (zE_br e3 ?_)))
  rcases e4 with ⟨x0, rfl | ⟨rfl, y0, z0, r0, c0⟩⟩ | ⟨rfl, x0, y0, z0, c0, ev, pl⟩
  · exact zE_l1 x0 (zE_r1 (by decide) (zE_r1 rfl (zE_s rfl)))
  · refine zE_l1 x0 (zE_r1 (by decide) (zE_r0 (by decide) (zE_r1 h3 ?_)))
    by_cases c : a3 < 0
    · exact zE_r1 c (zE_s rfl)
    · exact zE_r0 c (zE_r1 y0 (zE_r1 z0 (zE_r1 r0 (zE_r1 (by omega) (zE_s rfl)))))
  · obtain ⟨_, _, _, _, l1, _, _, k7, k8, k9, k10⟩ := ev
    have k11 := k10.2.2.1
    have k12 := k10.2.1
    have kk := k10.2.2.2.1
    have xb : 0 ≤ 1000 * a2 + a3 ∧ 1000 * a2 + a3 < 4000 := by omega
    refine zE_l0 (by omega) (zE_l1 h4 (zE_r1 (by decide) (zE_r0 (by decide) (zE_r1 h3 (zE_r0 (by omega) (zE_r1 y0 (zE_r1 z0 (zE_r1 (by unfold r32; omega) (zE_r0 (by omega) (zE_r1 h4 ?_))))))))))
    refine zE_i (fun c => zE_r1 c (zE_s rfl)) (fun c => zE_r0 c (zE_l1 x0 (zE_l1 (by unfold r32; omega) (zE_r1 xb (zE_r1 (by unfold r32; omega) ?_)))))
    refine zE_i (fun d => zE_r1 (by omega) (zE_l1 h5 (zE_r1 h5 ?_))) (fun d => zE_r0 (by omega) (zE_s rfl))
    obtain ⟨q1, q2, q3, q4⟩ := kk a4 (by omega) d
    have yb : 0 ≤ 6 * (1000 * a2 + a3) + a4 ∧ 6 * (1000 * a2 + a3) + a4 < 24000 := by omega
    refine zE_i (fun c => zE_r1 c (zE_l1 (by omega) (zE_r1 yb (zE_s q1)))) (fun c => zE_r0 c ?_)
    refine zE_i (fun c => zE_r1 c (zE_l1 (by omega) (zE_r1 yb (zE_s q2)))) (fun c => zE_r0 c ?_)
    refine zE_i (fun c => zE_r1 c (zE_bl (C_tone x0 (by omega) q3) (zE_br (r := tnv (B 1 x 12 a4) + B 1 x 13 a4) ?_ (zE_s rfl)))) (fun c => zE_r0 c (zE_s rfl))
    unfold f_M_toneAt
    rw [if_pos y0, if_pos yb, ← q1, ← q2, L_toneT q3.1 q3.2, zb_s]
theorem e_track {Km : Nat} (a1 : Int) (h1 : r32 a1) {K : zK} {F Fm : zF} {B Bm : zB} (h : IV cc Km K F B Fm Bm) : zE (f_S_track K 0 a1 F B) (f_M_track Km a1 Fm Bm) F B Fm Bm := by
  have h12 := IV_12 h
  have hO : IOp K F B Fm Bm := by obtain ⟨_, _, _, _, _, _, _, _, hO, _⟩ := h; exact hO
  obtain ⟨⟨_, i2⟩, _, _, i5⟩ := hO
  unfold f_S_track f_S_track_17 f_S_track_45 f_M_track f_M_track_26 f_M_track_29
  refine zE_l1 h12 ?_
  rcases i5 with ⟨x0, z⟩ | ⟨x0, z, hP⟩
  · exact zE_l1 x0 (zE_r1 (by rw [z]; decide) (zE_r1 z (zE_s rfl)))
  · obtain ⟨⟨⟨b0, _⟩, ⟨b1, _⟩, ⟨b2, _⟩, ⟨b3, _⟩, ⟨b4, _⟩, ⟨b5, _⟩, ⟨b6, _⟩⟩, ⟨b7, _⟩, _⟩ := hP
    refine zE_l0 (by omega) (zE_r1 (by rw [z]; decide) (zE_r0 (by omega) (zE_l1 h1 (zE_r1 h1 ?_))))
    refine zE_i (fun c => zE_r1 c (zE_s rfl)) (fun c => zE_r0 c ?_)
    refine zE_i (fun d => zE_r0 (by omega) (zE_r1 (by omega) ?_)) (fun d => zE_r1 (by omega) (zE_s rfl))
    refine zE_i (fun f => zE_l1 ⟨x0, i2⟩ (zE_s (by rw [f]; exact b7))) (fun f => zE_l1 ⟨x0, i2⟩ (zE_l1 (by omega) (zE_s ?_)))
    have : a1 = 0 ∨ a1 = 1 ∨ a1 = 2 ∨ a1 = 3 ∨ a1 = 4 ∨ a1 = 5 ∨ a1 = 6 := by omega
    rcases this with rfl | rfl | rfl | rfl | rfl | rfl | rfl
    · exact b0
    · exact b1
    · exact b2
    · exact b3
    · exact b4
    · exact b5
    · exact b6
theorem e_sound {Km : Nat} (a1 a2 : Int) (h1 : r32 a1) (h2 : r32 a2) {K : zK} {F Fm : zF} {B Bm : zB} (h : IV cc Km K F B Fm Bm) : zE (f_S_sound K 0 a1 a2 F B) (f_M_sound_0 Km a1 a2 Fm Bm) F B Fm Bm := by
  have h12 := IV_12 h
  have hO : IOp K F B Fm Bm := by obtain ⟨_, _, _, _, _, _, _, _, hO, _⟩ := h; exact hO
  obtain ⟨⟨_, i2⟩, _, _, i5⟩ := hO
  unfold f_S_sound f_S_sound_32 f_M_sound_0 f_M_sound_0_22 f_M_sound_0_106
  refine zE_l1 h12 ?_
  rcases i5 with ⟨x0, z⟩ | ⟨x0, z, hP⟩
  · exact zE_l1 x0 (zE_r1 (by rw [z]; decide) (zE_r1 z (zE_s rfl)))
  · have l := hP.2.1
    have e := hP.2.2.1
    have q := hP.2.2.2.1
    have q0 := hP.1.1
    refine zE_l0 (by omega) (zE_r1 (by rw [z]; decide) (zE_r0 (by omega) (zE_l1 h1 (zE_r1 h1 ?_))))
    refine zE_i (fun c => zE_r1 c (zE_s rfl)) (fun c => zE_r0 c (zE_l1 ⟨x0, i2⟩ (zE_l1 (by unfold r32; omega) (zE_r1 (by unfold r32; omega) ?_))))
    refine zE_i (fun d => zE_r0 (by omega) (zE_s rfl)) (fun d => zE_r1 (by omega) (zE_l1 h2 (zE_r1 h2 ?_)))
    obtain ⟨g0, g1, g2, g3, g4, g5⟩ := e a1 (by omega) (by omega)
    have q1 := q a1 (by omega) (by omega)
    have ab : 0 ≤ a1 ∧ a1 < 400 := by omega
    refine zE_i (fun f => zE_r0 (by omega) (zE_r0 (by omega) (zE_r0 (by omega) (zE_r0 (by omega) (zE_r0 (by omega) (zE_r0 (by omega) (zE_s rfl))))))) (fun f => ?_)
    refine zE_i (fun k => zE_l1 (by omega) (zE_l1 ab ?_)) (fun k => zE_r0 (by omega) (zE_r0 (by omega) (zE_r0 (by omega) (zE_r0 (by omega) (zE_r0 (by omega) (zE_r0 (by omega) (zE_s rfl)))))))
    have : a2 = 0 ∨ a2 = 1 ∨ a2 = 2 ∨ a2 = 3 ∨ a2 = 4 ∨ a2 = 5 := by omega
    rcases this with rfl | rfl | rfl | rfl | rfl | rfl
    · exact zE_r1 rfl (zE_r1 ab (zE_r1 (by unfold r32; omega) (zE_s g0)))
    · exact zE_r0 (by decide) (zE_r1 rfl (zE_r1 ab (zE_r1 (by unfold r32; omega) (zE_s g1))))
    · exact zE_r0 (by decide) (zE_r0 (by decide) (zE_r1 rfl (zE_r1 ab (zE_r1 (by unfold r32; omega) (zE_s g2)))))
    · exact zE_r0 (by decide) (zE_r0 (by decide) (zE_r0 (by decide) (zE_r1 rfl (zE_r1 ab (zE_r1 (by unfold r32; omega) (zE_s g3))))))
    · exact zE_r0 (by decide) (zE_r0 (by decide) (zE_r0 (by decide) (zE_r0 (by decide) (zE_r1 rfl (zE_r1 ab (zE_s g4))))))
    · exact zE_r0 (by decide) (zE_r0 (by decide) (zE_r0 (by decide) (zE_r0 (by decide) (zE_r0 (by decide) (zE_r1 rfl (zE_r1 ab (zE_s g5)))))))
end
end
section
section
variable {cc : Int}
/-! ===== answers alike: the other calls whose equality stands ===== -/
theorem sm3 {x : zO} {r r' : Int} {F F' : zF} {B B' : zB} (h : x = some (r, F, B)) (h' : x = some (r', F', B')) : r = r' := congrArg Prod.fst (Option.some.inj (h.symm.trans h'))
theorem sm4 {x : zOm} {r r' : Int} {F F' : zF} {B B' : zB} {K K' : zK} (h : x = some (r, F, B, K)) (h' : x = some (r', F', B', K')) : r = r' := congrArg Prod.fst (Option.some.inj (h.symm.trans h'))
theorem e_stroke {Km : Nat} (a1 a2 a3 : Int) (h1 : r32 a1) (h2 : r32 a2) (h3 : r32 a3) {K : zK} {F Fm : zF} {B Bm : zB} (h : IV cc Km K F B Fm Bm) : zE (f_S_stroke K 0 a1 a2 a3 F B) (f_M_stroke Km a1 a2 a3 Fm Bm) F B Fm Bm := by
  obtain ⟨x, y, e1, e2, e3⟩ := prf h h1
  unfold f_S_stroke f_S_stroke_23 f_M_stroke f_M_stroke_33 f_M_stroke_89
  refine zE_l1 (IV_12 h) (zE_bl e1 (zE_br e2 ?_))
  rcases e3 with ⟨x0, y0 | ⟨y0, z⟩⟩ | ⟨x0, y0, z, c, pfd, hr⟩
  · exact zE_l1 x0 (zE_r1 y0 (zE_s rfl))
  · exact zE_l1 x0 (zE_r0 (by omega) (zE_r1 y0 (zE_r1 (by rw [z]; decide) (zE_r1 z (zE_s rfl)))))
  · have hc := pfd.1.2
    have h60 := pfd.2.1.2.2
    refine zE_l0 (by omega) (zE_l1 x0 ?_)
    refine zE_r0 (by omega) (zE_r1 y0 (zE_r1 (by rw [z]; decide) (zE_r0 (by omega) (zE_r1 h2 ?_))))
    by_cases r : 0 ≤ a2 ∧ a2 < 2 * c
    · obtain ⟨on, ev, j, e, w1, w2, w3, w4, w5, w6, w7, _⟩ := PFD_s pfd r.1 r.2
      obtain ⟨t0, t1, t2, t3⟩ := C_toldK (K := K) x0 ⟨hc.1, hc.2⟩ hr r.1 r.2 w1 w2 w3 w4 w5 w6 e
      have ab : 0 ≤ a2 ∧ a2 < 4000 := by omega
      refine zE_r0 (by omega) (zE_r1 (by unfold r32; omega) (zE_r1 (by omega) (zE_r1 h3 ?_)))
      by_cases c0 : a3 = 0
      · rw [c0]; exact zE_r1 rfl (zE_bl t0 (zE_r1 ab (zE_s rfl)))
      · refine zE_r0 c0 ?_
        by_cases c1 : a3 = 1
        · rw [c1]; exact zE_r1 rfl (zE_bl t1 (zE_r1 ab (zE_s rfl)))
        · refine zE_r0 c1 ?_
          by_cases c2 : a3 = 2
          · rw [c2]; exact zE_r1 rfl (zE_bl t2 (zE_r1 ab (zE_s rfl)))
          · refine zE_r0 c2 ?_
            by_cases c3 : a3 = 3
            · rw [c3]; exact zE_r1 rfl (zE_bl t3 (zE_r1 ab (zE_s w7)))
            · refine zE_r0 c3 (zE_bl (r := -1) ?_ (zE_s rfl))
              obtain ⟨g1, g2⟩ : ((lnC 5 x (F 5 x 8).toNat : Nat) : Int) = 4000 ∧ zk 5 (F 5 x 8).toNat = (3, 1) := by
                rcases hr with ⟨e8, _⟩ | ⟨e8, _⟩
                · rw [e8]; exact ⟨rfl, by decide⟩
                · rw [e8]; exact ⟨rfl, by decide⟩
              have g3 : lnC 5 x (F 5 x 8).toNat ≤ 2147483647 := by omega
              unfold f_Performance_strokeTold
              rw [if_pos h2, if_neg (by omega), if_pos x0, hc.1, if_pos (by unfold r32; omega), if_pos r.2, if_pos (by omega), if_pos g2, if_pos g3, if_pos h3, if_neg c0, if_neg c1, if_neg c2, if_neg c3]
    · unfold f_Performance_strokeTold f_Performance_strokeTold_14
      rw [if_pos h2]
      by_cases z' : a2 < 0
      · rw [if_pos z', zb_s]; exact zE_r1 z' (zE_s rfl)
      · rw [if_neg z', if_pos x0, hc.1, if_pos (by unfold r32; omega), if_neg (by omega), zb_s]
        exact zE_r0 z' (zE_r1 (by unfold r32; omega) (zE_r0 (by omega) (zE_s rfl)))
theorem v_perform {Km : Nat} (a1 : Int) (h1 : r32 a1) {K : zK} {F Fm : zF} {B Bm : zB} (h : IV cc Km K F B Fm Bm) : ∃ r F1 B1 K1 F2 B2, f_S_perform K 0 a1 F B = some (r, F1, B1, K1) ∧ f_M_perform Km a1 Fm Bm = some (r, F2, B2) := by
  obtain ⟨x, y, e1, e2, e3⟩ := slot h h1
  have h12 := IV_12 h
  have hk := IV_k h
  rcases e3 with ⟨x0, y0⟩ | ⟨x0, y0, V, hP, hM, hD⟩
  · refine ⟨-1, F, B, K, Fm, Bm, ?_, ?_⟩
    · unfold f_S_perform
      rw [if_pos h12, e1]
      simp only [zbN_s]
      rw [if_pos x0]
    · unfold f_M_perform
      rw [e2, zb_s, if_pos (by omega)]
  · have hT : T61 Bm := by obtain ⟨_, _, _, _, _, _, hE, _⟩ := h; exact hE.2.1
    have h5 : 0 ≤ K.2 5 := by obtain ⟨_, _, _, _, _, _, hE, _⟩ := h; have := hE.1.1.2.2; omega
    obtain ⟨r, s, F', B', K', Fm', Bm', y1, y2, _⟩ := P_prf (K := K) (Km := Km) (by omega) (by omega) h5 hP hT hD
    refine ⟨r, F', B', K', Fm', Bm', ?_, ?_⟩
    · unfold f_S_perform
      rw [if_pos h12, e1]
      simp only [zbN_s]
      rw [if_neg (by omega), if_pos x0, if_pos x0.2]
      exact y1
    · unfold f_M_perform
      rw [e2, zb_s, if_neg (by omega), if_pos y0]
      exact y2
theorem v_file {Km : Nat} (a1 : Int) (h1 : r32 a1) {K : zK} {F Fm : zF} {B Bm : zB} (h : IV cc Km K F B Fm Bm) : ∃ r F1 B1 F2 B2, f_S_file K 0 a1 F B = some (r, F1, B1) ∧ f_M_file Km a1 Fm Bm = some (r, F2, B2) := by
  obtain ⟨p, p0, p1, w, w0, w1, hE, hW, hO, h7, hX, hK⟩ := h
  have hA := hE.1.1
  have hB := hE.1.2.1
  obtain ⟨n1, n2, n3, n4, n5, n6⟩ := hE.1.2.2.2.2.1
  have hWw := hE.1.2.2.2.2.2.1
  have s0 := hE.1.2.2.2.2.2.2.2.2.2.1
  have s1 := hE.1.2.2.2.2.2.2.2.2.2.2
  have h12 : 0 < K.2 12 := by have := hA.2.2; omega
  by_cases z : a1 < 0 ∨ 2 ≤ a1
  · refine ⟨-1, F, B, Fm, Bm, ?_, ?_⟩
    · have x1 := C_atx (K := K) (F := F) (B := B) h1 z
      unfold f_S_file f_S_performanceOf f_S_performanceOf_17 f_S_performanceOf_25 f_S_file_20
      rw [if_pos ⟨by omega, h12⟩, x1, zb_s, if_pos ⟨by omega, h12⟩, x1, zb_s, if_pos (by decide), zb_s, if_pos (by decide)]
    · have x1 := L_atx (Km := Km) (F := Fm) (B := Bm) h1 z
      unfold f_M_file f_M_file_17
      rw [x1, zb_s, if_pos (by decide)]
  · have go : ∀ q v, B 12 0 3 a1 = q → Bm 14 0 5 a1 = v → 0 ≤ v ∧ v < 3 → SLD K q v F B Fm Bm → ∃ r F1 B1 F2 B2, f_S_file K 0 a1 F B = some (r, F1, B1) ∧ f_M_file Km a1 Fm Bm = some (r, F2, B2) := fun q v eq ev hv hs => by
      obtain ⟨r, F', B', r', Fm', Bm', x1, x2, e, _⟩ := P_fl (K := K) (Km := Km) (by have := hA.2.2; omega) (by omega) (by have := hA.2.1; omega) h12 hB.2.1 (show 0 ≤ a1 ∧ a1 < 2 by omega) eq ev hv hs
      exact ⟨r, F', B', Fm', Bm', x1, by rw [e]; exact x2⟩
    rcases (show a1 = 0 ∨ a1 = 1 by omega) with e | e
    · exact go p0 w0 (by rw [e]; exact n2) (by rw [e]; exact n5) hWw.2.1 (SLD_of s0 hE.2.2.2.1)
    · exact go p1 w1 (by rw [e]; exact n3) (by rw [e]; exact n6) hWw.2.2.1 (SLD_of s1 hE.2.2.2.2.1)
theorem v_out {Km : Nat} (a1 : Int) (h1 : r32 a1) {K : zK} {F Fm : zF} {B Bm : zB} (h : IV cc Km K F B Fm Bm) : ∃ r F1 B1 F2 B2, f_S_out K 0 a1 F B = some (r, F1, B1) ∧ f_M_out Km a1 Fm Bm = some (r, F2, B2) := by
  obtain ⟨p, p0, p1, w, w0, w1, hE, hW, hO, h7, hX, hK⟩ := h
  have hA := hE.1.1
  have hB := hE.1.2.1
  refine ⟨_, _, _, Fm, Bm, C_out (by have := hA.2.2; omega) (by have := hA.2.2; omega) h1 hB.2.1 hW.2.1.1 hW.2.1.2, (L_out h1 (by have := hW.1; have := hW.2.1; omega) (by have := hW.1; have := hW.2.1; omega)).trans ?_⟩
  have e : (if 0 ≤ a1 ∧ a1 < Fm 14 0 71 then zand (Bm 14 0 70 a1) 255 else -1) = (if 0 ≤ a1 ∧ a1 < F 0 1 1 then B 0 1 0 a1 else -1) := by
    rw [← hW.1]
    by_cases c : 0 ≤ a1 ∧ a1 < F 0 1 1
    · rw [if_pos c, if_pos c, zand255, hW.2.2 a1 c.1 c.2]
    · rw [if_neg c, if_neg c]
  rw [e]
theorem v_again {Km : Nat} {K : zK} {F Fm : zF} {B Bm : zB} (h : IV cc Km K F B Fm Bm) : ∃ r F1 B1 F2 B2, f_S_again K 0 F B = some (r, F1, B1) ∧ f_M_again Km Fm Bm = some (r, F2, B2) := by
  obtain ⟨p, p0, p1, w, w0, w1, hE, hW, hO, h7, hX, hK⟩ := h
  have hA := hE.1.1
  have hB := hE.1.2.1
  obtain ⟨v1, v2, v3⟩ := hW
  have c := C_again (K := K) (F := F) (B := B) (by omega) (by have := hA.2.2; omega) (by have := hA.2.2; omega) hB.1 hB.2.1 v2.1 v2.2
  have l := L_again (K := Km) (F := Fm) (B := Bm) (by have := hA.2.1; omega) (by omega) (by omega)
  by_cases z : F 0 1 1 = 0 ∨ 3000 < F 0 1 1
  · exact ⟨_, _, _, _, _, c.1 z, l.1 (by omega)⟩
  · obtain ⟨F', B', x1, _⟩ := c.2 (by omega) (by omega)
    obtain ⟨Bm', y1, _⟩ := l.2 (by omega) (by omega)
    exact ⟨_, _, _, _, _, x1, by rw [v1]; exact y1⟩
theorem v_open {Km : Nat} {K : zK} {F Fm : zF} {B Bm : zB} (h : IV cc Km K F B Fm Bm) : ∃ r F1 B1 K1 F2 B2, f_S_open K 0 F B = some (r, F1, B1, K1) ∧ f_M_open Km Fm Bm = some (r, F2, B2) := by
  obtain ⟨p, p0, p1, w, w0, w1, hE, hW, hO, h7, hX, hK⟩ := h
  have hA := hE.1.1
  have hB := hE.1.2.1
  obtain ⟨r, F', B', K', Fm', Bm', x1, x2, _⟩ := P_op (K := K) (Km := Km) (by have := hA.2.2; omega) (by have := hA.2.2; omega) (by omega) (by have := hA.2.1; omega) hB.1 hE.1.2.2.2.1 hO
  exact ⟨_, _, _, _, _, _, x1, x2⟩
theorem v_down {Km : Nat} (a1 : Int) (h1 : r32 a1) {K : zK} {F Fm : zF} {B Bm : zB} (h : IV cc Km K F B Fm Bm) : ∃ r F1 B1 F2 B2, f_S_down K 0 a1 F B = some (r, F1, B1) ∧ f_M_down Km a1 Fm Bm = some (r, F2, B2) := by
  obtain ⟨p, p0, p1, w, w0, w1, hE, hW, hO, h7, hX, hK⟩ := h
  have hA := hE.1.1
  have hB := hE.1.2.1
  have hN := hE.1.2.2.2.2.1
  have hD := hE.1.2.2.1.1.1
  obtain ⟨r, F', B', Fm', Bm', x1, x2, _⟩ := P_dw (K := K) (Km := Km) (x := a1) (w := w) (F := F) (B := B) (Fm := Fm) (Bm := Bm) ⟨by have := hA.2.2; omega, by have := hA.2.2; omega, by have := hD 1 (by decide); omega, hK⟩ hA.2.1 (by have := hA.2.2; omega) h1 hB.2.1 hB.2.2.2.2.1 h7 ⟨hN.2.2.2.1, hE.1.2.2.2.2.2.1.1⟩ hO hW
  exact ⟨_, _, _, _, _, x1, x2⟩
theorem v_read {Km : Nat} (a1 : Int) (h1 : r32 a1) {K : zK} {F Fm : zF} {B Bm : zB} (h : IV cc Km K F B Fm Bm) : ∃ r F1 B1 K1 F2 B2, f_S_read K 0 a1 F B = some (r, F1, B1, K1) ∧ f_M_read Km a1 Fm Bm = some (r, F2, B2) := by
  obtain ⟨p, p0, p1, w, w0, w1, hE, _⟩ := h
  obtain ⟨r, K', F', B', Fm', Bm', _, _, _, _, _, _, y1, y2, _⟩ := P_read hE.1 h1
  exact ⟨_, _, _, _, _, _, y1, y2⟩
end
end
section
section
variable {cc : Int}
/-! ===== a call returns, keeps what stands, and answers alike ===== -/
theorem q_read {Km : Nat} (a1 : Int) (h1 : r32 a1) {K : zK} {F Fm : zF} {B Bm : zB} (h : IV cc Km K F B Fm Bm) : ∃ r1 F1 B1 K1 r2 F2 B2, f_S_read K 0 a1 F B = some (r1, F1, B1, K1) ∧ f_M_read Km a1 Fm Bm = some (r2, F2, B2) ∧ IV cc Km K1 F1 B1 F2 B2 ∧ r1 = r2 := by
  obtain ⟨r1, F1, B1, K1, r2, F2, B2, x1, x2, hI⟩ := p_read a1 h1 h
  obtain ⟨r, _, _, _, _, _, y1, y2⟩ := v_read a1 h1 h
  exact ⟨r1, F1, B1, K1, r2, F2, B2, x1, x2, hI, (sm4 x1 y1).trans (sm3 x2 y2).symm⟩
theorem q_voice {Km : Nat} (a1 a2 a3 : Int) (h1 : r32 a1) (h2 : r32 a2) (h3 : r32 a3) {K : zK} {F Fm : zF} {B Bm : zB} (h : IV cc Km K F B Fm Bm) : ∃ r1 F1 B1 r2 F2 B2, f_S_voice K 0 a1 a2 a3 F B = some (r1, F1, B1) ∧ f_M_voice Km a1 a2 a3 Fm Bm = some (r2, F2, B2) ∧ IV cc Km K F1 B1 F2 B2 ∧ r1 = r2 := by
  obtain ⟨r1, F1, B1, r2, F2, B2, x1, x2, hI⟩ := p_voice a1 a2 a3 h1 h2 h3 h
  obtain ⟨r, y1, y2⟩ := e_voice a1 a2 a3 h1 h2 h3 h
  exact ⟨r1, F1, B1, r2, F2, B2, x1, x2, hI, (sm3 x1 y1).trans (sm3 x2 y2).symm⟩
theorem q_name {Km : Nat} (a1 a2 : Int) (h1 : r32 a1) (h2 : r32 a2) {K : zK} {F Fm : zF} {B Bm : zB} (h : IV cc Km K F B Fm Bm) : ∃ r1 F1 B1 r2 F2 B2, f_S_name K 0 a1 a2 F B = some (r1, F1, B1) ∧ f_M_name Km a1 a2 Fm Bm = some (r2, F2, B2) ∧ IV cc Km K F1 B1 F2 B2 ∧ r1 = r2 := by
  obtain ⟨r1, F1, B1, r2, F2, B2, x1, x2, hI⟩ := p_name a1 a2 h1 h2 h
  obtain ⟨r, y1, y2⟩ := e_name a1 a2 h1 h2 h
  exact ⟨r1, F1, B1, r2, F2, B2, x1, x2, hI, (sm3 x1 y1).trans (sm3 x2 y2).symm⟩
theorem q_event {Km : Nat} (a1 a2 a3 a4 : Int) (h1 : r32 a1) (h2 : r32 a2) (h3 : r32 a3) (h4 : r32 a4) {K : zK} {F Fm : zF} {B Bm : zB} (h : IV cc Km K F B Fm Bm) : ∃ r1 F1 B1 r2 F2 B2, f_S_event K 0 a1 a2 a3 a4 F B = some (r1, F1, B1) ∧ f_M_event_1 Km a1 a2 a3 a4 Fm Bm = some (r2, F2, B2) ∧ IV cc Km K F1 B1 F2 B2 ∧ r1 = r2 := by
  obtain ⟨r1, F1, B1, r2, F2, B2, x1, x2, hI⟩ := p_event a1 a2 a3 a4 h1 h2 h3 h4 h
  obtain ⟨r, y1, y2⟩ := e_event a1 a2 a3 a4 h1 h2 h3 h4 h
  exact ⟨r1, F1, B1, r2, F2, B2, x1, x2, hI, (sm3 x1 y1).trans (sm3 x2 y2).symm⟩
theorem q_pitch {Km : Nat} (a1 a2 a3 a4 a5 : Int) (h1 : r32 a1) (h2 : r32 a2) (h3 : r32 a3) (h4 : r32 a4) (h5 : r32 a5) {K : zK} {F Fm : zF} {B Bm : zB} (h : IV cc Km K F B Fm Bm) : ∃ r1 F1 B1 r2 F2 B2, f_S_pitch K 0 a1 a2 a3 a4 a5 F B = some (r1, F1, B1) ∧ f_M_pitch Km a1 a2 a3 a4 a5 Fm Bm = some (r2, F2, B2) ∧ IV cc Km K F1 B1 F2 B2 ∧ r1 = r2 := by
  obtain ⟨r1, F1, B1, r2, F2, B2, x1, x2, hI⟩ := p_pitch a1 a2 a3 a4 a5 h1 h2 h3 h4 h5 h
  obtain ⟨r, y1, y2⟩ := e_pitch a1 a2 a3 a4 a5 h1 h2 h3 h4 h5 h
  exact ⟨r1, F1, B1, r2, F2, B2, x1, x2, hI, (sm3 x1 y1).trans (sm3 x2 y2).symm⟩
theorem q_perform {Km : Nat} (a1 : Int) (h1 : r32 a1) {K : zK} {F Fm : zF} {B Bm : zB} (h : IV cc Km K F B Fm Bm) : ∃ r1 F1 B1 K1 r2 F2 B2, f_S_perform K 0 a1 F B = some (r1, F1, B1, K1) ∧ f_M_perform Km a1 Fm Bm = some (r2, F2, B2) ∧ IV cc Km K1 F1 B1 F2 B2 ∧ r1 = r2 := by
  obtain ⟨r1, F1, B1, K1, r2, F2, B2, x1, x2, hI⟩ := p_perform a1 h1 h
  obtain ⟨r, _, _, _, _, _, y1, y2⟩ := v_perform a1 h1 h
  exact ⟨r1, F1, B1, K1, r2, F2, B2, x1, x2, hI, (sm4 x1 y1).trans (sm3 x2 y2).symm⟩
theorem q_stroke {Km : Nat} (a1 a2 a3 : Int) (h1 : r32 a1) (h2 : r32 a2) (h3 : r32 a3) {K : zK} {F Fm : zF} {B Bm : zB} (h : IV cc Km K F B Fm Bm) : ∃ r1 F1 B1 r2 F2 B2, f_S_stroke K 0 a1 a2 a3 F B = some (r1, F1, B1) ∧ f_M_stroke Km a1 a2 a3 Fm Bm = some (r2, F2, B2) ∧ IV cc Km K F1 B1 F2 B2 ∧ r1 = r2 := by
  obtain ⟨r1, F1, B1, r2, F2, B2, x1, x2, hI⟩ := p_stroke a1 a2 a3 h1 h2 h3 h
  obtain ⟨r, y1, y2⟩ := e_stroke a1 a2 a3 h1 h2 h3 h
  exact ⟨r1, F1, B1, r2, F2, B2, x1, x2, hI, (sm3 x1 y1).trans (sm3 x2 y2).symm⟩
theorem q_file {Km : Nat} (a1 : Int) (h1 : r32 a1) {K : zK} {F Fm : zF} {B Bm : zB} (h : IV cc Km K F B Fm Bm) : ∃ r1 F1 B1 r2 F2 B2, f_S_file K 0 a1 F B = some (r1, F1, B1) ∧ f_M_file Km a1 Fm Bm = some (r2, F2, B2) ∧ IV cc Km K F1 B1 F2 B2 ∧ r1 = r2 := by
  obtain ⟨r1, F1, B1, r2, F2, B2, x1, x2, hI⟩ := p_file a1 h1 h
  obtain ⟨r, _, _, _, _, y1, y2⟩ := v_file a1 h1 h
  exact ⟨r1, F1, B1, r2, F2, B2, x1, x2, hI, (sm3 x1 y1).trans (sm3 x2 y2).symm⟩
theorem q_out {Km : Nat} (a1 : Int) (h1 : r32 a1) {K : zK} {F Fm : zF} {B Bm : zB} (h : IV cc Km K F B Fm Bm) : ∃ r1 F1 B1 r2 F2 B2, f_S_out K 0 a1 F B = some (r1, F1, B1) ∧ f_M_out Km a1 Fm Bm = some (r2, F2, B2) ∧ IV cc Km K F1 B1 F2 B2 ∧ r1 = r2 := by
  obtain ⟨r1, F1, B1, r2, F2, B2, x1, x2, hI⟩ := p_out a1 h1 h
  obtain ⟨r, _, _, _, _, y1, y2⟩ := v_out a1 h1 h
  exact ⟨r1, F1, B1, r2, F2, B2, x1, x2, hI, (sm3 x1 y1).trans (sm3 x2 y2).symm⟩
theorem q_again {Km : Nat} {K : zK} {F Fm : zF} {B Bm : zB} (h : IV cc Km K F B Fm Bm) : ∃ r1 F1 B1 r2 F2 B2, f_S_again K 0 F B = some (r1, F1, B1) ∧ f_M_again Km Fm Bm = some (r2, F2, B2) ∧ IV cc Km K F1 B1 F2 B2 ∧ r1 = r2 := by
  obtain ⟨r1, F1, B1, r2, F2, B2, x1, x2, hI⟩ := p_again h
  obtain ⟨r, _, _, _, _, y1, y2⟩ := v_again h
  exact ⟨r1, F1, B1, r2, F2, B2, x1, x2, hI, (sm3 x1 y1).trans (sm3 x2 y2).symm⟩
theorem q_open {Km : Nat} {K : zK} {F Fm : zF} {B Bm : zB} (h : IV cc Km K F B Fm Bm) : ∃ r1 F1 B1 K1 r2 F2 B2, f_S_open K 0 F B = some (r1, F1, B1, K1) ∧ f_M_open Km Fm Bm = some (r2, F2, B2) ∧ IV cc Km K1 F1 B1 F2 B2 ∧ r1 = r2 := by
  obtain ⟨r1, F1, B1, K1, r2, F2, B2, x1, x2, hI⟩ := p_open h
  obtain ⟨r, _, _, _, _, _, y1, y2⟩ := v_open h
  exact ⟨r1, F1, B1, K1, r2, F2, B2, x1, x2, hI, (sm4 x1 y1).trans (sm3 x2 y2).symm⟩
theorem q_track {Km : Nat} (a1 : Int) (h1 : r32 a1) {K : zK} {F Fm : zF} {B Bm : zB} (h : IV cc Km K F B Fm Bm) : ∃ r1 F1 B1 r2 F2 B2, f_S_track K 0 a1 F B = some (r1, F1, B1) ∧ f_M_track Km a1 Fm Bm = some (r2, F2, B2) ∧ IV cc Km K F1 B1 F2 B2 ∧ r1 = r2 := by
  obtain ⟨r1, F1, B1, r2, F2, B2, x1, x2, hI⟩ := p_track a1 h1 h
  obtain ⟨r, y1, y2⟩ := e_track a1 h1 h
  exact ⟨r1, F1, B1, r2, F2, B2, x1, x2, hI, (sm3 x1 y1).trans (sm3 x2 y2).symm⟩
theorem q_sound {Km : Nat} (a1 a2 : Int) (h1 : r32 a1) (h2 : r32 a2) {K : zK} {F Fm : zF} {B Bm : zB} (h : IV cc Km K F B Fm Bm) : ∃ r1 F1 B1 r2 F2 B2, f_S_sound K 0 a1 a2 F B = some (r1, F1, B1) ∧ f_M_sound_0 Km a1 a2 Fm Bm = some (r2, F2, B2) ∧ IV cc Km K F1 B1 F2 B2 ∧ r1 = r2 := by
  obtain ⟨r1, F1, B1, r2, F2, B2, x1, x2, hI⟩ := p_sound a1 a2 h1 h2 h
  obtain ⟨r, y1, y2⟩ := e_sound a1 a2 h1 h2 h
  exact ⟨r1, F1, B1, r2, F2, B2, x1, x2, hI, (sm3 x1 y1).trans (sm3 x2 y2).symm⟩
theorem q_down {Km : Nat} (a1 : Int) (h1 : r32 a1) {K : zK} {F Fm : zF} {B Bm : zB} (h : IV cc Km K F B Fm Bm) : ∃ r1 F1 B1 r2 F2 B2, f_S_down K 0 a1 F B = some (r1, F1, B1) ∧ f_M_down Km a1 Fm Bm = some (r2, F2, B2) ∧ IV cc Km K F1 B1 F2 B2 ∧ r1 = r2 := by
  obtain ⟨r1, F1, B1, r2, F2, B2, x1, x2, hI⟩ := p_down a1 h1 h
  obtain ⟨r, _, _, _, _, y1, y2⟩ := v_down a1 h1 h
  exact ⟨r1, F1, B1, r2, F2, B2, x1, x2, hI, (sm3 x1 y1).trans (sm3 x2 y2).symm⟩
end
end
section
section
variable {cc : Int}
/-! ===== note: answers alike ===== -/
theorem prtN {Km : Nat} {K : zK} {F Fm : zF} {B Bm : zB} (h : IV cc Km K F B Fm Bm) {a1 a2 : Int} (h1 : r32 a1) (h2 : r32 a2) : ∃ x y e, f_S_partAt K 0 a1 a2 F B = some (x, F, B) ∧ f_M_piece Km a1 Fm Bm = some (y, Fm, Bm) ∧ f_M_isVoice Km y a2 Fm Bm = some (e, Fm, Bm) ∧ ((x < 0 ∧ e = 0) ∨ (e = 1 ∧ (0 ≤ x ∧ x < K.2 4) ∧ (0 ≤ y ∧ y < 3) ∧ (0 ≤ a2 ∧ a2 < 4) ∧ ∃ q V, a2 < V ∧ x = B 6 q 0 a2 ∧ PK K V q y F B Fm Bm ∧ LNk q y F B Fm Bm ∧ 0 ≤ q)) := by
  have h12 := IV_12 h
  rcases slotE h h1 with ⟨x, x0, e1, e2⟩ | ⟨_, _, _, _, _, _, x, y, V, _, _, _, hP, _, _, _, y0, e1, e2, ln, q0⟩
  · unfold f_S_partAt f_S_partAt_22 f_S_partAt_32 f_M_isVoice f_M_isVoice_20 f_M_isVoice_21
    rw [if_pos h12, e1, zb_s, if_pos x0]
    exact ⟨-1, -1, 0, rfl, e2, by rw [if_pos (by decide), if_pos (Or.inl rfl)], Or.inl ⟨by omega, rfl⟩⟩
  · unfold f_S_partAt f_S_partAt_22 f_S_partAt_32 f_M_isVoice f_M_isVoice_20 f_M_isVoice_21
    rw [if_pos h12, e1, zb_s]
    have hV := hP.1.2.2
    have x0 := hP.1.1
    rw [if_neg (by omega), if_pos h2]
    by_cases z : a2 < 0
    · rw [if_pos z]
      exact ⟨-1, y, 0, rfl, e2, by rw [if_neg (by omega), if_pos h2, if_pos z, if_pos (Or.inl rfl)], Or.inl ⟨by omega, rfl⟩⟩
    · rw [if_neg z, if_pos x0, hV.2.1, if_pos (by unfold r32; omega)]
      by_cases c : a2 < V
      · rw [if_pos c, if_pos (by omega)]
        refine ⟨_, y, 1, rfl, e2, by rw [if_neg (by omega), if_pos h2, if_neg z, if_pos y0, hV.2.2, if_pos (by unfold r32; omega), if_neg (by omega), if_pos (Or.inr rfl)], Or.inr ⟨rfl, (hP.2.2 a2 (by omega) c).1.1, y0, by omega, x, V, c, rfl, hP, ln, q0⟩⟩
      · rw [if_neg c]
        exact ⟨-1, y, 0, rfl, e2, by rw [if_neg (by omega), if_pos h2, if_neg z, if_pos y0, hV.2.2, if_pos (by unfold r32; omega), if_pos (by omega), if_pos (Or.inl rfl)], Or.inl ⟨by omega, rfl⟩⟩
theorem e_note {Km : Nat} (a1 a2 a3 a4 : Int) (h1 : r32 a1) (h2 : r32 a2) (h3 : r32 a3) (h4 : r32 a4) {K : zK} {F Fm : zF} {B Bm : zB} (h : IV cc Km K F B Fm Bm) : zE (f_S_note K 0 a1 a2 a3 a4 F B) (f_M_note_0 Km a1 a2 a3 a4 Fm Bm) F B Fm Bm := by
  have hK := (IV_k h).1
  obtain ⟨x, y, e, e1, e2, e3, e4⟩ := prtN h h1 h2
  unfold f_S_note f_S_note_38 f_S_note_89 f_M_note_0 f_M_note_0_31
  refine zE_l1 (IV_12 h) (zE_bl e1 (zE_br e2 (zE_br e3 ?_)))
  rcases e4 with ⟨x0, rfl⟩ | ⟨rfl, x0, y0, z0, q, V, vV, ex, hP, ln, q0⟩
  · exact zE_l1 x0 (zE_r1 (by decide) (zE_r1 rfl (zE_s rfl)))
  have na := (ln q0).2.1
  rw [hP.1.2.2.2.1] at na
  have na2 := na a2 z0.1 vV a3
  obtain ⟨_, m, g, hV, _⟩ := hP.2.2 a2 z0.1 vV
  rw [← ex] at hV na2
  obtain ⟨_, _, _, _, _, _, _, _, c, nw, qn, gb⟩ := hV
  have c0 := nw.1
  have n10 := nw.2.1
  have n13 := nw.2.2.2.1
  refine zE_l0 (by omega) (zE_l1 h3 (zE_r1 (by decide) (zE_r0 (by decide) (zE_r1 h3 ?_))))
  refine zE_i (fun z => zE_r1 z (zE_s rfl)) (fun n3 => zE_r0 n3 (zE_l1 x0 (zE_r1 y0 (zE_r1 z0 ?_))))
  refine zE_l1 (by rw [n10]; unfold r32; omega) (zE_r1 (by rw [n13]; unfold r32; omega) ?_)
  refine zE_i (fun z => zE_r0 (by omega) (zE_s rfl)) (fun l3 => zE_r1 (by omega) (zE_l1 h4 (zE_r1 h4 ?_)))
  obtain ⟨k0, k1, k9, k4, k5, _⟩ := nw.2.2.2.2 a3 (by omega) (by omega)
  obtain ⟨g9, g10, g6, g7, g8, g11⟩ := gb a3 (by omega) (by omega)
  obtain ⟨m6, m7, m8, m9, m10, m11, _⟩ := na2 (by omega) (by omega)
  have xb : 0 ≤ 800 * a2 + a3 ∧ 800 * a2 + a3 < 3200 := by omega
  have ab : 0 ≤ a3 ∧ a3 < 800 := by omega
  have r0 : r32 (B 4 x 360 a3) := by unfold r32; omega
  have r1 : r32 (B 4 x 361 a3) := by unfold r32; omega
  have r4 : r32 (B 4 x 364 a3) := by unfold r32; omega
  have r5 : r32 (B 4 x 365 a3) := by unfold r32; omega
  have r9 : r32 (B 4 x 369 a3) := by unfold r32; omega
  have o : a4 < 0 ∨ 12 ≤ a4 ∨ a4 = 0 ∨ a4 = 1 ∨ a4 = 2 ∨ a4 = 3 ∨ a4 = 4 ∨ a4 = 5 ∨ a4 = 6 ∨ a4 = 7 ∨ a4 = 8 ∨ a4 = 9 ∨ a4 = 10 ∨ a4 = 11 := by omega
  rcases o with z | z | rfl | rfl | rfl | rfl | rfl | rfl | rfl | rfl | rfl | rfl | rfl | rfl
  · exact zE_l1 z (zE_r0 (by omega) (zE_r0 (by omega) (zE_r0 (by omega) (zE_r0 (by omega) (zE_r0 (by omega) (zE_r0 (by omega) (zE_r0 (by omega) (zE_r0 (by omega) (zE_r0 (by omega) (zE_r0 (by omega) (zE_r0 (by omega) (zE_r0 (by omega) (zE_s rfl)))))))))))))
  · exact zE_l0 (by omega) (zE_l0 (by omega) (zE_r0 (by omega) (zE_r0 (by omega) (zE_r0 (by omega) (zE_r0 (by omega) (zE_r0 (by omega) (zE_r0 (by omega) (zE_r0 (by omega) (zE_r0 (by omega) (zE_r0 (by omega) (zE_r0 (by omega) (zE_r0 (by omega) (zE_r0 (by omega) (zE_s rfl))))))))))))))
  · exact zE_l0 (by decide) (zE_l1 (by decide) (zE_l0 (by decide) (zE_l0 (by decide) (zE_l1 (by decide) (zE_l1 ab (zE_l1 r0 (zE_r1 rfl (zE_r1 xb (zE_r1 (by rw [← k0.1]; exact r0) (zE_s k0.1))))))))))
  · exact zE_l0 (by decide) (zE_l1 (by decide) (zE_l0 (by decide) (zE_l0 (by decide) (zE_l1 (by decide) (zE_l1 ab (zE_l1 r1 (zE_r0 (by decide) (zE_r1 rfl (zE_r1 xb (zE_r1 (by rw [← k1.1]; exact r1) (zE_s k1.1)))))))))))
  · exact zE_l0 (by decide) (zE_l1 (by decide) (zE_l1 rfl (zE_l1 ab (zE_bl (C_aboveE (by omega) ⟨k9.1, k9.2.1⟩) (zE_r0 (by decide) (zE_r0 (by decide) (zE_r1 rfl (zE_r1 xb (zE_s k9.2.2.1.symm)))))))))
  · exact zE_l0 (by decide) (zE_l1 (by decide) (zE_l0 (by decide) (zE_l1 rfl (zE_l1 ab (zE_bl (C_belowE (by omega) ⟨k9.1, k9.2.1⟩) (zE_r0 (by decide) (zE_r0 (by decide) (zE_r0 (by decide) (zE_r1 rfl (zE_r1 xb (zE_s k9.2.2.2.symm)))))))))))
  · exact zE_l0 (by decide) (zE_l1 (by decide) (zE_l0 (by decide) (zE_l0 (by decide) (zE_l1 (by decide) (zE_l1 ab (zE_l1 r4 (zE_r0 (by decide) (zE_r0 (by decide) (zE_r0 (by decide) (zE_r0 (by decide) (zE_r1 rfl (zE_r1 xb (zE_r1 (by rw [← k4.1]; exact r4) (zE_s k4.1))))))))))))))
  · exact zE_l0 (by decide) (zE_l1 (by decide) (zE_l0 (by decide) (zE_l0 (by decide) (zE_l1 (by decide) (zE_l1 ab (zE_l1 r5 (zE_r0 (by decide) (zE_r0 (by decide) (zE_r0 (by decide) (zE_r0 (by decide) (zE_r0 (by decide) (zE_r1 rfl (zE_r1 xb (zE_r1 (by rw [← k5.1]; exact r5) (zE_s k5.1)))))))))))))))
  · exact zE_l0 (by decide) (zE_l1 (by decide) (zE_l0 (by decide) (zE_l0 (by decide) (zE_l1 (by decide) (zE_l1 ab (zE_l1 g6 (zE_r0 (by decide) (zE_r0 (by decide) (zE_r0 (by decide) (zE_r0 (by decide) (zE_r0 (by decide) (zE_r0 (by decide) (zE_r1 rfl (zE_r1 xb (zE_r1 (by rw [← m6]; exact g6) (zE_s m6))))))))))))))))
  · exact zE_l0 (by decide) (zE_l1 (by decide) (zE_l0 (by decide) (zE_l0 (by decide) (zE_l1 (by decide) (zE_l1 ab (zE_l1 g7 (zE_r0 (by decide) (zE_r0 (by decide) (zE_r0 (by decide) (zE_r0 (by decide) (zE_r0 (by decide) (zE_r0 (by decide) (zE_r0 (by decide) (zE_r1 rfl (zE_r1 xb (zE_r1 (by rw [← m7]; exact g7) (zE_s m7)))))))))))))))))
  · exact zE_l0 (by decide) (zE_l1 (by decide) (zE_l0 (by decide) (zE_l0 (by decide) (zE_l1 (by decide) (zE_l1 ab (zE_l1 g8 (zE_r0 (by decide) (zE_r0 (by decide) (zE_r0 (by decide) (zE_r0 (by decide) (zE_r0 (by decide) (zE_r0 (by decide) (zE_r0 (by decide) (zE_r0 (by decide) (zE_r1 rfl (zE_r1 xb (zE_r1 (by rw [← m8]; exact g8) (zE_s m8))))))))))))))))))
  · exact zE_l0 (by decide) (zE_l1 (by decide) (zE_l0 (by decide) (zE_l0 (by decide) (zE_l1 (by decide) (zE_l1 ab (zE_l1 r9 (zE_r0 (by decide) (zE_r0 (by decide) (zE_r0 (by decide) (zE_r0 (by decide) (zE_r0 (by decide) (zE_r0 (by decide) (zE_r0 (by decide) (zE_r0 (by decide) (zE_r0 (by decide) (zE_r1 rfl (zE_r1 xb (zE_r1 (by rw [← m9]; exact r9) (zE_s m9)))))))))))))))))))
  · exact zE_l0 (by decide) (zE_l1 (by decide) (zE_l0 (by decide) (zE_l0 (by decide) (zE_l1 (by decide) (zE_l1 ab (zE_l1 g10 (zE_r0 (by decide) (zE_r0 (by decide) (zE_r0 (by decide) (zE_r0 (by decide) (zE_r0 (by decide) (zE_r0 (by decide) (zE_r0 (by decide) (zE_r0 (by decide) (zE_r0 (by decide) (zE_r0 (by decide) (zE_r1 rfl (zE_r1 xb (zE_r1 (by rw [← m10]; exact g10) (zE_s m10))))))))))))))))))))
  · exact zE_l0 (by decide) (zE_l1 (by decide) (zE_l0 (by decide) (zE_l0 (by decide) (zE_l1 (by decide) (zE_l1 ab (zE_l1 g11 (zE_r0 (by decide) (zE_r0 (by decide) (zE_r0 (by decide) (zE_r0 (by decide) (zE_r0 (by decide) (zE_r0 (by decide) (zE_r0 (by decide) (zE_r0 (by decide) (zE_r0 (by decide) (zE_r0 (by decide) (zE_r0 (by decide) (zE_r1 rfl (zE_r1 xb (zE_r1 (by rw [← m11]; exact g11) (zE_s m11)))))))))))))))))))))
theorem q_note {Km : Nat} (a1 a2 a3 a4 : Int) (h1 : r32 a1) (h2 : r32 a2) (h3 : r32 a3) (h4 : r32 a4) {K : zK} {F Fm : zF} {B Bm : zB} (h : IV cc Km K F B Fm Bm) : ∃ r1 F1 B1 r2 F2 B2, f_S_note K 0 a1 a2 a3 a4 F B = some (r1, F1, B1) ∧ f_M_note_0 Km a1 a2 a3 a4 Fm Bm = some (r2, F2, B2) ∧ IV cc Km K F1 B1 F2 B2 ∧ r1 = r2 := by
  obtain ⟨r1, F1, B1, r2, F2, B2, x1, x2, hI⟩ := p_note a1 a2 a3 a4 h1 h2 h3 h4 h
  obtain ⟨r, y1, y2⟩ := e_note a1 a2 a3 a4 h1 h2 h3 h4 h
  exact ⟨r1, F1, B1, r2, F2, B2, x1, x2, hI, (sm3 x1 y1).trans (sm3 x2 y2).symm⟩
end
end
section
section
/-! ===== fault: answers alike ===== -/
section
variable {S : zV} {L L' : Int → Int → Int} {V c : Int}
theorem g2Q_c {m k u v : Int} (e : ∀ u t, 0 ≤ u → u < V → 0 ≤ t → t < c → L u t = L' u t) (u0 : 0 ≤ u ∧ u < V) (v0 : 0 ≤ v ∧ v < V) (m0 : 1 ≤ m ∧ m < c) : g2Q S L m k u v = g2Q S L' m k u v := by
  unfold g2Q
  rw [e u m u0.1 u0.2 (by omega) m0.2, e v m v0.1 v0.2 (by omega) m0.2, e u (m - 1) u0.1 u0.2 (by omega) (by omega), e v (m - 1) v0.1 v0.2 (by omega) (by omega)]
theorem g1Q_c {m k u : Int} (e : ∀ u t, 0 ≤ u → u < V → 0 ≤ t → t < c → L u t = L' u t) (u0 : 0 ≤ u ∧ u < V) (m0 : 1 ≤ m ∧ m < c) : g1Q S L m k u = g1Q S L' m k u := by
  unfold g1Q
  rw [e u m u0.1 u0.2 (by omega) m0.2, e u (m - 1) u0.1 u0.2 (by omega) (by omega)]
theorem fwQ_c {m k u : Int} (e : ∀ u t, 0 ≤ u → u < V → 0 ≤ t → t < c → L u t = L' u t) (u0 : 0 ≤ u ∧ u < V) (m0 : 1 ≤ m ∧ m < c) : ∀ (d : Nat) (v : Int) (s : zQ), 0 ≤ v → v + d ≤ V → fwQ S L m k u d v s = fwQ S L' m k u d v s := by
  intro d
  induction d with
  | zero => intro v s _ _; rfl
  | succ d ih => intro v s v0 vd; rw [fwQ, fwQ, g2Q_c e u0 ⟨v0, by omega⟩ m0]; exact ih _ _ (by omega) (by omega)
theorem fuQ_c {m k : Int} (e : ∀ u t, 0 ≤ u → u < V → 0 ≤ t → t < c → L u t = L' u t) (m0 : 1 ≤ m ∧ m < c) : ∀ (d : Nat) (u : Int) (s : zQ), 0 ≤ u → u + d ≤ V → fuQ S L V m k d u s = fuQ S L' V m k d u s := by
  intro d
  induction d with
  | zero => intro u s _ _; rfl
  | succ d ih => intro u s u0 ud; rw [fuQ, fuQ, fwQ_c e ⟨u0, by omega⟩ m0 _ _ _ (by omega) (by omega)]; exact ih _ _ (by omega) (by omega)
theorem foQ_c {m k : Int} (e : ∀ u t, 0 ≤ u → u < V → 0 ≤ t → t < c → L u t = L' u t) (m0 : 1 ≤ m ∧ m < c) : ∀ (d : Nat) (u : Int) (s : zQ), 0 ≤ u → u + d ≤ V → foQ S L m k d u s = foQ S L' m k d u s := by
  intro d
  induction d with
  | zero => intro u s _ _; rfl
  | succ d ih => intro u s u0 ud; rw [foQ, foQ, g1Q_c e ⟨u0, by omega⟩ m0]; exact ih _ _ (by omega) (by omega)
theorem fkQ_c {m : Int} (e : ∀ u t, 0 ≤ u → u < V → 0 ≤ t → t < c → L u t = L' u t) (hV : 0 ≤ V) (m0 : 1 ≤ m ∧ m < c) : ∀ (d : Nat) (k : Int) (s : zQ), fkQ S L V m d k s = fkQ S L' V m d k s := by
  intro d
  induction d with
  | zero => intro k s; rfl
  | succ d ih => intro k s; rw [fkQ, fkQ, fuQ_c e m0 _ _ _ (by omega) (by omega), foQ_c e m0 _ _ _ (by omega) (by omega)]; exact ih _ _
theorem fmQ_c (e : ∀ u t, 0 ≤ u → u < V → 0 ≤ t → t < c → L u t = L' u t) (hV : 0 ≤ V) : ∀ (d : Nat) (m : Int) (s : zQ), 1 ≤ m → (d = 0 ∨ m + d ≤ c) → fmQ S L V d m s = fmQ S L' V d m s := by
  intro d
  induction d with
  | zero => intro m s _ _; rfl
  | succ d ih => intro m s m0 md; rw [fmQ, fmQ, fkQ_c e hV ⟨m0, by omega⟩]; exact ih _ _ (by omega) (by omega)
theorem flQ_c (e : ∀ u t, 0 ≤ u → u < V → 0 ≤ t → t < c → L u t = L' u t) (hV : 0 ≤ V) : flQ S L V c = flQ S L' V c := fmQ_c e hV _ _ _ (by decide) (by omega)
end
/-- a study that is made, and the reference -/
def STq (V s w : Int) (S : zV) (F : zF) (B : zB) (Fm : zF) (Bm : zB) : Prop := F 9 s 0 = Fm 13 w 72 ∧ F 9 s 2 = Fm 13 w 76 ∧ (∀ j, 0 ≤ j → j < F 9 s 0 → (0 ≤ B 9 s 1 j ∧ B 9 s 1 j ≤ 1000000000000) ∧ Bm 13 w 73 j = nu (B 9 s 1 j) ∧ Bm 13 w 74 j = de (B 9 s 1 j)) ∧ (∀ u j, 0 ≤ u → u < V → 0 ≤ j → j < F 9 s 0 → B 9 s (280 + u.toNat) j = Bm 13 w 75 (4 * j + u) ∧ 0 ≤ Bm 13 w 75 (4 * j + u) ∧ Bm 13 w 75 (4 * j + u) < S u 0 0 0) ∧ (∀ i, 0 ≤ i → i < F 9 s 2 → B 9 s 260 i = Bm 13 w 77 i ∧ B 9 s 261 i = Bm 13 w 78 i ∧ B 9 s 262 i = Bm 13 w 79 i ∧ B 9 s 263 i = Bm 13 w 80 i) ∧ (0 ≤ F 9 s 2 ∧ F 9 s 2 ≤ 300)
theorem STq_of {V s w : Int} {S : zV} {F : zF} {B : zB} {Fm : zF} {Bm : zB} (hS : SG V S) (hM : MXk V w S Fm Bm) (hX : STX V s S F B) : STq V s w S F B Fm Bm := by
  obtain ⟨hR, _, T, ⟨tr, mo, li⟩, fr1, fr2, fr3⟩ := hM
  obtain ⟨T', L', ⟨m1, m2, mo', li'⟩, fc1, fc2, fc3⟩ := hX
  obtain ⟨ec, et⟩ := SR_e mo.1.1 mo'.1.1 mo.2.1 mo'.2.1 mo.2.2 mo'.2.2
  rw [← ec] at m1 m2 mo' li' fc1 fc2 fc3
  have el := LI_u hS li li' et
  have ef : flQ S L' V (Fm 13 w 72) = flQ S (fun u t => Bm 13 w 75 (4 * t + u)) V (Fm 13 w 72) := flQ_c (fun u t u0 u1 t0 t1 => (el u t u0 u1 t0 t1).symm) (by have := hS.1; omega)
  rw [ef] at fc1 fc2 fc3
  unfold STq
  rw [← ec, fc1]
  refine ⟨rfl, fr1.symm, fun j j0 j1 => ?_, fun u j u0 u1 j0 j1 => ?_, fun i i0 i1 => ?_, fc2⟩
  · obtain ⟨b, r1, r2⟩ := tr j j0 j1
    rw [m1 j j0 j1, ← et j j0 j1]
    exact ⟨b, r1, r2⟩
  · rw [m2 u j u0 u1 j0 j1]
    exact ⟨(el u j u0 u1 j0 j1).symm, (li u j u0 u1 j0 j1).1⟩
  · obtain ⟨a1, a2, a3, a4⟩ := fc3 i i0 i1
    obtain ⟨b1, b2, b3, b4⟩ := fr3 i i0 i1
    exact ⟨by rw [a1, b1], by rw [a2, b2], by rw [a3, b3], by rw [a4, b4]⟩
variable {cc : Int}
/-- the study of a kept piece: what it holds -/
theorem ST_q {K K1 : zK} {V q v s : Int} {F F1 Fm : zF} {B B1 Bm : zB} (hP : PK K V q v F B Fm Bm) (ln : LNk q v F B Fm Bm) (q0 : 0 ≤ q) (sz : STz K q s F B F1 B1) : ∃ S, SG V S ∧ SRm V v S Fm Bm ∧ SCl K V q S F B ∧ STq V s v S F1 B1 Fm Bm := by
  obtain ⟨S, sg, mx, sx⟩ := (ln q0).2.2.1
  rw [hP.1.2.2.2.1] at sg mx sx
  have sc := SCl_k hP sg mx.1
  exact ⟨S, sg, mx.1, sc, STq_of sg mx (sz V S sg sc (fun z => (sx z).2))⟩
theorem v_fault {Km : Nat} (a1 a2 a3 : Int) (h1 : r32 a1) (h2 : r32 a2) (h3 : r32 a3) {K : zK} {F Fm : zF} {B Bm : zB} (h : IV cc Km K F B Fm Bm) : ∃ r F1 B1 K1 F2 B2, f_S_fault K 0 a1 a2 a3 F B = some (r, F1, B1, K1) ∧ f_M_fault_0 Km a1 a2 a3 Fm Bm = some (r, F2, B2) := by
  have hK := (IV_k h).1
  have h12 := IV_12 h
  have hU := IV_u h
  rcases slotE h h1 with ⟨q, q0, x1, x3⟩ | ⟨p, p0, p1, w, w0, w1, q, v, V, hE, hZ, hc, hP, hM, hD, m0, hv, x1, x3, ln, q0⟩
  · refine ⟨-1, F, B, K, Fm, Bm, ?_, ?_⟩
    · unfold f_S_fault f_S_fault_37
      rw [if_pos h12, x1]
      simp only [zbN_s]
      rw [if_pos q0]
    · unfold f_M_fault_0 f_M_fault_0_25
      rw [x3, zb_s, if_pos (by decide)]
  have hq := hP.1.1
  have l12 := (hE.1.2.2.2.2.2.2.2.2.1 q hq.1 hq.2).2.2
  have g9 : 0 ≤ K.2 9 := by have := hE.1.1.2.2; omega
  obtain ⟨s, F1, B1, K1, e, st, sz, hq1⟩ := C_stm hK g9 hU (PQs_k h hP) l12
  have st2 := C_stm2 (B1 := B1) hq1.1 st.2.1.1 st.2.2.2.1
  obtain ⟨S, sg, sr, sc, tq⟩ := ST_q (K1 := K1) hP ln q0 sz
  obtain ⟨_, t2, _, _, t5, t6⟩ := tq
  have h76 : 0 ≤ Fm 13 v 76 ∧ Fm 13 v 76 ≤ 300 := by omega
  have nv : ¬ v < 0 := by omega
  -- no such answer
  have none1 : (a3 < 0 ∨ 4 ≤ a3 ∨ a2 < 0 ∨ Fm 13 v 76 ≤ a2) → f_M_fault_0 Km a1 a2 a3 Fm Bm = some (-1, Fm, Bm) := fun z => by
    unfold f_M_fault_0 f_M_fault_0_25 f_M_fault_0_81
    rw [x3, zb_s, if_neg nv, if_pos h2]
    by_cases b1 : a2 < 0
    · rw [if_pos b1]
    rw [if_neg b1, if_pos hv, if_pos (show r32 (Fm 13 v 76) by unfold r32; omega)]
    by_cases b2 : a2 < Fm 13 v 76
    · rw [if_pos b2, if_pos h3, if_neg (show ¬ a3 = 0 by omega), if_neg (show ¬ a3 = 1 by omega), if_neg (show ¬ a3 = 2 by omega), if_neg (show ¬ a3 = 3 by omega)]
    · rw [if_neg b2]
  by_cases b : a3 < 0 ∨ 4 ≤ a3 ∨ a2 < 0
  · refine ⟨-1, F, B, K, Fm, Bm, ?_, none1 (by omega)⟩
    unfold f_S_fault f_S_fault_37
    rw [if_pos h12, x1]
    simp only [zbN_s]
    rw [if_neg (by omega), if_pos h3]
    by_cases b1 : a3 < 0
    · rw [if_pos b1]
    rw [if_neg b1]
    by_cases b2 : 4 ≤ a3
    · rw [if_pos b2]
    · rw [if_neg b2, if_pos h2, if_pos (by omega)]
  by_cases c : a2 < F1 9 s 2
  · obtain ⟨r0, r1, r2, r3⟩ := t5 a2 (by omega) c
    refine ⟨B1 9 s (260 + a3.toNat) a2, F1, B1, K1, Fm, Bm, ?_, ?_⟩
    · unfold f_S_fault f_S_fault_31 f_S_fault_44
      rw [if_pos h12, x1]
      simp only [zbN_s]
      rw [if_neg (by omega), if_pos h3, if_neg (by omega), if_neg (by omega), if_pos h2, if_neg (by omega), if_pos hq, if_pos hq.2, e]
      simp only [zbM_s]
      rw [if_pos st.2.1, if_pos h2, if_pos (by unfold r32; omega), if_pos c, if_pos hq1.1, st2]
      simp only [zbM_s]
      rw [if_pos st.2.1, if_pos (by omega), if_pos (by omega)]
    · unfold f_M_fault_0 f_M_fault_0_81
      rw [x3, zb_s, if_neg nv, if_pos h2, if_neg (show ¬ a2 < 0 by omega), if_pos hv, if_pos (show r32 (Fm 13 v 76) by unfold r32; omega), if_pos (show a2 < Fm 13 v 76 by omega), if_pos h3]
      have ab : 0 ≤ a2 ∧ a2 < 300 := by omega
      rcases (show a3 = 0 ∨ a3 = 1 ∨ a3 = 2 ∨ a3 = 3 by omega) with rfl | rfl | rfl | rfl
      · rw [if_pos rfl, if_pos ab]
        show some (Bm 13 v 77 a2, Fm, Bm) = some (B1 9 s 260 a2, Fm, Bm)
        rw [r0]
      · rw [if_neg (show ¬ (1 : Int) = 0 by decide), if_pos rfl, if_pos ab]
        show some (Bm 13 v 78 a2, Fm, Bm) = some (B1 9 s 261 a2, Fm, Bm)
        rw [r1]
      · rw [if_neg (show ¬ (2 : Int) = 0 by decide), if_neg (show ¬ (2 : Int) = 1 by decide), if_pos rfl, if_pos ab]
        show some (Bm 13 v 79 a2, Fm, Bm) = some (B1 9 s 262 a2, Fm, Bm)
        rw [r2]
      · rw [if_neg (show ¬ (3 : Int) = 0 by decide), if_neg (show ¬ (3 : Int) = 1 by decide), if_neg (show ¬ (3 : Int) = 2 by decide), if_pos rfl, if_pos ab]
        show some (Bm 13 v 80 a2, Fm, Bm) = some (B1 9 s 263 a2, Fm, Bm)
        rw [r3]
  · refine ⟨-1, F1, B1, K1, Fm, Bm, ?_, none1 (by omega)⟩
    unfold f_S_fault f_S_fault_31 f_S_fault_37
    rw [if_pos h12, x1]
    simp only [zbN_s]
    rw [if_neg (by omega), if_pos h3, if_neg (by omega), if_neg (by omega), if_pos h2, if_neg (by omega), if_pos hq, if_pos hq.2, e]
    simp only [zbM_s]
    rw [if_pos st.2.1, if_pos h2, if_pos (by unfold r32; omega), if_neg c]
theorem q_fault {Km : Nat} (a1 a2 a3 : Int) (h1 : r32 a1) (h2 : r32 a2) (h3 : r32 a3) {K : zK} {F Fm : zF} {B Bm : zB} (h : IV cc Km K F B Fm Bm) : ∃ r1 F1 B1 K1 r2 F2 B2, f_S_fault K 0 a1 a2 a3 F B = some (r1, F1, B1, K1) ∧ f_M_fault_0 Km a1 a2 a3 Fm Bm = some (r2, F2, B2) ∧ IV cc Km K1 F1 B1 F2 B2 ∧ r1 = r2 := by
  obtain ⟨r1, F1, B1, K1, r2, F2, B2, x1, x2, hI⟩ := p_fault a1 a2 a3 h1 h2 h3 h
  obtain ⟨r, _, _, _, _, _, y1, y2⟩ := v_fault a1 a2 a3 h1 h2 h3 h
  exact ⟨r1, F1, B1, K1, r2, F2, B2, x1, x2, hI, (sm4 x1 y1).trans (sm3 x2 y2).symm⟩
end
end
section
section
/-! ===== chords, purely: which classes sound ===== -/
abbrev zI := Int → Int → Int
def iU (I : zI) (l a : Int) : zI := fun x y => if x = l ∧ y = a then 1 else I x y
def I01 (I : zI) : Prop := ∀ x y, I x y = 0 ∨ I x y = 1
theorem iU_01 {I : zI} {l a : Int} (h : I01 I) : I01 (iU I l a) := fun x y => by
  unfold iU
  by_cases c : x = l ∧ y = a
  · rw [if_pos c]; exact Or.inr rfl
  · rw [if_neg c]; exact h x y
def mkI (I : zI) (l : Int) : Int := I l (-2) + 2 * I l (-1) + 4 * I l 0 + 8 * I l 1 + 16 * I l 2
def cnI (I : zI) (l : Int) : Int := I l (-2) + I l (-1) + I l 0 + I l 1 + I l 2
def alI (I : zI) (l : Int) : Int := if I l (-2) = 1 then -2 else if I l (-1) = 1 then -1 else if I l 0 = 1 then 0 else if I l 1 = 1 then 1 else 2
def tcI (I : zI) : Int := cnI I 0 + cnI I 1 + cnI I 2 + cnI I 3 + cnI I 4 + cnI I 5 + cnI I 6
theorem I01_b {I : zI} {l : Int} (h : I01 I) : ((0 ≤ I l (-2) ∧ I l (-2) ≤ 1) ∧ (0 ≤ I l (-1) ∧ I l (-1) ≤ 1) ∧ (0 ≤ I l 0 ∧ I l 0 ≤ 1) ∧ (0 ≤ I l 1 ∧ I l 1 ≤ 1) ∧ (0 ≤ I l 2 ∧ I l 2 ≤ 1)) := by
  have h0 := h l (-2)
  have h1 := h l (-1)
  have h2 := h l 0
  have h3 := h l 1
  have h4 := h l 2
  omega
theorem cnI_b {I : zI} {l : Int} (h : I01 I) : 0 ≤ cnI I l ∧ cnI I l ≤ 5 ∧ (mkI I l = 0 ↔ cnI I l = 0) ∧ 0 ≤ mkI I l ∧ mkI I l < 32 := by
  have b := I01_b (l := l) h
  unfold cnI mkI
  omega
/-- a letter with one class -/
theorem alI_1 {I : zI} {l a : Int} (h : I01 I) (c : cnI I l = 1) (ha : -2 ≤ a ∧ a ≤ 2) (e : I l a = 1) : alI I l = a := by
  have b := I01_b (l := l) h
  unfold cnI at c
  unfold alI
  rcases (show a = -2 ∨ a = -1 ∨ a = 0 ∨ a = 1 ∨ a = 2 by omega) with rfl | rfl | rfl | rfl | rfl
  · rw [if_pos e]
  · rw [if_neg (by omega), if_pos e]
  · rw [if_neg (by omega), if_neg (by omega), if_pos e]
  · rw [if_neg (by omega), if_neg (by omega), if_neg (by omega), if_pos e]
  · rw [if_neg (by omega), if_neg (by omega), if_neg (by omega), if_neg (by omega)]
theorem cnI_0 {I : zI} {l : Int} (h : I01 I) (z : ∀ a, -2 ≤ a → a ≤ 2 → ¬ I l a = 1) : cnI I l = 0 := by
  have b := I01_b (l := l) h
  have h0 := z (-2) (by decide) (by decide)
  have h1 := z (-1) (by decide) (by decide)
  have h2 := z 0 (by decide) (by decide)
  have h3 := z 1 (by decide) (by decide)
  have h4 := z 2 (by decide) (by decide)
  unfold cnI
  omega
theorem cnI_1 {I : zI} {l a : Int} (h : I01 I) (ha : -2 ≤ a ∧ a ≤ 2) (e : I l a = 1) (z : ∀ a', -2 ≤ a' → a' ≤ 2 → ¬ a' = a → ¬ I l a' = 1) : cnI I l = 1 := by
  have b := I01_b (l := l) h
  unfold cnI
  rcases (show a = -2 ∨ a = -1 ∨ a = 0 ∨ a = 1 ∨ a = 2 by omega) with rfl | rfl | rfl | rfl | rfl
  · have h1 := z (-1) (by decide) (by decide) (by decide)
    have h2 := z 0 (by decide) (by decide) (by decide)
    have h3 := z 1 (by decide) (by decide) (by decide)
    have h4 := z 2 (by decide) (by decide) (by decide)
    omega
  · have h1 := z (-2) (by decide) (by decide) (by decide)
    have h2 := z 0 (by decide) (by decide) (by decide)
    have h3 := z 1 (by decide) (by decide) (by decide)
    have h4 := z 2 (by decide) (by decide) (by decide)
    omega
  · have h1 := z (-2) (by decide) (by decide) (by decide)
    have h2 := z (-1) (by decide) (by decide) (by decide)
    have h3 := z 1 (by decide) (by decide) (by decide)
    have h4 := z 2 (by decide) (by decide) (by decide)
    omega
  · have h1 := z (-2) (by decide) (by decide) (by decide)
    have h2 := z (-1) (by decide) (by decide) (by decide)
    have h3 := z 0 (by decide) (by decide) (by decide)
    have h4 := z 2 (by decide) (by decide) (by decide)
    omega
  · have h1 := z (-2) (by decide) (by decide) (by decide)
    have h2 := z (-1) (by decide) (by decide) (by decide)
    have h3 := z 0 (by decide) (by decide) (by decide)
    have h4 := z 1 (by decide) (by decide) (by decide)
    omega
theorem cnI_g {I : zI} {l a : Int} (h : I01 I) (ha : -2 ≤ a ∧ a ≤ 2) (e : I l a = 1) : 1 ≤ cnI I l := by
  have b := I01_b (l := l) h
  unfold cnI
  rcases (show a = -2 ∨ a = -1 ∨ a = 0 ∨ a = 1 ∨ a = 2 by omega) with rfl | rfl | rfl | rfl | rfl <;> omega
theorem cnI_2 {I : zI} {l a a' : Int} (h : I01 I) (ha : -2 ≤ a ∧ a ≤ 2) (ha' : -2 ≤ a' ∧ a' ≤ 2) (n : ¬ a = a') (e : I l a = 1) (e' : I l a' = 1) : 2 ≤ cnI I l := by
  have b := I01_b (l := l) h
  unfold cnI
  rcases (show a = -2 ∨ a = -1 ∨ a = 0 ∨ a = 1 ∨ a = 2 by omega) with rfl | rfl | rfl | rfl | rfl <;> rcases (show a' = -2 ∨ a' = -1 ∨ a' = 0 ∨ a' = 1 ∨ a' = 2 by omega) with rfl | rfl | rfl | rfl | rfl <;> omega
theorem cnI_e {I : zI} {l l' a : Int} (n : ¬ l' = l) : cnI (iU I l a) l' = cnI I l' := by
  unfold cnI iU
  rw [if_neg (fun z => n z.1), if_neg (fun z => n z.1), if_neg (fun z => n z.1), if_neg (fun z => n z.1), if_neg (fun z => n z.1)]
theorem mkI_e {I : zI} {l l' a : Int} (n : ¬ l' = l) : mkI (iU I l a) l' = mkI I l' := by
  unfold mkI iU
  rw [if_neg (fun z => n z.1), if_neg (fun z => n z.1), if_neg (fun z => n z.1), if_neg (fun z => n z.1), if_neg (fun z => n z.1)]
theorem iU_v {I : zI} {l a : Int} : iU I l a l a = 1 := by unfold iU; rw [if_pos ⟨rfl, rfl⟩]
theorem iU_n {I : zI} {l a y : Int} (n : ¬ y = a) : iU I l a l y = I l y := by unfold iU; rw [if_neg (fun z => n z.2)]
/-- one class more, or the same -/
theorem iU_c {I : zI} {l a : Int} (h : I01 I) (ha : -2 ≤ a ∧ a ≤ 2) : cnI (iU I l a) l = cnI I l + (if I l a = 1 then 0 else 1) := by
  have b := I01_b (l := l) h
  unfold cnI
  rcases (show a = -2 ∨ a = -1 ∨ a = 0 ∨ a = 1 ∨ a = 2 by omega) with rfl | rfl | rfl | rfl | rfl
  · rw [iU_v, iU_n (by decide), iU_n (by decide), iU_n (by decide), iU_n (by decide)]; split <;> omega
  · rw [iU_v, iU_n (by decide), iU_n (by decide), iU_n (by decide), iU_n (by decide)]; split <;> omega
  · rw [iU_v, iU_n (by decide), iU_n (by decide), iU_n (by decide), iU_n (by decide)]; split <;> omega
  · rw [iU_v, iU_n (by decide), iU_n (by decide), iU_n (by decide), iU_n (by decide)]; split <;> omega
  · rw [iU_v, iU_n (by decide), iU_n (by decide), iU_n (by decide), iU_n (by decide)]; split <;> omega
theorem iU_t {I : zI} {l a : Int} (h : I01 I) (hl : 0 ≤ l ∧ l ≤ 6) (ha : -2 ≤ a ∧ a ≤ 2) : tcI (iU I l a) = tcI I + (if I l a = 1 then 0 else 1) := by
  have c := iU_c (l := l) (a := a) h ha
  unfold tcI
  rcases (show l = 0 ∨ l = 1 ∨ l = 2 ∨ l = 3 ∨ l = 4 ∨ l = 5 ∨ l = 6 by omega) with rfl | rfl | rfl | rfl | rfl | rfl | rfl
  · rw [c, cnI_e (by decide), cnI_e (by decide), cnI_e (by decide), cnI_e (by decide), cnI_e (by decide), cnI_e (by decide)]; omega
  · rw [c, cnI_e (by decide), cnI_e (by decide), cnI_e (by decide), cnI_e (by decide), cnI_e (by decide), cnI_e (by decide)]; omega
  · rw [c, cnI_e (by decide), cnI_e (by decide), cnI_e (by decide), cnI_e (by decide), cnI_e (by decide), cnI_e (by decide)]; omega
  · rw [c, cnI_e (by decide), cnI_e (by decide), cnI_e (by decide), cnI_e (by decide), cnI_e (by decide), cnI_e (by decide)]; omega
  · rw [c, cnI_e (by decide), cnI_e (by decide), cnI_e (by decide), cnI_e (by decide), cnI_e (by decide), cnI_e (by decide)]; omega
  · rw [c, cnI_e (by decide), cnI_e (by decide), cnI_e (by decide), cnI_e (by decide), cnI_e (by decide), cnI_e (by decide)]; omega
  · rw [c, cnI_e (by decide), cnI_e (by decide), cnI_e (by decide), cnI_e (by decide), cnI_e (by decide), cnI_e (by decide)]; omega
/-- bits -/
def bcZ (l0 : Int) : Int := zand (((zand (((zand (l0 - (zand (zushr l0 1) 1431655765)) 858993459) + (zand (zushr (l0 - (zand (zushr l0 1) 1431655765)) 2) 858993459)) + (zushr ((zand (l0 - (zand (zushr l0 1) 1431655765)) 858993459) + (zand (zushr (l0 - (zand (zushr l0 1) 1431655765)) 2) 858993459)) 4)) 252645135) + (zushr (zand (((zand (l0 - (zand (zushr l0 1) 1431655765)) 858993459) + (zand (zushr (l0 - (zand (zushr l0 1) 1431655765)) 2) 858993459)) + (zushr ((zand (l0 - (zand (zushr l0 1) 1431655765)) 858993459) + (zand (zushr (l0 - (zand (zushr l0 1) 1431655765)) 2) 858993459)) 4)) 252645135) 8)) + (zushr ((zand (((zand (l0 - (zand (zushr l0 1) 1431655765)) 858993459) + (zand (zushr (l0 - (zand (zushr l0 1) 1431655765)) 2) 858993459)) + (zushr ((zand (l0 - (zand (zushr l0 1) 1431655765)) 858993459) + (zand (zushr (l0 - (zand (zushr l0 1) 1431655765)) 2) 858993459)) 4)) 252645135) + (zushr (zand (((zand (l0 - (zand (zushr l0 1) 1431655765)) 858993459) + (zand (zushr (l0 - (zand (zushr l0 1) 1431655765)) 2) 858993459)) + (zushr ((zand (l0 - (zand (zushr l0 1) 1431655765)) 858993459) + (zand (zushr (l0 - (zand (zushr l0 1) 1431655765)) 2) 858993459)) 4)) 252645135) 8)) 16)) 63
theorem C_bitx {K : zK} {x : Int} {F : zF} {B : zB} : f_Integer_bitCount K x F B = some (bcZ x, F, B) := rfl
theorem bcZ_f : ∀ m : Fin 32, bcZ (m.val : Int) = (m.val : Int) % 2 + (m.val : Int) / 2 % 2 + (m.val : Int) / 4 % 2 + (m.val : Int) / 8 % 2 + (m.val : Int) / 16 % 2 := by decide +kernel
theorem bcZ_v {m : Int} (h : 0 ≤ m ∧ m < 32) : bcZ m = m % 2 + m / 2 % 2 + m / 4 % 2 + m / 8 % 2 + m / 16 % 2 := by
  have k := bcZ_f ⟨m.toNat, by omega⟩
  rw [show (((⟨m.toNat, by omega⟩ : Fin 32).val : Nat) : Int) = m by show ((m.toNat : Nat) : Int) = m; omega] at k
  exact k
theorem bcZ_c {I : zI} {l : Int} (h : I01 I) : bcZ (mkI I l) = cnI I l := by
  have b := I01_b (l := l) h
  have c := cnI_b (l := l) h
  rw [bcZ_v c.2.2.2]
  unfold mkI cnI
  omega
theorem bcZ_1 : bcZ 0 = 0 ∧ bcZ 1 = 1 ∧ bcZ 3 = 2 ∧ bcZ 7 = 3 ∧ bcZ 15 = 4 := by decide +kernel
theorem bcZ_a {I : zI} {l : Int} (h : I01 I) (c : cnI I l = 1) : bcZ (mkI I l - 1) - 2 = alI I l := by
  have b := I01_b (l := l) h
  have k := bcZ_1
  unfold cnI at c
  unfold alI
  by_cases c0 : I l (-2) = 1
  · rw [if_pos c0, show mkI I l - 1 = 0 by unfold mkI; omega]; omega
  by_cases c1 : I l (-1) = 1
  · rw [if_neg c0, if_pos c1, show mkI I l - 1 = 1 by unfold mkI; omega]; omega
  by_cases c2 : I l 0 = 1
  · rw [if_neg c0, if_neg c1, if_pos c2, show mkI I l - 1 = 3 by unfold mkI; omega]; omega
  by_cases c3 : I l 1 = 1
  · rw [if_neg c0, if_neg c1, if_neg c2, if_pos c3, show mkI I l - 1 = 7 by unfold mkI; omega]; omega
  · rw [if_neg c0, if_neg c1, if_neg c2, if_neg c3, show mkI I l - 1 = 15 by unfold mkI; omega]; omega
theorem or_f : ∀ m : Fin 32, zor (m.val : Int) (zshl 1 0) = (if (m.val : Int) % 2 = 1 then (m.val : Int) else (m.val : Int) + 1) ∧ zor (m.val : Int) (zshl 1 1) = (if (m.val : Int) / 2 % 2 = 1 then (m.val : Int) else (m.val : Int) + 2) ∧ zor (m.val : Int) (zshl 1 2) = (if (m.val : Int) / 4 % 2 = 1 then (m.val : Int) else (m.val : Int) + 4) ∧ zor (m.val : Int) (zshl 1 3) = (if (m.val : Int) / 8 % 2 = 1 then (m.val : Int) else (m.val : Int) + 8) ∧ zor (m.val : Int) (zshl 1 4) = (if (m.val : Int) / 16 % 2 = 1 then (m.val : Int) else (m.val : Int) + 16) := by decide +kernel
theorem or_v {m : Int} (h : 0 ≤ m ∧ m < 32) : zor m (zshl 1 0) = (if m % 2 = 1 then m else m + 1) ∧ zor m (zshl 1 1) = (if m / 2 % 2 = 1 then m else m + 2) ∧ zor m (zshl 1 2) = (if m / 4 % 2 = 1 then m else m + 4) ∧ zor m (zshl 1 3) = (if m / 8 % 2 = 1 then m else m + 8) ∧ zor m (zshl 1 4) = (if m / 16 % 2 = 1 then m else m + 16) := by
  have k := or_f ⟨m.toNat, by omega⟩
  rw [show (((⟨m.toNat, by omega⟩ : Fin 32).val : Nat) : Int) = m by show ((m.toNat : Nat) : Int) = m; omega] at k
  exact k
theorem or_m {I : zI} {l a : Int} (h : I01 I) (ha : -2 ≤ a ∧ a ≤ 2) : zor (mkI I l) (zshl 1 (a + 2)) = mkI (iU I l a) l := by
  have b := I01_b (l := l) h
  have c := cnI_b (l := l) h
  obtain ⟨k0, k1, k2, k3, k4⟩ := or_v c.2.2.2
  rcases (show a = -2 ∨ a = -1 ∨ a = 0 ∨ a = 1 ∨ a = 2 by omega) with rfl | rfl | rfl | rfl | rfl
  · rw [show (-2 : Int) + 2 = 0 by decide, k0]; unfold mkI; rw [iU_v, iU_n (by decide), iU_n (by decide), iU_n (by decide), iU_n (by decide)]; split <;> omega
  · rw [show (-1 : Int) + 2 = 1 by decide, k1]; unfold mkI; rw [iU_v, iU_n (by decide), iU_n (by decide), iU_n (by decide), iU_n (by decide)]; split <;> omega
  · rw [show (0 : Int) + 2 = 2 by decide, k2]; unfold mkI; rw [iU_v, iU_n (by decide), iU_n (by decide), iU_n (by decide), iU_n (by decide)]; split <;> omega
  · rw [show (1 : Int) + 2 = 3 by decide, k3]; unfold mkI; rw [iU_v, iU_n (by decide), iU_n (by decide), iU_n (by decide), iU_n (by decide)]; split <;> omega
  · rw [show (2 : Int) + 2 = 4 by decide, k4]; unfold mkI; rw [iU_v, iU_n (by decide), iU_n (by decide), iU_n (by decide), iU_n (by decide)]; split <;> omega
theorem an_f : ∀ m : Fin 32, ∀ k : Fin 3, (zand (m.val : Int) (zxor (zshl 1 ((k.val : Int) + 1)) (-1)) = 0 ↔ (m.val : Int) = 0 ∨ ((k.val : Int) = 0 ∧ (m.val : Int) = 2) ∨ ((k.val : Int) = 1 ∧ (m.val : Int) = 4) ∨ ((k.val : Int) = 2 ∧ (m.val : Int) = 8)) ∧ r32 (zand (m.val : Int) (zxor (zshl 1 ((k.val : Int) + 1)) (-1))) := by decide +kernel
theorem an_v {m k : Int} (h : 0 ≤ m ∧ m < 32) (hk : -1 ≤ k ∧ k ≤ 1) : (zand m (zxor (zshl 1 (k + 2)) (-1)) = 0 ↔ m = 0 ∨ (k = -1 ∧ m = 2) ∨ (k = 0 ∧ m = 4) ∨ (k = 1 ∧ m = 8)) ∧ r32 (zand m (zxor (zshl 1 (k + 2)) (-1))) := by
  have q := an_f ⟨m.toNat, by omega⟩ ⟨(k + 1).toNat, by omega⟩
  rw [show (((⟨m.toNat, by omega⟩ : Fin 32).val : Nat) : Int) = m by show ((m.toNat : Nat) : Int) = m; omega, show (((⟨(k + 1).toNat, by omega⟩ : Fin 3).val : Nat) : Int) = k + 1 by show (((k + 1).toNat : Nat) : Int) = k + 1; omega, show k + 1 + 1 = k + 2 by omega] at q
  refine ⟨q.1.trans ?_, q.2⟩
  omega
/-- a letter that stands as the key has it -/
theorem an_m {I : zI} {l k : Int} (h : I01 I) (hk : -1 ≤ k ∧ k ≤ 1) : (zand (mkI I l) (zxor (zshl 1 (k + 2)) (-1)) = 0 ↔ ∀ a, -2 ≤ a → a ≤ 2 → I l a = 1 → a = k) ∧ r32 (zand (mkI I l) (zxor (zshl 1 (k + 2)) (-1))) := by
  have b := I01_b (l := l) h
  have c := cnI_b (l := l) h
  obtain ⟨q1, q2⟩ := an_v c.2.2.2 hk
  refine ⟨q1.trans ⟨fun z a a0 a1 e => ?_, fun z => ?_⟩, q2⟩
  · unfold mkI at z
    rcases (show a = -2 ∨ a = -1 ∨ a = 0 ∨ a = 1 ∨ a = 2 by omega) with rfl | rfl | rfl | rfl | rfl <;> omega
  · have z0 := z (-2) (by decide) (by decide)
    have z1 := z (-1) (by decide) (by decide)
    have z2 := z 0 (by decide) (by decide)
    have z3 := z 1 (by decide) (by decide)
    have z4 := z 2 (by decide) (by decide)
    unfold mkI
    rcases (show k = -1 ∨ k = 0 ∨ k = 1 by omega) with rfl | rfl | rfl
    · have y0 : ¬ I l (-2) = 1 := fun e => absurd (z0 e) (by decide)
      have y2 : ¬ I l 0 = 1 := fun e => absurd (z2 e) (by decide)
      have y3 : ¬ I l 1 = 1 := fun e => absurd (z3 e) (by decide)
      have y4 : ¬ I l 2 = 1 := fun e => absurd (z4 e) (by decide)
      omega
    · have y0 : ¬ I l (-2) = 1 := fun e => absurd (z0 e) (by decide)
      have y2 : ¬ I l (-1) = 1 := fun e => absurd (z1 e) (by decide)
      have y3 : ¬ I l 1 = 1 := fun e => absurd (z3 e) (by decide)
      have y4 : ¬ I l 2 = 1 := fun e => absurd (z4 e) (by decide)
      omega
    · have y0 : ¬ I l (-2) = 1 := fun e => absurd (z0 e) (by decide)
      have y2 : ¬ I l (-1) = 1 := fun e => absurd (z1 e) (by decide)
      have y3 : ¬ I l 0 = 1 := fun e => absurd (z2 e) (by decide)
      have y4 : ¬ I l 2 = 1 := fun e => absurd (z4 e) (by decide)
      omega
/-- the classes of moment j; its lowest tone and that one's step -/
def iV (S : zV) (u i : Int) : Nat → Int → zI → zI
  | 0, _, I => I
  | d + 1, k, I => iV S u i d (k + 1) (iU I (S u 3 i k % 7) (S u 4 i k))
def iA (S : zV) (L : Int → Int → Int) (j : Int) : Nat → Int → zI → zI
  | 0, _, I => I
  | d + 1, u, I => iA S L j d (u + 1) (iV S u (L u j) (S u 2 (L u j) 0).toNat 0 I)
def iM (S : zV) (L : Int → Int → Int) (V j : Int) : zI := iA S L j V.toNat 0 (fun _ _ => 0)
def bS (S : zV) (u i k : Int) (b : Int × Int) : Int × Int := if tnS S u i k < b.1 ∨ (tnS S u i k = b.1 ∧ S u 3 i k < b.2) then (tnS S u i k, S u 3 i k) else b
def bV (S : zV) (u i : Int) : Nat → Int → Int × Int → Int × Int
  | 0, _, b => b
  | d + 1, k, b => bV S u i d (k + 1) (bS S u i k b)
def bA (S : zV) (L : Int → Int → Int) (j : Int) : Nat → Int → Int × Int → Int × Int
  | 0, _, b => b
  | d + 1, u, b => bA S L j d (u + 1) (bV S u (L u j) (S u 2 (L u j) 0).toNat 0 b)
def bM (S : zV) (L : Int → Int → Int) (V j : Int) : Int × Int := bA S L j V.toNat 0 (1000, 0)
/-- tones above a root; the kind of chord on it -/
def ntV (l : Int) : Int := 2 * l - (if l ≤ 2 then 0 else 1)
def taV (I : zI) (r d : Int) : Int := if cnI I ((r + d) % 7) = 0 then 99 else (ntV ((r + d) % 7) + alI I ((r + d) % 7) - ntV r - alI I r) % 12
def kdV (a b c : Int) : Int := if a = 4 then (if b = 8 then (if c = 99 then 3 else -1) else if b = 7 ∨ b = 99 then (if c = 99 then 0 else if c = 10 then 4 else if c = 11 then 5 else -1) else -1) else if a = 3 then (if b = 6 then (if c = 99 then 2 else if c = 10 then 7 else if c = 9 then 8 else -1) else if b = 7 ∨ b = 99 then (if c = 99 then 1 else if c = 10 then 6 else if c = 11 then 9 else -1) else -1) else -1
/-- letters stand in thirds alone above r -/
abbrev thI (I : zI) (r : Int) : Prop := cnI I r = 1 ∧ cnI I ((r + 1) % 7) = 0 ∧ cnI I ((r + 2) % 7) ≤ 1 ∧ cnI I ((r + 3) % 7) = 0 ∧ cnI I ((r + 4) % 7) ≤ 1 ∧ cnI I ((r + 5) % 7) = 0 ∧ cnI I ((r + 6) % 7) ≤ 1
def ckV (I : zI) (r : Int) : Int := if thI I r then kdV (taV I r 2) (taV I r 4) (taV I r 6) else -1
theorem kdV_b {a b c : Int} : -1 ≤ kdV a b c ∧ kdV a b c ≤ 9 := by
  unfold kdV
  (repeat' split) <;> omega
theorem ckV_p {I : zI} {r : Int} (h : thI I r) : ckV I r = kdV (taV I r 2) (taV I r 4) (taV I r 6) := by unfold ckV; rw [if_pos h]
theorem ckV_n {I : zI} {r : Int} (h : ¬ thI I r) : ckV I r = -1 := by unfold ckV; rw [if_neg h]
theorem ckV_b {I : zI} {r : Int} : -1 ≤ ckV I r ∧ ckV I r ≤ 9 := by
  by_cases h : thI I r
  · rw [ckV_p h]; exact kdV_b
  · rw [ckV_n h]; omega
/-- no two roots -/
theorem ckV_u {I : zI} {r r' : Int} (h0 : 0 ≤ r ∧ r < 7) (h1 : 0 ≤ r' ∧ r' < 7) (h : thI I r) (h' : thI I r') : r = r' := by
  obtain ⟨a0, a1, a2, a3, a4, a5, a6⟩ := h
  obtain ⟨b0, b1, b2, b3, b4, b5, b6⟩ := h'
  have o : (r' - r) % 7 = 0 ∨ (r' - r) % 7 = 1 ∨ (r' - r) % 7 = 2 ∨ (r' - r) % 7 = 3 ∨ (r' - r) % 7 = 4 ∨ (r' - r) % 7 = 5 ∨ (r' - r) % 7 = 6 := by omega
  rcases o with z | z | z | z | z | z | z
  · omega
  · rw [show (r + 1) % 7 = r' by omega] at a1; omega
  · rw [show (r' + 5) % 7 = r by omega] at b5; omega
  · rw [show (r + 3) % 7 = r' by omega] at a3; omega
  · rw [show (r' + 3) % 7 = r by omega] at b3; omega
  · rw [show (r + 5) % 7 = r' by omega] at a5; omega
  · rw [show (r' + 1) % 7 = r by omega] at b1; omega
section
variable {S : zV}
theorem iV_01 {u i : Int} : ∀ (d : Nat) (k : Int) (I : zI), I01 I → I01 (iV S u i d k I) := by
  intro d
  induction d with
  | zero => intro k I h; exact h
  | succ d ih => intro k I h; exact ih _ _ (iU_01 h)
theorem iA_01 {L : Int → Int → Int} {j : Int} : ∀ (d : Nat) (u : Int) (I : zI), I01 I → I01 (iA S L j d u I) := by
  intro d
  induction d with
  | zero => intro u I h; exact h
  | succ d ih => intro u I h; exact ih _ _ (iV_01 _ _ _ h)
theorem iM_01 {L : Int → Int → Int} {V j : Int} : I01 (iM S L V j) := iA_01 _ _ _ (fun _ _ => Or.inl rfl)
end
end
end
section
section
/-! ===== chords, class, exactly ===== -/
variable {K : zK} {V p t : Int} {S : zV} {F : zF}
theorem zt5_x : ∀ k : Fin 7, ztv 5 (k.val : Int) = ntV (k.val : Int) := by decide +kernel
theorem zt5_e {x : Int} (h : 0 ≤ x ∧ x < 7) : ztv 5 x = ntV x := by
  have k := zt5_x ⟨x.toNat, by omega⟩
  rw [show (((⟨x.toNat, by omega⟩ : Fin 7).val : Nat) : Int) = x by show ((x.toNat : Nat) : Int) = x; omega] at k
  exact k
theorem ntV_b {x : Int} (h : 0 ≤ x ∧ x < 7) : 0 ≤ ntV x ∧ ntV x ≤ 11 := by unfold ntV; split <;> omega
theorem alI_b {I : zI} {l : Int} : -2 ≤ alI I l ∧ alI I l ≤ 2 := by
  unfold alI
  (repeat' split) <;> omega
/-- the rows of letters are I -/
def LTr (t : Int) (I : zI) (B : zB) : Prop := ∀ l, 0 ≤ l → l < 7 → B 9 t 10 l = mkI I l
theorem C_tc43x {u i j : Int} {rec : Int → Int → Int → Int → zF → zB → zO} (hS : SG V S) (ht : 0 ≤ t ∧ t < K.2 9) (u0 : 0 ≤ u) (u1 : u < V) (i0 : 0 ≤ i) (i1 : i < S u 0 0 0) : ∀ (d N : Nat) (k : Int) (I : zI) (B : zB), k + d = S u 2 i 0 → 0 ≤ k → d < N → SCl K V p S F B → I01 I → LTr t I B → ∃ B', f_Study_takeClasses_43 rec K N k (B 4 (B 6 p 0 u) 5 i) u t p j F B = rec (u + 1) t p j F B' ∧ stT t B B' ∧ LTr t (iV S u i d k I) B' := by
  obtain ⟨_, c6, gp⟩ := (hS.2 u u0 u1).2.2.1 i i0 i1
  intro d
  induction d with
  | zero =>
    intro N k I B kd k0 hN h h01 hL
    obtain ⟨n, rfl⟩ : ∃ n, N = n + 1 := ⟨N - 1, by omega⟩
    obtain ⟨_, _, q2⟩ := h.2.2 u u0 u1
    obtain ⟨he, _, e10, ep⟩ := q2 i i0 i1
    rw [f_Study_takeClasses_43, if_neg (by omega), if_pos he, if_pos (show r32 k by unfold r32; omega), e10, if_pos (show r32 (S u 2 i 0) by unfold r32; omega), if_pos (show S u 2 i 0 ≤ k by omega), f_Study_takeClasses_95]
    exact ⟨B, rfl, stT_r, hL⟩
  | succ d ih =>
    intro N k I B kd k0 hN h h01 hL
    obtain ⟨n, rfl⟩ : ∃ n, N = n + 1 := ⟨N - 1, by omega⟩
    obtain ⟨_, _, q2⟩ := h.2.2 u u0 u1
    obtain ⟨he, _, e10, ep⟩ := q2 i i0 i1
    obtain ⟨p1, p2⟩ := ep k k0 (by omega)
    obtain ⟨s1, s2⟩ := gp k k0 (by omega)
    have ez : zrm (B 1 (B 4 (B 6 p 0 u) 5 i) 12 k) 7 = S u 3 i k % 7 := by rw [p1]; exact zrm_e s1.1 (by unfold r32; omega) (by decide) (by decide)
    have lb : 0 ≤ S u 3 i k % 7 ∧ S u 3 i k % 7 < 7 := by omega
    rw [f_Study_takeClasses_43, if_neg (by omega), if_pos he, if_pos (show r32 k by unfold r32; omega), e10, if_pos (show r32 (S u 2 i 0) by unfold r32; omega), if_neg (show ¬ S u 2 i 0 ≤ k by omega), if_pos ht, if_pos (show 0 ≤ k ∧ k < 6 by omega), ez, if_pos lb, p2, hL _ lb.1 lb.2, or_m h01 s2]
    have b1 : stT t B (zup4 B 9 t 10 (S u 3 i k % 7) (mkI (iU I (S u 3 i k % 7) (S u 4 i k)) (S u 3 i k % 7))) := stT_w
    have eo : B 4 (B 6 p 0 u) 5 i = (zup4 B 9 t 10 (S u 3 i k % 7) (mkI (iU I (S u 3 i k % 7) (S u 4 i k)) (S u 3 i k % 7))) 4 ((zup4 B 9 t 10 (S u 3 i k % 7) (mkI (iU I (S u 3 i k % 7) (S u 4 i k)) (S u 3 i k % 7))) 6 p 0 u) 5 i := by rw [b1 6 p 0 u (by omega), b1 4 _ 5 i (by omega)]
    obtain ⟨B', x1, x2, x3⟩ := ih n (k + 1) (iU I (S u 3 i k % 7) (S u 4 i k)) _ (by omega) (by omega) (by omega) (SCl_f h stF_r (stT_B b1)) (iU_01 h01) (fun l l0 l1 => by
      rw [zup4_v]
      by_cases z : l = S u 3 i k % 7
      · rw [if_pos ⟨rfl, rfl, rfl, z⟩, z]
      · rw [if_neg (fun q => z q.2.2.2), mkI_e z]; exact hL l l0 l1)
    rw [← eo] at x1
    exact ⟨B', x1, stT_t b1 x2, x3⟩
theorem C_evx {u j : Int} {L : Int → Int → Int} {B : zB} (hS : SG V S) (h : SCl K V p S F B) (ht : 0 ≤ t ∧ t < K.2 9) (hj : 0 ≤ j ∧ j < 800) (u0 : 0 ≤ u) (u1 : u < V) (l1 : B 9 t (280 + u.toNat) j = L u j) (l2 : 0 ≤ L u j) (l3 : L u j < S u 0 0 0) : f_Study_eventOf K t p u j F B = some (B 4 (B 6 p 0 u) 5 (L u j), F, B) := by
  have hV := hS.1
  have g1 := (hS.2 u u0 u1).1
  obtain ⟨q0, q1, _⟩ := h.2.2 u u0 u1
  unfold f_Study_eventOf f_Study_eventOf_45
  rw [if_pos ht, if_pos (show 0 ≤ u ∧ u < 4 by omega), if_pos hj, l1, if_pos (show r32 (L u j) by unfold r32; omega), if_neg (show ¬ L u j < 0 by omega), if_pos h.1, if_pos q0, q1, if_pos (show r32 (S u 0 0 0) by unfold r32; omega), if_pos l3, if_pos (show 0 ≤ L u j ∧ L u j < 200 by omega)]
/-- which event sounds in each voice at moment j -/
def LJc (t V j : Int) (S : zV) (L : Int → Int → Int) (B : zB) : Prop := ∀ u, 0 ≤ u → u < V → B 9 t (280 + u.toNat) j = L u j ∧ 0 ≤ L u j ∧ L u j < S u 0 0 0
theorem LJc_f {j : Int} {L : Int → Int → Int} {B B' : zB} (h : LJc t V j S L B) (v4 : V ≤ 4) (b : stT t B B') : LJc t V j S L B' := fun u u0 u1 => by
  rw [b 9 t _ j (by omega)]
  exact h u u0 u1
theorem C_tc23x {j : Int} {L : Int → Int → Int} (hK : 60000 ≤ K.1) (hS : SG V S) (ht : 0 ≤ t ∧ t < K.2 9) (hj : 0 ≤ j ∧ j < 800) : ∀ (d N : Nat) (u : Int) (I : zI) (B : zB), u + d = V → 0 ≤ u → d < N → SCl K V p S F B → LJc t V j S L B → I01 I → LTr t I B → ∃ B', f_Study_takeClasses_23 K N u t p j F B = some (0, F, B') ∧ stT t B B' ∧ LTr t (iA S L j d u I) B' := by
  have hV := hS.1
  intro d
  induction d with
  | zero =>
    intro N u I B hu u0 hN h hl h01 hL
    obtain ⟨n, rfl⟩ : ∃ n, N = n + 1 := ⟨N - 1, by omega⟩
    rw [f_Study_takeClasses_23, if_pos h.1, if_pos (show r32 u by unfold r32; omega), h.2.1, if_pos (show r32 V by unfold r32; omega), if_pos (show V ≤ u by omega)]
    exact ⟨B, rfl, stT_r, hL⟩
  | succ d ih =>
    intro N u I B hu u0 hN h hl h01 hL
    obtain ⟨n, rfl⟩ : ∃ n, N = n + 1 := ⟨N - 1, by omega⟩
    have u1 : u < V := by omega
    obtain ⟨l1, l2, l3⟩ := hl u u0 u1
    have c6 := ((hS.2 u u0 u1).2.2.1 (L u j) l2 l3).2.1
    obtain ⟨B1, x1, x2, x3⟩ := C_tc43x (rec := f_Study_takeClasses_23 K n) (p := p) (F := F) (j := j) hS ht u0 u1 l2 l3 (S u 2 (L u j) 0).toNat K.1 0 I B (by omega) (by decide) (by omega) h h01 hL
    rw [f_Study_takeClasses_23, if_pos h.1, if_pos (show r32 u by unfold r32; omega), h.2.1, if_pos (show r32 V by unfold r32; omega), if_neg (show ¬ V ≤ u by omega), if_pos ht, C_evx hS h ht hj u0 u1 l1 l2 l3, zb_s, x1]
    obtain ⟨B2, y1, y2, y3⟩ := ih n (u + 1) _ B1 (by omega) (by omega) (by omega) (SCl_f h stF_r (stT_B x2)) (LJc_f hl hV.2 x2) (iV_01 _ _ _ h01) x3
    exact ⟨B2, y1, stT_t x2 y2, y3⟩
theorem C_tc2x {j : Int} (ht : 0 ≤ t ∧ t < K.2 9) : ∀ (d N : Nat) (i : Int) (B : zB), i + d = 7 → 0 ≤ i → d < N → (∀ l, 0 ≤ l → l < i → B 9 t 10 l = 0) → ∃ B', f_Study_takeClasses_2 K N i t p j F B = f_Study_takeClasses_23 K K.1 0 t p j F B' ∧ stT t B B' ∧ ∀ l, 0 ≤ l → l < 7 → B' 9 t 10 l = 0 := by
  intro d
  induction d with
  | zero =>
    intro N i B hi i0 hN hz
    obtain ⟨n, rfl⟩ : ∃ n, N = n + 1 := ⟨N - 1, by omega⟩
    rw [f_Study_takeClasses_2, if_pos (by unfold r32; omega), if_pos (by omega)]
    exact ⟨B, rfl, stT_r, fun l l0 l1 => hz l l0 (by omega)⟩
  | succ d ih =>
    intro N i B hi i0 hN hz
    obtain ⟨n, rfl⟩ : ∃ n, N = n + 1 := ⟨N - 1, by omega⟩
    rw [f_Study_takeClasses_2, if_pos (by unfold r32; omega), if_neg (by omega), if_pos ht, if_pos (by omega)]
    obtain ⟨B', g1, g2, g3⟩ := ih n (i + 1) (zup4 B 9 t 10 i 0) (by omega) (by omega) (by omega) (fun l l0 l1 => by
      rw [zup4_v]
      by_cases z : l = i
      · rw [if_pos ⟨rfl, rfl, rfl, z⟩]
      · rw [if_neg (fun q => z q.2.2.2)]; exact hz l l0 (by omega))
    exact ⟨B', g1, stT_t stT_w g2, g3⟩
theorem C_tkx {j : Int} {L : Int → Int → Int} {B : zB} (hK : 60000 ≤ K.1) (hS : SG V S) (h : SCl K V p S F B) (ht : 0 ≤ t ∧ t < K.2 9) (hj : 0 ≤ j ∧ j < 800) (hl : LJc t V j S L B) : ∃ B', f_Study_takeClasses K t p j F B = some (0, F, B') ∧ stT t B B' ∧ LTr t (iM S L V j) B' := by
  have hV := hS.1
  obtain ⟨B1, x1, x2, x3⟩ := C_tc2x (K := K) (p := p) (F := F) (j := j) ht 7 K.1 0 B (by omega) (by decide) (by omega) (fun l l0 l1 => by omega)
  obtain ⟨B2, y1, y2, y3⟩ := C_tc23x (p := p) (F := F) hK hS ht hj V.toNat K.1 0 (fun _ _ => 0) B1 (by omega) (by decide) (by omega) (SCl_f h stF_r (stT_B x2)) (LJc_f hl hV.2 x2) (fun _ _ => Or.inl rfl) (fun l l0 l1 => by rw [x3 l l0 l1]; unfold mkI; rfl)
  unfold f_Study_takeClasses
  rw [x1, y1]
  exact ⟨B2, rfl, stT_t x2 y2, y3⟩
section
variable {I : zI} {B : zB}
theorem C_altx {l : Int} (ht : 0 ≤ t ∧ t < K.2 9) (hL : LTr t I B) (h01 : I01 I) (hl : 0 ≤ l ∧ l < 7) (c : cnI I l = 1) : f_Study_alterationOf K t l F B = some (alI I l, F, B) := by
  unfold f_Study_alterationOf
  rw [if_pos ht, if_pos hl, C_bitx, zb_s, hL l hl.1 hl.2, bcZ_a h01 c]
theorem C_tonx {a b : Int} (ht : 0 ≤ t ∧ t < K.2 9) (hL : LTr t I B) (h01 : I01 I) (ha : 0 ≤ a ∧ a < 7) (hb : 0 ≤ b ∧ b ≤ 6) (c : cnI I a = 1) (d : cnI I ((a + b) % 7) ≤ 1) : f_Study_tonesAbove K t a b F B = some (taV I a b, F, B) := by
  have ez : zrm (a + b) 7 = (a + b) % 7 := zrm_e (by omega) (by unfold r32; omega) (by decide) (by decide)
  have lb : 0 ≤ (a + b) % 7 ∧ (a + b) % 7 < 7 := by omega
  have cb := cnI_b (l := (a + b) % 7) h01
  have n1 := ntV_b ha
  have n2 := ntV_b lb
  have l1 := alI_b (I := I) (l := a)
  have l2 := alI_b (I := I) (l := (a + b) % 7)
  unfold f_Study_tonesAbove taV
  rw [ez, if_pos ht, if_pos lb, hL _ lb.1 lb.2, if_pos (show r32 (mkI I ((a + b) % 7)) by unfold r32; omega)]
  by_cases z : cnI I ((a + b) % 7) = 0
  · rw [if_pos (cb.2.2.1.mpr z), if_pos z]
  · rw [if_neg (fun q => z (cb.2.2.1.mp q)), if_neg z, zt5_f.1, if_pos lb, C_altx ht hL h01 lb (by omega), zb_s, if_pos ha, C_altx ht hL h01 ha c, zb_s, zt5_e lb, zt5_e ha, C_m12w (by omega), zb_s]
theorem zt16_x : ztl 16 = 16 ∧ ztl 17 = 16 ∧ ztv 16 0 = 40799 ∧ ztv 16 1 = 30799 ∧ ztv 16 2 = 30699 ∧ ztv 16 3 = 40899 ∧ ztv 16 4 = 40710 ∧ ztv 16 5 = 40711 ∧ ztv 16 6 = 30710 ∧ ztv 16 7 = 30610 ∧ ztv 16 8 = 30609 ∧ ztv 16 9 = 30711 ∧ ztv 16 10 = 49999 ∧ ztv 16 11 = 39999 ∧ ztv 16 12 = 49910 ∧ ztv 16 13 = 49911 ∧ ztv 16 14 = 39910 ∧ ztv 16 15 = 39911 := by decide +kernel
/-- what the table says of a shape, from place i on -/
def tbV (v : Int) : Nat → Int → Int
  | 0, _ => -1
  | d + 1, i => if ztv 16 i = v then ztv 17 i else tbV v d (i + 1)
theorem C_ck88x {v : Int} (hv : r32 v) : ∀ (d N : Nat) (i : Int), i + d = 16 → 0 ≤ i → d < N → f_Study_chordKind_88 K N i v F B = some (tbV v d i, F, B) := by
  intro d
  induction d with
  | zero =>
    intro N i hi i0 hN
    obtain ⟨n, rfl⟩ : ∃ n, N = n + 1 := ⟨N - 1, by omega⟩
    rw [f_Study_chordKind_88, if_pos (show r32 i by unfold r32; omega), zt16_f.1, if_pos (show r32 16 by decide), if_pos (show 16 ≤ i by omega), tbV]
  | succ d ih =>
    intro N i hi i0 hN
    obtain ⟨n, rfl⟩ : ∃ n, N = n + 1 := ⟨N - 1, by omega⟩
    have r := zt16_v i0 (show i < 16 by omega)
    rw [f_Study_chordKind_88, if_pos (show r32 i by unfold r32; omega), zt16_f.1, if_pos (show r32 16 by decide), if_neg (show ¬ 16 ≤ i by omega), if_pos (show 0 ≤ i ∧ i < 16 by omega), if_pos r.1, if_pos hv, tbV]
    by_cases z : ztv 16 i = v
    · rw [if_pos z, if_pos z, zt16_f.2.1, if_pos (show 0 ≤ i ∧ i < 16 by omega)]
    · rw [if_neg z, if_neg z]
      exact ih n (i + 1) (by omega) (by omega) (by omega)
theorem tb_f : ∀ a b c : Fin 13, tbV (10000 * (if a.val = 12 then 99 else (a.val : Int)) + 100 * (if b.val = 12 then 99 else (b.val : Int)) + (if c.val = 12 then 99 else (c.val : Int))) 16 0 = kdV (if a.val = 12 then 99 else (a.val : Int)) (if b.val = 12 then 99 else (b.val : Int)) (if c.val = 12 then 99 else (c.val : Int)) := by decide +kernel
def t13 (x : Int) : Prop := x = 99 ∨ (0 ≤ x ∧ x < 12)
theorem t13_f {x : Int} (h : t13 x) : ∃ a : Fin 13, (if a.val = 12 then (99 : Int) else (a.val : Int)) = x := by
  rcases h with h | h
  · exact ⟨⟨12, by decide⟩, by rw [if_pos rfl]; exact h.symm⟩
  · refine ⟨⟨x.toNat, by omega⟩, ?_⟩
    show (if x.toNat = 12 then (99 : Int) else ((x.toNat : Nat) : Int)) = x
    rw [if_neg (by omega)]
    omega
theorem tb_k {a b c : Int} (ha : t13 a) (hb : t13 b) (hc : t13 c) : tbV (10000 * a + 100 * b + c) 16 0 = kdV a b c := by
  obtain ⟨x, rfl⟩ := t13_f ha
  obtain ⟨y, rfl⟩ := t13_f hb
  obtain ⟨z, rfl⟩ := t13_f hc
  exact tb_f x y z
theorem taV_t {r d : Int} : t13 (taV I r d) := by
  unfold taV t13
  split
  · exact Or.inl rfl
  · exact Or.inr (by omega)
theorem C_ckx {a : Int} (hK : 60000 ≤ K.1) (ht : 0 ≤ t ∧ t < K.2 9) (hL : LTr t I B) (h01 : I01 I) (ha : 0 ≤ a ∧ a < 7) : f_Study_chordKind K t a F B = some (ckV I a, F, B) := by
  -- one letter more is looked at
  have step : ∀ (n : Nat) (l s : Int), 0 ≤ l → l < 7 → s = 1 - l % 2 → f_Study_chordKind_2 K (n + 1) l t a F B = if cnI I ((a + l) % 7) ≤ s then f_Study_chordKind_2 K n (l + 1) t a F B else some (-1, F, B) := fun n l s l0 l1 hs => by
    have e2 : zrm l 2 = l % 2 := zrm_e l0 (by unfold r32; omega) (by decide) (by decide)
    have ez : zrm (a + l) 7 = (a + l) % 7 := zrm_e (by omega) (by unfold r32; omega) (by decide) (by decide)
    have lb : 0 ≤ (a + l) % 7 ∧ (a + l) % 7 < 7 := by omega
    have cb := cnI_b (l := (a + l) % 7) h01
    have o19 : ∀ s : Int, 0 ≤ s ∧ s ≤ 1 → f_Study_chordKind_19 (f_Study_chordKind_2 K n) K l t a s F B = if cnI I ((a + l) % 7) ≤ s then f_Study_chordKind_2 K n (l + 1) t a F B else some (-1, F, B) := fun s sb => by
      unfold f_Study_chordKind_19
      rw [if_pos ht, ez, if_pos lb, C_bitx, zb_s, hL _ lb.1 lb.2, bcZ_c h01, if_pos (show r32 (cnI I ((a + l) % 7)) by unfold r32; omega), if_pos (show r32 s by unfold r32; omega)]
    rw [f_Study_chordKind_2, if_pos (show r32 l by unfold r32; omega), if_neg (show ¬ 7 ≤ l by omega), e2, if_pos (show r32 (l % 2) by unfold r32; omega)]
    by_cases z : l % 2 = 0
    · rw [if_pos z, show s = 1 by omega]; exact o19 1 (by decide)
    · rw [if_neg z, show s = 0 by omega]; exact o19 0 (by decide)
  obtain ⟨m, hm⟩ : ∃ m, K.1 = m + 1 + 1 + 1 + 1 + 1 + 1 + 1 + 1 := ⟨K.1 - 8, by omega⟩
  have c0 := cnI_b (l := a) h01
  have c1 := (cnI_b (l := (a + 1) % 7) h01).1
  have c3 := (cnI_b (l := (a + 3) % 7) h01).1
  have c5 := (cnI_b (l := (a + 5) % 7) h01).1
  have a7 : (a + 0) % 7 = a := by omega
  have e : f_Study_chordKind K t a F B = f_Study_chordKind_2 K (m + 1 + 1 + 1 + 1 + 1 + 1 + 1 + 1) 0 t a F B := by unfold f_Study_chordKind; rw [hm]
  rw [e, step _ 0 1 (by decide) (by decide) (by decide), a7]
  by_cases z0 : cnI I a ≤ 1
  case neg =>
    rw [if_neg z0, ckV_n (fun q => by have := q.1; omega)]
  rw [if_pos z0, show (0 : Int) + 1 = 1 by decide, step _ 1 0 (by decide) (by decide) (by decide)]
  by_cases z1 : cnI I ((a + 1) % 7) ≤ 0
  case neg =>
    rw [if_neg z1, ckV_n (fun q => by have := q.2.1; omega)]
  rw [if_pos z1, show (1 : Int) + 1 = 2 by decide, step _ 2 1 (by decide) (by decide) (by decide)]
  by_cases z2 : cnI I ((a + 2) % 7) ≤ 1
  case neg =>
    rw [if_neg z2, ckV_n (fun q => z2 q.2.2.1)]
  rw [if_pos z2, show (2 : Int) + 1 = 3 by decide, step _ 3 0 (by decide) (by decide) (by decide)]
  by_cases z3 : cnI I ((a + 3) % 7) ≤ 0
  case neg =>
    rw [if_neg z3, ckV_n (fun q => by have := q.2.2.2.1; omega)]
  rw [if_pos z3, show (3 : Int) + 1 = 4 by decide, step _ 4 1 (by decide) (by decide) (by decide)]
  by_cases z4 : cnI I ((a + 4) % 7) ≤ 1
  case neg =>
    rw [if_neg z4, ckV_n (fun q => z4 q.2.2.2.2.1)]
  rw [if_pos z4, show (4 : Int) + 1 = 5 by decide, step _ 5 0 (by decide) (by decide) (by decide)]
  by_cases z5 : cnI I ((a + 5) % 7) ≤ 0
  case neg =>
    rw [if_neg z5, ckV_n (fun q => by have := q.2.2.2.2.2.1; omega)]
  rw [if_pos z5, show (5 : Int) + 1 = 6 by decide, step _ 6 1 (by decide) (by decide) (by decide)]
  by_cases z6 : cnI I ((a + 6) % 7) ≤ 1
  case neg =>
    rw [if_neg z6, ckV_n (fun q => z6 q.2.2.2.2.2.2)]
  rw [if_pos z6, show (6 : Int) + 1 = 7 by decide, f_Study_chordKind_2, if_pos (show r32 7 by decide), if_pos (show (7 : Int) ≤ 7 by decide), if_pos ht, if_pos ha, hL a ha.1 ha.2, if_pos (show r32 (mkI I a) by unfold r32; omega)]
  by_cases z : cnI I a = 0
  · rw [if_pos (c0.2.2.1.mpr z), ckV_n (fun q => by have := q.1; omega)]
  have c : cnI I a = 1 := by omega
  have t2 := taV_t (I := I) (r := a) (d := 2)
  have t4 := taV_t (I := I) (r := a) (d := 4)
  have t6 := taV_t (I := I) (r := a) (d := 6)
  rw [if_neg (fun q => z (c0.2.2.1.mp q)), C_tonx ht hL h01 ha (by decide) c z2, zb_s, C_tonx ht hL h01 ha (by decide) c z4, zb_s, C_tonx ht hL h01 ha (by decide) c z6, zb_s, C_ck88x (by unfold t13 at t2 t4 t6; unfold r32; omega) 16 K.1 0 (by decide) (by decide) (by omega), tb_k t2 t4 t6, ckV_p ⟨c, by omega, z2, by omega, z4, by omega, z6⟩]
/-- the lowest tone and its step -/
theorem C_bs32x {u i j : Int} {rec : Int → Int → Int → Int → Int → Int → zF → zB → zO} (hS : SG V S) (h : SCl K V p S F B) (u0 : 0 ≤ u) (u1 : u < V) (i0 : 0 ≤ i) (i1 : i < S u 0 0 0) : ∀ (d N : Nat) (k : Int) (b : Int × Int), k + d = S u 2 i 0 → 0 ≤ k → d < N → (0 ≤ b.2 ∧ b.2 ≤ 62) → (0 ≤ b.1 ∧ b.1 ≤ 1000) → f_Study_bassLetter_32 rec K N k (B 4 (B 6 p 0 u) 5 i) u b.2 b.1 t p j F B = rec (u + 1) (bV S u i d k b).2 (bV S u i d k b).1 t p j F B ∧ (0 ≤ (bV S u i d k b).2 ∧ (bV S u i d k b).2 ≤ 62) ∧ (0 ≤ (bV S u i d k b).1 ∧ (bV S u i d k b).1 ≤ 1000) := by
  obtain ⟨_, c6, gp⟩ := (hS.2 u u0 u1).2.2.1 i i0 i1
  obtain ⟨_, _, q2⟩ := h.2.2 u u0 u1
  obtain ⟨he, _, e10, ep⟩ := q2 i i0 i1
  generalize B 4 (B 6 p 0 u) 5 i = e at he e10 ep ⊢
  intro d
  induction d with
  | zero =>
    intro N k b kd k0 hN h2 h1
    obtain ⟨n, rfl⟩ : ∃ n, N = n + 1 := ⟨N - 1, by omega⟩
    rw [f_Study_bassLetter_32, if_neg (by omega), if_pos he, if_pos (show r32 k by unfold r32; omega), e10, if_pos (show r32 (S u 2 i 0) by unfold r32; omega), if_pos (show S u 2 i 0 ≤ k by omega), f_Study_bassLetter_100, bV]
    exact ⟨rfl, h2, h1⟩
  | succ d ih =>
    intro N k b kd k0 hN h2 h1
    obtain ⟨n, rfl⟩ : ∃ n, N = n + 1 := ⟨N - 1, by omega⟩
    obtain ⟨p1, p2⟩ := ep k k0 (by omega)
    obtain ⟨s1, s2⟩ := gp k k0 (by omega)
    have m1 := tnv_r s1.1 s1.2 s2.1 s2.2
    have tn : tnS S u i k = tnv (S u 3 i k) + S u 4 i k := rfl
    have new : tnS S u i k < b.1 ∨ (tnS S u i k = b.1 ∧ S u 3 i k < b.2) → f_Study_bassLetter_81 rec (f_Study_bassLetter_32 rec K n) K (tnS S u i k) k e u t p j F B = rec (u + 1) (bV S u i (d + 1) k b).2 (bV S u i (d + 1) k b).1 t p j F B ∧ (0 ≤ (bV S u i (d + 1) k b).2 ∧ (bV S u i (d + 1) k b).2 ≤ 62) ∧ (0 ≤ (bV S u i (d + 1) k b).1 ∧ (bV S u i (d + 1) k b).1 ≤ 1000) := fun z => by
      rw [f_Study_bassLetter_81, if_pos he, if_pos (show 0 ≤ k ∧ k < 6 by omega), p1, f_Study_bassLetter_94, bV]
      unfold bS
      rw [if_pos z]
      exact ih n (k + 1) (tnS S u i k, S u 3 i k) (by omega) (by omega) (by omega) s1 ⟨by rw [tn]; exact m1.1, by show tnS S u i k ≤ 1000; rw [tn]; omega⟩
    have old : ¬ (tnS S u i k < b.1 ∨ (tnS S u i k = b.1 ∧ S u 3 i k < b.2)) → f_Study_bassLetter_94 rec (f_Study_bassLetter_32 rec K n) K k e u b.2 b.1 t p j F B = rec (u + 1) (bV S u i (d + 1) k b).2 (bV S u i (d + 1) k b).1 t p j F B ∧ (0 ≤ (bV S u i (d + 1) k b).2 ∧ (bV S u i (d + 1) k b).2 ≤ 62) ∧ (0 ≤ (bV S u i (d + 1) k b).1 ∧ (bV S u i (d + 1) k b).1 ≤ 1000) := fun z => by
      rw [f_Study_bassLetter_94, bV]
      unfold bS
      rw [if_neg z]
      exact ih n (k + 1) b (by omega) (by omega) (by omega) h2 h1
    rw [f_Study_bassLetter_32, if_neg (by omega), if_pos he, if_pos (show r32 k by unfold r32; omega), e10, if_pos (show r32 (S u 2 i 0) by unfold r32; omega), if_neg (show ¬ S u 2 i 0 ≤ k by omega), C_tone he (by omega) (by rw [p1]; exact s1), zb_s, p1, p2, ← tn, if_pos (show r32 (tnS S u i k) by rw [tn]; unfold r32; omega), if_pos (show r32 b.1 by unfold r32; omega)]
    by_cases z1 : tnS S u i k < b.1
    · rw [if_pos z1]; exact new (Or.inl z1)
    rw [if_neg z1]
    by_cases z2 : tnS S u i k = b.1
    · rw [if_pos z2, if_pos (show 0 ≤ k ∧ k < 6 by omega), if_pos (show r32 (S u 3 i k) by unfold r32; omega), if_pos (show r32 b.2 by unfold r32; omega)]
      by_cases z3 : b.2 ≤ S u 3 i k
      · rw [if_pos z3]; exact old (by omega)
      · rw [if_neg z3]; exact new (Or.inr ⟨z2, by omega⟩)
    · rw [if_neg z2]; exact old (by omega)
theorem C_bs10x {j : Int} {L : Int → Int → Int} (hK : 60000 ≤ K.1) (hS : SG V S) (h : SCl K V p S F B) (ht : 0 ≤ t ∧ t < K.2 9) (hj : 0 ≤ j ∧ j < 800) (hl : LJc t V j S L B) : ∀ (d N : Nat) (u : Int) (b : Int × Int), u + d = V → 0 ≤ u → d < N → (0 ≤ b.2 ∧ b.2 ≤ 62) → (0 ≤ b.1 ∧ b.1 ≤ 1000) → f_Study_bassLetter_10 K N u b.2 b.1 t p j F B = some ((bA S L j d u b).2 % 7, F, B) := by
  have hV := hS.1
  intro d
  induction d with
  | zero =>
    intro N u b hu u0 hN h2 h1
    obtain ⟨n, rfl⟩ : ∃ n, N = n + 1 := ⟨N - 1, by omega⟩
    rw [f_Study_bassLetter_10, if_pos h.1, if_pos (show r32 u by unfold r32; omega), h.2.1, if_pos (show r32 V by unfold r32; omega), if_pos (show V ≤ u by omega), bA, zrm_e h2.1 (by unfold r32; omega) (by decide) (by decide)]
  | succ d ih =>
    intro N u b hu u0 hN h2 h1
    obtain ⟨n, rfl⟩ : ∃ n, N = n + 1 := ⟨N - 1, by omega⟩
    have u1 : u < V := by omega
    obtain ⟨l1, l2, l3⟩ := hl u u0 u1
    have c6 := ((hS.2 u u0 u1).2.2.1 (L u j) l2 l3).2.1
    obtain ⟨x1, x2, x3⟩ := C_bs32x (t := t) (j := j) (rec := f_Study_bassLetter_10 K n) hS h u0 u1 l2 l3 (S u 2 (L u j) 0).toNat K.1 0 b (by omega) (by decide) (by omega) h2 h1
    rw [f_Study_bassLetter_10, if_pos h.1, if_pos (show r32 u by unfold r32; omega), h.2.1, if_pos (show r32 V by unfold r32; omega), if_neg (show ¬ V ≤ u by omega), if_pos ht, C_evx hS h ht hj u0 u1 l1 l2 l3, zb_s, x1, bA]
    exact ih n (u + 1) _ (by omega) (by omega) (by omega) x2 x3
theorem C_foreignx {f : Int} (hf : F 6 p 2 = f ∧ -7 ≤ f ∧ f ≤ 7) (hp : 0 ≤ p ∧ p < K.2 6) (ht : 0 ≤ t ∧ t < K.2 9) (hL : LTr t I B) (h01 : I01 I) : ∀ (d N : Nat) (l : Int), l + d = 7 → 0 ≤ l → d < N → ∃ r, f_Study_isForeign_2 K N l t p F B = some (r, F, B) ∧ ((r = 0 ∧ ∀ l' a, l ≤ l' → l' < 7 → -2 ≤ a → a ≤ 2 → I l' a = 1 → a = kaV f l') ∨ (r = 1 ∧ ∃ l' a, l ≤ l' ∧ l' < 7 ∧ -2 ≤ a ∧ a ≤ 2 ∧ I l' a = 1 ∧ ¬ a = kaV f l')) := by
  intro d
  induction d with
  | zero =>
    intro N l ld l0 hN
    obtain ⟨n, rfl⟩ : ∃ n, N = n + 1 := ⟨N - 1, by omega⟩
    rw [f_Study_isForeign_2, if_pos (show r32 l by unfold r32; omega), if_pos (show 7 ≤ l by omega)]
    exact ⟨0, rfl, Or.inl ⟨rfl, fun l' a x y => by omega⟩⟩
  | succ d ih =>
    intro N l ld l0 hN
    obtain ⟨n, rfl⟩ : ∃ n, N = n + 1 := ⟨N - 1, by omega⟩
    have kb := kaV_b (f := f) (s := l)
    obtain ⟨am, ar⟩ := an_m (l := l) h01 kb
    rw [f_Study_isForeign_2, if_pos (show r32 l by unfold r32; omega), if_neg (show ¬ 7 ≤ l by omega), if_pos hp, hf.1, C_kaV hf.2 l0 (by omega), zb_s, if_pos ht, if_pos (show 0 ≤ l ∧ l < 7 by omega), hL l l0 (by omega), if_pos ar]
    by_cases z : zand (mkI I l) (zxor (zshl 1 (kaV f l + 2)) (-1)) = 0
    · have q := am.mp z
      rw [if_pos z]
      obtain ⟨r, x1, x2⟩ := ih n (l + 1) (by omega) (by omega) (by omega)
      refine ⟨r, x1, ?_⟩
      rcases x2 with ⟨y1, y2⟩ | ⟨y1, l', a, y2, y3⟩
      · refine Or.inl ⟨y1, fun l' a w0 w1 w2 w3 w4 => ?_⟩
        by_cases e : l' = l
        · rw [e] at w4 ⊢; exact q a w2 w3 w4
        · exact y2 l' a (by omega) w1 w2 w3 w4
      · exact Or.inr ⟨y1, l', a, by omega, y3⟩
    · rw [if_neg z]
      refine ⟨1, rfl, Or.inr ⟨rfl, ?_⟩⟩
      have nq : ¬ ∀ a, -2 ≤ a → a ≤ 2 → I l a = 1 → a = kaV f l := fun q => z (am.mpr q)
      by_cases e : ∃ a, -2 ≤ a ∧ a ≤ 2 ∧ I l a = 1 ∧ ¬ a = kaV f l
      · obtain ⟨a, w⟩ := e
        exact ⟨l, a, Int.le_refl _, by omega, w⟩
      · exact absurd (fun a w0 w1 w2 => by
          by_cases y : a = kaV f l
          · exact y
          · exact absurd ⟨a, w0, w1, w2, y⟩ e) nq
theorem C_tonicx {f m : Int} (hf : F 6 p 2 = f ∧ -7 ≤ f ∧ f ≤ 7) (hm : F 6 p 3 = m ∧ (m = 0 ∨ m = 1)) (hp : 0 ≤ p ∧ p < K.2 6) : f_Study_tonic K p F B = some ((4 * f + 5 * m) % 7, F, B) := by
  unfold f_Study_tonic f_Study_tonic_19
  rw [if_pos hp, hm.1, hf.1, if_pos (show r32 m by unfold r32; omega)]
  by_cases z : m = 1
  · rw [if_pos z, C_m7w (by omega), zb_s, show 5 * m = 5 by omega]
  · rw [if_neg z, C_m7w (by omega), zb_s, show 5 * m = 0 by omega]
end
end
end
section
section
/-! ===== what is told of a chord ===== -/
def rtI (I : zI) : Int := if ckV I 6 = -1 then (if ckV I 5 = -1 then (if ckV I 4 = -1 then (if ckV I 3 = -1 then (if ckV I 2 = -1 then (if ckV I 1 = -1 then (if ckV I 0 = -1 then -1 else 0) else 1) else 2) else 3) else 4) else 5) else 6
theorem rtI_s {I : zI} : (rtI I = -1 ∧ ∀ l, 0 ≤ l → l < 7 → ckV I l = -1) ∨ ((0 ≤ rtI I ∧ rtI I < 7) ∧ ¬ ckV I (rtI I) = -1) := by
  unfold rtI
  by_cases c6 : ckV I 6 = -1
  case neg =>
    rw [if_neg c6]; exact Or.inr ⟨by decide, c6⟩
  rw [if_pos c6]
  by_cases c5 : ckV I 5 = -1
  case neg =>
    rw [if_neg c5]; exact Or.inr ⟨by decide, c5⟩
  rw [if_pos c5]
  by_cases c4 : ckV I 4 = -1
  case neg =>
    rw [if_neg c4]; exact Or.inr ⟨by decide, c4⟩
  rw [if_pos c4]
  by_cases c3 : ckV I 3 = -1
  case neg =>
    rw [if_neg c3]; exact Or.inr ⟨by decide, c3⟩
  rw [if_pos c3]
  by_cases c2 : ckV I 2 = -1
  case neg =>
    rw [if_neg c2]; exact Or.inr ⟨by decide, c2⟩
  rw [if_pos c2]
  by_cases c1 : ckV I 1 = -1
  case neg =>
    rw [if_neg c1]; exact Or.inr ⟨by decide, c1⟩
  rw [if_pos c1]
  by_cases c0 : ckV I 0 = -1
  case neg =>
    rw [if_neg c0]; exact Or.inr ⟨by decide, c0⟩
  rw [if_pos c0]
  refine Or.inl ⟨rfl, fun l l0 l1 => ?_⟩
  rcases (show l = 0 ∨ l = 1 ∨ l = 2 ∨ l = 3 ∨ l = 4 ∨ l = 5 ∨ l = 6 by omega) with rfl | rfl | rfl | rfl | rfl | rfl | rfl
  · exact c0
  · exact c1
  · exact c2
  · exact c3
  · exact c4
  · exact c5
  · exact c6
theorem ckV_th {I : zI} {r : Int} (h : ¬ ckV I r = -1) : thI I r := by
  by_cases c : thI I r
  · exact c
  · exact absurd (ckV_n c) h
/-- r says whether a class is foreign to the key -/
def foR (I : zI) (f r : Int) : Prop := (r = 0 ∧ ∀ l a, 0 ≤ l → l < 7 → -2 ≤ a → a ≤ 2 → I l a = 1 → a = kaV f l) ∨ (r = 1 ∧ ∃ l a, 0 ≤ l ∧ l < 7 ∧ -2 ≤ a ∧ a ≤ 2 ∧ I l a = 1 ∧ ¬ a = kaV f l)
theorem foR_u {I : zI} {f r r' : Int} (h : foR I f r) (h' : foR I f r') : r = r' := by
  rcases h with ⟨a, b⟩ | ⟨a, l, x, b1, b2, b3, b4, b5, b6⟩
  · rcases h' with ⟨c, d⟩ | ⟨c, l, x, d1, d2, d3, d4, d5, d6⟩
    · omega
    · exact absurd (b l x d1 d2 d3 d4 d5) d6
  · rcases h' with ⟨c, d⟩ | ⟨c, _⟩
    · exact absurd (d l x b1 b2 b3 b4 b5) b6
    · omega
/-- the answer -/
def chA (o : Int) (I : zI) (bs f m r : Int) : Prop := (o = 2 → r = tcI I) ∧ (o = 3 → rtI I = -1 → r = -1) ∧ (4 ≤ o → rtI I = -1 → r = 0) ∧ (¬ rtI I = -1 → (o = 3 → r = ckV I (rtI I)) ∧ (o = 4 → r = rtI I) ∧ (o = 5 → r = alI I (rtI I)) ∧ (o = 6 → r = (bs % 7 - rtI I) % 7 / 2) ∧ (o = 7 → r = (rtI I - (4 * f + 5 * m) % 7) % 7) ∧ (o = 8 → foR I f r))
theorem chA_u {o bs f m r r' : Int} {I : zI} (ho : 2 ≤ o ∧ o ≤ 8) (h : chA o I bs f m r) (h' : chA o I bs f m r') : r = r' := by
  obtain ⟨a2, a3, a4, a5⟩ := h
  obtain ⟨b2, b3, b4, b5⟩ := h'
  by_cases o2 : o = 2
  · rw [a2 o2, b2 o2]
  by_cases z : rtI I = -1
  · by_cases o3 : o = 3
    · rw [a3 o3 z, b3 o3 z]
    · rw [a4 (by omega) z, b4 (by omega) z]
  · obtain ⟨c3, c4, c5, c6, c7, c8⟩ := a5 z
    obtain ⟨d3, d4, d5, d6, d7, d8⟩ := b5 z
    by_cases o3 : o = 3
    · rw [c3 o3, d3 o3]
    by_cases o4 : o = 4
    · rw [c4 o4, d4 o4]
    by_cases o5 : o = 5
    · rw [c5 o5, d5 o5]
    by_cases o6 : o = 6
    · rw [c6 o6, d6 o6]
    by_cases o7 : o = 7
    · rw [c7 o7, d7 o7]
    · have o8 : o = 8 := by
        clear a2 a3 a4 a5 b2 b3 b4 b5 c3 c4 c5 c6 c7 c8 d3 d4 d5 d6 d7 d8 z
        omega
      exact foR_u (c8 o8) (d8 o8)
section
variable {K : zK} {V p t : Int} {S : zV} {F : zF}
theorem C_toldx {j o f m : Int} {L : Int → Int → Int} {B : zB} (hK : 60000 ≤ K.1) (hS : SG V S) (h : SCl K V p S F B) (ht : 0 ≤ t ∧ t < K.2 9) (hj : 0 ≤ j ∧ j < 800) (hl : LJc t V j S L B) (hf : F 6 p 2 = f ∧ -7 ≤ f ∧ f ≤ 7) (hm : F 6 p 3 = m ∧ (m = 0 ∨ m = 1)) (ho : 2 ≤ o ∧ o ≤ 8) : ∃ r B', f_Study_chordTold K t p j o F B = some (r, F, B') ∧ chA o (iM S L V j) (bM S L V j).2 f m r := by
  have hV := hS.1
  obtain ⟨B1, x1, x2, x3⟩ := C_tkx hK hS h ht hj hl
  have h1 := SCl_f h stF_r (stT_B x2)
  have hl1 := LJc_f hl hV.2 x2
  have h01 : I01 (iM S L V j) := iM_01
  have eb := C_bs10x (p := p) (F := F) hK hS h1 ht hj hl1 V.toNat K.1 0 (1000, 0) (by omega) (by decide) (by omega) (by decide) (by decide)
  have eb' : f_Study_bassLetter K t p j F B1 = some ((bM S L V j).2 % 7, F, B1) := eb
  generalize iM S L V j = I at x3 h01 ⊢
  generalize (bM S L V j).2 = bs at eb' ⊢
  unfold f_Study_chordTold
  rw [if_pos ht, x1, zb_s]
  have step : ∀ (n : Nat) (l r c : Int), 0 ≤ l → l < 7 → f_Study_chordTold_15 K (n + 1) l r c t p j o F B1 = f_Study_chordTold_15 K n (l + 1) (if ckV I l = -1 then r else l) (c + cnI I l) t p j o F B1 := fun n l r c l0 l1 => by
    have cb := ckV_b (I := I) (r := l)
    rw [f_Study_chordTold_15, if_pos (show r32 l by unfold r32; omega), if_neg (show ¬ 7 ≤ l by omega), if_pos ht, if_pos (show 0 ≤ l ∧ l < 7 by omega), C_bitx, zb_s, x3 l l0 l1, bcZ_c h01, C_ckx hK ht x3 h01 ⟨l0, l1⟩, zb_s, if_pos (show r32 (ckV I l) by unfold r32; omega)]
    unfold f_Study_chordTold_54
    by_cases z : ckV I l = -1
    · rw [if_pos z, if_pos z]
    · rw [if_neg z, if_neg z]
  obtain ⟨n, hn⟩ : ∃ n, K.1 = n + 1 + 1 + 1 + 1 + 1 + 1 + 1 + 1 := ⟨K.1 - 8, by omega⟩
  have e : f_Study_chordTold_15 K K.1 0 (-1) 0 t p j o F B1 = f_Study_chordTold_15 K (n + 1 + 1 + 1 + 1 + 1 + 1 + 1 + 1) 0 (-1) 0 t p j o F B1 := by rw [← hn]
  rw [e, step _ 0 _ _ (by decide) (by decide), show (0 : Int) + 1 = 1 by decide, step _ 1 _ _ (by decide) (by decide), show (1 : Int) + 1 = 2 by decide, step _ 2 _ _ (by decide) (by decide), show (2 : Int) + 1 = 3 by decide, step _ 3 _ _ (by decide) (by decide), show (3 : Int) + 1 = 4 by decide, step _ 4 _ _ (by decide) (by decide), show (4 : Int) + 1 = 5 by decide, step _ 5 _ _ (by decide) (by decide), show (5 : Int) + 1 = 6 by decide, step _ 6 _ _ (by decide) (by decide), show (6 : Int) + 1 = 7 by decide]
  have er : (if ckV I 6 = -1 then (if ckV I 5 = -1 then (if ckV I 4 = -1 then (if ckV I 3 = -1 then (if ckV I 2 = -1 then (if ckV I 1 = -1 then (if ckV I 0 = -1 then (-1 : Int) else 0) else 1) else 2) else 3) else 4) else 5) else 6) = rtI I := rfl
  have et : 0 + cnI I 0 + cnI I 1 + cnI I 2 + cnI I 3 + cnI I 4 + cnI I 5 + cnI I 6 = tcI I := by unfold tcI; omega
  rw [er, et]
  have tb : 0 ≤ tcI I ∧ tcI I ≤ 35 := by
    have a0 := cnI_b (l := 0) h01
    have a1 := cnI_b (l := 1) h01
    have a2 := cnI_b (l := 2) h01
    have a3 := cnI_b (l := 3) h01
    have a4 := cnI_b (l := 4) h01
    have a5 := cnI_b (l := 5) h01
    have a6 := cnI_b (l := 6) h01
    unfold tcI
    omega
  have rs := rtI_s (I := I)
  rw [f_Study_chordTold_15, if_pos (show r32 7 by decide), if_pos (show (7 : Int) ≤ 7 by decide), if_pos (show r32 o by unfold r32; omega)]
  by_cases o2 : o = 2
  · rw [if_pos o2, if_pos (show r32 (tcI I) by unfold r32; omega)]
    exact ⟨_, B1, rfl, fun _ => rfl, fun z => by omega, fun z => by omega, fun _ => ⟨fun z => by omega, fun z => by omega, fun z => by omega, fun z => by omega, fun z => by omega, fun z => by omega⟩⟩
  rw [if_neg o2, if_pos (show r32 (rtI I) by unfold r32; omega)]
  by_cases z : rtI I = -1
  · rw [if_pos z]
    unfold f_Study_chordTold_89
    by_cases o3 : o = 3
    · rw [if_pos o3]
      exact ⟨-1, B1, rfl, fun y => absurd y o2, fun _ _ => rfl, fun y => by omega, fun y => absurd z y⟩
    · rw [if_neg o3]
      exact ⟨0, B1, rfl, fun y => absurd y o2, fun y => absurd y o3, fun _ _ => rfl, fun y => absurd z y⟩
  have rb : (0 ≤ rtI I ∧ rtI I < 7) ∧ ¬ ckV I (rtI I) = -1 := by
    rcases rs with ⟨y, _⟩ | y
    · exact absurd y z
    · exact y
  have th := ckV_th rb.2
  rw [if_neg z]
  by_cases o3 : o = 3
  · have cb := ckV_b (I := I) (r := rtI I)
    rw [if_pos o3, if_pos ht, C_ckx hK ht x3 h01 rb.1, zb_s, if_pos (show r32 (ckV I (rtI I)) by unfold r32; omega)]
    exact ⟨_, B1, rfl, fun y => absurd y o2, fun _ y => absurd y z, fun y => by omega, fun _ => ⟨fun _ => rfl, fun y => by omega, fun y => by omega, fun y => by omega, fun y => by omega, fun y => by omega⟩⟩
  rw [if_neg o3]
  by_cases o4 : o = 4
  · rw [if_pos o4]
    exact ⟨_, B1, rfl, fun y => absurd y o2, fun y => absurd y o3, fun _ y => absurd y z, fun _ => ⟨fun y => by omega, fun _ => rfl, fun y => by omega, fun y => by omega, fun y => by omega, fun y => by omega⟩⟩
  rw [if_neg o4]
  by_cases o5 : o = 5
  · have ab := alI_b (I := I) (l := rtI I)
    rw [if_pos o5, if_pos ht, C_altx ht x3 h01 rb.1 th.1, zb_s, if_pos (show r32 (alI I (rtI I)) by unfold r32; omega)]
    exact ⟨_, B1, rfl, fun y => absurd y o2, fun y => absurd y o3, fun _ y => absurd y z, fun _ => ⟨fun y => by omega, fun y => by omega, fun _ => rfl, fun y => by omega, fun y => by omega, fun y => by omega⟩⟩
  rw [if_neg o5]
  by_cases o6 : o = 6
  · have e2 : zdv ((bs % 7 - rtI I) % 7) 2 = (bs % 7 - rtI I) % 7 / 2 := zdv_e (by omega) (by unfold r32; omega) (by decide) (by decide)
    rw [if_pos o6, if_pos ht, eb', zb_s, C_m7w (by omega), zb_s, e2, if_pos (show r32 ((bs % 7 - rtI I) % 7 / 2) by unfold r32; omega)]
    exact ⟨_, B1, rfl, fun y => absurd y o2, fun y => absurd y o3, fun _ y => absurd y z, fun _ => ⟨fun y => by omega, fun y => by omega, fun y => by omega, fun _ => rfl, fun y => by omega, fun y => by omega⟩⟩
  rw [if_neg o6]
  by_cases o7 : o = 7
  · rw [if_pos o7, C_tonicx hf hm h.1, zb_s, C_m7w (by omega), zb_s, if_pos (show r32 ((rtI I - (4 * f + 5 * m) % 7) % 7) by unfold r32; omega)]
    exact ⟨_, B1, rfl, fun y => absurd y o2, fun y => absurd y o3, fun _ y => absurd y z, fun _ => ⟨fun y => by omega, fun y => by omega, fun y => by omega, fun y => by omega, fun _ => rfl, fun y => by omega⟩⟩
  obtain ⟨r, y1, y2⟩ := C_foreignx (p := p) (F := F) hf h.1 ht x3 h01 7 K.1 0 (by decide) (by decide) (by omega)
  have y1' : f_Study_isForeign K t p F B1 = some (r, F, B1) := y1
  have r01 : r = 0 ∨ r = 1 := by
    rcases y2 with ⟨y, _⟩ | ⟨y, _⟩
    · exact Or.inl y
    · exact Or.inr y
  rw [if_neg o7, if_pos ht, y1', zb_s, if_pos (show r32 r by unfold r32; omega)]
  unfold f_Study_chordTold_189
  refine ⟨r, B1, ?_, fun y => absurd y o2, fun y => absurd y o3, fun _ y => absurd y z, fun _ => ⟨fun y => absurd y o3, fun y => absurd y o4, fun y => absurd y o5, fun y => absurd y o6, fun y => absurd y o7, fun _ => y2⟩⟩
  rcases r01 with rfl | rfl
  · rw [if_pos rfl]
  · rw [if_neg (by decide)]
end
end
end
section
section
/-! ===== chords, reference, exactly ===== -/
variable {K : Nat} {V w : Int} {S : zV}
/-- the reference's classes are I -/
def CLx (n : Int) (I : zI) (F : zF) (B : zB) : Prop := F 14 0 100 = n ∧ (0 ≤ n ∧ n ≤ 24) ∧ n = tcI I ∧ I01 I ∧ (∀ k, 0 ≤ k → k < n → (0 ≤ B 14 0 98 k ∧ B 14 0 98 k ≤ 6) ∧ (-2 ≤ B 14 0 99 k ∧ B 14 0 99 k ≤ 2) ∧ I (B 14 0 98 k) (B 14 0 99 k) = 1) ∧ (∀ i k, 0 ≤ i → i < k → k < n → ¬ (B 14 0 98 i = B 14 0 98 k ∧ B 14 0 99 i = B 14 0 99 k)) ∧ (∀ l a, 0 ≤ l → l ≤ 6 → -2 ≤ a → a ≤ 2 → I l a = 1 → ∃ k, 0 ≤ k ∧ k < n ∧ B 14 0 98 k = l ∧ B 14 0 99 k = a)
theorem CLx_F {n : Int} {I : zI} {F F' : zF} {B : zB} (h : CLx n I F B) (f : F' 14 0 100 = F 14 0 100) : CLx n I F' B := ⟨by rw [f]; exact h.1, h.2⟩
theorem x_cls2 {l a n : Int} {I : zI} {F : zF} {B : zB} (hl : 0 ≤ l ∧ l ≤ 6) (ha : -2 ≤ a ∧ a ≤ 2) (h : CLx n I F B) (n1 : n ≤ 23) : ∀ (d N : Nat) (i : Int), i + d = n → 0 ≤ i → d < N → (∀ k, 0 ≤ k → k < i → ¬ (B 14 0 98 k = l ∧ B 14 0 99 k = a)) → ∃ F' B' n', f_M_classOf_2 K N i l a F B = some (0, F', B') ∧ (∀ c y k, ¬ (c = 14 ∧ y = 0 ∧ k = 100) → F' c y k = F c y k) ∧ crdB B B' ∧ CLx n' (iU I l a) F' B' ∧ n' ≤ n + 1 := by
  obtain ⟨h1, h2, h3, h4, h5, h6, h7⟩ := h
  have u1 : ∀ x y, iU I l a x y = 1 ↔ ((x = l ∧ y = a) ∨ I x y = 1) := fun x y => by
    unfold iU
    by_cases c : x = l ∧ y = a
    · rw [if_pos c]; exact ⟨fun _ => Or.inl c, fun _ => rfl⟩
    · rw [if_neg c]; exact ⟨fun e => Or.inr e, fun e => by
        rcases e with e | e
        · exact absurd e c
        · exact e⟩
  have ut := iU_t h4 hl ha
  intro d
  induction d with
  | zero =>
    intro N i hi i0 hN no
    obtain ⟨n', rfl⟩ : ∃ j, N = j + 1 := ⟨N - 1, by omega⟩
    have ni : ¬ I l a = 1 := fun e => by
      obtain ⟨k, k0, k1, k2, k3⟩ := h7 l a hl.1 hl.2 ha.1 ha.2 e
      exact no k k0 (by omega) ⟨k2, k3⟩
    rw [if_neg ni] at ut
    rw [f_M_classOf_2, if_pos (show r32 i by unfold r32; omega), h1, if_pos (show r32 n by unfold r32; omega), if_pos (show n ≤ i by omega), if_pos (show 0 ≤ n ∧ n < 24 by omega)]
    have v98 : ∀ k, ¬ k = n → (zup4 (zup4 B 14 0 98 n l) 14 0 99 n a) 14 0 98 k = B 14 0 98 k := fun k q => by rw [zup4_v, if_neg (by omega), zup4_v, if_neg (by omega)]
    have v99 : ∀ k, ¬ k = n → (zup4 (zup4 B 14 0 98 n l) 14 0 99 n a) 14 0 99 k = B 14 0 99 k := fun k q => by rw [zup4_v, if_neg (by omega), zup4_v, if_neg (by omega)]
    have w98 : (zup4 (zup4 B 14 0 98 n l) 14 0 99 n a) 14 0 98 n = l := by rw [zup4_v, if_neg (by omega), zup4_v, if_pos ⟨rfl, rfl, rfl, rfl⟩]
    have w99 : (zup4 (zup4 B 14 0 98 n l) 14 0 99 n a) 14 0 99 n = a := by rw [zup4_v, if_pos ⟨rfl, rfl, rfl, rfl⟩]
    refine ⟨_, _, n + 1, rfl, fun c y k q => by rw [zup3_v, if_neg q], crdB_t (crdB_w (Or.inl rfl)) (crdB_w (Or.inr rfl)), ⟨by rw [zup3_v, if_pos ⟨rfl, rfl, rfl⟩], by omega, by omega, iU_01 h4, fun k k0 k1 => ?_, fun i k j0 j1 j2 => ?_, fun x y x0 x1 y0 y1 e => ?_⟩, by omega⟩
    · by_cases z : k = n
      · rw [z, w98, w99]; exact ⟨hl, ha, iU_v⟩
      · rw [v98 k z, v99 k z]
        obtain ⟨q1, q2, q3⟩ := h5 k k0 (by omega)
        exact ⟨q1, q2, (u1 _ _).mpr (Or.inr q3)⟩
    · rw [v98 i (by omega), v99 i (by omega)]
      by_cases z : k = n
      · rw [z, w98, w99]; exact no i j0 (by omega)
      · rw [v98 k z, v99 k z]; exact h6 i k j0 j1 (by omega)
    · rcases (u1 x y).mp e with q | q
      · exact ⟨n, by omega, by omega, by rw [w98, q.1], by rw [w99, q.2]⟩
      · obtain ⟨k, k0, k1, k2, k3⟩ := h7 x y x0 x1 y0 y1 q
        exact ⟨k, k0, by omega, by rw [v98 k (by omega)]; exact k2, by rw [v99 k (by omega)]; exact k3⟩
  | succ d ih =>
    intro N i hi i0 hN no
    obtain ⟨n', rfl⟩ : ∃ j, N = j + 1 := ⟨N - 1, by omega⟩
    obtain ⟨q1, q2, q3⟩ := h5 i i0 (by omega)
    rw [f_M_classOf_2, if_pos (show r32 i by unfold r32; omega), h1, if_pos (show r32 n by unfold r32; omega), if_neg (show ¬ n ≤ i by omega), if_pos (show 0 ≤ i ∧ i < 24 by omega), if_pos (show r32 (B 14 0 98 i) by unfold r32; omega), if_pos (show r32 l by unfold r32; omega)]
    have nx : ¬ (B 14 0 98 i = l ∧ B 14 0 99 i = a) → ∃ F' B' n'', f_M_classOf_31 (f_M_classOf_2 K n') K i l a F B = some (0, F', B') ∧ (∀ c y k, ¬ (c = 14 ∧ y = 0 ∧ k = 100) → F' c y k = F c y k) ∧ crdB B B' ∧ CLx n'' (iU I l a) F' B' ∧ n'' ≤ n + 1 := fun q => by
      rw [f_M_classOf_31]
      exact ih n' (i + 1) (by omega) (by omega) (by omega) (fun k k0 k1 => by
        by_cases z : k = i
        · rw [z]; exact q
        · exact no k k0 (by omega))
    by_cases z : B 14 0 98 i = l
    · rw [if_pos z, if_pos (show r32 (B 14 0 99 i) by unfold r32; omega), if_pos (show r32 a by unfold r32; omega)]
      by_cases z' : B 14 0 99 i = a
      · rw [z, z'] at q3
        rw [if_pos q3] at ut
        rw [if_pos z']
        refine ⟨F, B, n, rfl, fun _ _ _ _ => rfl, fun _ _ _ _ _ => rfl, ⟨h1, h2, by omega, iU_01 h4, fun k k0 k1 => ?_, h6, fun x y x0 x1 y0 y1 e => ?_⟩, by omega⟩
        · obtain ⟨p1, p2, p3⟩ := h5 k k0 k1
          exact ⟨p1, p2, (u1 _ _).mpr (Or.inr p3)⟩
        · rcases (u1 x y).mp e with q | q
          · exact ⟨i, i0, by omega, by rw [z, q.1], by rw [z', q.2]⟩
          · exact h7 x y x0 x1 y0 y1 q
      · rw [if_neg z']; exact nx (fun q => z' q.2)
    · rw [if_neg z]; exact nx (fun q => z q.1)
/-- the lowest tone so far -/
def BSx (b : Int × Int) (F : zF) : Prop := F 14 0 101 = b.1 ∧ (0 ≤ b.1 ∧ b.1 ≤ 1000) ∧ (b.1 < 1000 → F 14 0 102 = b.2 ∧ 0 ≤ b.2 ∧ b.2 ≤ 62)
/-- what stands in the reference of its classes -/
def CQx (n : Int) (I : zI) (b : Int × Int) (F : zF) (B : zB) : Prop := CLx n I F B ∧ BSx b F ∧ ((∀ x y, ¬ I x y = 1) ∨ b.1 < 1000)
theorem x_ca47 {u i j : Int} {F0 : zF} {B0 : zB} {rec : Int → Int → Int → zF → zB → zO} (hK : 200 ≤ K) (hS : SG V S) (hR : SRm V w S F0 B0) (u0 : 0 ≤ u) (u1 : u < V) (i0 : 0 ≤ i) (i1 : i < S u 0 0 0) : ∀ (d N : Nat) (k n : Int) (I : zI) (b : Int × Int) (F : zF) (B : zB), k + d = S u 2 i 0 → 0 ≤ k → d < N → n ≤ 6 * u + k → crdF F0 F → crdB B0 B → CQx n I b F B → ∃ F' B' n', f_M_classesAt_47 rec K N (6 * (1000 * u + i) + k) (1000 * u + i) u w j F B = rec (u + 1) w j F' B' ∧ crdF F0 F' ∧ crdB B0 B' ∧ CQx n' (iV S u i d k I) (bV S u i d k b) F' B' ∧ n' ≤ 6 * u + 6 := by
  have hV := hS.1
  have w0 := hR.1
  obtain ⟨g1, _, g3, _⟩ := hS.2 u u0 u1
  obtain ⟨_, c6, gp⟩ := g3 i i0 i1
  obtain ⟨_, r2⟩ := hR.2.2 u u0 u1
  obtain ⟨_, _, e21, rp⟩ := r2 i i0 i1
  have xb : 0 ≤ 1000 * u + i ∧ 1000 * u + i < 4000 := by omega
  intro d
  induction d with
  | zero =>
    intro N k n I b F B kd k0 hN hn f bb h
    obtain ⟨m, rfl⟩ : ∃ q, N = q + 1 := ⟨N - 1, by omega⟩
    have e : B 13 w 21 (1000 * u + i) = S u 2 i 0 := by rw [bb 13 w 21 _ (by omega)]; exact e21
    rw [f_M_classesAt_47, if_pos w0, if_pos xb, if_pos (show r32 (6 * (1000 * u + i) + k) by unfold r32; omega), e, if_pos (show r32 (6 * (1000 * u + i) + S u 2 i 0) by unfold r32; omega), if_pos (show 6 * (1000 * u + i) + S u 2 i 0 ≤ 6 * (1000 * u + i) + k by omega)]
    exact ⟨F, B, n, rfl, f, bb, h, by omega⟩
  | succ d ih =>
    intro N k n I b F B kd k0 hN hn f bb h
    obtain ⟨m, rfl⟩ : ∃ q, N = q + 1 := ⟨N - 1, by omega⟩
    have e : B 13 w 21 (1000 * u + i) = S u 2 i 0 := by rw [bb 13 w 21 _ (by omega)]; exact e21
    obtain ⟨p1, p2⟩ := rp k k0 (by omega)
    obtain ⟨s1, s2⟩ := gp k k0 (by omega)
    have m1 := tnv_r s1.1 s1.2 s2.1 s2.2
    have tn : tnS S u i k = tnv (S u 3 i k) + S u 4 i k := rfl
    have e28 : B 13 w 28 (6 * (1000 * u + i) + k) = S u 3 i k := by rw [bb 13 w 28 _ (by omega)]; exact p1
    have e29 : B 13 w 29 (6 * (1000 * u + i) + k) = S u 4 i k := by rw [bb 13 w 29 _ (by omega)]; exact p2
    have ez : zrm (S u 3 i k) 7 = S u 3 i k % 7 := zrm_e s1.1 (by unfold r32; omega) (by decide) (by decide)
    obtain ⟨hc, hb, _⟩ := h
    obtain ⟨F1, B1, n1, x1, x2, x3, x4, x5⟩ := x_cls2 (K := K) (l := S u 3 i k % 7) (a := S u 4 i k) (by omega) s2 hc (by omega) n.toNat K 0 (by have := hc.2.1; omega) (by decide) (by have := hc.2.1; omega) (fun q q0 q1 => by omega)
    have x1' : f_M_classOf K (S u 3 i k % 7) (S u 4 i k) F B = some (0, F1, B1) := x1
    have f28 : B1 13 w 28 (6 * (1000 * u + i) + k) = S u 3 i k := by rw [x3 13 w 28 _ (by omega)]; exact e28
    have f29 : B1 13 w 29 (6 * (1000 * u + i) + k) = S u 4 i k := by rw [x3 13 w 29 _ (by omega)]; exact e29
    have f101 : F1 14 0 101 = b.1 := by rw [x2 14 0 101 (by omega)]; exact hb.1
    have f102 : F1 14 0 102 = F 14 0 102 := x2 14 0 102 (by omega)
    have ff : crdF F0 F1 := fun c y k q => by rw [x2 c y k (by omega), f c y k q]
    have fb : crdB B0 B1 := crdB_t bb x3
    have sl : 0 ≤ 6 * (1000 * u + i) + k ∧ 6 * (1000 * u + i) + k < 24000 := by omega
    -- a new lowest tone, or the old one
    have new : tnS S u i k < b.1 ∨ (tnS S u i k = b.1 ∧ S u 3 i k < b.2) → ∃ F' B' n', f_M_classesAt_140 rec (f_M_classesAt_47 rec K m) K (tnS S u i k) (6 * (1000 * u + i) + k) (1000 * u + i) u w j F1 B1 = rec (u + 1) w j F' B' ∧ crdF F0 F' ∧ crdB B0 B' ∧ CQx n' (iV S u i (d + 1) k I) (bV S u i (d + 1) k b) F' B' ∧ n' ≤ 6 * u + 6 := fun z => by
      rw [f_M_classesAt_140, if_pos w0, if_pos sl, f28, f29, f_M_classesAt_168, show 6 * (1000 * u + i) + k + 1 = 6 * (1000 * u + i) + (k + 1) by omega]
      obtain ⟨F2, B2, n2, y1, y2, y3, y4, y5⟩ := ih m (k + 1) n1 (iU I (S u 3 i k % 7) (S u 4 i k)) (tnS S u i k, S u 3 i k) (zup3 (zup3 (zup3 F1 14 0 101 (tnS S u i k)) 14 0 102 (S u 3 i k)) 14 0 103 (S u 4 i k)) B1 (by omega) (by omega) (by omega) (by omega) (crdF_t ff (crdF_t (crdF_t (crdF_w (by decide) (by decide)) (crdF_w (by decide) (by decide))) (crdF_w (by decide) (by decide)))) fb ⟨CLx_F x4 (by rw [zup3_v, if_neg (by omega), zup3_v, if_neg (by omega), zup3_v, if_neg (by omega)]), ⟨by rw [zup3_v, if_neg (by omega), zup3_v, if_neg (by omega), zup3_v, if_pos ⟨rfl, rfl, rfl⟩], by show 0 ≤ tnS S u i k ∧ tnS S u i k ≤ 1000; rw [tn]; omega, fun _ => ⟨by rw [zup3_v, if_neg (by omega), zup3_v, if_pos ⟨rfl, rfl, rfl⟩], s1⟩⟩, Or.inr (by show tnS S u i k < 1000; rw [tn]; omega)⟩
      refine ⟨F2, B2, n2, y1, y2, y3, ?_, y5⟩
      have ebs : bS S u i k b = (tnS S u i k, S u 3 i k) := by unfold bS; rw [if_pos z]
      rw [iV, bV, ebs]
      exact y4
    have old : ¬ (tnS S u i k < b.1 ∨ (tnS S u i k = b.1 ∧ S u 3 i k < b.2)) → ∃ F' B' n', f_M_classesAt_168 rec (f_M_classesAt_47 rec K m) K (6 * (1000 * u + i) + k) (1000 * u + i) u w j F1 B1 = rec (u + 1) w j F' B' ∧ crdF F0 F' ∧ crdB B0 B' ∧ CQx n' (iV S u i (d + 1) k I) (bV S u i (d + 1) k b) F' B' ∧ n' ≤ 6 * u + 6 := fun z => by
      rw [f_M_classesAt_168, show 6 * (1000 * u + i) + k + 1 = 6 * (1000 * u + i) + (k + 1) by omega]
      obtain ⟨F2, B2, n2, y1, y2, y3, y4, y5⟩ := ih m (k + 1) n1 (iU I (S u 3 i k % 7) (S u 4 i k)) b F1 B1 (by omega) (by omega) (by omega) (by omega) ff fb ⟨x4, ⟨f101, hb.2.1, fun q => by rw [f102]; exact hb.2.2 q⟩, Or.inr (by rw [tn] at z; omega)⟩
      refine ⟨F2, B2, n2, y1, y2, y3, ?_, y5⟩
      have ebs : bS S u i k b = b := by unfold bS; rw [if_neg z]
      rw [iV, bV, ebs]
      exact y4
    rw [f_M_classesAt_47, if_pos w0, if_pos xb, if_pos (show r32 (6 * (1000 * u + i) + k) by unfold r32; omega), e, if_pos (show r32 (6 * (1000 * u + i) + S u 2 i 0) by unfold r32; omega), if_neg (show ¬ 6 * (1000 * u + i) + S u 2 i 0 ≤ 6 * (1000 * u + i) + k by omega), if_pos sl, e28, e29, ez, x1', zb_s, f28, f29, L_toneT s1.1 s1.2, zb_s, ← tn, if_pos (show r32 (tnS S u i k) by rw [tn]; unfold r32; omega), f101, if_pos (show r32 b.1 by have := hb.2.1; unfold r32; omega)]
    by_cases z1 : b.1 < tnS S u i k
    · rw [if_pos z1]; exact old (by omega)
    rw [if_neg z1]
    by_cases z2 : tnS S u i k = b.1
    · obtain ⟨q1, q2⟩ := hb.2.2 (by rw [← z2, tn]; omega)
      rw [if_pos z2, f28, if_pos (show r32 (S u 3 i k) by unfold r32; omega), f102, q1, if_pos (show r32 b.2 by unfold r32; omega)]
      by_cases z3 : S u 3 i k < b.2
      · rw [if_pos z3]; exact new (Or.inr ⟨z2, z3⟩)
      · rw [if_neg z3]; exact old (by omega)
    · rw [if_neg z2]; exact new (Or.inl (by omega))
theorem x_ca14 {j c : Int} {L : Int → Int → Int} {F0 : zF} {B0 : zB} (hK : 200 ≤ K) (hS : SG V S) (hR : LRm V w c S L F0 B0) (hj : 0 ≤ j ∧ j < c) : ∀ (d N : Nat) (u n : Int) (I : zI) (b : Int × Int) (F : zF) (B : zB), u + d = V → 0 ≤ u → d < N → n ≤ 6 * u → crdF F0 F → crdB B0 B → CQx n I b F B → ∃ F' B' n', f_M_classesAt_14 K N u w j F B = some (0, F', B') ∧ crdF F0 F' ∧ crdB B0 B' ∧ CQx n' (iA S L j d u I) (bA S L j d u b) F' B' := by
  have hV := hS.1
  have w0 := hR.1.1
  have c8 := hR.2.1
  intro d
  induction d with
  | zero =>
    intro N u n I b F B hu u0 hN hn f bb h
    obtain ⟨m, rfl⟩ : ∃ q, N = q + 1 := ⟨N - 1, by omega⟩
    have e1 : F 13 w 1 = V := by rw [f 13 w 1 (by omega)]; exact hR.1.2.1
    rw [f_M_classesAt_14, if_pos w0, if_pos (show r32 u by unfold r32; omega), e1, if_pos (show r32 V by unfold r32; omega), if_pos (show V ≤ u by omega)]
    exact ⟨F, B, n, rfl, f, bb, h⟩
  | succ d ih =>
    intro N u n I b F B hu u0 hN hn f bb h
    obtain ⟨m, rfl⟩ : ∃ q, N = q + 1 := ⟨N - 1, by omega⟩
    have u1 : u < V := by omega
    have e1 : F 13 w 1 = V := by rw [f 13 w 1 (by omega)]; exact hR.1.2.1
    obtain ⟨l1, l2, l3⟩ := hR.2.2 u j u0 u1 hj.1 hj.2
    have e75 : B 13 w 75 (4 * j + u) = L u j := by rw [bb 13 w 75 _ (by omega)]; exact l1
    have c6 := ((hS.2 u u0 u1).2.2.1 (L u j) l2 l3).2.1
    obtain ⟨F1, B1, n1, x1, x2, x3, x4, x5⟩ := x_ca47 (rec := f_M_classesAt_14 K m) (j := j) hK hS hR.1 u0 u1 l2 l3 (S u 2 (L u j) 0).toNat K 0 n I b F B (by omega) (by decide) (by omega) (by omega) f bb h
    rw [Int.add_zero] at x1
    rw [f_M_classesAt_14, if_pos w0, if_pos (show r32 u by unfold r32; omega), e1, if_pos (show r32 V by unfold r32; omega), if_neg (show ¬ V ≤ u by omega), if_pos (show 0 ≤ 4 * j + u ∧ 4 * j + u < 3200 by omega), e75, x1]
    exact ih m (u + 1) n1 _ _ F1 B1 (by omega) (by omega) (by omega) (by omega) x2 x3 x4
/-- tones of classes above one another -/
theorem x_abv {n x y : Int} {I : zI} {F : zF} {B : zB} (h : CLx n I F B) (hx : 0 ≤ x ∧ x < n) (hy : 0 ≤ y ∧ y < n) : f_M_above K x y F B = some ((ntV (B 14 0 98 y) + B 14 0 99 y - ntV (B 14 0 98 x) - B 14 0 99 x) % 12, F, B) := by
  have h2 := h.2.1
  obtain ⟨a1, a2, _⟩ := h.2.2.2.2.1 x hx.1 hx.2
  obtain ⟨b1, b2, _⟩ := h.2.2.2.2.1 y hy.1 hy.2
  have t : ∀ l, 0 ≤ l ∧ l ≤ 6 → tnv l = 12 + ntV l := fun l hl => by unfold tnv ntV; rw [show l / 7 = 0 by omega, show l % 7 = l by omega]; omega
  have t1 := t _ a1
  have t2 := t _ b1
  have n1 := ntV_b (x := B 14 0 98 x) (by omega)
  have n2 := ntV_b (x := B 14 0 98 y) (by omega)
  unfold f_M_above
  rw [if_pos (show 0 ≤ y ∧ y < 24 by omega), L_toneT b1.1 (by omega), zb_s, if_pos (show 0 ≤ x ∧ x < 24 by omega), L_toneT a1.1 (by omega), zb_s, L_mod (by unfold r32; omega) (by decide) (by decide), zb_s, t1, t2, show 12 + ntV (B 14 0 98 y) + B 14 0 99 y - (12 + ntV (B 14 0 98 x) + B 14 0 99 x) = ntV (B 14 0 98 y) + B 14 0 99 y - ntV (B 14 0 98 x) - B 14 0 99 x by omega]
/-- -1 for 99 -/
def m99 (x : Int) : Int := if x = -1 then 99 else x
theorem x_kd {a b c : Int} {F : zF} {B : zB} (ha : -1 ≤ a ∧ a < 12) (hb : -1 ≤ b ∧ b < 12) (hc : -1 ≤ c ∧ c < 12) : (a = 4 → f_M_ofGreatThird K b c F B = some (kdV (m99 a) (m99 b) (m99 c), F, B)) ∧ (a = 3 → f_M_ofSmallThird K b c F B = some (kdV (m99 a) (m99 b) (m99 c), F, B)) ∧ (¬ a = 4 → ¬ a = 3 → kdV (m99 a) (m99 b) (m99 c) = -1) := by
  have rb : r32 b := by unfold r32; omega
  have rc : r32 c := by unfold r32; omega
  have mb : m99 b = 99 ↔ b = -1 := by unfold m99; split <;> omega
  have mc : m99 c = 99 ↔ c = -1 := by unfold m99; split <;> omega
  have nb : ∀ x, 0 ≤ x → x < 12 → (m99 b = x ↔ b = x) := fun x x0 x1 => by unfold m99; split <;> omega
  have nc : ∀ x, 0 ≤ x → x < 12 → (m99 c = x ↔ c = x) := fun x x0 x1 => by unfold m99; split <;> omega
  refine ⟨fun z => ?_, fun z => ?_, fun z z' => ?_⟩
  · have e : m99 a = 4 := by unfold m99; rw [if_neg (by omega)]; exact z
    unfold f_M_ofGreatThird f_M_ofGreatThird_15 f_M_ofGreatThird_28 f_M_ofGreatThird_57 kdV
    rw [e, if_pos rb, if_pos (show (4 : Int) = 4 from rfl)]
    by_cases b8 : b = 8
    · rw [if_pos b8, if_pos rc, if_pos ((nb 8 (by decide) (by decide)).mpr b8)]
      by_cases c0 : 0 ≤ c
      · rw [if_pos c0, if_neg (show ¬ m99 c = 99 from fun q => by have := mc.mp q; omega)]
      · rw [if_neg c0, if_pos (mc.mpr (by omega))]
    rw [if_neg b8, if_neg (fun q => b8 ((nb 8 (by decide) (by decide)).mp q))]
    have o28 : ∀ P : Prop, P → (if r32 c then (if 0 ≤ c then (if c = 10 then some ((4 : Int), F, B) else (if c = 11 then some (5, F, B) else some (-1, F, B))) else some (0, F, B)) else none) = some ((if m99 c = 99 then 0 else if m99 c = 10 then 4 else if m99 c = 11 then 5 else -1 : Int), F, B) := fun _ _ => by
      rw [if_pos rc]
      by_cases c0 : 0 ≤ c
      · rw [if_pos c0, if_neg (show ¬ m99 c = 99 from fun q => by have := mc.mp q; omega)]
        by_cases c1 : c = 10
        · rw [if_pos c1, if_pos ((nc 10 (by decide) (by decide)).mpr c1)]
        rw [if_neg c1, if_neg (fun q => c1 ((nc 10 (by decide) (by decide)).mp q))]
        by_cases c2 : c = 11
        · rw [if_pos c2, if_pos ((nc 11 (by decide) (by decide)).mpr c2)]
        · rw [if_neg c2, if_neg (fun q => c2 ((nc 11 (by decide) (by decide)).mp q))]
      · rw [if_neg c0, if_pos (mc.mpr (by omega))]
    by_cases b0 : b < 0
    · rw [if_pos b0, if_pos (show m99 b = 7 ∨ m99 b = 99 from Or.inr (mb.mpr (by omega)))]; exact o28 True trivial
    rw [if_neg b0]
    by_cases b7 : b = 7
    · rw [if_pos b7, if_pos (show m99 b = 7 ∨ m99 b = 99 from Or.inl ((nb 7 (by decide) (by decide)).mpr b7))]; exact o28 True trivial
    · rw [if_neg b7, if_neg (show ¬ (m99 b = 7 ∨ m99 b = 99) from fun q => by
        rcases q with q | q
        · exact b7 ((nb 7 (by decide) (by decide)).mp q)
        · have := mb.mp q; omega)]
  · have e : m99 a = 3 := by unfold m99; rw [if_neg (by omega)]; exact z
    unfold f_M_ofSmallThird f_M_ofSmallThird_37 f_M_ofSmallThird_50 f_M_ofSmallThird_81 kdV
    rw [e, if_pos rb, if_neg (show ¬ (3 : Int) = 4 by decide), if_pos (show (3 : Int) = 3 from rfl)]
    by_cases b8 : b = 6
    · rw [if_pos b8, if_pos rc, if_pos ((nb 6 (by decide) (by decide)).mpr b8)]
      by_cases c0 : 0 ≤ c
      · rw [if_pos c0, if_neg (show ¬ m99 c = 99 from fun q => by have := mc.mp q; omega)]
        by_cases c1 : c = 10
        · rw [if_pos c1, if_pos ((nc 10 (by decide) (by decide)).mpr c1)]
        rw [if_neg c1, if_neg (fun q => c1 ((nc 10 (by decide) (by decide)).mp q))]
        by_cases c2 : c = 9
        · rw [if_pos c2, if_pos ((nc 9 (by decide) (by decide)).mpr c2)]
        · rw [if_neg c2, if_neg (fun q => c2 ((nc 9 (by decide) (by decide)).mp q))]
      · rw [if_neg c0, if_pos (mc.mpr (by omega))]
    rw [if_neg b8, if_neg (fun q => b8 ((nb 6 (by decide) (by decide)).mp q))]
    have o50 : ∀ P : Prop, P → (if r32 c then (if 0 ≤ c then (if c = 10 then some ((6 : Int), F, B) else (if c = 11 then some (9, F, B) else some (-1, F, B))) else some (1, F, B)) else none) = some ((if m99 c = 99 then 1 else if m99 c = 10 then 6 else if m99 c = 11 then 9 else -1 : Int), F, B) := fun _ _ => by
      rw [if_pos rc]
      by_cases c0 : 0 ≤ c
      · rw [if_pos c0, if_neg (show ¬ m99 c = 99 from fun q => by have := mc.mp q; omega)]
        by_cases c1 : c = 10
        · rw [if_pos c1, if_pos ((nc 10 (by decide) (by decide)).mpr c1)]
        rw [if_neg c1, if_neg (fun q => c1 ((nc 10 (by decide) (by decide)).mp q))]
        by_cases c2 : c = 11
        · rw [if_pos c2, if_pos ((nc 11 (by decide) (by decide)).mpr c2)]
        · rw [if_neg c2, if_neg (fun q => c2 ((nc 11 (by decide) (by decide)).mp q))]
      · rw [if_neg c0, if_pos (mc.mpr (by omega))]
    by_cases b0 : b < 0
    · rw [if_pos b0, if_pos (show m99 b = 7 ∨ m99 b = 99 from Or.inr (mb.mpr (by omega)))]; exact o50 True trivial
    rw [if_neg b0]
    by_cases b7 : b = 7
    · rw [if_pos b7, if_pos (show m99 b = 7 ∨ m99 b = 99 from Or.inl ((nb 7 (by decide) (by decide)).mpr b7))]; exact o50 True trivial
    · rw [if_neg b7, if_neg (show ¬ (m99 b = 7 ∨ m99 b = 99) from fun q => by
        rcases q with q | q
        · exact b7 ((nb 7 (by decide) (by decide)).mp q)
        · have := mb.mp q; omega)]
  · have e4 : ¬ m99 a = 4 := by unfold m99; split <;> omega
    have e3 : ¬ m99 a = 3 := by unfold m99; split <;> omega
    unfold kdV
    rw [if_neg e4, if_neg e3]
end
end
