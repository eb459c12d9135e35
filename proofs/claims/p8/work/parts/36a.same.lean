section
variable {cc : Int}
/-! ===== answers alike: both sides only read and answer the same ===== -/
def zE (x y : zO) (F : zF) (B : zB) (Fm : zF) (Bm : zB) : Prop := ∃ r, x = some (r, F, B) ∧ y = some (r, Fm, Bm)
theorem zE_s {r r' : Int} {F Fm : zF} {B Bm : zB} (h : r = r') : zE (some (r, F, B)) (some (r', Fm, Bm)) F B Fm Bm := ⟨r, rfl, by rw [h]⟩
theorem zE_l1 {p : Prop} {d : Decidable p} {x x' y : zO} {F Fm : zF} {B Bm : zB} (h : p) (k : zE x y F B Fm Bm) : zE (@ite _ p d x x') y F B Fm Bm := by
  rw [if_pos h]; exact k
theorem zE_l0 {p : Prop} {d : Decidable p} {x x' y : zO} {F Fm : zF} {B Bm : zB} (h : ¬ p) (k : zE x' y F B Fm Bm) : zE (@ite _ p d x x') y F B Fm Bm := by
  rw [if_neg h]; exact k
theorem zE_r1 {p : Prop} {d : Decidable p} {x x' y : zO} {F Fm : zF} {B Bm : zB} (h : p) (k : zE y x F B Fm Bm) : zE y (@ite _ p d x x') F B Fm Bm := by
  rw [if_pos h]; exact k
theorem zE_r0 {p : Prop} {d : Decidable p} {x x' y : zO} {F Fm : zF} {B Bm : zB} (h : ¬ p) (k : zE y x' F B Fm Bm) : zE y (@ite _ p d x x') F B Fm Bm := by
  rw [if_neg h]; exact k
theorem zE_i {p : Prop} {d : Decidable p} {x x' y : zO} {F Fm : zF} {B Bm : zB} (h1 : p → zE x y F B Fm Bm) (h2 : ¬ p → zE x' y F B Fm Bm) : zE (@ite _ p d x x') y F B Fm Bm := by
  by_cases c : p
  · rw [if_pos c]; exact h1 c
  · rw [if_neg c]; exact h2 c
theorem zE_bl {x y : zO} {k : Int → zF → zB → zO} {r : Int} {F Fm : zF} {B Bm : zB} (e : x = some (r, F, B)) (h : zE (k r F B) y F B Fm Bm) : zE (zbind x k) y F B Fm Bm := by
  rw [e, zb_s]; exact h
theorem zE_br {x y : zO} {k : Int → zF → zB → zO} {r : Int} {F Fm : zF} {B Bm : zB} (e : x = some (r, Fm, Bm)) (h : zE y (k r Fm Bm) F B Fm Bm) : zE y (zbind x k) F B Fm Bm := by
  rw [e, zb_s]; exact h
theorem e_voice {Km : Nat} (a1 a2 a3 : Int) (h1 : r32 a1) (h2 : r32 a2) (h3 : r32 a3) {K : zK} {F Fm : zF} {B Bm : zB} (h : IV cc Km K F B Fm Bm) : zE (f_S_voice K 0 a1 a2 a3 F B) (f_M_voice Km a1 a2 a3 Fm Bm) F B Fm Bm := by
  obtain ⟨x, y, e, e1, e2, e3, e4⟩ := prt h h1 h2
  unfold f_S_voice f_M_voice f_M_voice_72
  refine zE_l1 (IV_12 h) (zE_bl e1 (zE_br e2 (zE_br e3 ?_)))
  rcases e4 with ⟨x0, rfl⟩ | ⟨rfl, x0, y0, z0, q, V, vV, ex, hP, _⟩
  · exact zE_l1 x0 (zE_r1 (by decide) (zE_r1 rfl (zE_s rfl)))
  · obtain ⟨hV, m, g, hW, _⟩ := hP.2.2 a2 z0.1 vV
    rw [← ex] at hW
    obtain ⟨_, v0, ⟨v1, _⟩, ⟨v2, _⟩, _⟩ := hV
    rw [← ex] at v0 v1 v2
    obtain ⟨⟨m1, _⟩, m2, _, _, _, _, _, _, c, ⟨_, n1, _, n2, _⟩, _⟩ := hW
    exact zE_l0 (by first | decide | omega) (zE_l1 h3 (zE_r1 (by decide) (zE_r0 (by decide) (zE_r1 h3 (zE_i (fun c => zE_l1 x0 (zE_r1 c (zE_r1 y0 (zE_r1 z0 (zE_s v1))))) (fun c => zE_r0 c (zE_i (fun c => zE_l1 x0 (zE_r1 c (zE_r1 y0 (zE_r1 z0 (zE_s v2))))) (fun c => zE_r0 c (zE_i (fun c => zE_l1 x0 (zE_r1 c (zE_r1 y0 (zE_r1 z0 (zE_s (by rw [m1, m2])))))) (fun c => zE_r0 c (zE_i (fun c => zE_l1 x0 (zE_r1 c (zE_r1 y0 (zE_r1 z0 (zE_s (by rw [n1, n2])))))) (fun c => zE_r0 c (zE_s rfl)))))))))))))
theorem e_name {Km : Nat} (a1 a2 : Int) (h1 : r32 a1) (h2 : r32 a2) {K : zK} {F Fm : zF} {B Bm : zB} (h : IV cc Km K F B Fm Bm) : zE (f_S_name K 0 a1 a2 F B) (f_M_name Km a1 a2 Fm Bm) F B Fm Bm := by
  obtain ⟨x, y, e, e1, e2, e3, e4⟩ := prt h h1 h2
  unfold f_S_name f_S_name_19 f_M_name f_M_name_24
  refine zE_l1 (IV_12 h) (zE_bl e1 (zE_br e2 (zE_br e3 ?_)))
  rcases e4 with ⟨x0, rfl⟩ | ⟨rfl, x0, y0, z0, q, V, vV, ex, hP, _⟩
  · exact zE_l1 x0 (zE_r1 (by decide) (zE_r1 rfl (zE_s rfl)))
  · obtain ⟨hV, m, g, hW, _⟩ := hP.2.2 a2 z0.1 vV
    obtain ⟨_, v0, _⟩ := hV
    rw [← ex] at v0
    exact zE_l0 (by first | decide | omega) (zE_l1 x0 (zE_r1 (by decide) (zE_r0 (by decide) (zE_r1 y0 (zE_r1 z0 (zE_s v0))))))
theorem C_gcd9 {K : zK} {F : zF} {B : zB} : ∀ (d n : Nat) (k x y : Int), k + d ≤ 199 → 0 ≤ k → d < n → 0 ≤ y → y ≤ x → x < 9223372036854775808 → x * y < 2 ^ d → f_S_gcd_9 K n k y x F B = some (gc x y, F, B) := by
  have z0 : ∀ x : Int, 0 ≤ x → gc x 0 = x := fun x x0 => by
    unfold gc
    rw [show (0 : Int).toNat = 0 from rfl, Nat.gcd_zero_right]
    omega
  intro d
  induction d with
  | zero =>
    intro n k x y hk k0 hn y0 yx x1 hp
    obtain ⟨p, rfl⟩ : ∃ p, n = p + 1 := ⟨n - 1, (by first | decide | omega)⟩
    have e : y = 0 := by
      by_cases c : y = 0
      · exact c
      · have a1 : (1 : Int) * 1 ≤ x * y := Int.mul_le_mul (by first | decide | omega) (by first | decide | omega) (by first | decide | omega) (by first | decide | omega)
        rw [show (2 : Int) ^ 0 = 1 from rfl] at hp
        omega
    rw [f_S_gcd_9, if_pos (by unfold r32; omega), if_neg (by first | decide | omega), if_pos (by unfold r64; omega), if_pos (zcmp_0.mpr e), f_S_gcd_45, e, z0 x (by first | decide | omega)]
  | succ d ih =>
    intro n k x y hk k0 hn y0 yx x1 hp
    obtain ⟨p, rfl⟩ : ∃ p, n = p + 1 := ⟨n - 1, (by first | decide | omega)⟩
    rw [f_S_gcd_9, if_pos (by unfold r32; omega), if_neg (by first | decide | omega), if_pos (by unfold r64; omega)]
    by_cases e : y = 0
    · rw [if_pos (zcmp_0.mpr e), f_S_gcd_45, e, z0 x (by first | decide | omega)]
    · rw [if_neg (fun z => e (zcmp_0.mp z)), if_pos (lI_n0 (by first | decide | omega) (by unfold r64; omega)), zlrm_e (by first | decide | omega) x1 (by first | decide | omega) (by first | decide | omega)]
      have m0 : 0 ≤ x % y := Int.emod_nonneg x e
      have m1 : x % y < y := Int.emod_lt_of_pos x (by first | decide | omega)
      have hh : 2 * (x % y) ≤ x := by
        have a := Int.mul_ediv_add_emod x y
        have b : 1 ≤ x / y := Int.le_ediv_of_mul_le (by first | decide | omega) (by first | decide | omega)
        have c : y * 1 ≤ y * (x / y) := Int.mul_le_mul_of_nonneg_left b y0
        omega
      have hq : y * (x % y) < 2 ^ d := by
        have a : y * (2 * (x % y)) ≤ y * x := Int.mul_le_mul_of_nonneg_left hh y0
        rw [Int.mul_left_comm, Int.mul_comm y x] at a
        rw [Int.pow_succ] at hp
        omega
      rw [ih p (k + 1) y (x % y) (by first | decide | omega) (by first | decide | omega) (by first | decide | omega) m0 (by first | decide | omega) (by first | decide | omega) hq]
      have g : gc y (x % y) = gc x y := by
        unfold gc
        have e2 : (x % y).toNat = x.toNat % y.toNat := by
          apply Int.ofNat_inj.mp
          rw [Int.natCast_emod, show ((x.toNat : Nat) : Int) = x by omega, show ((y.toNat : Nat) : Int) = y by omega]
          omega
        rw [e2, Nat.gcd_comm y.toNat, ← Nat.gcd_rec, Nat.gcd_comm]
      rw [g]
theorem C_gcdE {K : zK} {x : Int} {F : zF} {B : zB} (hK : 300 ≤ K.1) (hx : 0 ≤ x ∧ x ≤ 1000000000000) : f_S_gcd K x 812851200 F B = some (gc x 812851200, F, B) := by
  unfold f_S_gcd
  by_cases c : 812851200 ≤ x
  · exact C_gcd9 70 K.1 0 x 812851200 (by first | decide | omega) (by first | decide | omega) (by first | decide | omega) (by first | decide | omega) c (by first | decide | omega) (by rw [show (2 : Int) ^ 70 = 1180591620717411303424 from rfl]; omega)
  · obtain ⟨p, ep⟩ : ∃ p, K.1 = p + 1 := ⟨K.1 - 1, (by first | decide | omega)⟩
    rw [ep, f_S_gcd_9, if_pos (by decide), if_neg (by decide), if_pos (by decide), if_neg (by decide), if_pos (lI_n0 (by decide) (by decide)), zlrm_e hx.1 (by first | decide | omega) (by decide) (by decide), Int.emod_eq_of_lt hx.1 (by first | decide | omega)]
    rw [C_gcd9 70 p (0 + 1) 812851200 x (by first | decide | omega) (by first | decide | omega) (by first | decide | omega) hx.1 (by first | decide | omega) (by first | decide | omega) (by rw [show (2 : Int) ^ 70 = 1180591620717411303424 from rfl]; omega)]
    unfold gc
    rw [Nat.gcd_comm]
theorem C_aboveE {K : zK} {x : Int} {F : zF} {B : zB} (hK : 300 ≤ K.1) (hx : 0 ≤ x ∧ x ≤ 1000000000000) : f_S_above K x F B = some (nu x, F, B) := by
  have g0 : 0 < gc x 812851200 := gc_pos (by decide)
  have g1 : gc x 812851200 ≤ 812851200 := gc_le (by decide)
  unfold f_S_above f_S_above_21
  rw [C_gcdE hK hx, zb_s, if_pos (by unfold r64; omega), if_neg (fun z => by have := zcmp_0.mp z; omega), if_pos (lI_n0 g0 (by unfold r64; omega)), zldv_e hx.1 (by first | decide | omega) g0 (by first | decide | omega)]
  rfl
theorem C_belowE {K : zK} {x : Int} {F : zF} {B : zB} (hK : 300 ≤ K.1) (hx : 0 ≤ x ∧ x ≤ 1000000000000) : f_S_below K x F B = some (de x, F, B) := by
  have g0 : 0 < gc x 812851200 := gc_pos (by decide)
  have g1 : gc x 812851200 ≤ 812851200 := gc_le (by decide)
  unfold f_S_below f_S_below_25
  rw [C_gcdE hK hx, zb_s, if_pos (by unfold r64; omega), if_neg (fun z => by have := zcmp_0.mp z; omega), if_pos (lI_n0 g0 (by unfold r64; omega)), zldv_e (by decide) (by decide) g0 (by first | decide | omega)]
  rfl
theorem evn {Km : Nat} {K : zK} {F Fm : zF} {B Bm : zB} (h : IV cc Km K F B Fm Bm) {a1 a2 a3 x y : Int} (h1 : r32 a1) (h2 : r32 a2) (h3 : r32 a3) (c1 : f_S_eventAt K 0 a1 a2 a3 F B = some (x, F, B)) (c2 : f_M_piece Km a1 Fm Bm = some (y, Fm, Bm)) (x0 : 0 ≤ x) : Bm 13 y 14 (1000 * a2 + a3) = nu (F 1 x 0) ∧ Bm 13 y 15 (1000 * a2 + a3) = de (F 1 x 0) := by
  obtain ⟨x', y', e, e1, e2, e3, e4⟩ := prt h h1 h2
  obtain rfl : y' = y := congrArg Prod.fst (Option.some.inj (e2.symm.trans c2))
  have h12 := IV_12 h
  unfold f_S_eventAt f_S_eventAt_26 f_S_eventAt_37 at c1
  rw [if_pos h12, e1, zb_s] at c1
  rcases e4 with ⟨x0', rfl⟩ | ⟨rfl, x0', y0, z0, q, V, vV, ex, hP, _⟩
  · rw [if_pos x0'] at c1
    have : -1 = x := congrArg Prod.fst (Option.some.inj c1)
    omega
  · obtain ⟨_, m, g, hV, _⟩ := hP.2.2 a2 z0.1 vV
    rw [← ex] at hV
    obtain ⟨v1, v2, v3, v4, v5, v6, _⟩ := hV
    rw [if_neg (by first | decide | omega), if_pos h3] at c1
    by_cases c : a3 < 0
    · rw [if_pos c] at c1
      have : -1 = x := congrArg Prod.fst (Option.some.inj c1)
      omega
    · rw [if_neg c, if_pos x0', if_pos (by unfold r32; omega)] at c1
      by_cases d : a3 < F 4 x' 6
      · rw [if_pos d, if_pos (by first | decide | omega)] at c1
        obtain rfl : B 4 x' 5 a3 = x := congrArg Prod.fst (Option.some.inj c1)
        obtain ⟨w1, w2, w3, w4, _⟩ := v6 a3.toNat (by first | decide | omega)
        rw [show ((a3.toNat : Nat) : Int) = a3 by omega] at w2 w3 w4
        exact ⟨by rw [w2]; exact w3, by rw [w2]; exact w4⟩
      · rw [if_neg d] at c1
        have : -1 = x := congrArg Prod.fst (Option.some.inj c1)
        omega
theorem e_event {Km : Nat} (a1 a2 a3 a4 : Int) (h1 : r32 a1) (h2 : r32 a2) (h3 : r32 a3) (h4 : r32 a4) {K : zK} {F Fm : zF} {B Bm : zB} (h : IV cc Km K F B Fm Bm) : zE (f_S_event K 0 a1 a2 a3 a4 F B) (f_M_event_1 Km a1 a2 a3 a4 Fm Bm) F B Fm Bm := by
  obtain ⟨x, y, e, e1, e2, e3, e4⟩ := evt h h1 h2 h3
  have hK := (IV_k h).1
  have nn := evn h h1 h2 h3 e1 e2
  unfold f_S_event f_M_event_1 f_M_event_1_31
  refine zE_l1 (IV_12 h) (zE_bl e1 (zE_br e2 (zE_br e3 ?_)))
  rcases e4 with ⟨x0, rfl | ⟨rfl, y0, z0, r0, c0⟩⟩ | ⟨rfl, x0, y0, z0, c0, ev, pl⟩
  · exact zE_l1 x0 (zE_r1 (by decide) (zE_r1 rfl (zE_s rfl)))
  · refine zE_l1 x0 (zE_r1 (by decide) (zE_r0 (by decide) (zE_r1 h3 ?_)))
    by_cases c : a3 < 0
    · exact zE_r1 c (zE_s rfl)
    · exact zE_r0 c (zE_r1 y0 (zE_r1 z0 (zE_r1 r0 (zE_r0 (by first | decide | omega) (zE_s rfl)))))
  · obtain ⟨n1, n2⟩ := nn x0.1
    obtain ⟨_, _, _, _, l1, _, _, k7, k8, k9, k10⟩ := ev
    have k11 := k10.2.2.1
    have k12 := k10.2.1
    have pl1 : 0 ≤ F 1 x 1 ∧ F 1 x 1 ≤ 1000000000000 := by omega
    have xb : 0 ≤ 1000 * a2 + a3 ∧ 1000 * a2 + a3 < 4000 := by omega
    refine zE_l0 (by first | decide | omega) (zE_l1 h4 (zE_r1 (by decide) (zE_r0 (by decide) (zE_r1 h3 (zE_r0 (by first | decide | omega) (zE_r1 y0 (zE_r1 z0 (zE_r1 (by unfold r32; omega) (zE_r1 (by first | decide | omega) (zE_r1 h4 ?_))))))))))
    refine zE_i (fun c => zE_r1 c (zE_l1 x0 (zE_bl (C_aboveE (by first | decide | omega) pl) (zE_r1 xb (zE_s n1.symm))))) (fun c => zE_r0 c ?_)
    refine zE_i (fun c => zE_r1 c (zE_l1 x0 (zE_bl (C_belowE (by first | decide | omega) pl) (zE_r1 xb (zE_s n2.symm))))) (fun c => zE_r0 c ?_)
    refine zE_i (fun c => zE_r1 c (zE_l1 x0 (zE_bl (C_aboveE (by first | decide | omega) pl1) (zE_r1 xb (zE_s l1.1.symm))))) (fun c => zE_r0 c ?_)
    refine zE_i (fun c => zE_r1 c (zE_l1 x0 (zE_bl (C_belowE (by first | decide | omega) pl1) (zE_r1 xb (zE_s l1.2.1.symm))))) (fun c => zE_r0 c ?_)
    refine zE_i (fun c => zE_r1 c (zE_l1 x0 (zE_l1 (by unfold r32; omega) (zE_r1 xb (zE_r1 (by unfold r32; omega) (zE_s k12.symm)))))) (fun c => zE_r0 c ?_)
    refine zE_i (fun c => zE_r1 c (zE_l1 x0 (zE_l1 (by unfold r32; omega) (zE_r1 xb (zE_r1 (by unfold r32; omega) (zE_s k7.1)))))) (fun c => zE_r0 c ?_)
    refine zE_i (fun c => zE_r1 c (zE_l1 x0 (zE_l1 (by unfold r32; omega) (zE_r1 xb (zE_r1 (by unfold r32; omega) (zE_s k8.1)))))) (fun c => zE_r0 c ?_)
    refine zE_i (fun c => zE_r1 c (zE_l1 x0 (zE_l1 (by unfold r32; omega) (zE_r1 xb (zE_r1 (by unfold r32; omega) (zE_s k9.1)))))) (fun c => zE_r0 c (zE_s rfl))
theorem e_pitch {Km : Nat} (a1 a2 a3 a4 a5 : Int) (h1 : r32 a1) (h2 : r32 a2) (h3 : r32 a3) (h4 : r32 a4) (h5 : r32 a5) {K : zK} {F Fm : zF} {B Bm : zB} (h : IV cc Km K F B Fm Bm) : zE (f_S_pitch K 0 a1 a2 a3 a4 a5 F B) (f_M_pitch Km a1 a2 a3 a4 a5 Fm Bm) F B Fm Bm := by
  obtain ⟨x, y, e, e1, e2, e3, e4⟩ := evt h h1 h2 h3
  unfold f_S_pitch f_S_pitch_29 f_M_pitch f_M_pitch_54 f_M_pitch_121
  refine zE_l1 (IV_12 h) (zE_bl e1 (zE_br e2 (zE_br e3 ?_)))
  rcases e4 with ⟨x0, rfl | ⟨rfl, y0, z0, r0, c0⟩⟩ | ⟨rfl, x0, y0, z0, c0, ev, pl⟩
  · exact zE_l1 x0 (zE_r1 (by decide) (zE_r1 rfl (zE_s rfl)))
  · refine zE_l1 x0 (zE_r1 (by decide) (zE_r0 (by decide) (zE_r1 h3 ?_)))
    by_cases c : a3 < 0
    · exact zE_r1 c (zE_s rfl)
    · exact zE_r0 c (zE_r1 y0 (zE_r1 z0 (zE_r1 r0 (zE_r1 (by first | decide | omega) (zE_s rfl)))))
  · obtain ⟨_, _, _, _, l1, _, _, k7, k8, k9, k10⟩ := ev
    have k11 := k10.2.2.1
    have k12 := k10.2.1
    have kk := k10.2.2.2.1
    have xb : 0 ≤ 1000 * a2 + a3 ∧ 1000 * a2 + a3 < 4000 := by omega
    refine zE_l0 (by first | decide | omega) (zE_l1 h4 (zE_r1 (by decide) (zE_r0 (by decide) (zE_r1 h3 (zE_r0 (by first | decide | omega) (zE_r1 y0 (zE_r1 z0 (zE_r1 (by unfold r32; omega) (zE_r0 (by first | decide | omega) (zE_r1 h4 ?_))))))))))
    refine zE_i (fun c => zE_r1 c (zE_s rfl)) (fun c => zE_r0 c (zE_l1 x0 (zE_l1 (by unfold r32; omega) (zE_r1 xb (zE_r1 (by unfold r32; omega) ?_)))))
    refine zE_i (fun d => zE_r1 (by first | decide | omega) (zE_l1 h5 (zE_r1 h5 ?_))) (fun d => zE_r0 (by first | decide | omega) (zE_s rfl))
    obtain ⟨q1, q2, q3, q4⟩ := kk a4 (by first | decide | omega) d
    have yb : 0 ≤ 6 * (1000 * a2 + a3) + a4 ∧ 6 * (1000 * a2 + a3) + a4 < 24000 := by omega
    refine zE_i (fun c => zE_r1 c (zE_l1 (by first | decide | omega) (zE_r1 yb (zE_s q1)))) (fun c => zE_r0 c ?_)
    refine zE_i (fun c => zE_r1 c (zE_l1 (by first | decide | omega) (zE_r1 yb (zE_s q2)))) (fun c => zE_r0 c ?_)
    refine zE_i (fun c => zE_r1 c (zE_bl (C_tone x0 (by first | decide | omega) q3) (zE_br (r := tnv (B 1 x 12 a4) + B 1 x 13 a4) ?_ (zE_s rfl)))) (fun c => zE_r0 c (zE_s rfl))
    unfold f_M_toneAt
    rw [if_pos y0, if_pos yb, ← q1, ← q2, L_toneT q3.1 q3.2, zb_s]
theorem e_track {Km : Nat} (a1 : Int) (h1 : r32 a1) {K : zK} {F Fm : zF} {B Bm : zB} (h : IV cc Km K F B Fm Bm) : zE (f_S_track K 0 a1 F B) (f_M_track Km a1 Fm Bm) F B Fm Bm := by
  have h12 := IV_12 h
  have hO : IOp K F B Fm Bm := by obtain ⟨_, _, _, _, _, _, _, _, hO, _⟩ := h; exact hO
  obtain ⟨⟨_, i2⟩, _, _, i5⟩ := hO
  unfold f_S_track f_S_track_17 f_S_track_45 f_M_track f_M_track_26 f_M_track_29
  refine zE_l1 h12 ?_
  rcases i5 with ⟨x0, z⟩ | ⟨x0, z, hP⟩
  · exact zE_l1 x0 (zE_r1 (by rw [z]; decide) (zE_r1 z (zE_s rfl)))
  · obtain ⟨⟨⟨b0, _⟩, ⟨b1, _⟩, ⟨b2, _⟩, ⟨b3, _⟩, ⟨b4, _⟩, ⟨b5, _⟩, ⟨b6, _⟩⟩, ⟨b7, _⟩, _⟩ := hP
    refine zE_l0 (by first | decide | omega) (zE_r1 (by rw [z]; decide) (zE_r0 (by first | decide | omega) (zE_l1 h1 (zE_r1 h1 ?_))))
    refine zE_i (fun c => zE_r1 c (zE_s rfl)) (fun c => zE_r0 c ?_)
    refine zE_i (fun d => zE_r0 (by first | decide | omega) (zE_r1 (by first | decide | omega) ?_)) (fun d => zE_r1 (by first | decide | omega) (zE_s rfl))
    refine zE_i (fun f => zE_l1 ⟨x0, i2⟩ (zE_s (by rw [f]; exact b7))) (fun f => zE_l1 ⟨x0, i2⟩ (zE_l1 (by first | decide | omega) (zE_s ?_)))
    have : a1 = 0 ∨ a1 = 1 ∨ a1 = 2 ∨ a1 = 3 ∨ a1 = 4 ∨ a1 = 5 ∨ a1 = 6 := by omega
    rcases this with rfl | rfl | rfl | rfl | rfl | rfl | rfl
    · exact b0
    · exact b1
    · exact b2
    · exact b3
    · exact b4
    · exact b5
    · exact b6
theorem e_sound {Km : Nat} (a1 a2 : Int) (h1 : r32 a1) (h2 : r32 a2) {K : zK} {F Fm : zF} {B Bm : zB} (h : IV cc Km K F B Fm Bm) : zE (f_S_sound K 0 a1 a2 F B) (f_M_sound_0 Km a1 a2 Fm Bm) F B Fm Bm := by
  have h12 := IV_12 h
  have hO : IOp K F B Fm Bm := by obtain ⟨_, _, _, _, _, _, _, _, hO, _⟩ := h; exact hO
  obtain ⟨⟨_, i2⟩, _, _, i5⟩ := hO
  unfold f_S_sound f_S_sound_32 f_M_sound_0 f_M_sound_0_22 f_M_sound_0_106
  refine zE_l1 h12 ?_
  rcases i5 with ⟨x0, z⟩ | ⟨x0, z, hP⟩
  · exact zE_l1 x0 (zE_r1 (by rw [z]; decide) (zE_r1 z (zE_s rfl)))
  · have l := hP.2.1
    have e := hP.2.2.1
    have q := hP.2.2.2.1
    have q0 := hP.1.1
    refine zE_l0 (by first | decide | omega) (zE_r1 (by rw [z]; decide) (zE_r0 (by first | decide | omega) (zE_l1 h1 (zE_r1 h1 ?_))))
    refine zE_i (fun c => zE_r1 c (zE_s rfl)) (fun c => zE_r0 c (zE_l1 ⟨x0, i2⟩ (zE_l1 (by unfold r32; omega) (zE_r1 (by unfold r32; omega) ?_))))
    refine zE_i (fun d => zE_r0 (by first | decide | omega) (zE_s rfl)) (fun d => zE_r1 (by first | decide | omega) (zE_l1 h2 (zE_r1 h2 ?_)))
    obtain ⟨g0, g1, g2, g3, g4, g5⟩ := e a1 (by first | decide | omega) (by first | decide | omega)
    have q1 := q a1 (by first | decide | omega) (by first | decide | omega)
    have ab : 0 ≤ a1 ∧ a1 < 400 := by omega
    refine zE_i (fun f => zE_r0 (by first | decide | omega) (zE_r0 (by first | decide | omega) (zE_r0 (by first | decide | omega) (zE_r0 (by first | decide | omega) (zE_r0 (by first | decide | omega) (zE_r0 (by first | decide | omega) (zE_s rfl))))))) (fun f => ?_)
    refine zE_i (fun k => zE_l1 (by first | decide | omega) (zE_l1 ab ?_)) (fun k => zE_r0 (by first | decide | omega) (zE_r0 (by first | decide | omega) (zE_r0 (by first | decide | omega) (zE_r0 (by first | decide | omega) (zE_r0 (by first | decide | omega) (zE_r0 (by first | decide | omega) (zE_s rfl)))))))
    have : a2 = 0 ∨ a2 = 1 ∨ a2 = 2 ∨ a2 = 3 ∨ a2 = 4 ∨ a2 = 5 := by omega
    rcases this with rfl | rfl | rfl | rfl | rfl | rfl
    · exact zE_r1 rfl (zE_r1 ab (zE_r1 (by unfold r32; omega) (zE_s g0)))
    · exact zE_r0 (by decide) (zE_r1 rfl (zE_r1 ab (zE_r1 (by unfold r32; omega) (zE_s g1))))
    · exact zE_r0 (by decide) (zE_r0 (by decide) (zE_r1 rfl (zE_r1 ab (zE_r1 (by unfold r32; omega) (zE_s g2)))))
    · exact zE_r0 (by decide) (zE_r0 (by decide) (zE_r0 (by decide) (zE_r1 rfl (zE_r1 ab (zE_r1 (by unfold r32; omega) (zE_s g3))))))
    · exact zE_r0 (by decide) (zE_r0 (by decide) (zE_r0 (by decide) (zE_r0 (by decide) (zE_r1 rfl (zE_r1 ab (zE_s g4))))))
    · exact zE_r0 (by decide) (zE_r0 (by decide) (zE_r0 (by decide) (zE_r0 (by decide) (zE_r0 (by decide) (zE_r1 rfl (zE_r1 ab (zE_s g5)))))))
end
