section
section
variable {cc : Int}
/-! ===== answers alike: both sides only read and answer the same ===== -/
def zE (x y : zO) (F : zF) (B : zB) (Fm : zF) (Bm : zB) : Prop := ∃ r, x = some (r, F, B) ∧ y = some (r, Fm, Bm)
theorem zE_s {r r' : Int} {F Fm : zF} {B Bm : zB} (h : r = r') : zE (some (r, F, B)) (some (r', Fm, Bm)) F B Fm Bm := ⟨r, rfl, by rw [h]⟩
theorem zE_l1 {p : Prop} {d : Decidable p} {x x' y : zO} {F Fm : zF} {B Bm : zB} (h : p) (k : zE x y F B Fm Bm) : zE (@ite _ p d x x') y F B Fm Bm := by
  rw [if_pos h]; exact k
theorem zE_l0 {p : Prop} {d : Decidable p} {x x' y : zO} {F Fm : zF} {B Bm : zB} (h : ¬ p) (k : zE x' y F B Fm Bm) : zE (@ite _ p d x x') y F B Fm Bm := by
  rw [if_neg h]; exact k
theorem zE_r1 {p : Prop} {d : Decidable p} {x x' y : zO} {F Fm : zF} {B Bm : zB} (h : p) (k : zE y x F B Fm Bm) : zE y (@ite _ p d x x') F B Fm Bm := by
  rw [if_pos h]; exact k
theorem zE_r0 {p : Prop} {d : Decidable p} {x x' y : zO} {F Fm : zF} {B Bm : zB} (h : ¬ p) (k : zE y x' F B Fm Bm) : zE y (@ite _ p d x x') F B Fm Bm := by
  rw [if_neg h]; exact k
theorem zE_i {p : Prop} {d : Decidable p} {x x' y : zO} {F Fm : zF} {B Bm : zB} (h1 : p → zE x y F B Fm Bm) (h2 : ¬ p → zE x' y F B Fm Bm) : zE (@ite _ p d x x') y F B Fm Bm := by
  by_cases c : p
  · rw [if_pos c]; exact h1 c
  · rw [if_neg c]; exact h2 c
theorem zE_bl {x y : zO} {k : Int → zF → zB → zO} {r : Int} {F Fm : zF} {B Bm : zB} (e : x = some (r, F, B)) (h : zE (k r F B) y F B Fm Bm) : zE (zbind x k) y F B Fm Bm := by
  rw [e, zb_s]; exact h
theorem zE_br {x y : zO} {k : Int → zF → zB → zO} {r : Int} {F Fm : zF} {B Bm : zB} (e : x = some (r, Fm, Bm)) (h : zE y (k r Fm Bm) F B Fm Bm) : zE y (zbind x k) F B Fm Bm := by
  rw [e, zb_s]; exact h
theorem e_voice {Km : Nat} (a1 a2 a3 : Int) (h1 : r32 a1) (h2 : r32 a2) (h3 : r32 a3) {K : zK} {F Fm : zF} {B Bm : zB} (h : IV cc Km K F B Fm Bm) : zE (f_S_voice K 0 a1 a2 a3 F B) (f_M_voice Km a1 a2 a3 Fm Bm) F B Fm Bm := by
  obtain ⟨x, y, e, e1, e2, e3, e4⟩ := prt h h1 h2
  unfold f_S_voice f_M_voice f_M_voice_72
  refine zE_l1 (IV_12 h) (zE_bl e1 (zE_br e2 (zE_br e3 ?_)))
  rcases e4 with ⟨x0, rfl⟩ | ⟨rfl, x0, y0, z0, q, V, vV, ex, hP, _⟩
  · exact zE_l1 x0 (zE_r1 (by decide) (zE_r1 rfl (zE_s rfl)))
  · obtain ⟨hV, m, g, hW, _⟩ := hP.2.2 a2 z0.1 vV
    rw [← ex] at hW
    obtain ⟨_, v0, ⟨v1, _⟩, ⟨v2, _⟩, _⟩ := hV
    rw [← ex] at v0 v1 v2
    obtain ⟨⟨m1, _⟩, m2, _, _, _, _, _, _, c, ⟨_, n1, _, n2, _⟩, _⟩ := hW
    exact zE_l0 (by first | decide | omega) (zE_l1 h3 (zE_r1 (by decide) (zE_r0 (by decide) (zE_r1 h3 (zE_i (fun c => zE_l1 x0 (zE_r1 c (zE_r1 y0 (zE_r1 z0 (zE_s v1))))) (fun c => zE_r0 c (zE_i (fun c => zE_l1 x0 (zE_r1 c (zE_r1 y0 (zE_r1 z0 (zE_s v2))))) (fun c => zE_r0 c (zE_i (fun c => zE_l1 x0 (zE_r1 c (zE_r1 y0 (zE_r1 z0 (zE_s (by rw [m1, m2])))))) (fun c => zE_r0 c (zE_i (fun c => zE_l1 x0 (zE_r1 c (zE_r1 y0 (zE_r1 z0 (zE_s (by rw [n1, n2])))))) (fun c => zE_r0 c (zE_s rfl)))))))))))))
theorem e_name {Km : Nat} (a1 a2 : Int) (h1 : r32 a1) (h2 : r32 a2) {K : zK} {F Fm : zF} {B Bm : zB} (h : IV cc Km K F B Fm Bm) : zE (f_S_name K 0 a1 a2 F B) (f_M_name Km a1 a2 Fm Bm) F B Fm Bm := by
  obtain ⟨x, y, e, e1, e2, e3, e4⟩ := prt h h1 h2
  unfold f_S_name f_S_name_19 f_M_name f_M_name_24
  refine zE_l1 (IV_12 h) (zE_bl e1 (zE_br e2 (zE_br e3 ?_)))
  rcases e4 with ⟨x0, rfl⟩ | ⟨rfl, x0, y0, z0, q, V, vV, ex, hP, _⟩
  · exact zE_l1 x0 (zE_r1 (by decide) (zE_r1 rfl (zE_s rfl)))
  · obtain ⟨hV, m, g, hW, _⟩ := hP.2.2 a2 z0.1 vV
    obtain ⟨_, v0, _⟩ := hV
    rw [← ex] at v0
    exact zE_l0 (by first | decide | omega) (zE_l1 x0 (zE_r1 (by decide) (zE_r0 (by decide) (zE_r1 y0 (zE_r1 z0 (zE_s v0))))))
theorem C_gcd9 {K : zK} {F : zF} {B : zB} : ∀ (d n : Nat) (k x y : Int), k + d ≤ 199 → 0 ≤ k → d < n → 0 ≤ y → y ≤ x → x < 9223372036854775808 → x * y < 2 ^ d → f_S_gcd_9 K n k y x F B = some (gc x y, F, B) := by
  have z0 : ∀ x : Int, 0 ≤ x → gc x 0 = x := fun x x0 => by
    unfold gc
    rw [show (0 : Int).toNat = 0 from rfl, Nat.gcd_zero_right]
    omega
  intro d
  induction d with
  | zero =>
    intro n k x y hk k0 hn y0 yx x1 hp
    obtain ⟨p, rfl⟩ : ∃ p, n = p + 1 := ⟨n - 1, (by first | decide | omega)⟩
    have e : y = 0 := by
      by_cases c : y = 0
      · exact c
      · have a1 : (1 : Int) * 1 ≤ x * y := Int.mul_le_mul (by first | decide | omega) (by first | decide | omega) (by first | decide | omega) (by first | decide | omega)
        rw [show (2 : Int) ^ 0 = 1 from rfl] at hp
        omega
    rw [f_S_gcd_9, if_pos (by unfold r32; omega), if_neg (by first | decide | omega), if_pos (by unfold r64; omega), if_pos (zcmp_0.mpr e), f_S_gcd_45, e, z0 x (by first | decide | omega)]
  | succ d ih =>
    intro n k x y hk k0 hn y0 yx x1 hp
    obtain ⟨p, rfl⟩ : ∃ p, n = p + 1 := ⟨n - 1, (by first | decide | omega)⟩
    rw [f_S_gcd_9, if_pos (by unfold r32; omega), if_neg (by first | decide | omega), if_pos (by unfold r64; omega)]
    by_cases e : y = 0
    · rw [if_pos (zcmp_0.mpr e), f_S_gcd_45, e, z0 x (by first | decide | omega)]
    · rw [if_neg (fun z => e (zcmp_0.mp z)), if_pos (lI_n0 (by first | decide | omega) (by unfold r64; omega)), zlrm_e (by first | decide | omega) x1 (by first | decide | omega) (by first | decide | omega)]
      have m0 : 0 ≤ x % y := Int.emod_nonneg x e
      have m1 : x % y < y := Int.emod_lt_of_pos x (by first | decide | omega)
      have hh : 2 * (x % y) ≤ x := by
        have a := Int.mul_ediv_add_emod x y
        have b : 1 ≤ x / y := Int.le_ediv_of_mul_le (by first | decide | omega) (by first | decide | omega)
        have c : y * 1 ≤ y * (x / y) := Int.mul_le_mul_of_nonneg_left b y0
        omega
      have hq : y * (x % y) < 2 ^ d := by
        have a : y * (2 * (x % y)) ≤ y * x := Int.mul_le_mul_of_nonneg_left hh y0
        rw [Int.mul_left_comm, Int.mul_comm y x] at a
        rw [Int.pow_succ] at hp
        omega
      rw [ih p (k + 1) y (x % y) (by first | decide | omega) (by first | decide | omega) (by first | decide | omega) m0 (by first | decide | omega) (by first | decide | omega) hq]
      have g : gc y (x % y) = gc x y := by
        unfold gc
        have e2 : (x % y).toNat = x.toNat % y.toNat := by
          apply Int.ofNat_inj.mp
          rw [Int.natCast_emod, show ((x.toNat : Nat) : Int) = x by omega, show ((y.toNat : Nat) : Int) = y by omega]
          omega
        rw [e2, Nat.gcd_comm y.toNat, ← Nat.gcd_rec, Nat.gcd_comm]
      rw [g]
theorem C_gcdE {K : zK} {x : Int} {F : zF} {B : zB} (hK : 300 ≤ K.1) (hx : 0 ≤ x ∧ x ≤ 1000000000000) : f_S_gcd K x 812851200 F B = some (gc x 812851200, F, B) := by
  unfold f_S_gcd
  by_cases c : 812851200 ≤ x
  · exact C_gcd9 70 K.1 0 x 812851200 (by first | decide | omega) (by first | decide | omega) (by first | decide | omega) (by first | decide | omega) c (by first | decide | omega) (by rw [show (2 : Int) ^ 70 = 1180591620717411303424 from rfl]; omega)
  · obtain ⟨p, ep⟩ : ∃ p, K.1 = p + 1 := ⟨K.1 - 1, (by first | decide | omega)⟩
    rw [ep, f_S_gcd_9, if_pos (by decide), if_neg (by decide), if_pos (by decide), if_neg (by decide), if_pos (lI_n0 (by decide) (by decide)), zlrm_e hx.1 (by first | decide | omega) (by decide) (by decide), Int.emod_eq_of_lt hx.1 (by first | decide | omega)]
    rw [C_gcd9 70 p (0 + 1) 812851200 x (by first | decide | omega) (by first | decide | omega) (by first | decide | omega) hx.1 (by first | decide | omega) (by first | decide | omega) (by rw [show (2 : Int) ^ 70 = 1180591620717411303424 from rfl]; omega)]
    unfold gc
    rw [Nat.gcd_comm]
theorem C_aboveE {K : zK} {x : Int} {F : zF} {B : zB} (hK : 300 ≤ K.1) (hx : 0 ≤ x ∧ x ≤ 1000000000000) : f_S_above K x F B = some (nu x, F, B) := by
  have g0 : 0 < gc x 812851200 := gc_pos (by decide)
  have g1 : gc x 812851200 ≤ 812851200 := gc_le (by decide)
  unfold f_S_above f_S_above_21
  rw [C_gcdE hK hx, zb_s, if_pos (by unfold r64; omega), if_neg (fun z => by have := zcmp_0.mp z; omega), if_pos (lI_n0 g0 (by unfold r64; omega)), zldv_e hx.1 (by first | decide | omega) g0 (by first | decide | omega)]
  rfl
theorem C_belowE {K : zK} {x : Int} {F : zF} {B : zB} (hK : 300 ≤ K.1) (hx : 0 ≤ x ∧ x ≤ 1000000000000) : f_S_below K x F B = some (de x, F, B) := by
  have g0 : 0 < gc x 812851200 := gc_pos (by decide)
  have g1 : gc x 812851200 ≤ 812851200 := gc_le (by decide)
  unfold f_S_below f_S_below_25
  rw [C_gcdE hK hx, zb_s, if_pos (by unfold r64; omega), if_neg (fun z => by have := zcmp_0.mp z; omega), if_pos (lI_n0 g0 (by unfold r64; omega)), zldv_e (by decide) (by decide) g0 (by first | decide | omega)]
  rfl
theorem evn {Km : Nat} {K : zK} {F Fm : zF} {B Bm : zB} (h : IV cc Km K F B Fm Bm) {a1 a2 a3 x y : Int} (h1 : r32 a1) (h2 : r32 a2) (h3 : r32 a3) (c1 : f_S_eventAt K 0 a1 a2 a3 F B = some (x, F, B)) (c2 : f_M_piece Km a1 Fm Bm = some (y, Fm, Bm)) (x0 : 0 ≤ x) : Bm 13 y 14 (1000 * a2 + a3) = nu (F 1 x 0) ∧ Bm 13 y 15 (1000 * a2 + a3) = de (F 1 x 0) := by
  obtain ⟨x', y', e, e1, e2, e3, e4⟩ := prt h h1 h2
  obtain rfl : y' = y := congrArg Prod.fst (Option.some.inj (e2.symm.trans c2))
  have h12 := IV_12 h
  unfold f_S_eventAt f_S_eventAt_26 f_S_eventAt_37 at c1
  rw [if_pos h12, e1, zb_s] at c1
  rcases e4 with ⟨x0', rfl⟩ | ⟨rfl, x0', y0, z0, q, V, vV, ex, hP, _⟩
  · rw [if_pos x0'] at c1
    have : -1 = x := congrArg Prod.fst (Option.some.inj c1)
    omega
  · obtain ⟨_, m, g, hV, _⟩ := hP.2.2 a2 z0.1 vV
    rw [← ex] at hV
    obtain ⟨v1, v2, v3, v4, v5, v6, _⟩ := hV
    rw [if_neg (by first | decide | omega), if_pos h3] at c1
    by_cases c : a3 < 0
    · rw [if_pos c] at c1
      have : -1 = x := congrArg Prod.fst (Option.some.inj c1)
      omega
    · rw [if_neg c, if_pos x0', if_pos (by unfold r32; omega)] at c1
      by_cases d : a3 < F 4 x' 6
      · rw [if_pos d, if_pos (by first | decide | omega)] at c1
        obtain rfl : B 4 x' 5 a3 = x := congrArg Prod.fst (Option.some.inj c1)
        obtain ⟨w1, w2, w3, w4, _⟩ := v6 a3.toNat (by first | decide | omega)
        rw [show ((a3.toNat : Nat) : Int) = a3 by omega] at w2 w3 w4
        exact ⟨by rw [w2]; exact w3, by rw [w2]; exact w4⟩
      · rw [if_neg d] at c1
        have : -1 = x := congrArg Prod.fst (Option.some.inj c1)
        omega
theorem e_event {Km : Nat} (a1 a2 a3 a4 : Int) (h1 : r32 a1) (h2 : r32 a2) (h3 : r32 a3) (h4 : r32 a4) {K : zK} {F Fm : zF} {B Bm : zB} (h : IV cc Km K F B Fm Bm) : zE (f_S_event K 0 a1 a2 a3 a4 F B) (f_M_event_1 Km a1 a2 a3 a4 Fm Bm) F B Fm Bm := by
  obtain ⟨x, y, e, e1, e2, e3, e4⟩ := evt h h1 h2 h3
  have hK := (IV_k h).1
  have nn := evn h h1 h2 h3 e1 e2
  unfold f_S_event f_M_event_1 f_M_event_1_31
  refine zE_l1 (IV_12 h) (zE_bl e1 (zE_br e2 (zE_br e3 ?_)))
  rcases e4 with ⟨x0, rfl | ⟨rfl, y0, z0, r0, c0⟩⟩ | ⟨rfl, x0, y0, z0, c0, ev, pl⟩
  · exact zE_l1 x0 (zE_r1 (by decide) (zE_r1 rfl (zE_s rfl)))
  · refine zE_l1 x0 (zE_r1 (by decide) (zE_r0 (by decide) (zE_r1 h3 ?_)))
    by_cases c : a3 < 0
    · exact zE_r1 c (zE_s rfl)
    · exact zE_r0 c (zE_r1 y0 (zE_r1 z0 (zE_r1 r0 (zE_r0 (by first | decide | omega) (zE_s rfl)))))
  · obtain ⟨n1, n2⟩ := nn x0.1
    obtain ⟨_, _, _, _, l1, _, _, k7, k8, k9, k10⟩ := ev
    have k11 := k10.2.2.1
    have k12 := k10.2.1
    have pl1 : 0 ≤ F 1 x 1 ∧ F 1 x 1 ≤ 1000000000000 := by omega
    have xb : 0 ≤ 1000 * a2 + a3 ∧ 1000 * a2 + a3 < 4000 := by omega
    refine zE_l0 (by first | decide | omega) (zE_l1 h4 (zE_r1 (by decide) (zE_r0 (by decide) (zE_r1 h3 (zE_r0 (by first | decide | omega) (zE_r1 y0 (zE_r1 z0 (zE_r1 (by unfold r32; omega) (zE_r1 (by first | decide | omega) (zE_r1 h4 ?_))))))))))
    refine zE_i (fun c => zE_r1 c (zE_l1 x0 (zE_bl (C_aboveE (by first | decide | omega) pl) (zE_r1 xb (zE_s n1.symm))))) (fun c => zE_r0 c ?_)
    refine zE_i (fun c => zE_r1 c (zE_l1 x0 (zE_bl (C_belowE (by first | decide | omega) pl) (zE_r1 xb (zE_s n2.symm))))) (fun c => zE_r0 c ?_)
    refine zE_i (fun c => zE_r1 c (zE_l1 x0 (zE_bl (C_aboveE (by first | decide | omega) pl1) (zE_r1 xb (zE_s l1.1.symm))))) (fun c => zE_r0 c ?_)
    refine zE_i (fun c => zE_r1 c (zE_l1 x0 (zE_bl (C_belowE (by first | decide | omega) pl1) (zE_r1 xb (zE_s l1.2.1.symm))))) (fun c => zE_r0 c ?_)
    refine zE_i (fun c => zE_r1 c (zE_l1 x0 (zE_l1 (by unfold r32; omega) (zE_r1 xb (zE_r1 (by unfold r32; omega) (zE_s k12.symm)))))) (fun c => zE_r0 c ?_)
    refine zE_i (fun c => zE_r1 c (zE_l1 x0 (zE_l1 (by unfold r32; omega) (zE_r1 xb (zE_r1 (by unfold r32; omega) (zE_s k7.1)))))) (fun c => zE_r0 c ?_)
    refine zE_i (fun c => zE_r1 c (zE_l1 x0 (zE_l1 (by unfold r32; omega) (zE_r1 xb (zE_r1 (by unfold r32; omega) (zE_s k8.1)))))) (fun c => zE_r0 c ?_)
    refine zE_i (fun c => zE_r1 c (zE_l1 x0 (zE_l1 (by unfold r32; omega) (zE_r1 xb (zE_r1 (by unfold r32; omega) (zE_s k9.1)))))) (fun c => zE_r0 c (zE_s rfl))
theorem e_pitch {Km : Nat} (a1 a2 a3 a4 a5 : Int) (h1 : r32 a1) (h2 : r32 a2) (h3 : r32 a3) (h4 : r32 a4) (h5 : r32 a5) {K : zK} {F Fm : zF} {B Bm : zB} (h : IV cc Km K F B Fm Bm) : zE (f_S_pitch K 0 a1 a2 a3 a4 a5 F B) (f_M_pitch Km a1 a2 a3 a4 a5 Fm Bm) F B Fm Bm := by
  obtain ⟨x, y, e, e1, e2, e3, e4⟩ := evt h h1 h2 h3
  unfold f_S_pitch f_S_pitch_29 f_M_pitch f_M_pitch_54 f_M_pitch_121
  refine zE_l1 (IV_12 h) (zE_bl e1 (zE_br e2 (zE_br e3 ?_)))
  rcases e4 with ⟨x0, rfl | ⟨rfl, y0, z0, r0, c0⟩⟩ | ⟨rfl, x0, y0, z0, c0, ev, pl⟩
  · exact zE_l1 x0 (zE_r1 (by decide) (zE_r1 rfl (zE_s rfl)))
  · refine zE_l1 x0 (zE_r1 (by decide) (zE_r0 (by decide) (zE_r1 h3 ?_)))
    by_cases c : a3 < 0
    · exact zE_r1 c (zE_s rfl)
    · exact zE_r0 c (zE_r1 y0 (zE_r1 z0 (zE_r1 r0 (zE_r1 (by first | decide | omega) (zE_s rfl)))))
  · obtain ⟨_, _, _, _, l1, _, _, k7, k8, k9, k10⟩ := ev
    have k11 := k10.2.2.1
    have k12 := k10.2.1
    have kk := k10.2.2.2.1
    have xb : 0 ≤ 1000 * a2 + a3 ∧ 1000 * a2 + a3 < 4000 := by omega
    refine zE_l0 (by first | decide | omega) (zE_l1 h4 (zE_r1 (by decide) (zE_r0 (by decide) (zE_r1 h3 (zE_r0 (by first | decide | omega) (zE_r1 y0 (zE_r1 z0 (zE_r1 (by unfold r32; omega) (zE_r0 (by first | decide | omega) (zE_r1 h4 ?_))))))))))
    refine zE_i (fun c => zE_r1 c (zE_s rfl)) (fun c => zE_r0 c (zE_l1 x0 (zE_l1 (by unfold r32; omega) (zE_r1 xb (zE_r1 (by unfold r32; omega) ?_)))))
    refine zE_i (fun d => zE_r1 (by first | decide | omega) (zE_l1 h5 (zE_r1 h5 ?_))) (fun d => zE_r0 (by first | decide | omega) (zE_s rfl))
    obtain ⟨q1, q2, q3, q4⟩ := kk a4 (by first | decide | omega) d
    have yb : 0 ≤ 6 * (1000 * a2 + a3) + a4 ∧ 6 * (1000 * a2 + a3) + a4 < 24000 := by omega
    refine zE_i (fun c => zE_r1 c (zE_l1 (by first | decide | omega) (zE_r1 yb (zE_s q1)))) (fun c => zE_r0 c ?_)
    refine zE_i (fun c => zE_r1 c (zE_l1 (by first | decide | omega) (zE_r1 yb (zE_s q2)))) (fun c => zE_r0 c ?_)
    refine zE_i (fun c => zE_r1 c (zE_bl (C_tone x0 (by first | decide | omega) q3) (zE_br (r := tnv (B 1 x 12 a4) + B 1 x 13 a4) ?_ (zE_s rfl)))) (fun c => zE_r0 c (zE_s rfl))
    unfold f_M_toneAt
    rw [if_pos y0, if_pos yb, ← q1, ← q2, L_toneT q3.1 q3.2, zb_s]
theorem e_track {Km : Nat} (a1 : Int) (h1 : r32 a1) {K : zK} {F Fm : zF} {B Bm : zB} (h : IV cc Km K F B Fm Bm) : zE (f_S_track K 0 a1 F B) (f_M_track Km a1 Fm Bm) F B Fm Bm := by
  have h12 := IV_12 h
  have hO : IOp K F B Fm Bm := by obtain ⟨_, _, _, _, _, _, _, _, hO, _⟩ := h; exact hO
  obtain ⟨⟨_, i2⟩, _, _, i5⟩ := hO
  unfold f_S_track f_S_track_17 f_S_track_45 f_M_track f_M_track_26 f_M_track_29
  refine zE_l1 h12 ?_
  rcases i5 with ⟨x0, z⟩ | ⟨x0, z, hP⟩
  · exact zE_l1 x0 (zE_r1 (by rw [z]; decide) (zE_r1 z (zE_s rfl)))
  · obtain ⟨⟨⟨b0, _⟩, ⟨b1, _⟩, ⟨b2, _⟩, ⟨b3, _⟩, ⟨b4, _⟩, ⟨b5, _⟩, ⟨b6, _⟩⟩, ⟨b7, _⟩, _⟩ := hP
    refine zE_l0 (by first | decide | omega) (zE_r1 (by rw [z]; decide) (zE_r0 (by first | decide | omega) (zE_l1 h1 (zE_r1 h1 ?_))))
    refine zE_i (fun c => zE_r1 c (zE_s rfl)) (fun c => zE_r0 c ?_)
    refine zE_i (fun d => zE_r0 (by first | decide | omega) (zE_r1 (by first | decide | omega) ?_)) (fun d => zE_r1 (by first | decide | omega) (zE_s rfl))
    refine zE_i (fun f => zE_l1 ⟨x0, i2⟩ (zE_s (by rw [f]; exact b7))) (fun f => zE_l1 ⟨x0, i2⟩ (zE_l1 (by first | decide | omega) (zE_s ?_)))
    have : a1 = 0 ∨ a1 = 1 ∨ a1 = 2 ∨ a1 = 3 ∨ a1 = 4 ∨ a1 = 5 ∨ a1 = 6 := by omega
    rcases this with rfl | rfl | rfl | rfl | rfl | rfl | rfl
    · exact b0
    · exact b1
    · exact b2
    · exact b3
    · exact b4
    · exact b5
    · exact b6
theorem e_sound {Km : Nat} (a1 a2 : Int) (h1 : r32 a1) (h2 : r32 a2) {K : zK} {F Fm : zF} {B Bm : zB} (h : IV cc Km K F B Fm Bm) : zE (f_S_sound K 0 a1 a2 F B) (f_M_sound_0 Km a1 a2 Fm Bm) F B Fm Bm := by
  have h12 := IV_12 h
  have hO : IOp K F B Fm Bm := by obtain ⟨_, _, _, _, _, _, _, _, hO, _⟩ := h; exact hO
  obtain ⟨⟨_, i2⟩, _, _, i5⟩ := hO
  unfold f_S_sound f_S_sound_32 f_M_sound_0 f_M_sound_0_22 f_M_sound_0_106
  refine zE_l1 h12 ?_
  rcases i5 with ⟨x0, z⟩ | ⟨x0, z, hP⟩
  · exact zE_l1 x0 (zE_r1 (by rw [z]; decide) (zE_r1 z (zE_s rfl)))
  · have l := hP.2.1
    have e := hP.2.2.1
    have q := hP.2.2.2.1
    have q0 := hP.1.1
    refine zE_l0 (by first | decide | omega) (zE_r1 (by rw [z]; decide) (zE_r0 (by first | decide | omega) (zE_l1 h1 (zE_r1 h1 ?_))))
    refine zE_i (fun c => zE_r1 c (zE_s rfl)) (fun c => zE_r0 c (zE_l1 ⟨x0, i2⟩ (zE_l1 (by unfold r32; omega) (zE_r1 (by unfold r32; omega) ?_))))
    refine zE_i (fun d => zE_r0 (by first | decide | omega) (zE_s rfl)) (fun d => zE_r1 (by first | decide | omega) (zE_l1 h2 (zE_r1 h2 ?_)))
    obtain ⟨g0, g1, g2, g3, g4, g5⟩ := e a1 (by first | decide | omega) (by first | decide | omega)
    have q1 := q a1 (by first | decide | omega) (by first | decide | omega)
    have ab : 0 ≤ a1 ∧ a1 < 400 := by omega
    refine zE_i (fun f => zE_r0 (by first | decide | omega) (zE_r0 (by first | decide | omega) (zE_r0 (by first | decide | omega) (zE_r0 (by first | decide | omega) (zE_r0 (by first | decide | omega) (zE_r0 (by first | decide | omega) (zE_s rfl))))))) (fun f => ?_)
    refine zE_i (fun k => zE_l1 (by first | decide | omega) (zE_l1 ab ?_)) (fun k => zE_r0 (by first | decide | omega) (zE_r0 (by first | decide | omega) (zE_r0 (by first | decide | omega) (zE_r0 (by first | decide | omega) (zE_r0 (by first | decide | omega) (zE_r0 (by first | decide | omega) (zE_s rfl)))))))
    have : a2 = 0 ∨ a2 = 1 ∨ a2 = 2 ∨ a2 = 3 ∨ a2 = 4 ∨ a2 = 5 := by omega
    rcases this with rfl | rfl | rfl | rfl | rfl | rfl
    · exact zE_r1 rfl (zE_r1 ab (zE_r1 (by unfold r32; omega) (zE_s g0)))
    · exact zE_r0 (by decide) (zE_r1 rfl (zE_r1 ab (zE_r1 (by unfold r32; omega) (zE_s g1))))
    · exact zE_r0 (by decide) (zE_r0 (by decide) (zE_r1 rfl (zE_r1 ab (zE_r1 (by unfold r32; omega) (zE_s g2)))))
    · exact zE_r0 (by decide) (zE_r0 (by decide) (zE_r0 (by decide) (zE_r1 rfl (zE_r1 ab (zE_r1 (by unfold r32; omega) (zE_s g3))))))
    · exact zE_r0 (by decide) (zE_r0 (by decide) (zE_r0 (by decide) (zE_r0 (by decide) (zE_r1 rfl (zE_r1 ab (zE_s g4))))))
    · exact zE_r0 (by decide) (zE_r0 (by decide) (zE_r0 (by decide) (zE_r0 (by decide) (zE_r0 (by decide) (zE_r1 rfl (zE_r1 ab (zE_s g5)))))))
end
end
section
section
variable {cc : Int}
/-! ===== answers alike: the other calls whose equality stands ===== -/
theorem sm3 {x : zO} {r r' : Int} {F F' : zF} {B B' : zB} (h : x = some (r, F, B)) (h' : x = some (r', F', B')) : r = r' := congrArg Prod.fst (Option.some.inj (h.symm.trans h'))
theorem sm4 {x : zOm} {r r' : Int} {F F' : zF} {B B' : zB} {K K' : zK} (h : x = some (r, F, B, K)) (h' : x = some (r', F', B', K')) : r = r' := congrArg Prod.fst (Option.some.inj (h.symm.trans h'))
theorem e_stroke {Km : Nat} (a1 a2 a3 : Int) (h1 : r32 a1) (h2 : r32 a2) (h3 : r32 a3) {K : zK} {F Fm : zF} {B Bm : zB} (h : IV cc Km K F B Fm Bm) : zE (f_S_stroke K 0 a1 a2 a3 F B) (f_M_stroke Km a1 a2 a3 Fm Bm) F B Fm Bm := by
  obtain ⟨x, y, e1, e2, e3⟩ := prf h h1
  unfold f_S_stroke f_S_stroke_23 f_M_stroke f_M_stroke_33 f_M_stroke_89
  refine zE_l1 (IV_12 h) (zE_bl e1 (zE_br e2 ?_))
  rcases e3 with ⟨x0, y0 | ⟨y0, z⟩⟩ | ⟨x0, y0, z, c, pfd, hr⟩
  · exact zE_l1 x0 (zE_r1 y0 (zE_s rfl))
  · exact zE_l1 x0 (zE_r0 (by first | decide | omega) (zE_r1 y0 (zE_r1 (by rw [z]; decide) (zE_r1 z (zE_s rfl)))))
  · have hc := pfd.1.2
    have h60 := pfd.2.1.2.2
    refine zE_l0 (by first | decide | omega) (zE_l1 x0 ?_)
    refine zE_r0 (by first | decide | omega) (zE_r1 y0 (zE_r1 (by rw [z]; decide) (zE_r0 (by first | decide | omega) (zE_r1 h2 ?_))))
    by_cases r : 0 ≤ a2 ∧ a2 < 2 * c
    · obtain ⟨on, ev, j, e, w1, w2, w3, w4, w5, w6, w7, _⟩ := PFD_s pfd r.1 r.2
      obtain ⟨t0, t1, t2, t3⟩ := C_toldK (K := K) x0 ⟨hc.1, hc.2⟩ hr r.1 r.2 w1 w2 w3 w4 w5 w6 e
      have ab : 0 ≤ a2 ∧ a2 < 4000 := by omega
      refine zE_r0 (by first | decide | omega) (zE_r1 (by unfold r32; omega) (zE_r1 (by first | decide | omega) (zE_r1 h3 ?_)))
      by_cases c0 : a3 = 0
      · rw [c0]; exact zE_r1 rfl (zE_bl t0 (zE_r1 ab (zE_s rfl)))
      · refine zE_r0 c0 ?_
        by_cases c1 : a3 = 1
        · rw [c1]; exact zE_r1 rfl (zE_bl t1 (zE_r1 ab (zE_s rfl)))
        · refine zE_r0 c1 ?_
          by_cases c2 : a3 = 2
          · rw [c2]; exact zE_r1 rfl (zE_bl t2 (zE_r1 ab (zE_s rfl)))
          · refine zE_r0 c2 ?_
            by_cases c3 : a3 = 3
            · rw [c3]; exact zE_r1 rfl (zE_bl t3 (zE_r1 ab (zE_s w7)))
            · refine zE_r0 c3 (zE_bl (r := -1) ?_ (zE_s rfl))
              obtain ⟨g1, g2⟩ : ((lnC 5 x (F 5 x 8).toNat : Nat) : Int) = 4000 ∧ zk 5 (F 5 x 8).toNat = (3, 1) := by
                rcases hr with ⟨e8, _⟩ | ⟨e8, _⟩
                · rw [e8]; exact ⟨rfl, by decide⟩
                · rw [e8]; exact ⟨rfl, by decide⟩
              have g3 : lnC 5 x (F 5 x 8).toNat ≤ 2147483647 := by omega
              unfold f_Performance_strokeTold
              rw [if_pos h2, if_neg (by first | decide | omega), if_pos x0, hc.1, if_pos (by unfold r32; omega), if_pos r.2, if_pos (by first | decide | omega), if_pos g2, if_pos g3, if_pos h3, if_neg c0, if_neg c1, if_neg c2, if_neg c3]
    · unfold f_Performance_strokeTold f_Performance_strokeTold_14
      rw [if_pos h2]
      by_cases z' : a2 < 0
      · rw [if_pos z', zb_s]; exact zE_r1 z' (zE_s rfl)
      · rw [if_neg z', if_pos x0, hc.1, if_pos (by unfold r32; omega), if_neg (by first | decide | omega), zb_s]
        exact zE_r0 z' (zE_r1 (by unfold r32; omega) (zE_r0 (by first | decide | omega) (zE_s rfl)))
theorem v_perform {Km : Nat} (a1 : Int) (h1 : r32 a1) {K : zK} {F Fm : zF} {B Bm : zB} (h : IV cc Km K F B Fm Bm) : ∃ r F1 B1 K1 F2 B2, f_S_perform K 0 a1 F B = some (r, F1, B1, K1) ∧ f_M_perform Km a1 Fm Bm = some (r, F2, B2) := by
  obtain ⟨x, y, e1, e2, e3⟩ := slot h h1
  have h12 := IV_12 h
  have hk := IV_k h
  rcases e3 with ⟨x0, y0⟩ | ⟨x0, y0, V, hP, hM, hD⟩
  · refine ⟨-1, F, B, K, Fm, Bm, ?_, ?_⟩
    · unfold f_S_perform
      rw [if_pos h12, e1]
      simp only [zbN_s]
      rw [if_pos x0]
    · unfold f_M_perform
      rw [e2, zb_s, if_pos (by first | decide | omega)]
  · have hT : T61 Bm := by obtain ⟨_, _, _, _, _, _, hE, _⟩ := h; exact hE.2.1
    have h5 : 0 ≤ K.2 5 := by obtain ⟨_, _, _, _, _, _, hE, _⟩ := h; have := hE.1.1.2.2; omega
    obtain ⟨r, s, F', B', K', Fm', Bm', y1, y2, _⟩ := P_prf (K := K) (Km := Km) (by first | decide | omega) (by first | decide | omega) h5 hP hT hD
    refine ⟨r, F', B', K', Fm', Bm', ?_, ?_⟩
    · unfold f_S_perform
      rw [if_pos h12, e1]
      simp only [zbN_s]
      rw [if_neg (by first | decide | omega), if_pos x0, if_pos x0.2]
      exact y1
    · unfold f_M_perform
      rw [e2, zb_s, if_neg (by first | decide | omega), if_pos y0]
      exact y2
theorem v_file {Km : Nat} (a1 : Int) (h1 : r32 a1) {K : zK} {F Fm : zF} {B Bm : zB} (h : IV cc Km K F B Fm Bm) : ∃ r F1 B1 F2 B2, f_S_file K 0 a1 F B = some (r, F1, B1) ∧ f_M_file Km a1 Fm Bm = some (r, F2, B2) := by
  obtain ⟨p, p0, p1, w, w0, w1, hE, hW, hO, h7, hX, hK⟩ := h
  have hA := hE.1.1
  have hB := hE.1.2.1
  obtain ⟨n1, n2, n3, n4, n5, n6⟩ := hE.1.2.2.2.2.1
  have hWw := hE.1.2.2.2.2.2.1
  have s0 := hE.1.2.2.2.2.2.2.2.2.2.1
  have s1 := hE.1.2.2.2.2.2.2.2.2.2.2
  have h12 : 0 < K.2 12 := by have := hA.2.2; omega
  by_cases z : a1 < 0 ∨ 2 ≤ a1
  · refine ⟨-1, F, B, Fm, Bm, ?_, ?_⟩
    · have x1 := C_atx (K := K) (F := F) (B := B) h1 z
      unfold f_S_file f_S_performanceOf f_S_performanceOf_17 f_S_performanceOf_25 f_S_file_20
      rw [if_pos ⟨(by first | decide | omega), h12⟩, x1, zb_s, if_pos ⟨(by first | decide | omega), h12⟩, x1, zb_s, if_pos (by decide), zb_s, if_pos (by decide)]
    · have x1 := L_atx (Km := Km) (F := Fm) (B := Bm) h1 z
      unfold f_M_file f_M_file_17
      rw [x1, zb_s, if_pos (by decide)]
  · have go : ∀ q v, B 12 0 3 a1 = q → Bm 14 0 5 a1 = v → 0 ≤ v ∧ v < 3 → SLD K q v F B Fm Bm → ∃ r F1 B1 F2 B2, f_S_file K 0 a1 F B = some (r, F1, B1) ∧ f_M_file Km a1 Fm Bm = some (r, F2, B2) := fun q v eq ev hv hs => by
      obtain ⟨r, F', B', r', Fm', Bm', x1, x2, e, _⟩ := P_fl (K := K) (Km := Km) (by have := hA.2.2; omega) (by first | decide | omega) (by have := hA.2.1; omega) h12 hB.2.1 (show 0 ≤ a1 ∧ a1 < 2 by omega) eq ev hv hs
      exact ⟨r, F', B', Fm', Bm', x1, by rw [e]; exact x2⟩
    rcases (show a1 = 0 ∨ a1 = 1 by omega) with e | e
    · exact go p0 w0 (by rw [e]; exact n2) (by rw [e]; exact n5) hWw.2.1 (SLD_of s0 hE.2.2.2.1)
    · exact go p1 w1 (by rw [e]; exact n3) (by rw [e]; exact n6) hWw.2.2.1 (SLD_of s1 hE.2.2.2.2.1)
theorem v_out {Km : Nat} (a1 : Int) (h1 : r32 a1) {K : zK} {F Fm : zF} {B Bm : zB} (h : IV cc Km K F B Fm Bm) : ∃ r F1 B1 F2 B2, f_S_out K 0 a1 F B = some (r, F1, B1) ∧ f_M_out Km a1 Fm Bm = some (r, F2, B2) := by
  obtain ⟨p, p0, p1, w, w0, w1, hE, hW, hO, h7, hX, hK⟩ := h
  have hA := hE.1.1
  have hB := hE.1.2.1
  refine ⟨_, _, _, Fm, Bm, C_out (by have := hA.2.2; omega) (by have := hA.2.2; omega) h1 hB.2.1 hW.2.1.1 hW.2.1.2, (L_out h1 (by have := hW.1; have := hW.2.1; omega) (by have := hW.1; have := hW.2.1; omega)).trans ?_⟩
  have e : (if 0 ≤ a1 ∧ a1 < Fm 14 0 71 then zand (Bm 14 0 70 a1) 255 else -1) = (if 0 ≤ a1 ∧ a1 < F 0 1 1 then B 0 1 0 a1 else -1) := by
    rw [← hW.1]
    by_cases c : 0 ≤ a1 ∧ a1 < F 0 1 1
    · rw [if_pos c, if_pos c, zand255, hW.2.2 a1 c.1 c.2]
    · rw [if_neg c, if_neg c]
  rw [e]
theorem v_again {Km : Nat} {K : zK} {F Fm : zF} {B Bm : zB} (h : IV cc Km K F B Fm Bm) : ∃ r F1 B1 F2 B2, f_S_again K 0 F B = some (r, F1, B1) ∧ f_M_again Km Fm Bm = some (r, F2, B2) := by
  obtain ⟨p, p0, p1, w, w0, w1, hE, hW, hO, h7, hX, hK⟩ := h
  have hA := hE.1.1
  have hB := hE.1.2.1
  obtain ⟨v1, v2, v3⟩ := hW
  have c := C_again (K := K) (F := F) (B := B) (by first | decide | omega) (by have := hA.2.2; omega) (by have := hA.2.2; omega) hB.1 hB.2.1 v2.1 v2.2
  have l := L_again (K := Km) (F := Fm) (B := Bm) (by have := hA.2.1; omega) (by first | decide | omega) (by first | decide | omega)
  by_cases z : F 0 1 1 = 0 ∨ 3000 < F 0 1 1
  · exact ⟨_, _, _, _, _, c.1 z, l.1 (by first | decide | omega)⟩
  · obtain ⟨F', B', x1, _⟩ := c.2 (by first | decide | omega) (by first | decide | omega)
    obtain ⟨Bm', y1, _⟩ := l.2 (by first | decide | omega) (by first | decide | omega)
    exact ⟨_, _, _, _, _, x1, by rw [v1]; exact y1⟩
theorem v_open {Km : Nat} {K : zK} {F Fm : zF} {B Bm : zB} (h : IV cc Km K F B Fm Bm) : ∃ r F1 B1 K1 F2 B2, f_S_open K 0 F B = some (r, F1, B1, K1) ∧ f_M_open Km Fm Bm = some (r, F2, B2) := by
  obtain ⟨p, p0, p1, w, w0, w1, hE, hW, hO, h7, hX, hK⟩ := h
  have hA := hE.1.1
  have hB := hE.1.2.1
  obtain ⟨r, F', B', K', Fm', Bm', x1, x2, _⟩ := P_op (K := K) (Km := Km) (by have := hA.2.2; omega) (by have := hA.2.2; omega) (by first | decide | omega) (by have := hA.2.1; omega) hB.1 hE.1.2.2.2.1 hO
  exact ⟨_, _, _, _, _, _, x1, x2⟩
theorem v_down {Km : Nat} (a1 : Int) (h1 : r32 a1) {K : zK} {F Fm : zF} {B Bm : zB} (h : IV cc Km K F B Fm Bm) : ∃ r F1 B1 F2 B2, f_S_down K 0 a1 F B = some (r, F1, B1) ∧ f_M_down Km a1 Fm Bm = some (r, F2, B2) := by
  obtain ⟨p, p0, p1, w, w0, w1, hE, hW, hO, h7, hX, hK⟩ := h
  have hA := hE.1.1
  have hB := hE.1.2.1
  have hN := hE.1.2.2.2.2.1
  have hD := hE.1.2.2.1.1.1
  obtain ⟨r, F', B', Fm', Bm', x1, x2, _⟩ := P_dw (K := K) (Km := Km) (x := a1) (w := w) (F := F) (B := B) (Fm := Fm) (Bm := Bm) ⟨by have := hA.2.2; omega, by have := hA.2.2; omega, by have := hD 1 (by decide); omega, hK⟩ hA.2.1 (by have := hA.2.2; omega) h1 hB.2.1 hB.2.2.2.2.1 h7 ⟨hN.2.2.2.1, hE.1.2.2.2.2.2.1.1⟩ hO hW
  exact ⟨_, _, _, _, _, x1, x2⟩
theorem v_read {Km : Nat} (a1 : Int) (h1 : r32 a1) {K : zK} {F Fm : zF} {B Bm : zB} (h : IV cc Km K F B Fm Bm) : ∃ r F1 B1 K1 F2 B2, f_S_read K 0 a1 F B = some (r, F1, B1, K1) ∧ f_M_read Km a1 Fm Bm = some (r, F2, B2) := by
  obtain ⟨p, p0, p1, w, w0, w1, hE, _⟩ := h
  obtain ⟨r, K', F', B', Fm', Bm', _, _, _, _, _, _, y1, y2, _⟩ := P_read hE.1 h1
  exact ⟨_, _, _, _, _, _, y1, y2⟩
end
end
section
section
variable {cc : Int}
/-! ===== a call returns, keeps what stands, and answers alike ===== -/
theorem q_read {Km : Nat} (a1 : Int) (h1 : r32 a1) {K : zK} {F Fm : zF} {B Bm : zB} (h : IV cc Km K F B Fm Bm) : ∃ r1 F1 B1 K1 r2 F2 B2, f_S_read K 0 a1 F B = some (r1, F1, B1, K1) ∧ f_M_read Km a1 Fm Bm = some (r2, F2, B2) ∧ IV cc Km K1 F1 B1 F2 B2 ∧ r1 = r2 := by
  obtain ⟨r1, F1, B1, K1, r2, F2, B2, x1, x2, hI⟩ := p_read a1 h1 h
  obtain ⟨r, _, _, _, _, _, y1, y2⟩ := v_read a1 h1 h
  exact ⟨r1, F1, B1, K1, r2, F2, B2, x1, x2, hI, (sm4 x1 y1).trans (sm3 x2 y2).symm⟩
theorem q_voice {Km : Nat} (a1 a2 a3 : Int) (h1 : r32 a1) (h2 : r32 a2) (h3 : r32 a3) {K : zK} {F Fm : zF} {B Bm : zB} (h : IV cc Km K F B Fm Bm) : ∃ r1 F1 B1 r2 F2 B2, f_S_voice K 0 a1 a2 a3 F B = some (r1, F1, B1) ∧ f_M_voice Km a1 a2 a3 Fm Bm = some (r2, F2, B2) ∧ IV cc Km K F1 B1 F2 B2 ∧ r1 = r2 := by
  obtain ⟨r1, F1, B1, r2, F2, B2, x1, x2, hI⟩ := p_voice a1 a2 a3 h1 h2 h3 h
  obtain ⟨r, y1, y2⟩ := e_voice a1 a2 a3 h1 h2 h3 h
  exact ⟨r1, F1, B1, r2, F2, B2, x1, x2, hI, (sm3 x1 y1).trans (sm3 x2 y2).symm⟩
theorem q_name {Km : Nat} (a1 a2 : Int) (h1 : r32 a1) (h2 : r32 a2) {K : zK} {F Fm : zF} {B Bm : zB} (h : IV cc Km K F B Fm Bm) : ∃ r1 F1 B1 r2 F2 B2, f_S_name K 0 a1 a2 F B = some (r1, F1, B1) ∧ f_M_name Km a1 a2 Fm Bm = some (r2, F2, B2) ∧ IV cc Km K F1 B1 F2 B2 ∧ r1 = r2 := by
  obtain ⟨r1, F1, B1, r2, F2, B2, x1, x2, hI⟩ := p_name a1 a2 h1 h2 h
  obtain ⟨r, y1, y2⟩ := e_name a1 a2 h1 h2 h
  exact ⟨r1, F1, B1, r2, F2, B2, x1, x2, hI, (sm3 x1 y1).trans (sm3 x2 y2).symm⟩
theorem q_event {Km : Nat} (a1 a2 a3 a4 : Int) (h1 : r32 a1) (h2 : r32 a2) (h3 : r32 a3) (h4 : r32 a4) {K : zK} {F Fm : zF} {B Bm : zB} (h : IV cc Km K F B Fm Bm) : ∃ r1 F1 B1 r2 F2 B2, f_S_event K 0 a1 a2 a3 a4 F B = some (r1, F1, B1) ∧ f_M_event_1 Km a1 a2 a3 a4 Fm Bm = some (r2, F2, B2) ∧ IV cc Km K F1 B1 F2 B2 ∧ r1 = r2 := by
  obtain ⟨r1, F1, B1, r2, F2, B2, x1, x2, hI⟩ := p_event a1 a2 a3 a4 h1 h2 h3 h4 h
  obtain ⟨r, y1, y2⟩ := e_event a1 a2 a3 a4 h1 h2 h3 h4 h
  exact ⟨r1, F1, B1, r2, F2, B2, x1, x2, hI, (sm3 x1 y1).trans (sm3 x2 y2).symm⟩
theorem q_pitch {Km : Nat} (a1 a2 a3 a4 a5 : Int) (h1 : r32 a1) (h2 : r32 a2) (h3 : r32 a3) (h4 : r32 a4) (h5 : r32 a5) {K : zK} {F Fm : zF} {B Bm : zB} (h : IV cc Km K F B Fm Bm) : ∃ r1 F1 B1 r2 F2 B2, f_S_pitch K 0 a1 a2 a3 a4 a5 F B = some (r1, F1, B1) ∧ f_M_pitch Km a1 a2 a3 a4 a5 Fm Bm = some (r2, F2, B2) ∧ IV cc Km K F1 B1 F2 B2 ∧ r1 = r2 := by
  obtain ⟨r1, F1, B1, r2, F2, B2, x1, x2, hI⟩ := p_pitch a1 a2 a3 a4 a5 h1 h2 h3 h4 h5 h
  obtain ⟨r, y1, y2⟩ := e_pitch a1 a2 a3 a4 a5 h1 h2 h3 h4 h5 h
  exact ⟨r1, F1, B1, r2, F2, B2, x1, x2, hI, (sm3 x1 y1).trans (sm3 x2 y2).symm⟩
theorem q_perform {Km : Nat} (a1 : Int) (h1 : r32 a1) {K : zK} {F Fm : zF} {B Bm : zB} (h : IV cc Km K F B Fm Bm) : ∃ r1 F1 B1 K1 r2 F2 B2, f_S_perform K 0 a1 F B = some (r1, F1, B1, K1) ∧ f_M_perform Km a1 Fm Bm = some (r2, F2, B2) ∧ IV cc Km K1 F1 B1 F2 B2 ∧ r1 = r2 := by
  obtain ⟨r1, F1, B1, K1, r2, F2, B2, x1, x2, hI⟩ := p_perform a1 h1 h
  obtain ⟨r, _, _, _, _, _, y1, y2⟩ := v_perform a1 h1 h
  exact ⟨r1, F1, B1, K1, r2, F2, B2, x1, x2, hI, (sm4 x1 y1).trans (sm3 x2 y2).symm⟩
theorem q_stroke {Km : Nat} (a1 a2 a3 : Int) (h1 : r32 a1) (h2 : r32 a2) (h3 : r32 a3) {K : zK} {F Fm : zF} {B Bm : zB} (h : IV cc Km K F B Fm Bm) : ∃ r1 F1 B1 r2 F2 B2, f_S_stroke K 0 a1 a2 a3 F B = some (r1, F1, B1) ∧ f_M_stroke Km a1 a2 a3 Fm Bm = some (r2, F2, B2) ∧ IV cc Km K F1 B1 F2 B2 ∧ r1 = r2 := by
  obtain ⟨r1, F1, B1, r2, F2, B2, x1, x2, hI⟩ := p_stroke a1 a2 a3 h1 h2 h3 h
  obtain ⟨r, y1, y2⟩ := e_stroke a1 a2 a3 h1 h2 h3 h
  exact ⟨r1, F1, B1, r2, F2, B2, x1, x2, hI, (sm3 x1 y1).trans (sm3 x2 y2).symm⟩
theorem q_file {Km : Nat} (a1 : Int) (h1 : r32 a1) {K : zK} {F Fm : zF} {B Bm : zB} (h : IV cc Km K F B Fm Bm) : ∃ r1 F1 B1 r2 F2 B2, f_S_file K 0 a1 F B = some (r1, F1, B1) ∧ f_M_file Km a1 Fm Bm = some (r2, F2, B2) ∧ IV cc Km K F1 B1 F2 B2 ∧ r1 = r2 := by
  obtain ⟨r1, F1, B1, r2, F2, B2, x1, x2, hI⟩ := p_file a1 h1 h
  obtain ⟨r, _, _, _, _, y1, y2⟩ := v_file a1 h1 h
  exact ⟨r1, F1, B1, r2, F2, B2, x1, x2, hI, (sm3 x1 y1).trans (sm3 x2 y2).symm⟩
theorem q_out {Km : Nat} (a1 : Int) (h1 : r32 a1) {K : zK} {F Fm : zF} {B Bm : zB} (h : IV cc Km K F B Fm Bm) : ∃ r1 F1 B1 r2 F2 B2, f_S_out K 0 a1 F B = some (r1, F1, B1) ∧ f_M_out Km a1 Fm Bm = some (r2, F2, B2) ∧ IV cc Km K F1 B1 F2 B2 ∧ r1 = r2 := by
  obtain ⟨r1, F1, B1, r2, F2, B2, x1, x2, hI⟩ := p_out a1 h1 h
  obtain ⟨r, _, _, _, _, y1, y2⟩ := v_out a1 h1 h
  exact ⟨r1, F1, B1, r2, F2, B2, x1, x2, hI, (sm3 x1 y1).trans (sm3 x2 y2).symm⟩
theorem q_again {Km : Nat} {K : zK} {F Fm : zF} {B Bm : zB} (h : IV cc Km K F B Fm Bm) : ∃ r1 F1 B1 r2 F2 B2, f_S_again K 0 F B = some (r1, F1, B1) ∧ f_M_again Km Fm Bm = some (r2, F2, B2) ∧ IV cc Km K F1 B1 F2 B2 ∧ r1 = r2 := by
  obtain ⟨r1, F1, B1, r2, F2, B2, x1, x2, hI⟩ := p_again h
  obtain ⟨r, _, _, _, _, y1, y2⟩ := v_again h
  exact ⟨r1, F1, B1, r2, F2, B2, x1, x2, hI, (sm3 x1 y1).trans (sm3 x2 y2).symm⟩
theorem q_open {Km : Nat} {K : zK} {F Fm : zF} {B Bm : zB} (h : IV cc Km K F B Fm Bm) : ∃ r1 F1 B1 K1 r2 F2 B2, f_S_open K 0 F B = some (r1, F1, B1, K1) ∧ f_M_open Km Fm Bm = some (r2, F2, B2) ∧ IV cc Km K1 F1 B1 F2 B2 ∧ r1 = r2 := by
  obtain ⟨r1, F1, B1, K1, r2, F2, B2, x1, x2, hI⟩ := p_open h
  obtain ⟨r, _, _, _, _, _, y1, y2⟩ := v_open h
  exact ⟨r1, F1, B1, K1, r2, F2, B2, x1, x2, hI, (sm4 x1 y1).trans (sm3 x2 y2).symm⟩
theorem q_track {Km : Nat} (a1 : Int) (h1 : r32 a1) {K : zK} {F Fm : zF} {B Bm : zB} (h : IV cc Km K F B Fm Bm) : ∃ r1 F1 B1 r2 F2 B2, f_S_track K 0 a1 F B = some (r1, F1, B1) ∧ f_M_track Km a1 Fm Bm = some (r2, F2, B2) ∧ IV cc Km K F1 B1 F2 B2 ∧ r1 = r2 := by
  obtain ⟨r1, F1, B1, r2, F2, B2, x1, x2, hI⟩ := p_track a1 h1 h
  obtain ⟨r, y1, y2⟩ := e_track a1 h1 h
  exact ⟨r1, F1, B1, r2, F2, B2, x1, x2, hI, (sm3 x1 y1).trans (sm3 x2 y2).symm⟩
theorem q_sound {Km : Nat} (a1 a2 : Int) (h1 : r32 a1) (h2 : r32 a2) {K : zK} {F Fm : zF} {B Bm : zB} (h : IV cc Km K F B Fm Bm) : ∃ r1 F1 B1 r2 F2 B2, f_S_sound K 0 a1 a2 F B = some (r1, F1, B1) ∧ f_M_sound_0 Km a1 a2 Fm Bm = some (r2, F2, B2) ∧ IV cc Km K F1 B1 F2 B2 ∧ r1 = r2 := by
  obtain ⟨r1, F1, B1, r2, F2, B2, x1, x2, hI⟩ := p_sound a1 a2 h1 h2 h
  obtain ⟨r, y1, y2⟩ := e_sound a1 a2 h1 h2 h
  exact ⟨r1, F1, B1, r2, F2, B2, x1, x2, hI, (sm3 x1 y1).trans (sm3 x2 y2).symm⟩
theorem q_down {Km : Nat} (a1 : Int) (h1 : r32 a1) {K : zK} {F Fm : zF} {B Bm : zB} (h : IV cc Km K F B Fm Bm) : ∃ r1 F1 B1 r2 F2 B2, f_S_down K 0 a1 F B = some (r1, F1, B1) ∧ f_M_down Km a1 Fm Bm = some (r2, F2, B2) ∧ IV cc Km K F1 B1 F2 B2 ∧ r1 = r2 := by
  obtain ⟨r1, F1, B1, r2, F2, B2, x1, x2, hI⟩ := p_down a1 h1 h
  obtain ⟨r, _, _, _, _, y1, y2⟩ := v_down a1 h1 h
  exact ⟨r1, F1, B1, r2, F2, B2, x1, x2, hI, (sm3 x1 y1).trans (sm3 x2 y2).symm⟩
end
end
section
section
variable {cc : Int}
/-! ===== note: answers alike ===== -/
theorem prtN {Km : Nat} {K : zK} {F Fm : zF} {B Bm : zB} (h : IV cc Km K F B Fm Bm) {a1 a2 : Int} (h1 : r32 a1) (h2 : r32 a2) : ∃ x y e, f_S_partAt K 0 a1 a2 F B = some (x, F, B) ∧ f_M_piece Km a1 Fm Bm = some (y, Fm, Bm) ∧ f_M_isVoice Km y a2 Fm Bm = some (e, Fm, Bm) ∧ ((x < 0 ∧ e = 0) ∨ (e = 1 ∧ (0 ≤ x ∧ x < K.2 4) ∧ (0 ≤ y ∧ y < 3) ∧ (0 ≤ a2 ∧ a2 < 4) ∧ ∃ q V, a2 < V ∧ x = B 6 q 0 a2 ∧ PK K V q y F B Fm Bm ∧ LNk q y F B Fm Bm ∧ 0 ≤ q)) := by
  have h12 := IV_12 h
  rcases slotE h h1 with ⟨x, x0, e1, e2⟩ | ⟨_, _, _, _, _, _, x, y, V, _, _, _, hP, _, _, _, y0, e1, e2, ln, q0⟩
  · unfold f_S_partAt f_S_partAt_22 f_S_partAt_32 f_M_isVoice f_M_isVoice_20 f_M_isVoice_21
    rw [if_pos h12, e1, zb_s, if_pos x0]
    exact ⟨-1, -1, 0, rfl, e2, by rw [if_pos (by decide), if_pos (Or.inl rfl)], Or.inl ⟨(by first | decide | omega), rfl⟩⟩
  · unfold f_S_partAt f_S_partAt_22 f_S_partAt_32 f_M_isVoice f_M_isVoice_20 f_M_isVoice_21
    rw [if_pos h12, e1, zb_s]
    have hV := hP.1.2.2
    have x0 := hP.1.1
    rw [if_neg (by first | decide | omega), if_pos h2]
    by_cases z : a2 < 0
    · rw [if_pos z]
      exact ⟨-1, y, 0, rfl, e2, by rw [if_neg (by first | decide | omega), if_pos h2, if_pos z, if_pos (Or.inl rfl)], Or.inl ⟨(by first | decide | omega), rfl⟩⟩
    · rw [if_neg z, if_pos x0, hV.2.1, if_pos (by unfold r32; omega)]
      by_cases c : a2 < V
      · rw [if_pos c, if_pos (by first | decide | omega)]
        refine ⟨_, y, 1, rfl, e2, by rw [if_neg (by first | decide | omega), if_pos h2, if_neg z, if_pos y0, hV.2.2, if_pos (by unfold r32; omega), if_neg (by first | decide | omega), if_pos (Or.inr rfl)], Or.inr ⟨rfl, (hP.2.2 a2 (by first | decide | omega) c).1.1, y0, (by first | decide | omega), x, V, c, rfl, hP, ln, q0⟩⟩
      · rw [if_neg c]
        exact ⟨-1, y, 0, rfl, e2, by rw [if_neg (by first | decide | omega), if_pos h2, if_neg z, if_pos y0, hV.2.2, if_pos (by unfold r32; omega), if_pos (by first | decide | omega), if_pos (Or.inl rfl)], Or.inl ⟨(by first | decide | omega), rfl⟩⟩
theorem e_note {Km : Nat} (a1 a2 a3 a4 : Int) (h1 : r32 a1) (h2 : r32 a2) (h3 : r32 a3) (h4 : r32 a4) {K : zK} {F Fm : zF} {B Bm : zB} (h : IV cc Km K F B Fm Bm) : zE (f_S_note K 0 a1 a2 a3 a4 F B) (f_M_note_0 Km a1 a2 a3 a4 Fm Bm) F B Fm Bm := by
  have hK := (IV_k h).1
  obtain ⟨x, y, e, e1, e2, e3, e4⟩ := prtN h h1 h2
  unfold f_S_note f_S_note_38 f_S_note_89 f_M_note_0 f_M_note_0_31
  refine zE_l1 (IV_12 h) (zE_bl e1 (zE_br e2 (zE_br e3 ?_)))
  rcases e4 with ⟨x0, rfl⟩ | ⟨rfl, x0, y0, z0, q, V, vV, ex, hP, ln, q0⟩
  · exact zE_l1 x0 (zE_r1 (by decide) (zE_r1 rfl (zE_s rfl)))
  have na := (ln q0).2.1
  rw [hP.1.2.2.2.1] at na
  have na2 := na a2 z0.1 vV a3
  obtain ⟨_, m, g, hV, _⟩ := hP.2.2 a2 z0.1 vV
  rw [← ex] at hV na2
  obtain ⟨_, _, _, _, _, _, _, _, c, nw, qn, gb⟩ := hV
  have c0 := nw.1
  have n10 := nw.2.1
  have n13 := nw.2.2.2.1
  refine zE_l0 (by first | decide | omega) (zE_l1 h3 (zE_r1 (by decide) (zE_r0 (by decide) (zE_r1 h3 ?_))))
  refine zE_i (fun z => zE_r1 z (zE_s rfl)) (fun n3 => zE_r0 n3 (zE_l1 x0 (zE_r1 y0 (zE_r1 z0 ?_))))
  refine zE_l1 (by rw [n10]; unfold r32; omega) (zE_r1 (by rw [n13]; unfold r32; omega) ?_)
  refine zE_i (fun z => zE_r0 (by first | decide | omega) (zE_s rfl)) (fun l3 => zE_r1 (by first | decide | omega) (zE_l1 h4 (zE_r1 h4 ?_)))
  obtain ⟨k0, k1, k9, k4, k5, _⟩ := nw.2.2.2.2 a3 (by first | decide | omega) (by first | decide | omega)
  obtain ⟨g9, g10, g6, g7, g8, g11⟩ := gb a3 (by first | decide | omega) (by first | decide | omega)
  obtain ⟨m6, m7, m8, m9, m10, m11, _⟩ := na2 (by first | decide | omega) (by first | decide | omega)
  have xb : 0 ≤ 800 * a2 + a3 ∧ 800 * a2 + a3 < 3200 := by omega
  have ab : 0 ≤ a3 ∧ a3 < 800 := by omega
  have r0 : r32 (B 4 x 360 a3) := by unfold r32; omega
  have r1 : r32 (B 4 x 361 a3) := by unfold r32; omega
  have r4 : r32 (B 4 x 364 a3) := by unfold r32; omega
  have r5 : r32 (B 4 x 365 a3) := by unfold r32; omega
  have r9 : r32 (B 4 x 369 a3) := by unfold r32; omega
  have o : a4 < 0 ∨ 12 ≤ a4 ∨ a4 = 0 ∨ a4 = 1 ∨ a4 = 2 ∨ a4 = 3 ∨ a4 = 4 ∨ a4 = 5 ∨ a4 = 6 ∨ a4 = 7 ∨ a4 = 8 ∨ a4 = 9 ∨ a4 = 10 ∨ a4 = 11 := by omega
  rcases o with z | z | rfl | rfl | rfl | rfl | rfl | rfl | rfl | rfl | rfl | rfl | rfl | rfl
  · exact zE_l1 z (zE_r0 (by first | decide | omega) (zE_r0 (by first | decide | omega) (zE_r0 (by first | decide | omega) (zE_r0 (by first | decide | omega) (zE_r0 (by first | decide | omega) (zE_r0 (by first | decide | omega) (zE_r0 (by first | decide | omega) (zE_r0 (by first | decide | omega) (zE_r0 (by first | decide | omega) (zE_r0 (by first | decide | omega) (zE_r0 (by first | decide | omega) (zE_r0 (by first | decide | omega) (zE_s rfl)))))))))))))
  · exact zE_l0 (by first | decide | omega) (zE_l0 (by first | decide | omega) (zE_r0 (by first | decide | omega) (zE_r0 (by first | decide | omega) (zE_r0 (by first | decide | omega) (zE_r0 (by first | decide | omega) (zE_r0 (by first | decide | omega) (zE_r0 (by first | decide | omega) (zE_r0 (by first | decide | omega) (zE_r0 (by first | decide | omega) (zE_r0 (by first | decide | omega) (zE_r0 (by first | decide | omega) (zE_r0 (by first | decide | omega) (zE_r0 (by first | decide | omega) (zE_s rfl))))))))))))))
  · exact zE_l0 (by decide) (zE_l1 (by decide) (zE_l0 (by decide) (zE_l0 (by decide) (zE_l1 (by decide) (zE_l1 ab (zE_l1 r0 (zE_r1 rfl (zE_r1 xb (zE_r1 (by rw [← k0.1]; exact r0) (zE_s k0.1))))))))))
  · exact zE_l0 (by decide) (zE_l1 (by decide) (zE_l0 (by decide) (zE_l0 (by decide) (zE_l1 (by decide) (zE_l1 ab (zE_l1 r1 (zE_r0 (by decide) (zE_r1 rfl (zE_r1 xb (zE_r1 (by rw [← k1.1]; exact r1) (zE_s k1.1)))))))))))
  · exact zE_l0 (by decide) (zE_l1 (by decide) (zE_l1 rfl (zE_l1 ab (zE_bl (C_aboveE (by first | decide | omega) ⟨k9.1, k9.2.1⟩) (zE_r0 (by decide) (zE_r0 (by decide) (zE_r1 rfl (zE_r1 xb (zE_s k9.2.2.1.symm)))))))))
  · exact zE_l0 (by decide) (zE_l1 (by decide) (zE_l0 (by decide) (zE_l1 rfl (zE_l1 ab (zE_bl (C_belowE (by first | decide | omega) ⟨k9.1, k9.2.1⟩) (zE_r0 (by decide) (zE_r0 (by decide) (zE_r0 (by decide) (zE_r1 rfl (zE_r1 xb (zE_s k9.2.2.2.symm)))))))))))
  · exact zE_l0 (by decide) (zE_l1 (by decide) (zE_l0 (by decide) (zE_l0 (by decide) (zE_l1 (by decide) (zE_l1 ab (zE_l1 r4 (zE_r0 (by decide) (zE_r0 (by decide) (zE_r0 (by decide) (zE_r0 (by decide) (zE_r1 rfl (zE_r1 xb (zE_r1 (by rw [← k4.1]; exact r4) (zE_s k4.1))))))))))))))
  · exact zE_l0 (by decide) (zE_l1 (by decide) (zE_l0 (by decide) (zE_l0 (by decide) (zE_l1 (by decide) (zE_l1 ab (zE_l1 r5 (zE_r0 (by decide) (zE_r0 (by decide) (zE_r0 (by decide) (zE_r0 (by decide) (zE_r0 (by decide) (zE_r1 rfl (zE_r1 xb (zE_r1 (by rw [← k5.1]; exact r5) (zE_s k5.1)))))))))))))))
  · exact zE_l0 (by decide) (zE_l1 (by decide) (zE_l0 (by decide) (zE_l0 (by decide) (zE_l1 (by decide) (zE_l1 ab (zE_l1 g6 (zE_r0 (by decide) (zE_r0 (by decide) (zE_r0 (by decide) (zE_r0 (by decide) (zE_r0 (by decide) (zE_r0 (by decide) (zE_r1 rfl (zE_r1 xb (zE_r1 (by rw [← m6]; exact g6) (zE_s m6))))))))))))))))
  · exact zE_l0 (by decide) (zE_l1 (by decide) (zE_l0 (by decide) (zE_l0 (by decide) (zE_l1 (by decide) (zE_l1 ab (zE_l1 g7 (zE_r0 (by decide) (zE_r0 (by decide) (zE_r0 (by decide) (zE_r0 (by decide) (zE_r0 (by decide) (zE_r0 (by decide) (zE_r0 (by decide) (zE_r1 rfl (zE_r1 xb (zE_r1 (by rw [← m7]; exact g7) (zE_s m7)))))))))))))))))
  · exact zE_l0 (by decide) (zE_l1 (by decide) (zE_l0 (by decide) (zE_l0 (by decide) (zE_l1 (by decide) (zE_l1 ab (zE_l1 g8 (zE_r0 (by decide) (zE_r0 (by decide) (zE_r0 (by decide) (zE_r0 (by decide) (zE_r0 (by decide) (zE_r0 (by decide) (zE_r0 (by decide) (zE_r0 (by decide) (zE_r1 rfl (zE_r1 xb (zE_r1 (by rw [← m8]; exact g8) (zE_s m8))))))))))))))))))
  · exact zE_l0 (by decide) (zE_l1 (by decide) (zE_l0 (by decide) (zE_l0 (by decide) (zE_l1 (by decide) (zE_l1 ab (zE_l1 r9 (zE_r0 (by decide) (zE_r0 (by decide) (zE_r0 (by decide) (zE_r0 (by decide) (zE_r0 (by decide) (zE_r0 (by decide) (zE_r0 (by decide) (zE_r0 (by decide) (zE_r0 (by decide) (zE_r1 rfl (zE_r1 xb (zE_r1 (by rw [← m9]; exact r9) (zE_s m9)))))))))))))))))))
  · exact zE_l0 (by decide) (zE_l1 (by decide) (zE_l0 (by decide) (zE_l0 (by decide) (zE_l1 (by decide) (zE_l1 ab (zE_l1 g10 (zE_r0 (by decide) (zE_r0 (by decide) (zE_r0 (by decide) (zE_r0 (by decide) (zE_r0 (by decide) (zE_r0 (by decide) (zE_r0 (by decide) (zE_r0 (by decide) (zE_r0 (by decide) (zE_r0 (by decide) (zE_r1 rfl (zE_r1 xb (zE_r1 (by rw [← m10]; exact g10) (zE_s m10))))))))))))))))))))
  · exact zE_l0 (by decide) (zE_l1 (by decide) (zE_l0 (by decide) (zE_l0 (by decide) (zE_l1 (by decide) (zE_l1 ab (zE_l1 g11 (zE_r0 (by decide) (zE_r0 (by decide) (zE_r0 (by decide) (zE_r0 (by decide) (zE_r0 (by decide) (zE_r0 (by decide) (zE_r0 (by decide) (zE_r0 (by decide) (zE_r0 (by decide) (zE_r0 (by decide) (zE_r0 (by decide) (zE_r1 rfl (zE_r1 xb (zE_r1 (by rw [← m11]; exact g11) (zE_s m11)))))))))))))))))))))
theorem q_note {Km : Nat} (a1 a2 a3 a4 : Int) (h1 : r32 a1) (h2 : r32 a2) (h3 : r32 a3) (h4 : r32 a4) {K : zK} {F Fm : zF} {B Bm : zB} (h : IV cc Km K F B Fm Bm) : ∃ r1 F1 B1 r2 F2 B2, f_S_note K 0 a1 a2 a3 a4 F B = some (r1, F1, B1) ∧ f_M_note_0 Km a1 a2 a3 a4 Fm Bm = some (r2, F2, B2) ∧ IV cc Km K F1 B1 F2 B2 ∧ r1 = r2 := by
  obtain ⟨r1, F1, B1, r2, F2, B2, x1, x2, hI⟩ := p_note a1 a2 a3 a4 h1 h2 h3 h4 h
  obtain ⟨r, y1, y2⟩ := e_note a1 a2 a3 a4 h1 h2 h3 h4 h
  exact ⟨r1, F1, B1, r2, F2, B2, x1, x2, hI, (sm3 x1 y1).trans (sm3 x2 y2).symm⟩
end
end
section
section
/-! ===== fault: answers alike ===== -/
section
variable {S : zV} {L L' : Int → Int → Int} {V c : Int}
theorem g2Q_c {m k u v : Int} (e : ∀ u t, 0 ≤ u → u < V → 0 ≤ t → t < c → L u t = L' u t) (u0 : 0 ≤ u ∧ u < V) (v0 : 0 ≤ v ∧ v < V) (m0 : 1 ≤ m ∧ m < c) : g2Q S L m k u v = g2Q S L' m k u v := by
  unfold g2Q
  rw [e u m u0.1 u0.2 (by first | decide | omega) m0.2, e v m v0.1 v0.2 (by first | decide | omega) m0.2, e u (m - 1) u0.1 u0.2 (by first | decide | omega) (by first | decide | omega), e v (m - 1) v0.1 v0.2 (by first | decide | omega) (by first | decide | omega)]
theorem g1Q_c {m k u : Int} (e : ∀ u t, 0 ≤ u → u < V → 0 ≤ t → t < c → L u t = L' u t) (u0 : 0 ≤ u ∧ u < V) (m0 : 1 ≤ m ∧ m < c) : g1Q S L m k u = g1Q S L' m k u := by
  unfold g1Q
  rw [e u m u0.1 u0.2 (by first | decide | omega) m0.2, e u (m - 1) u0.1 u0.2 (by first | decide | omega) (by first | decide | omega)]
theorem fwQ_c {m k u : Int} (e : ∀ u t, 0 ≤ u → u < V → 0 ≤ t → t < c → L u t = L' u t) (u0 : 0 ≤ u ∧ u < V) (m0 : 1 ≤ m ∧ m < c) : ∀ (d : Nat) (v : Int) (s : zQ), 0 ≤ v → v + d ≤ V → fwQ S L m k u d v s = fwQ S L' m k u d v s := by
  intro d
  induction d with
  | zero => intro v s _ _; rfl
  | succ d ih => intro v s v0 vd; rw [fwQ, fwQ, g2Q_c e u0 ⟨v0, (by first | decide | omega)⟩ m0]; exact ih _ _ (by first | decide | omega) (by first | decide | omega)
theorem fuQ_c {m k : Int} (e : ∀ u t, 0 ≤ u → u < V → 0 ≤ t → t < c → L u t = L' u t) (m0 : 1 ≤ m ∧ m < c) : ∀ (d : Nat) (u : Int) (s : zQ), 0 ≤ u → u + d ≤ V → fuQ S L V m k d u s = fuQ S L' V m k d u s := by
  intro d
  induction d with
  | zero => intro u s _ _; rfl
  | succ d ih => intro u s u0 ud; rw [fuQ, fuQ, fwQ_c e ⟨u0, (by first | decide | omega)⟩ m0 _ _ _ (by first | decide | omega) (by first | decide | omega)]; exact ih _ _ (by first | decide | omega) (by first | decide | omega)
theorem foQ_c {m k : Int} (e : ∀ u t, 0 ≤ u → u < V → 0 ≤ t → t < c → L u t = L' u t) (m0 : 1 ≤ m ∧ m < c) : ∀ (d : Nat) (u : Int) (s : zQ), 0 ≤ u → u + d ≤ V → foQ S L m k d u s = foQ S L' m k d u s := by
  intro d
  induction d with
  | zero => intro u s _ _; rfl
  | succ d ih => intro u s u0 ud; rw [foQ, foQ, g1Q_c e ⟨u0, (by first | decide | omega)⟩ m0]; exact ih _ _ (by first | decide | omega) (by first | decide | omega)
theorem fkQ_c {m : Int} (e : ∀ u t, 0 ≤ u → u < V → 0 ≤ t → t < c → L u t = L' u t) (hV : 0 ≤ V) (m0 : 1 ≤ m ∧ m < c) : ∀ (d : Nat) (k : Int) (s : zQ), fkQ S L V m d k s = fkQ S L' V m d k s := by
  intro d
  induction d with
  | zero => intro k s; rfl
  | succ d ih => intro k s; rw [fkQ, fkQ, fuQ_c e m0 _ _ _ (by first | decide | omega) (by first | decide | omega), foQ_c e m0 _ _ _ (by first | decide | omega) (by first | decide | omega)]; exact ih _ _
theorem fmQ_c (e : ∀ u t, 0 ≤ u → u < V → 0 ≤ t → t < c → L u t = L' u t) (hV : 0 ≤ V) : ∀ (d : Nat) (m : Int) (s : zQ), 1 ≤ m → (d = 0 ∨ m + d ≤ c) → fmQ S L V d m s = fmQ S L' V d m s := by
  intro d
  induction d with
  | zero => intro m s _ _; rfl
  | succ d ih => intro m s m0 md; rw [fmQ, fmQ, fkQ_c e hV ⟨m0, (by first | decide | omega)⟩]; exact ih _ _ (by first | decide | omega) (by first | decide | omega)
theorem flQ_c (e : ∀ u t, 0 ≤ u → u < V → 0 ≤ t → t < c → L u t = L' u t) (hV : 0 ≤ V) : flQ S L V c = flQ S L' V c := fmQ_c e hV _ _ _ (by decide) (by first | decide | omega)
end
/-- a study that is made, and the reference -/
def STq (V s w : Int) (S : zV) (F : zF) (B : zB) (Fm : zF) (Bm : zB) : Prop := F 9 s 0 = Fm 13 w 72 ∧ F 9 s 2 = Fm 13 w 76 ∧ (∀ j, 0 ≤ j → j < F 9 s 0 → (0 ≤ B 9 s 1 j ∧ B 9 s 1 j ≤ 1000000000000) ∧ Bm 13 w 73 j = nu (B 9 s 1 j) ∧ Bm 13 w 74 j = de (B 9 s 1 j)) ∧ (∀ u j, 0 ≤ u → u < V → 0 ≤ j → j < F 9 s 0 → B 9 s (280 + u.toNat) j = Bm 13 w 75 (4 * j + u) ∧ 0 ≤ Bm 13 w 75 (4 * j + u) ∧ Bm 13 w 75 (4 * j + u) < S u 0 0 0) ∧ (∀ i, 0 ≤ i → i < F 9 s 2 → B 9 s 260 i = Bm 13 w 77 i ∧ B 9 s 261 i = Bm 13 w 78 i ∧ B 9 s 262 i = Bm 13 w 79 i ∧ B 9 s 263 i = Bm 13 w 80 i) ∧ (0 ≤ F 9 s 2 ∧ F 9 s 2 ≤ 300)
theorem STq_of {V s w : Int} {S : zV} {F : zF} {B : zB} {Fm : zF} {Bm : zB} (hS : SG V S) (hM : MXk V w S Fm Bm) (hX : STX V s S F B) : STq V s w S F B Fm Bm := by
  obtain ⟨hR, _, T, ⟨tr, mo, li⟩, fr1, fr2, fr3⟩ := hM
  obtain ⟨T', L', ⟨m1, m2, mo', li'⟩, fc1, fc2, fc3⟩ := hX
  obtain ⟨ec, et⟩ := SR_e mo.1.1 mo'.1.1 mo.2.1 mo'.2.1 mo.2.2 mo'.2.2
  rw [← ec] at m1 m2 mo' li' fc1 fc2 fc3
  have el := LI_u hS li li' et
  have ef : flQ S L' V (Fm 13 w 72) = flQ S (fun u t => Bm 13 w 75 (4 * t + u)) V (Fm 13 w 72) := flQ_c (fun u t u0 u1 t0 t1 => (el u t u0 u1 t0 t1).symm) (by have := hS.1; omega)
  rw [ef] at fc1 fc2 fc3
  unfold STq
  rw [← ec, fc1]
  refine ⟨rfl, fr1.symm, fun j j0 j1 => ?_, fun u j u0 u1 j0 j1 => ?_, fun i i0 i1 => ?_, fc2⟩
  · obtain ⟨b, r1, r2⟩ := tr j j0 j1
    rw [m1 j j0 j1, ← et j j0 j1]
    exact ⟨b, r1, r2⟩
  · rw [m2 u j u0 u1 j0 j1]
    exact ⟨(el u j u0 u1 j0 j1).symm, (li u j u0 u1 j0 j1).1⟩
  · obtain ⟨a1, a2, a3, a4⟩ := fc3 i i0 i1
    obtain ⟨b1, b2, b3, b4⟩ := fr3 i i0 i1
    exact ⟨by rw [a1, b1], by rw [a2, b2], by rw [a3, b3], by rw [a4, b4]⟩
variable {cc : Int}
/-- the study of a kept piece: what it holds -/
theorem ST_q {K K1 : zK} {V q v s : Int} {F F1 Fm : zF} {B B1 Bm : zB} (hP : PK K V q v F B Fm Bm) (ln : LNk q v F B Fm Bm) (q0 : 0 ≤ q) (sz : STz K q s F B F1 B1) : ∃ S, SG V S ∧ SRm V v S Fm Bm ∧ SCl K V q S F B ∧ STq V s v S F1 B1 Fm Bm := by
  obtain ⟨S, sg, mx, sx⟩ := (ln q0).2.2.1
  rw [hP.1.2.2.2.1] at sg mx sx
  have sc := SCl_k hP sg mx.1
  exact ⟨S, sg, mx.1, sc, STq_of sg mx (sz V S sg sc (fun z => (sx z).2))⟩
theorem v_fault {Km : Nat} (a1 a2 a3 : Int) (h1 : r32 a1) (h2 : r32 a2) (h3 : r32 a3) {K : zK} {F Fm : zF} {B Bm : zB} (h : IV cc Km K F B Fm Bm) : ∃ r F1 B1 K1 F2 B2, f_S_fault K 0 a1 a2 a3 F B = some (r, F1, B1, K1) ∧ f_M_fault_0 Km a1 a2 a3 Fm Bm = some (r, F2, B2) := by
  have hK := (IV_k h).1
  have h12 := IV_12 h
  have hU := IV_u h
  rcases slotE h h1 with ⟨q, q0, x1, x3⟩ | ⟨p, p0, p1, w, w0, w1, q, v, V, hE, hZ, hc, hP, hM, hD, m0, hv, x1, x3, ln, q0⟩
  · refine ⟨-1, F, B, K, Fm, Bm, ?_, ?_⟩
    · unfold f_S_fault f_S_fault_37
      rw [if_pos h12, x1]
      simp only [zbN_s]
      rw [if_pos q0]
    · unfold f_M_fault_0 f_M_fault_0_25
      rw [x3, zb_s, if_pos (by decide)]
  have hq := hP.1.1
  have l12 := (hE.1.2.2.2.2.2.2.2.2.1 q hq.1 hq.2).2.2
  have g9 : 0 ≤ K.2 9 := by have := hE.1.1.2.2; omega
  obtain ⟨s, F1, B1, K1, e, st, sz, hq1⟩ := C_stm hK g9 hU (PQs_k h hP) l12
  have st2 := C_stm2 (B1 := B1) hq1.1 st.2.1.1 st.2.2.2.1
  obtain ⟨S, sg, sr, sc, tq⟩ := ST_q (K1 := K1) hP ln q0 sz
  obtain ⟨_, t2, _, _, t5, t6⟩ := tq
  have h76 : 0 ≤ Fm 13 v 76 ∧ Fm 13 v 76 ≤ 300 := by omega
  have nv : ¬ v < 0 := by omega
  -- no such answer
  have none1 : (a3 < 0 ∨ 4 ≤ a3 ∨ a2 < 0 ∨ Fm 13 v 76 ≤ a2) → f_M_fault_0 Km a1 a2 a3 Fm Bm = some (-1, Fm, Bm) := fun z => by
    unfold f_M_fault_0 f_M_fault_0_25 f_M_fault_0_81
    rw [x3, zb_s, if_neg nv, if_pos h2]
    by_cases b1 : a2 < 0
    · rw [if_pos b1]
    rw [if_neg b1, if_pos hv, if_pos (show r32 (Fm 13 v 76) by unfold r32; omega)]
    by_cases b2 : a2 < Fm 13 v 76
    · rw [if_pos b2, if_pos h3, if_neg (show ¬ a3 = 0 by omega), if_neg (show ¬ a3 = 1 by omega), if_neg (show ¬ a3 = 2 by omega), if_neg (show ¬ a3 = 3 by omega)]
    · rw [if_neg b2]
  by_cases b : a3 < 0 ∨ 4 ≤ a3 ∨ a2 < 0
  · refine ⟨-1, F, B, K, Fm, Bm, ?_, none1 (by first | decide | omega)⟩
    unfold f_S_fault f_S_fault_37
    rw [if_pos h12, x1]
    simp only [zbN_s]
    rw [if_neg (by first | decide | omega), if_pos h3]
    by_cases b1 : a3 < 0
    · rw [if_pos b1]
    rw [if_neg b1]
    by_cases b2 : 4 ≤ a3
    · rw [if_pos b2]
    · rw [if_neg b2, if_pos h2, if_pos (by first | decide | omega)]
  by_cases c : a2 < F1 9 s 2
  · obtain ⟨r0, r1, r2, r3⟩ := t5 a2 (by first | decide | omega) c
    refine ⟨B1 9 s (260 + a3.toNat) a2, F1, B1, K1, Fm, Bm, ?_, ?_⟩
    · unfold f_S_fault f_S_fault_31 f_S_fault_44
      rw [if_pos h12, x1]
      simp only [zbN_s]
      rw [if_neg (by first | decide | omega), if_pos h3, if_neg (by first | decide | omega), if_neg (by first | decide | omega), if_pos h2, if_neg (by first | decide | omega), if_pos hq, if_pos hq.2, e]
      simp only [zbM_s]
      rw [if_pos st.2.1, if_pos h2, if_pos (by unfold r32; omega), if_pos c, if_pos hq1.1, st2]
      simp only [zbM_s]
      rw [if_pos st.2.1, if_pos (by first | decide | omega), if_pos (by first | decide | omega)]
    · unfold f_M_fault_0 f_M_fault_0_81
      rw [x3, zb_s, if_neg nv, if_pos h2, if_neg (show ¬ a2 < 0 by omega), if_pos hv, if_pos (show r32 (Fm 13 v 76) by unfold r32; omega), if_pos (show a2 < Fm 13 v 76 by omega), if_pos h3]
      have ab : 0 ≤ a2 ∧ a2 < 300 := by omega
      rcases (show a3 = 0 ∨ a3 = 1 ∨ a3 = 2 ∨ a3 = 3 by omega) with rfl | rfl | rfl | rfl
      · rw [if_pos rfl, if_pos ab]
        show some (Bm 13 v 77 a2, Fm, Bm) = some (B1 9 s 260 a2, Fm, Bm)
        rw [r0]
      · rw [if_neg (show ¬ (1 : Int) = 0 by decide), if_pos rfl, if_pos ab]
        show some (Bm 13 v 78 a2, Fm, Bm) = some (B1 9 s 261 a2, Fm, Bm)
        rw [r1]
      · rw [if_neg (show ¬ (2 : Int) = 0 by decide), if_neg (show ¬ (2 : Int) = 1 by decide), if_pos rfl, if_pos ab]
        show some (Bm 13 v 79 a2, Fm, Bm) = some (B1 9 s 262 a2, Fm, Bm)
        rw [r2]
      · rw [if_neg (show ¬ (3 : Int) = 0 by decide), if_neg (show ¬ (3 : Int) = 1 by decide), if_neg (show ¬ (3 : Int) = 2 by decide), if_pos rfl, if_pos ab]
        show some (Bm 13 v 80 a2, Fm, Bm) = some (B1 9 s 263 a2, Fm, Bm)
        rw [r3]
  · refine ⟨-1, F1, B1, K1, Fm, Bm, ?_, none1 (by first | decide | omega)⟩
    unfold f_S_fault f_S_fault_31 f_S_fault_37
    rw [if_pos h12, x1]
    simp only [zbN_s]
    rw [if_neg (by first | decide | omega), if_pos h3, if_neg (by first | decide | omega), if_neg (by first | decide | omega), if_pos h2, if_neg (by first | decide | omega), if_pos hq, if_pos hq.2, e]
    simp only [zbM_s]
    rw [if_pos st.2.1, if_pos h2, if_pos (by unfold r32; omega), if_neg c]
theorem q_fault {Km : Nat} (a1 a2 a3 : Int) (h1 : r32 a1) (h2 : r32 a2) (h3 : r32 a3) {K : zK} {F Fm : zF} {B Bm : zB} (h : IV cc Km K F B Fm Bm) : ∃ r1 F1 B1 K1 r2 F2 B2, f_S_fault K 0 a1 a2 a3 F B = some (r1, F1, B1, K1) ∧ f_M_fault_0 Km a1 a2 a3 Fm Bm = some (r2, F2, B2) ∧ IV cc Km K1 F1 B1 F2 B2 ∧ r1 = r2 := by
  obtain ⟨r1, F1, B1, K1, r2, F2, B2, x1, x2, hI⟩ := p_fault a1 a2 a3 h1 h2 h3 h
  obtain ⟨r, _, _, _, _, _, y1, y2⟩ := v_fault a1 a2 a3 h1 h2 h3 h
  exact ⟨r1, F1, B1, K1, r2, F2, B2, x1, x2, hI, (sm4 x1 y1).trans (sm3 x2 y2).symm⟩
end
end
section
section
variable {cc : Int}
/-! ===== line, x: answers alike ===== -/
theorem zdv_0 {m : Int} (h : 0 < m) (h' : r32 m) : zdv 0 m = 0 := by
  rw [zdv_e (Int.le_refl _) (by decide) h h', Int.zero_ediv]
/-- a column's bar -/
theorem bar_of {l nb n : Int} {B : zB} (hS : LYs l nb n B) {j a e : Int} (a0 : 0 ≤ a) (ae : a < e) (e1 : e ≤ nb) (j0 : B 2 l 5 a ≤ j) (j1 : j < B 2 l 5 e) : ∃ t, a ≤ t ∧ t < e ∧ B 2 l 5 t ≤ j ∧ j < B 2 l 5 (t + 1) := by
  have go : ∀ (d : Nat) (t : Int), t + d + 1 = e → a ≤ t → B 2 l 5 t ≤ j → ∃ t, a ≤ t ∧ t < e ∧ B 2 l 5 t ≤ j ∧ j < B 2 l 5 (t + 1) := by
    intro d
    induction d with
    | zero =>
      intro t te ta tj
      exact ⟨t, ta, (by first | decide | omega), tj, by rw [show t + 1 = e by omega]; exact j1⟩
    | succ d ih =>
      intro t te ta tj
      by_cases z : j < B 2 l 5 (t + 1)
      · exact ⟨t, ta, (by first | decide | omega), tj, z⟩
      · exact ih (t + 1) (by first | decide | omega) (by first | decide | omega) (by first | decide | omega)
  exact go (e - a - 1).toNat a (by first | decide | omega) (Int.le_refl _) j0
/-- what a layout tells -/
theorem C_tellX {K : zK} {l a2 a3 : Int} {F : zF} {B : zB} (hl : 0 ≤ l ∧ l < K.2 2) (h2 : r32 a2) (h3 : r32 a3) (n0 : 0 ≤ F 2 l 0 ∧ F 2 l 0 ≤ 100) (hB : ∀ j, 0 ≤ j → j ≤ F 2 l 0 → 0 ≤ B 2 l 7 j ∧ B 2 l 7 j ≤ 100) (h5 : ∀ j, 0 ≤ j → j ≤ 100 → r32 (B 2 l 5 j)) (h5d : ∀ i j, 0 ≤ i → i ≤ 100 → 0 ≤ j → j ≤ 100 → r32 (B 2 l 5 i - B 2 l 5 j)) (h8 : ∀ j, 0 ≤ j → j < F 2 l 0 → r32 (B 2 l 8 j)) : f_Layout_tell K l a2 a3 F B = some (if 0 ≤ a2 ∧ a2 < F 2 l 0 then (if a3 = 0 then B 2 l 7 a2 else if a3 = 1 then B 2 l 7 (a2 + 1) - B 2 l 7 a2 else if a3 = 2 then B 2 l 8 a2 else if a3 = 3 then B 2 l 5 (B 2 l 7 (a2 + 1)) - B 2 l 5 (B 2 l 7 a2) else if a3 = 4 then B 2 l 9 a2 else -1) else -1, F, B) := by
  unfold f_Layout_tell f_Layout_tell_12
  rw [if_pos h2]
  by_cases z : a2 < 0
  · rw [if_pos z, if_neg (by first | decide | omega)]
  rw [if_neg z, if_pos hl, if_pos (by unfold r32; omega)]
  by_cases c : a2 < F 2 l 0
  case neg => rw [if_neg c, if_neg (by first | decide | omega)]
  have k1 := hB a2 (by first | decide | omega) (by first | decide | omega)
  have k2 := hB (a2 + 1) (by first | decide | omega) (by first | decide | omega)
  rw [if_pos c, if_pos h3, if_pos (show 0 ≤ a2 ∧ a2 < F 2 l 0 by omega)]
  by_cases c0 : a3 = 0
  · rw [if_pos c0, if_pos c0, if_pos (by first | decide | omega), if_pos (by unfold r32; omega)]
  rw [if_neg c0, if_neg c0]
  by_cases c1 : a3 = 1
  · rw [if_pos c1, if_pos c1, if_pos (by first | decide | omega), if_pos (by first | decide | omega), if_pos (by unfold r32; omega)]
  rw [if_neg c1, if_neg c1]
  by_cases c2 : a3 = 2
  · rw [if_pos c2, if_pos c2, if_pos (by first | decide | omega), if_pos (h8 a2 (by first | decide | omega) c)]
  rw [if_neg c2, if_neg c2]
  by_cases c3 : a3 = 3
  · rw [if_pos c3, if_pos c3, if_pos (by first | decide | omega), if_pos (by first | decide | omega), if_pos (by first | decide | omega), if_pos (by first | decide | omega), if_pos (h5d _ _ (by first | decide | omega) (by first | decide | omega) (by first | decide | omega) (by first | decide | omega))]
  rw [if_neg c3, if_neg c3]
  by_cases c4 : a3 = 4
  · rw [if_pos c4, if_pos c4, if_pos (by first | decide | omega)]
  · rw [if_neg c4, if_neg c4]
theorem e_line {Km : Nat} (a1 a2 a3 : Int) (h1 : r32 a1) (h2 : r32 a2) (h3 : r32 a3) {K : zK} {F Fm : zF} {B Bm : zB} (h : IV cc Km K F B Fm Bm) : zE (f_S_line K 0 a1 a2 a3 F B) (f_M_line Km a1 a2 a3 Fm Bm) F B Fm Bm := by
  unfold f_S_line f_S_line_20 f_M_line f_M_line_25 f_M_line_101
  rw [if_pos (IV_12 h)]
  rcases slotE h h1 with ⟨q, q0, c, l⟩ | ⟨p, p0, p1, w, w0, w1, q, v, V, hE, hZ, hc, hP, hM, hD, m0, hv, c, l, ln, q0⟩
  · rw [c, zb_s, l, zb_s, if_pos q0, if_pos (show (-1 : Int) < 0 by decide)]
    exact zE_s rfl
  have hq := hP.1.1
  have o := (hE.1.2.2.2.2.2.2.2.2.1 q hq.1 hq.2).1
  have hU := hE.2.2.2.2.2.1
  rw [c, zb_s, l, zb_s, if_neg (show ¬ q < 0 by omega), if_neg (show ¬ v < 0 by omega), if_pos h2, if_pos hq]
  rcases (ln q0).2.2.2 with ⟨y1, y2⟩ | ⟨y1, y2⟩
  · -- no lines
    have right : (if a2 < 0 then some ((-1 : Int), Fm, Bm) else if 0 ≤ v ∧ v < 3 then if r32 (Fm 13 v 48) then (if a2 < (Fm 13 v 48) then if r32 a3 then (if a3 = 0 then if 0 ≤ a2 ∧ a2 < 100 then if r32 (Bm 13 v 49 a2) then some (Bm 13 v 49 a2, Fm, Bm) else none else none else (if a3 = 1 then if 0 ≤ a2 ∧ a2 < 100 then if r32 (Bm 13 v 50 a2) then some (Bm 13 v 50 a2, Fm, Bm) else none else none else (if a3 = 2 then if 0 ≤ a2 ∧ a2 < 100 then if r32 (Bm 13 v 51 a2) then some (Bm 13 v 51 a2, Fm, Bm) else none else none else (if a3 = 3 then zbind (f_M_lineColumns Km v a2 Fm Bm) (fun r15 F15 B15 => if r32 r15 then some (r15, F15, B15) else none) else (if a3 = 4 then if 0 ≤ a2 ∧ a2 < 100 then some (Bm 13 v 52 a2, Fm, Bm) else none else some (-1, Fm, Bm)))))) else none else some (-1, Fm, Bm)) else none else none) = some (-1, Fm, Bm) := by
      by_cases z : a2 < 0
      · rw [if_pos z]
      · rw [if_neg z, if_pos hv, y1, if_pos (by decide), if_neg (by first | decide | omega)]
    refine ⟨-1, ?_, right⟩
    by_cases z8 : F 6 q 8 < 0
    · rw [if_pos z8]
    · have hl : 0 ≤ F 6 q 8 ∧ F 6 q 8 < K.2 2 := ⟨(by first | decide | omega), o⟩
      have z0 := y2 hl.1
      rw [if_neg z8, if_pos hl, C_tellX hl h2 h3 (by first | decide | omega) (fun j j0 j1 => by
        have := ((hU.2.1 (F 6 q 8) hl.1 hl.2).2.2 j).2.2.2.2.1
        omega) (fun j _ _ => by
        have := ((hU.2.1 (F 6 q 8) hl.1 hl.2).2.2 j).2.2.1
        unfold r32; omega) (fun i j _ _ _ _ => by
        have a := ((hU.2.1 (F 6 q 8) hl.1 hl.2).2.2 i).2.2.1
        have b := ((hU.2.1 (F 6 q 8) hl.1 hl.2).2.2 j).2.2.1
        unfold r32; omega) (fun j j0 j1 => (by first | decide | omega)), zb_s, if_neg (by first | decide | omega)]
  · have hl : 0 ≤ F 6 q 8 ∧ F 6 q 8 < K.2 2 := ⟨y1, o⟩
    obtain ⟨⟨u1, u2, u3⟩, ⟨u4, u5⟩, u6, u7, u8, _⟩ := y2
    obtain ⟨s1, s2, s3, s4⟩ := u2
    have hu := hU.2.1 (F 6 q 8) hl.1 hl.2
    rw [if_neg (show ¬ F 6 q 8 < 0 by omega), if_pos hl, C_tellX hl h2 h3 s1 (fun j j0 j1 => by
      have := (hu.2.2 j).2.2.2.2.1
      omega) (fun j _ _ => by
      have := (hu.2.2 j).2.2.1
      unfold r32; omega) (fun i j _ _ _ _ => by
      have a := (hu.2.2 i).2.2.1
      have b := (hu.2.2 j).2.2.1
      unfold r32; omega) (fun j j0 j1 => (s3 j j0 j1).2.2.2.1), zb_s]
    by_cases z : a2 < 0
    · rw [if_pos z, if_neg (by first | decide | omega)]
      exact zE_s rfl
    rw [if_neg z, if_pos hv, ← u1, if_pos (show r32 (F 2 (F 6 q 8) 0) by unfold r32; omega)]
    by_cases c2 : a2 < F 2 (F 6 q 8) 0
    case neg =>
      rw [if_neg c2, if_neg (by first | decide | omega)]
      exact zE_s rfl
    obtain ⟨k1, k2, k3, k4⟩ := u6 a2 (by first | decide | omega) c2
    obtain ⟨t1, t2, t3, t4, t5⟩ := s3 a2 (by first | decide | omega) c2
    have ab : 0 ≤ a2 ∧ a2 < 100 := by omega
    rw [if_pos (show 0 ≤ a2 ∧ a2 < F 2 (F 6 q 8) 0 by omega), if_pos c2, if_pos h3]
    by_cases d0 : a3 = 0
    · rw [if_pos d0, if_pos d0, if_pos ab, if_pos (show r32 (Bm 13 v 49 a2) by rw [← k1]; unfold r32; omega)]
      exact zE_s k1
    rw [if_neg d0, if_neg d0]
    by_cases d1 : a3 = 1
    · rw [if_pos d1, if_pos d1, if_pos ab, if_pos (show r32 (Bm 13 v 50 a2) by unfold r32; omega)]
      exact zE_s (by first | decide | omega)
    rw [if_neg d1, if_neg d1]
    by_cases d2 : a3 = 2
    · rw [if_pos d2, if_pos d2, if_pos ab, if_pos (show r32 (Bm 13 v 51 a2) by rw [← k3]; exact t4)]
      exact zE_s k3
    rw [if_neg d2, if_neg d2]
    by_cases d3 : a3 = 3
    · have e1 := u7 (B 2 (F 6 q 8) 7 a2) (by first | decide | omega) (by first | decide | omega)
      have e2 := u7 (B 2 (F 6 q 8) 7 (a2 + 1)) (by first | decide | omega) (by first | decide | omega)
      have b1 := (hu.2.2 (B 2 (F 6 q 8) 7 a2)).2.2.1
      have b2 := (hu.2.2 (B 2 (F 6 q 8) 7 (a2 + 1))).2.2.1
      unfold f_M_lineColumns
      rw [if_pos d3, if_pos d3, if_pos hv, if_pos ab, ← k2, ← k1, if_pos (by first | decide | omega), if_pos (by first | decide | omega), zb_s, e1, e2, if_pos (by unfold r32; omega)]
      exact zE_s rfl
    rw [if_neg d3, if_neg d3]
    by_cases d4 : a3 = 4
    · rw [if_pos d4, if_pos d4, if_pos ab]
      exact zE_s k4
    · rw [if_neg d4, if_neg d4]
      exact zE_s rfl
theorem q_line {Km : Nat} (a1 a2 a3 : Int) (h1 : r32 a1) (h2 : r32 a2) (h3 : r32 a3) {K : zK} {F Fm : zF} {B Bm : zB} (h : IV cc Km K F B Fm Bm) : ∃ r1 F1 B1 r2 F2 B2, f_S_line K 0 a1 a2 a3 F B = some (r1, F1, B1) ∧ f_M_line Km a1 a2 a3 Fm Bm = some (r2, F2, B2) ∧ IV cc Km K F1 B1 F2 B2 ∧ r1 = r2 := by
  obtain ⟨r1, F1, B1, r2, F2, B2, x1, x2, hI⟩ := p_line a1 a2 a3 h1 h2 h3 h
  obtain ⟨r, y1, y2⟩ := e_line a1 a2 a3 h1 h2 h3 h
  exact ⟨r1, F1, B1, r2, F2, B2, x1, x2, hI, (sm3 x1 y1).trans (sm3 x2 y2).symm⟩
theorem prtX {Km : Nat} {K : zK} {F Fm : zF} {B Bm : zB} (h : IV cc Km K F B Fm Bm) {a1 a2 : Int} (h1 : r32 a1) (h2 : r32 a2) : ∃ x y e s, f_S_partAt K 0 a1 a2 F B = some (x, F, B) ∧ f_S_pieceAt K 0 a1 F B = some (s, F, B) ∧ f_M_piece Km a1 Fm Bm = some (y, Fm, Bm) ∧ f_M_isVoice Km y a2 Fm Bm = some (e, Fm, Bm) ∧ ((x < 0 ∧ e = 0) ∨ (e = 1 ∧ (0 ≤ x ∧ x < K.2 4) ∧ (0 ≤ y ∧ y < 3) ∧ (0 ≤ a2 ∧ a2 < 4) ∧ ∃ V, a2 < V ∧ x = B 6 s 0 a2 ∧ PK K V s y F B Fm Bm ∧ LNk s y F B Fm Bm ∧ 0 ≤ s ∧ MK V y Fm Bm ∧ F 6 s 8 < K.2 2)) := by
  have h12 := IV_12 h
  rcases slotE h h1 with ⟨x, x0, e1, e2⟩ | ⟨_, _, _, _, _, _, x, y, V, hE, _, _, hP, hM, _, _, y0, e1, e2, ln, q0⟩
  · unfold f_S_partAt f_S_partAt_22 f_S_partAt_32 f_M_isVoice f_M_isVoice_20 f_M_isVoice_21
    rw [if_pos h12, e1, zb_s, if_pos x0]
    exact ⟨-1, -1, 0, x, rfl, rfl, e2, by rw [if_pos (by decide), if_pos (Or.inl rfl)], Or.inl ⟨(by first | decide | omega), rfl⟩⟩
  · unfold f_S_partAt f_S_partAt_22 f_S_partAt_32 f_M_isVoice f_M_isVoice_20 f_M_isVoice_21
    rw [if_pos h12, e1, zb_s]
    have hV := hP.1.2.2
    have x0 := hP.1.1
    rw [if_neg (by first | decide | omega), if_pos h2]
    by_cases z : a2 < 0
    · rw [if_pos z]
      exact ⟨-1, y, 0, x, rfl, rfl, e2, by rw [if_neg (by first | decide | omega), if_pos h2, if_pos z, if_pos (Or.inl rfl)], Or.inl ⟨(by first | decide | omega), rfl⟩⟩
    · rw [if_neg z, if_pos x0, hV.2.1, if_pos (by unfold r32; omega)]
      by_cases c : a2 < V
      · rw [if_pos c, if_pos (by first | decide | omega)]
        refine ⟨_, y, 1, x, rfl, rfl, e2, by rw [if_neg (by first | decide | omega), if_pos h2, if_neg z, if_pos y0, hV.2.2, if_pos (by unfold r32; omega), if_neg (by first | decide | omega), if_pos (Or.inr rfl)], Or.inr ⟨rfl, (hP.2.2 a2 (by first | decide | omega) c).1.1, y0, (by first | decide | omega), V, c, rfl, hP, ln, q0, hM, (hE.1.2.2.2.2.2.2.2.2.1 x x0.1 x0.2).1⟩⟩
      · rw [if_neg c]
        exact ⟨-1, y, 0, x, rfl, rfl, e2, by rw [if_neg (by first | decide | omega), if_pos h2, if_neg z, if_pos y0, hV.2.2, if_pos (by unfold r32; omega), if_pos (by first | decide | omega), if_pos (Or.inl rfl)], Or.inl ⟨(by first | decide | omega), rfl⟩⟩
/-- the x of a column, reference -/
theorem L_x199X {K : Nat} {w fst k c n wd lw cols : Int} {F : zF} {B : zB} (w0 : 0 ≤ w ∧ w < 3) (k0 : 0 ≤ k ∧ k < 100) (h47 : F 13 w 47 = wd) (h48 : F 13 w 48 = n) (h51 : B 13 w 51 k = lw) (rw' : r32 wd) (rl : r32 lw) (rn : 0 ≤ n ∧ n ≤ 100) (hc : f_M_lineColumns K w k F B = some (cols, F, B)) (c1 : 0 < cols ∧ cols ≤ 3200) (cb : c ≤ 3200) : ∀ (d N : Nat) (i v : Int), i + d = c → 0 ≤ i → d < N → f_M_x_199 K N i v c fst k w F B = some (v + smR (fun j => B 13 w 45 j) i d + (if wd ≤ lw ∨ n ≤ k + 1 then 0 else zdv ((wd - lw) * (c - fst)) cols), F, B) := by
  intro d
  induction d with
  | zero =>
    intro N i v hi i0 hN
    obtain ⟨m, rfl⟩ : ∃ m, N = m + 1 := ⟨N - 1, (by first | decide | omega)⟩
    rw [f_M_x_199, if_pos (by unfold r32; omega), if_pos (by unfold r32; omega), if_pos (by first | decide | omega), if_pos w0, if_pos k0, h51, if_pos rl, h47, if_pos rw', smR, Int.add_zero]
    by_cases z : wd ≤ lw
    · rw [if_pos z, if_pos (Or.inl z), f_M_x_257, f_M_x_258, if_pos (by decide), if_pos rfl, f_M_x_301, Int.add_zero]
    · rw [if_neg z, if_pos (by unfold r32; omega), h48, if_pos (by unfold r32; omega)]
      by_cases z' : n ≤ k + 1
      · rw [if_pos z', if_pos (Or.inr z'), f_M_x_257, f_M_x_258, if_pos (by decide), if_pos rfl, f_M_x_301, Int.add_zero]
      · rw [if_neg z', if_neg (by first | decide | omega), f_M_x_258, if_pos (by decide), if_neg (by decide), if_pos w0, if_pos k0, hc, zb_s, if_pos (iI_n0 c1.1 (by unfold r32; omega)), f_M_x_301, h47, h51]
  | succ d ih =>
    intro N i v hi i0 hN
    obtain ⟨m, rfl⟩ : ∃ m, N = m + 1 := ⟨N - 1, (by first | decide | omega)⟩
    rw [f_M_x_199, if_pos (by unfold r32; omega), if_pos (by unfold r32; omega), if_neg (by first | decide | omega), if_pos w0, if_pos (by first | decide | omega), ih m (i + 1) _ (by first | decide | omega) (by first | decide | omega) (by first | decide | omega), smR, Int.add_assoc v]
/-- the column of a place, both sides -/
theorem P_col {K : zK} {Km : Nat} {l w b x y k fst nb : Int} {F : zF} {B : zB} {Fm : zF} {Bm : zB} {X : Int → Int} (hl : 0 ≤ l ∧ l < K.2 2) (w0 : 0 ≤ w ∧ w < 3) (hb : 0 ≤ b ∧ b < 100) (y0 : 0 ≤ y ∧ y < 3200) (x0 : 0 ≤ x ∧ x ≤ 1000000000000) (e32 : Bm 13 w 32 y = nu x) (e33 : Bm 13 w 33 y = de x) (e5 : 0 ≤ B 2 l 5 b ∧ B 2 l 5 (b + 1) ≤ 3200) (hC : ∀ c, B 2 l 5 b ≤ c → c < B 2 l 5 (b + 1) → (Bm 13 w 43 c = nu (B 2 l 1 c) ∧ Bm 13 w 44 c = de (B 2 l 1 c)) ∧ (0 ≤ B 2 l 1 c ∧ B 2 l 1 c ≤ 1000000000000)) (hX : ∀ c, B 2 l 5 b ≤ c → c < B 2 l 5 (b + 1) → B 2 l 3 c = X c) (hM : ∀ c, B 2 l 5 b ≤ c → c < B 2 l 5 (b + 1) → (if 0 ≤ k ∧ k < 100 then zbind (f_M_ahead Km w (Bm 13 w 49 k) Fm Bm) (fun r31 F31 B31 => f_M_x_199 Km Km fst (r31 + (6 * ((b - (B31 13 w 49 k)) + 1))) c fst k w F31 B31) else none) = some (X c, Fm, Bm)) {J : Int} (hJ : B 2 l 5 b ≤ J ∧ J < B 2 l 5 (b + 1)) (eJ : B 2 l 1 J = x) : ∀ (d N N' : Nat) (c : Int), c + d = J → B 2 l 5 b ≤ c → d < N → d < N' → ∃ r, f_Layout_columnX_27 K N c l b x F B = some (r, F, B) ∧ f_M_x_117 Km N' c fst k b y w Fm Bm = some (r, Fm, Bm) := by
  intro d
  have nx := nd_r x0.1 x0.2
  have stepC : ∀ (n : Nat) (c : Int), B 2 l 5 b ≤ c → c < B 2 l 5 (b + 1) → f_Layout_columnX_27 K (n + 1) c l b x F B = if B 2 l 1 c = x then some (X c, F, B) else f_Layout_columnX_27 K n (c + 1) l b x F B := fun n c c0 c1 => by
    obtain ⟨_, k1⟩ := hC c c0 c1
    rw [f_Layout_columnX_27, if_pos hl, if_pos (by first | decide | omega), if_pos (by unfold r32; omega), if_pos (by unfold r32; omega), if_neg (by first | decide | omega), if_pos (by first | decide | omega), if_pos (by unfold r64; omega), if_pos (by unfold r64; omega)]
    by_cases z : B 2 l 1 c = x
    · rw [if_pos z, if_pos (zcmp_0.mpr z), hX c c0 c1]
    · rw [if_neg z, if_neg (fun q => z (zcmp_0.mp q))]
  have stepM : ∀ (n : Nat) (c : Int), B 2 l 5 b ≤ c → c < B 2 l 5 (b + 1) → f_M_x_117 Km (n + 1) c fst k b y w Fm Bm = if B 2 l 1 c = x then some (X c, Fm, Bm) else f_M_x_117 Km n (c + 1) fst k b y w Fm Bm := fun n c c0 c1 => by
    obtain ⟨⟨k1, k2⟩, k3⟩ := hC c c0 c1
    have nc := nd_r k3.1 k3.2
    rw [f_M_x_117, if_pos w0, if_pos (by first | decide | omega), if_pos y0, k1, k2, e32, e33, if_pos (by unfold r64; omega), if_pos (by unfold r64; omega)]
    by_cases z : B 2 l 1 c = x
    · rw [if_pos z, z, if_pos (zcmp_0.mpr rfl), if_pos (by unfold r64; omega), if_pos (by unfold r64; omega), if_pos (zcmp_0.mpr rfl)]
      exact hM c c0 c1
    · rw [if_neg z]
      by_cases z1 : nu (B 2 l 1 c) = nu x
      · have z2 : ¬ de (B 2 l 1 c) = de x := fun q => z (nd_inj k3.1 x0.1 z1 q)
        rw [if_pos (zcmp_0.mpr z1), if_pos (by unfold r64; omega), if_pos (by unfold r64; omega), if_neg (fun q => z2 (zcmp_0.mp q)), f_M_x_157]
      · rw [if_neg (fun q => z1 (zcmp_0.mp q)), f_M_x_157]
  induction d with
  | zero =>
    intro N N' c hc c0 hN hN'
    obtain ⟨n, rfl⟩ : ∃ m, N = m + 1 := ⟨N - 1, (by first | decide | omega)⟩
    obtain ⟨n', rfl⟩ : ∃ m, N' = m + 1 := ⟨N' - 1, (by first | decide | omega)⟩
    have e : c = J := by omega
    rw [stepC n c c0 (by first | decide | omega), stepM n' c c0 (by first | decide | omega), e, if_pos eJ, if_pos eJ]
    exact ⟨_, rfl, rfl⟩
  | succ d ih =>
    intro N N' c hc c0 hN hN'
    obtain ⟨n, rfl⟩ : ∃ m, N = m + 1 := ⟨N - 1, (by first | decide | omega)⟩
    obtain ⟨n', rfl⟩ : ∃ m, N' = m + 1 := ⟨N' - 1, (by first | decide | omega)⟩
    rw [stepC n c c0 (by first | decide | omega), stepM n' c c0 (by first | decide | omega)]
    by_cases z : B 2 l 1 c = x
    · rw [if_pos z, if_pos z]
      exact ⟨_, rfl, rfl⟩
    · rw [if_neg z, if_neg z]
      exact ih n n' (c + 1) (by first | decide | omega) (by first | decide | omega) (by first | decide | omega) (by first | decide | omega)
theorem e_x {Km : Nat} (a1 a2 a3 : Int) (h1 : r32 a1) (h2 : r32 a2) (h3 : r32 a3) {K : zK} {F Fm : zF} {B Bm : zB} (h : IV cc Km K F B Fm Bm) : zE (f_S_x K 0 a1 a2 a3 F B) (f_M_x Km a1 a2 a3 Fm Bm) F B Fm Bm := by
  have hK := (IV_k h).1
  have hKm := (IV_k h).2.1
  obtain ⟨x, y, e, s, e1, e1', e2, e3, e4⟩ := prtX h h1 h2
  unfold f_S_x f_S_x_46 f_M_x f_M_x_39
  rw [if_pos (IV_12 h), e1, zb_s, e1', zb_s, e2, zb_s, e3, zb_s]
  rcases e4 with ⟨x0, rfl⟩ | ⟨rfl, x0, y0, z0, V, vV, ex, hP, ln, s0, hMK, l8⟩
  · rw [if_pos x0, if_pos (by decide), if_pos rfl]
    exact zE_s rfl
  obtain ⟨_, m, g, hV, _⟩ := hP.2.2 a2 z0.1 vV
  rw [← ex] at hV
  obtain ⟨_, _, _, _, _, _, _, _, c, nw, qn, gb⟩ := hV
  have c0 := nw.1
  have n10 := nw.2.1
  have n13 := nw.2.2.2.1
  have hq := hP.1.1
  have hv : Fm 13 y 7 = F 6 s 7 := hP.2.1.2.2.2.2.2.1.symm
  have nb0 := hP.2.1.2.2.2.2.2.2
  rw [if_neg (show ¬ x < 0 by omega), if_neg (show ¬ s < 0 by omega), if_pos hq, if_pos (show r32 1 by decide), if_neg (show ¬ (1 : Int) = 0 by decide), if_pos h3, if_pos h3]
  by_cases z3 : a3 < 0
  · rw [if_pos z3, if_pos z3]
    by_cases z8 : F 6 s 8 < 0
    · rw [if_pos z8]; exact zE_s rfl
    · rw [if_neg z8]; exact zE_s rfl
  rw [if_neg z3, if_neg z3, if_pos x0, n10, if_pos (show r32 c by unfold r32; omega), if_pos y0, if_pos z0, n13, if_pos (show r32 c by unfold r32; omega)]
  by_cases zc : c ≤ a3
  · rw [if_pos zc, if_neg (show ¬ a3 < c by omega)]
    by_cases z8 : F 6 s 8 < 0
    · rw [if_pos z8]; exact zE_s rfl
    · rw [if_neg z8]; exact zE_s rfl
  rw [if_neg zc, if_pos (show a3 < c by omega), if_pos (show 0 ≤ a3 ∧ a3 < 800 by omega)]
  obtain ⟨k0, k1, k9, k4, k5, _⟩ := nw.2.2.2.2 a3 (by first | decide | omega) (by first | decide | omega)
  have yb : 0 ≤ 800 * a2 + a3 ∧ 800 * a2 + a3 < 3200 := by omega
  have rdn := rd_n (y := 800 * a2 + a3) (PK_r hP) z0.1 vV (by first | decide | omega) (by rw [n13]; omega)
  rcases (ln s0).2.2.2 with ⟨y1, y2⟩ | ⟨y1, y2⟩
  · -- no lines
    rw [y1, if_pos (show r32 0 by decide), if_pos (show (0 : Int) = 0 from rfl)]
    by_cases z8 : F 6 s 8 < 0
    · rw [if_pos z8]; exact zE_s rfl
    · have hl : 0 ≤ F 6 s 8 ∧ F 6 s 8 < K.2 2 := ⟨(by first | decide | omega), l8⟩
      unfold f_Layout_columnX f_Layout_columnX_17
      rw [if_neg z8, if_pos hl, if_pos hl, y2 hl.1, if_pos (by decide), if_pos rfl, zb_s]
      exact zE_s rfl
  have hl : 0 ≤ F 6 s 8 ∧ F 6 s 8 < K.2 2 := ⟨y1, l8⟩
  generalize hlv : F 6 s 8 = l at *
  obtain ⟨⟨u1, u2, u3⟩, ⟨u4, u5⟩, u6, u7, u8, u9⟩ := y2
  have hS := u2
  obtain ⟨s1, s2, s3, s4⟩ := u2
  generalize hn : F 2 l 0 = n at *
  generalize hb : B 4 x 361 a3 = b at *
  generalize hx : B 4 x 9 a3 = pl at *
  have bb : 0 ≤ b ∧ b < F 6 s 7 := by
    rw [← k1.1, hv] at rdn
    exact rdn.2.1
  have t4 := s4 b bb.1 bb.2
  -- its column
  obtain ⟨J, j0, j1, j2, j3⟩ := hMK.2.1.1.2 a2 (800 * a2 + a3) z0.1 vV (by first | decide | omega) (by rw [n13]; omega) (by first | decide | omega) (by rw [hv]; omega)
  rw [← k1.1, u7 b (by first | decide | omega) (by first | decide | omega)] at j0
  rw [← k1.1, u7 (b + 1) (by first | decide | omega) (by first | decide | omega)] at j1
  have cj := u8 b J bb.1 bb.2 j0 j1
  have eJ : B 2 l 1 J = pl := nd_inj cj.2.2.1 k9.1 (by rw [← cj.1.1, j2]; exact k9.2.2.1) (by rw [← cj.1.2, j3]; exact k9.2.2.2)
  unfold f_Layout_columnX
  rw [if_neg (show ¬ l < 0 by omega), if_pos hl, if_pos hl, hn, if_pos (show r32 n by unfold r32; omega), if_neg (show ¬ n = 0 by omega), if_pos (show r32 b by unfold r32; omega), if_neg (show ¬ b < 0 by omega), if_pos (show b < 100 by omega), if_pos (show 0 ≤ b ∧ b < 101 by omega), ← u1, if_pos (show r32 n by unfold r32; omega), if_neg (show ¬ n = 0 by omega), if_pos yb, ← k1.1]
  -- its line
  have f2 : -7 ≤ Fm 13 y 2 ∧ Fm 13 y 2 ≤ 7 := by have := hP.2.1.1; omega
  have key : ∀ (d N : Nat) (k : Int), k + d = n - 1 → 0 ≤ k → d < N → B 2 l 7 k ≤ b → ∃ r, zbind (f_Layout_columnX_27 K K.1 (B 2 l 5 b) l b pl F B) (fun r15 F15 B15 => some (r15, F15, B15)) = some (r, F, B) ∧ f_M_x_63 Km N k b (800 * a2 + a3) y Fm Bm = some (r, Fm, Bm) := by
    have stop : ∀ (N : Nat) (k : Int), 0 ≤ k → k < n → B 2 l 7 k ≤ b → b < B 2 l 7 (k + 1) → ∃ r, zbind (f_Layout_columnX_27 K K.1 (B 2 l 5 b) l b pl F B) (fun r15 F15 B15 => some (r15, F15, B15)) = some (r, F, B) ∧ f_M_x_63 Km (N + 1) k b (800 * a2 + a3) y Fm Bm = some (r, Fm, Bm) := by
      intro N k k0' k1' l0 l1
      obtain ⟨q1, q2, q3, q4⟩ := u6 k k0' k1'
      obtain ⟨r1, r2, r3, r4, r5⟩ := s3 k k0' k1'
      have m1 : B 2 l 5 (B 2 l 7 k) ≤ B 2 l 5 b := LYs_m hS r1 l0 (by first | decide | omega)
      have m2 : B 2 l 5 (b + 1) ≤ B 2 l 5 (B 2 l 7 (k + 1)) := LYs_m hS (by first | decide | omega) (by first | decide | omega) r3
      have m0 := s4 (B 2 l 7 k) r1 (by first | decide | omega)
      have m3 : B 2 l 5 (B 2 l 7 (k + 1)) ≤ 3200 := by
        have := (s4 (B 2 l 7 (k + 1) - 1) (by first | decide | omega) (by first | decide | omega)).2.2
        rw [show B 2 l 7 (k + 1) - 1 + 1 = B 2 l 7 (k + 1) by omega] at this
        exact this
      have w7 := u7 (B 2 l 7 k) r1 (by first | decide | omega)
      have w7' := u7 (B 2 l 7 (k + 1)) (by first | decide | omega) r3
      have cols : f_M_lineColumns Km y k Fm Bm = some (B 2 l 5 (B 2 l 7 (k + 1)) - B 2 l 5 (B 2 l 7 k), Fm, Bm) := by
        unfold f_M_lineColumns
        rw [if_pos y0, if_pos (by first | decide | omega), ← q2, ← q1, if_pos (by first | decide | omega), if_pos (by first | decide | omega), w7, w7']
      have hr47 : r32 (Fm 13 y 47) := by
        rcases (ln s0).1 with zz | zz
        · omega
        · exact zz.2.1
      have hM : ∀ c, B 2 l 5 b ≤ c → c < B 2 l 5 (b + 1) → (if 0 ≤ k ∧ k < 100 then zbind (f_M_ahead Km y (Bm 13 y 49 k) Fm Bm) (fun r31 F31 B31 => f_M_x_199 Km Km (B 2 l 5 (B 2 l 7 k)) (r31 + (6 * ((b - (B31 13 y 49 k)) + 1))) c (B 2 l 5 (B 2 l 7 k)) k y F31 B31) else none) = some (xV (F 6 s 2) (Fm 13 y 47) n l k b c B, Fm, Bm) := fun c' c0' c1' => by
        rw [if_pos (by first | decide | omega), ← q1, L_ahdX y0 f2 (by unfold r32; omega), zb_s, ← q1, L_x199X (K := Km) (w := y) (fst := B 2 l 5 (B 2 l 7 k)) (k := k) (c := c') (n := n) (wd := Fm 13 y 47) (lw := B 2 l 8 k) (cols := B 2 l 5 (B 2 l 7 (k + 1)) - B 2 l 5 (B 2 l 7 k)) y0 (by first | decide | omega) rfl u1.symm q3.symm hr47 r4 (by first | decide | omega) cols (by first | decide | omega) (by first | decide | omega) (c' - B 2 l 5 (B 2 l 7 k)).toNat Km (B 2 l 5 (B 2 l 7 k)) _ (by first | decide | omega) m0.1 (by first | decide | omega)]
        rw [smR_c (f := fun c => B 2 l 2 c) (f' := fun j => Bm 13 y 45 j) _ (B 2 l 5 (B 2 l 7 k)) (fun j jj0 jj1 => by
          -- the bar of column j
          obtain ⟨t, tt0, tt1, tt2, tt3⟩ := bar_of hS (j := j) (a := B 2 l 7 k) (e := b + 1) r1 (by first | decide | omega) (by first | decide | omega) (by first | decide | omega) (by first | decide | omega)
          exact (u8 t j (by first | decide | omega) (by first | decide | omega) tt2 tt3).2.1)]
        have zm : zmax (B 2 l 5 (B 2 l 7 (k + 1)) - B 2 l 5 (B 2 l 7 k)) 1 = B 2 l 5 (B 2 l 7 (k + 1)) - B 2 l 5 (B 2 l 7 k) := by unfold zmax; rw [if_neg (by first | decide | omega)]
        unfold xV
        rw [zm, ← hP.2.1.1.1]
        by_cases z1 : n ≤ k + 1
        · rw [if_pos (Or.inr z1), if_pos z1, Int.zero_mul, zdv_0 (by first | decide | omega) (by unfold r32; omega)]
        · by_cases z2 : Fm 13 y 47 ≤ B 2 l 8 k
          · rw [if_pos (Or.inl z2), if_neg z1, show zmax (Fm 13 y 47 - B 2 l 8 k) 0 = 0 by unfold zmax; split <;> omega, Int.zero_mul, zdv_0 (by first | decide | omega) (by unfold r32; omega)]
          · rw [if_neg (by first | decide | omega), if_neg z1, show zmax (Fm 13 y 47 - B 2 l 8 k) 0 = Fm 13 y 47 - B 2 l 8 k by unfold zmax; rw [if_neg (by first | decide | omega)]]
      obtain ⟨r, g1, g2⟩ := P_col (K := K) (Km := Km) (l := l) (w := y) (b := b) (x := pl) (y := 800 * a2 + a3) (k := k) (fst := B 2 l 5 (B 2 l 7 k)) (nb := F 6 s 7) (F := F) (B := B) (Fm := Fm) (Bm := Bm) (X := fun c => xV (F 6 s 2) (Fm 13 y 47) n l k b c B) hl y0 (by first | decide | omega) yb ⟨k9.1, k9.2.1⟩ k9.2.2.1 k9.2.2.2 ⟨t4.1, t4.2.2⟩ (fun c' c0' c1' => ⟨(u8 b c' bb.1 bb.2 c0' c1').1, (u8 b c' bb.1 bb.2 c0' c1').2.2⟩) (fun c' c0' c1' => u9 k b c' k0' k1' l0 l1 c0' c1') hM ⟨j0, j1⟩ eJ (J - B 2 l 5 b).toNat K.1 Km (B 2 l 5 b) (by first | decide | omega) (Int.le_refl _) (by first | decide | omega) (by first | decide | omega)
      refine ⟨r, by rw [g1, zb_s], ?_⟩
      rw [f_M_x_63, if_pos y0, if_pos (by first | decide | omega), ← q2, if_pos (by unfold r32; omega), if_pos (by unfold r32; omega), if_pos l1, ← q1, if_pos (by first | decide | omega), if_pos (by first | decide | omega), w7, u7 b (by first | decide | omega) (by first | decide | omega)]
      exact g2
    intro d
    induction d with
    | zero =>
      intro N k hk k0' hN l0
      obtain ⟨N, rfl⟩ : ∃ m, N = m + 1 := ⟨N - 1, (by first | decide | omega)⟩
      refine stop N k k0' (by first | decide | omega) l0 ?_
      rw [show k + 1 = n by omega, u5]
      exact bb.2
    | succ d ih =>
      intro N k hk k0' hN l0
      obtain ⟨N, rfl⟩ : ∃ m, N = m + 1 := ⟨N - 1, (by first | decide | omega)⟩
      by_cases z : b < B 2 l 7 (k + 1)
      · exact stop N k k0' (by first | decide | omega) l0 z
      · obtain ⟨r, g1, g2⟩ := ih N (k + 1) (by first | decide | omega) (by first | decide | omega) (by first | decide | omega) (by first | decide | omega)
        obtain ⟨q1, q2, q3, q4⟩ := u6 k k0' (by first | decide | omega)
        obtain ⟨r1, r2, r3, r4, r5⟩ := s3 k k0' (by first | decide | omega)
        refine ⟨r, g1, ?_⟩
        rw [f_M_x_63, if_pos y0, if_pos (by first | decide | omega), ← q2, if_pos (by unfold r32; omega), if_pos (by unfold r32; omega), if_neg z]
        exact g2
  exact key (n - 1).toNat Km 0 (by first | decide | omega) (by decide) (by first | decide | omega) (by first | decide | omega)
theorem q_x {Km : Nat} (a1 a2 a3 : Int) (h1 : r32 a1) (h2 : r32 a2) (h3 : r32 a3) {K : zK} {F Fm : zF} {B Bm : zB} (h : IV cc Km K F B Fm Bm) : ∃ r1 F1 B1 r2 F2 B2, f_S_x K 0 a1 a2 a3 F B = some (r1, F1, B1) ∧ f_M_x Km a1 a2 a3 Fm Bm = some (r2, F2, B2) ∧ IV cc Km K F1 B1 F2 B2 ∧ r1 = r2 := by
  obtain ⟨r1, F1, B1, r2, F2, B2, x1, x2, hI⟩ := p_x a1 a2 a3 h1 h2 h3 h
  obtain ⟨r, y1, y2⟩ := e_x a1 a2 a3 h1 h2 h3 h
  exact ⟨r1, F1, B1, r2, F2, B2, x1, x2, hI, (sm3 x1 y1).trans (sm3 x2 y2).symm⟩
end
end
