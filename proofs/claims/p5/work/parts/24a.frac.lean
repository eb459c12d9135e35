section
section
/-! ===== the reference's fractions are the class's places ===== -/
theorem lI_n0 {b : Int} (hb : 0 < b) (h : r64 b) : ¬ lI b = 0 := by
  intro z
  have e : (lI b).toInt = b := lI_to h
  rw [z] at e
  have : (0 : Int64).toInt = 0 := by decide
  omega
theorem zldv_e {a b : Int} (h0 : 0 ≤ a) (ha : a < 9223372036854775808) (hb : 0 < b) (hb2 : b < 9223372036854775808) : zldv a b = a / b := by
  have ra : r64 a := ⟨by omega, ha⟩
  have rb : r64 b := ⟨by omega, hb2⟩
  have hq : a / b ≤ a := Int.ediv_le_self b h0
  have hq0 : 0 ≤ a / b := Int.ediv_nonneg h0 (by omega)
  unfold zldv
  rw [Int64.toInt_div, lI_to ra, lI_to rb, Int.tdiv_eq_ediv_of_nonneg h0]
  rw [Int.bmod_eq_of_le] <;> omega
theorem zlrm_e {a b : Int} (h0 : 0 ≤ a) (ha : a < 9223372036854775808) (hb : 0 < b) (hb2 : b < 9223372036854775808) : zlrm a b = a % b := by
  have ra : r64 a := ⟨by omega, ha⟩
  have rb : r64 b := ⟨by omega, hb2⟩
  have hm0 : 0 ≤ a % b := Int.emod_nonneg a (by omega)
  have hm1 : a % b < b := Int.emod_lt_of_pos a hb
  have hd : lI a / lI b = lI (a / b) := by
    have e := zldv_e h0 ha hb hb2
    unfold zldv at e
    rw [← e, lI_of]
  unfold zlrm
  rw [hd, lI_mul, lI_sub, show a - a / b * b = a % b by rw [Int.emod_def, Int.mul_comm]]
  exact lI_to ⟨by omega, by omega⟩
noncomputable def gc (a b : Int) : Int := (Nat.gcd a.toNat b.toNat : Int)
theorem gc_pos {a b : Int} (hb : 0 < b) : 0 < gc a b := by
  unfold gc
  have := Nat.gcd_pos_of_pos_right a.toNat (show 0 < b.toNat by omega)
  omega
theorem gc_dl {a b : Int} (ha : 0 ≤ a) : ∃ x, a = gc a b * x := by
  obtain ⟨x, hx⟩ := Nat.gcd_dvd_left a.toNat b.toNat
  exact ⟨x, by unfold gc; omega⟩
theorem gc_dr {a b : Int} (hb : 0 ≤ b) : ∃ x, b = gc a b * x := by
  obtain ⟨x, hx⟩ := Nat.gcd_dvd_right a.toNat b.toNat
  exact ⟨x, by unfold gc; omega⟩
theorem gc_le {a b : Int} (hb : 0 < b) : gc a b ≤ b := by
  unfold gc
  have := Nat.gcd_le_right a.toNat (show 0 < b.toNat by omega)
  omega
theorem L_gcd6 {K : Nat} {F : zF} {B : zB} : ∀ {n : Nat} {x y : Int}, 0 ≤ x → x < 9223372036854775808 → 0 ≤ y → y < 9223372036854775808 → y < n → f_M_gcd_6 K n y x F B = some (gc x y, F, B) := by
  intro n
  induction n with
  | zero => intro x y _ _ _ _ h; omega
  | succ n ih =>
    intro x y x0 x1 y0 y1 h
    unfold f_M_gcd_6
    rw [if_pos (by omega)]
    by_cases e : y = 0
    · rw [if_pos (zcmp_0.mpr e), e]
      unfold gc
      rw [show (0 : Int).toNat = 0 from rfl, Nat.gcd_zero_right]
      rw [show ((x.toNat : Nat) : Int) = x by omega]
    · rw [if_neg (fun z => e (zcmp_0.mp z)), if_pos (lI_n0 (by omega) (by omega)), zlrm_e x0 x1 (by omega) y1]
      have m0 : 0 ≤ x % y := Int.emod_nonneg x e
      have m1 : x % y < y := Int.emod_lt_of_pos x (by omega)
      rw [ih (by omega) (by omega) m0 (by omega) (by omega)]
      have g : gc y (x % y) = gc x y := by
        unfold gc
        have e2 : (x % y).toNat = x.toNat % y.toNat := by
          apply Int.ofNat_inj.mp
          rw [Int.natCast_emod, show ((x.toNat : Nat) : Int) = x by omega, show ((y.toNat : Nat) : Int) = y by omega]
          omega
        rw [e2, Nat.gcd_comm y.toNat, ← Nat.gcd_rec, Nat.gcd_comm]
      rw [g]
theorem L_gcd {K : Nat} {F : zF} {B : zB} {x y : Int} (x0 : 0 ≤ x) (x1 : x < 9223372036854775808) (y0 : 0 ≤ y) (y1 : y < 9223372036854775808) (h : y < K) : f_M_gcd K x y F B = some (gc x y, F, B) := L_gcd6 x0 x1 y0 y1 h
theorem L_is {K : Nat} {F : zF} {B : zB} {u d : Int} (u0 : 0 ≤ u) (u1 : u < 9223372036854775808) (d0 : 0 < d) (d1 : d < 9223372036854775808) (h : d < K) : f_M_is K u d F B = some (0, zup3 (zup3 F 14 0 0 (u / gc u d)) 14 0 1 (d / gc u d), B) := by
  have g := gc_pos (a := u) d0
  have gl := gc_le (a := u) d0
  unfold f_M_is
  rw [L_gcd u0 u1 (by omega) d1 h]
  simp only [zb_s]
  rw [if_pos (lI_n0 g (by omega)), zldv_e u0 u1 g (by omega), zldv_e (by omega) d1 g (by omega)]
/-- a fraction u/d that is the place p of W: reduced it is p's -/
theorem red_u {W p u d : Int} (hW : 0 < W) (p0 : 0 ≤ p) (u0 : 0 ≤ u) (d0 : 0 < d) (h : u * W = p * d) : u / gc u d = p / gc p W ∧ d / gc u d = W / gc p W := by
  have g1 := gc_pos (a := u) d0
  have g2 := gc_pos (a := p) hW
  have key : W * gc u d = d * gc p W := by
    have n : Nat.gcd (W.toNat * u.toNat) (W.toNat * d.toNat) = Nat.gcd (d.toNat * p.toNat) (d.toNat * W.toNat) := by
      have e1 : W.toNat * u.toNat = d.toNat * p.toNat := by
        apply Int.ofNat_inj.mp
        rw [Int.natCast_mul, Int.natCast_mul, show ((W.toNat : Nat) : Int) = W by omega, show ((u.toNat : Nat) : Int) = u by omega, show ((d.toNat : Nat) : Int) = d by omega, show ((p.toNat : Nat) : Int) = p by omega, Int.mul_comm W u, h, Int.mul_comm]
      rw [e1, Nat.mul_comm W.toNat d.toNat]
    rw [Nat.gcd_mul_left, Nat.gcd_mul_left] at n
    have n' : ((W.toNat * Nat.gcd u.toNat d.toNat : Nat) : Int) = ((d.toNat * Nat.gcd p.toNat W.toNat : Nat) : Int) := by rw [n]
    rw [Int.natCast_mul, Int.natCast_mul, show ((W.toNat : Nat) : Int) = W by omega, show ((d.toNat : Nat) : Int) = d by omega] at n'
    exact n'
  obtain ⟨u', hu⟩ := gc_dl (a := u) (b := d) u0
  obtain ⟨d', hd⟩ := gc_dr (a := u) (b := d) (Int.le_of_lt d0)
  obtain ⟨p', hp⟩ := gc_dl (a := p) (b := W) p0
  obtain ⟨W', hw⟩ := gc_dr (a := p) (b := W) (Int.le_of_lt hW)
  generalize gc u d = a at *
  generalize gc p W = b at *
  have ab : 0 < a * b := Int.mul_pos g1 g2
  have e1 : d' = W' := by
    apply Int.eq_of_mul_eq_mul_left (Int.ne_of_gt ab)
    calc a * b * d' = (a * d') * b := by rw [Int.mul_assoc, Int.mul_comm b d', ← Int.mul_assoc]
      _ = d * b := by rw [← hd]
      _ = W * a := key.symm
      _ = (b * W') * a := by rw [← hw]
      _ = a * b * W' := by rw [Int.mul_comm, ← Int.mul_assoc]
  have Wp : 0 < W' := by
    rcases Int.lt_or_le 0 W' with z | z
    · exact z
    · have := Int.mul_nonpos_of_nonneg_of_nonpos (Int.le_of_lt g2) z
      omega
  have e2 : u' = p' := by
    have h2 : (a * u') * (b * W') = (b * p') * (a * d') := by rw [← hu, ← hw, ← hp, ← hd]; exact h
    rw [e1] at h2
    apply Int.eq_of_mul_eq_mul_left (Int.ne_of_gt (Int.mul_pos ab Wp))
    calc a * b * W' * u' = (a * u') * (b * W') := by ac_rfl
      _ = (b * p') * (a * W') := h2
      _ = a * b * W' * p' := by ac_rfl
  refine ⟨?_, ?_⟩
  · rw [hu, hp, Int.mul_ediv_cancel_left _ (Int.ne_of_gt g1), Int.mul_ediv_cancel_left _ (Int.ne_of_gt g2), e2]
  · rw [hd, hw, Int.mul_ediv_cancel_left _ (Int.ne_of_gt g1), Int.mul_ediv_cancel_left _ (Int.ne_of_gt g2), e1]
end
end
section
section
/-! ===== sums, differences, comparisons of fractions as places ===== -/
noncomputable def WW : Int := 812851200
noncomputable def nu (p : Int) : Int := p / gc p WW
noncomputable def de (p : Int) : Int := WW / gc p WW
/-- a/b is the place p; b goes into a whole -/
noncomputable def FR (a b p : Int) : Prop := 0 < b ∧ (∃ x, WW = b * x) ∧ 0 ≤ a ∧ a * WW = p * b
theorem FR_r {p : Int} (h : 0 ≤ p) : FR (nu p) (de p) p := by
  have hW : (0 : Int) < WW := by decide
  have g := gc_pos (a := p) hW
  obtain ⟨p', hp⟩ := gc_dl (a := p) (b := WW) h
  obtain ⟨W', hw⟩ := gc_dr (a := p) (b := WW) (Int.le_of_lt hW)
  have e1 : nu p = p' := by unfold nu; rw [show p / gc p WW = gc p WW * p' / gc p WW by rw [← hp], Int.mul_ediv_cancel_left _ (Int.ne_of_gt g)]
  have e2 : de p = W' := by unfold de; rw [show WW / gc p WW = gc p WW * W' / gc p WW by rw [← hw], Int.mul_ediv_cancel_left _ (Int.ne_of_gt g)]
  have Wp : 0 < W' := by
    rcases Int.lt_or_le 0 W' with z | z
    · exact z
    · have := Int.mul_nonpos_of_nonneg_of_nonpos (Int.le_of_lt g) z
      omega
  have pp : 0 ≤ p' := by
    rcases Int.lt_or_le p' 0 with z | z
    · have := Int.mul_neg_of_pos_of_neg g z
      omega
    · exact z
  refine ⟨by rw [e2]; exact Wp, ⟨gc p WW, by rw [e2, Int.mul_comm]; exact hw⟩, by rw [e1]; exact pp, ?_⟩
  rw [e1, e2]
  calc p' * WW = p' * (gc p WW * W') := by rw [← hw]
    _ = (gc p WW * p') * W' := by ac_rfl
    _ = p * W' := by rw [← hp]
theorem FR_b {a b p : Int} (h : FR a b p) : b ≤ WW ∧ 0 ≤ p ∧ a ≤ p := by
  obtain ⟨b0, ⟨x, hx⟩, a0, e⟩ := h
  have hW : (0 : Int) < WW := by decide
  have x0 : 0 < x := by
    rcases Int.lt_or_le 0 x with z | z
    · exact z
    · have := Int.mul_nonpos_of_nonneg_of_nonpos (Int.le_of_lt b0) z
      omega
  have bW : b ≤ WW := by
    have := Int.mul_le_mul_of_nonneg_left (show (1 : Int) ≤ x by omega) (Int.le_of_lt b0)
    omega
  have p0 : 0 ≤ p := by
    rcases Int.lt_or_le p 0 with z | z
    · have h1 := Int.mul_neg_of_neg_of_pos z b0
      have h2 := Int.mul_nonneg a0 (Int.le_of_lt hW)
      omega
    · exact z
  refine ⟨bW, p0, ?_⟩
  have h1 : a * WW ≤ p * WW := by rw [e]; exact Int.mul_le_mul_of_nonneg_left bW p0
  exact Int.le_of_mul_le_mul_right h1 hW
/-- the common denominator of two such fractions -/
theorem lc_of {b d : Int} (hb : 0 < b) (hd : 0 < d) (xb : ∃ x, WW = b * x) (xd : ∃ x, WW = d * x) : 0 < gc b d ∧ gc b d ≤ d ∧ 0 ≤ d / gc b d ∧ 0 < b / gc b d ∧ b / gc b d * d = b * (d / gc b d) ∧ 0 < b / gc b d * d ∧ (∃ x, WW = b / gc b d * d * x) ∧ b / gc b d ≤ b ∧ d / gc b d ≤ d := by
  have hW : (0 : Int) < WW := by decide
  have g := gc_pos (a := b) hd
  have gl := gc_le (a := b) hd
  obtain ⟨b', eb⟩ := gc_dl (a := b) (b := d) (Int.le_of_lt hb)
  obtain ⟨d', ed⟩ := gc_dr (a := b) (b := d) (Int.le_of_lt hd)
  have q1 : b / gc b d = b' := by rw [show b / gc b d = gc b d * b' / gc b d by rw [← eb], Int.mul_ediv_cancel_left _ (Int.ne_of_gt g)]
  have q2 : d / gc b d = d' := by rw [show d / gc b d = gc b d * d' / gc b d by rw [← ed], Int.mul_ediv_cancel_left _ (Int.ne_of_gt g)]
  have b0 : 0 < b' := by
    rcases Int.lt_or_le 0 b' with z | z
    · exact z
    · have := Int.mul_nonpos_of_nonneg_of_nonpos (Int.le_of_lt g) z
      omega
  have d0 : 0 < d' := by
    rcases Int.lt_or_le 0 d' with z | z
    · exact z
    · have := Int.mul_nonpos_of_nonneg_of_nonpos (Int.le_of_lt g) z
      omega
  have l1 : b' ≤ b := by
    have := Int.mul_le_mul_of_nonneg_right (show (1 : Int) ≤ gc b d by omega) (Int.le_of_lt b0)
    omega
  have l2 : d' ≤ d := by
    have := Int.mul_le_mul_of_nonneg_right (show (1 : Int) ≤ gc b d by omega) (Int.le_of_lt d0)
    omega
  have lcm : ∃ x, WW = b' * d * x := by
    obtain ⟨x, hx⟩ := xb
    obtain ⟨y, hy⟩ := xd
    have hx0 : 0 < x := by
      rcases Int.lt_or_le 0 x with z | z
      · exact z
      · have := Int.mul_nonpos_of_nonneg_of_nonpos (Int.le_of_lt hb) z
        omega
    have hy0 : 0 < y := by
      rcases Int.lt_or_le 0 y with z | z
      · exact z
      · have := Int.mul_nonpos_of_nonneg_of_nonpos (Int.le_of_lt hd) z
        omega
    have n1 : b.toNat ∣ WW.toNat := ⟨x.toNat, by
      apply Int.ofNat_inj.mp
      rw [Int.natCast_mul, show ((b.toNat : Nat) : Int) = b by omega, show ((x.toNat : Nat) : Int) = x by omega, ← hx]; rfl⟩
    have n2 : d.toNat ∣ WW.toNat := ⟨y.toNat, by
      apply Int.ofNat_inj.mp
      rw [Int.natCast_mul, show ((d.toNat : Nat) : Int) = d by omega, show ((y.toNat : Nat) : Int) = y by omega, ← hy]; rfl⟩
    obtain ⟨z, hz⟩ := Nat.lcm_dvd n1 n2
    refine ⟨z, ?_⟩
    have e : ((Nat.lcm b.toNat d.toNat : Nat) : Int) = b' * d := by
      have gn : Nat.gcd b.toNat d.toNat * b'.toNat = b.toNat := by
        apply Int.ofNat_inj.mp
        rw [Int.natCast_mul, show ((b'.toNat : Nat) : Int) = b' by omega]
        show gc b d * b' = _
        omega
      have gp : 0 < Nat.gcd b.toNat d.toNat := Nat.gcd_pos_of_pos_right _ (by omega)
      have l : Nat.lcm b.toNat d.toNat = b'.toNat * d.toNat := by
        show b.toNat * d.toNat / Nat.gcd b.toNat d.toNat = _
        rw [show b.toNat * d.toNat = Nat.gcd b.toNat d.toNat * (b'.toNat * d.toNat) by rw [← Nat.mul_assoc, gn]]
        exact Nat.mul_div_cancel_left _ gp
      rw [l, Int.natCast_mul, show ((b'.toNat : Nat) : Int) = b' by omega, show ((d.toNat : Nat) : Int) = d by omega]
    rw [← e, ← Int.natCast_mul, ← hz]
    rfl
  rw [q1, q2]
  refine ⟨g, gl, Int.le_of_lt d0, b0, ?_, Int.mul_pos b0 hd, lcm, l1, l2⟩
  calc b' * d = b' * (gc b d * d') := by rw [← ed]
    _ = (gc b d * b') * d' := by ac_rfl
    _ = b * d' := by rw [← eb]
noncomputable def fr (F : zF) (p : Int) : zF := zup3 (zup3 F 14 0 0 (nu p)) 14 0 1 (de p)
theorem dv_le {l x : Int} (hl : 0 < l) (h : WW = l * x) : l ≤ WW := by
  have hW : (0 : Int) < WW := by decide
  have x0 : 0 < x := by
    rcases Int.lt_or_le 0 x with z | z
    · exact z
    · have := Int.mul_nonpos_of_nonneg_of_nonpos (Int.le_of_lt hl) z
      omega
  have := Int.mul_le_mul_of_nonneg_left (show (1 : Int) ≤ x by omega) (Int.le_of_lt hl)
  omega
theorem L_isR {K : Nat} {F : zF} {B : zB} {u d p : Int} (hK : 812851200 < K) (h : FR u d p) (hp : p < 4611686018427387904) : f_M_is K u d F B = some (0, fr F p, B) := by
  have b := FR_b h
  obtain ⟨d0, x, u0, e⟩ := h
  have hw : WW = 812851200 := rfl
  rw [L_is u0 (by omega) d0 (by omega) (by omega)]
  obtain ⟨r1, r2⟩ := red_u (W := WW) (by decide) b.2.1 u0 d0 e
  rw [r1, r2]
  rfl
theorem L_plusR {K : Nat} {F : zF} {B : zB} {a b c d p q : Int} (hK : 812851200 < K) (h : FR a b p) (h' : FR c d q) (hp : p + q < 4611686018427387904) : f_M_plus K a b c d F B = some (0, fr F (p + q), B) := by
  have hb := FR_b h
  have hd := FR_b h'
  obtain ⟨b0, xb, a0, e⟩ := h
  obtain ⟨d0, xd, c0, e'⟩ := h'
  obtain ⟨g0, gl, i1, i2, i3, i4, i5, i6, i7⟩ := lc_of b0 d0 xb xd
  have hw : WW = 812851200 := rfl
  unfold f_M_plus
  rw [L_gcd (by omega) (by omega) (by omega) (by omega) (by omega)]
  simp only [zb_s]
  rw [if_pos (lI_n0 g0 (by omega)), zldv_e (by omega) (by omega) g0 (by omega), zldv_e (by omega) (by omega) g0 (by omega)]
  have f : FR (a * (d / gc b d) + c * (b / gc b d)) (b / gc b d * d) (p + q) := by
    refine ⟨i4, i5, ?_, ?_⟩
    · have := Int.mul_nonneg a0 i1
      have := Int.mul_nonneg c0 (Int.le_of_lt i2)
      omega
    · rw [Int.add_mul, Int.add_mul]
      have s1 : a * (d / gc b d) * WW = p * (b / gc b d * d) := by
        calc a * (d / gc b d) * WW = (a * WW) * (d / gc b d) := by ac_rfl
          _ = p * b * (d / gc b d) := by rw [e]
          _ = p * (b * (d / gc b d)) := by ac_rfl
          _ = p * (b / gc b d * d) := by rw [i3]
      have s2 : c * (b / gc b d) * WW = q * (b / gc b d * d) := by
        calc c * (b / gc b d) * WW = (c * WW) * (b / gc b d) := by ac_rfl
          _ = q * d * (b / gc b d) := by rw [e']
          _ = q * (b / gc b d * d) := by ac_rfl
      rw [s1, s2]
  rw [L_isR hK f hp]
  rfl
theorem L_minusR {K : Nat} {F : zF} {B : zB} {a b c d p q : Int} (hK : 812851200 < K) (h : FR a b p) (h' : FR c d q) (hq : q ≤ p) (hp : p < 4611686018427387904) : f_M_minus K a b c d F B = some (0, fr F (p - q), B) := by
  have hb := FR_b h
  have hd := FR_b h'
  obtain ⟨b0, xb, a0, e⟩ := h
  obtain ⟨d0, xd, c0, e'⟩ := h'
  obtain ⟨g0, gl, i1, i2, i3, i4, i5, i6, i7⟩ := lc_of b0 d0 xb xd
  have hw : WW = 812851200 := rfl
  have hW : (0 : Int) < WW := by decide
  unfold f_M_minus
  rw [L_gcd (by omega) (by omega) (by omega) (by omega) (by omega)]
  simp only [zb_s]
  rw [if_pos (lI_n0 g0 (by omega)), zldv_e (by omega) (by omega) g0 (by omega), zldv_e (by omega) (by omega) g0 (by omega)]
  have s1 : a * (d / gc b d) * WW = p * (b / gc b d * d) := by
    calc a * (d / gc b d) * WW = (a * WW) * (d / gc b d) := by ac_rfl
      _ = p * b * (d / gc b d) := by rw [e]
      _ = p * (b * (d / gc b d)) := by ac_rfl
      _ = p * (b / gc b d * d) := by rw [i3]
  have s2 : c * (b / gc b d) * WW = q * (b / gc b d * d) := by
    calc c * (b / gc b d) * WW = (c * WW) * (b / gc b d) := by ac_rfl
      _ = q * d * (b / gc b d) := by rw [e']
      _ = q * (b / gc b d * d) := by ac_rfl
  have f : FR (a * (d / gc b d) - c * (b / gc b d)) (b / gc b d * d) (p - q) := by
    refine ⟨i4, i5, ?_, ?_⟩
    · have le : c * (b / gc b d) * WW ≤ a * (d / gc b d) * WW := by
        rw [s1, s2]; exact Int.mul_le_mul_of_nonneg_right hq (Int.le_of_lt i4)
      have := Int.le_of_mul_le_mul_right le hW
      omega
    · rw [Int.sub_mul, Int.sub_mul, s1, s2]
  rw [L_isR hK f (by omega)]
  rfl
theorem L_cmpR {K : Nat} {F : zF} {B : zB} {a b c d p q : Int} (hK : 812851200 < K) (h : FR a b p) (h' : FR c d q) (hp : p < 4611686018427387904) (hq : q < 4611686018427387904) : f_M_compare K a b c d F B = some (if p < q then -1 else if p = q then 0 else 1, F, B) := by
  have hb := FR_b h
  have hd := FR_b h'
  obtain ⟨b0, xb, a0, e⟩ := h
  obtain ⟨d0, xd, c0, e'⟩ := h'
  obtain ⟨g0, gl, i1, i2, i3, i4, ⟨lx, hlx⟩, i6, i7⟩ := lc_of b0 d0 xb xd
  have hw : WW = 812851200 := rfl
  have hW : (0 : Int) < WW := by decide
  have ll := dv_le i4 hlx
  have s1 : a * (d / gc b d) * WW = p * (b / gc b d * d) := by
    calc a * (d / gc b d) * WW = (a * WW) * (d / gc b d) := by ac_rfl
      _ = p * b * (d / gc b d) := by rw [e]
      _ = p * (b * (d / gc b d)) := by ac_rfl
      _ = p * (b / gc b d * d) := by rw [i3]
  have s2 : c * (b / gc b d) * WW = q * (b / gc b d * d) := by
    calc c * (b / gc b d) * WW = (c * WW) * (b / gc b d) := by ac_rfl
      _ = q * d * (b / gc b d) := by rw [e']
      _ = q * (b / gc b d * d) := by ac_rfl
  have x0 := Int.mul_nonneg a0 i1
  have y0 := Int.mul_nonneg c0 (Int.le_of_lt i2)
  have xp : a * (d / gc b d) ≤ p := by
    refine Int.le_of_mul_le_mul_right ?_ hW
    rw [s1]; exact Int.mul_le_mul_of_nonneg_left ll hb.2.1
  have yq : c * (b / gc b d) ≤ q := by
    refine Int.le_of_mul_le_mul_right ?_ hW
    rw [s2]; exact Int.mul_le_mul_of_nonneg_left ll hd.2.1
  unfold f_M_compare f_M_compare_51
  rw [L_gcd (by omega) (by omega) (by omega) (by omega) (by omega)]
  simp only [zb_s]
  rw [if_pos (lI_n0 g0 (by omega)), zldv_e (by omega) (by omega) g0 (by omega), zldv_e (by omega) (by omega) g0 (by omega)]
  generalize hl : b / gc b d * d = l at *
  generalize hX : a * (d / gc b d) = X at *
  generalize hY : c * (b / gc b d) = Y at *
  rw [if_pos (by omega), if_pos (by omega)]
  rcases Int.lt_trichotomy p q with z | z | z
  · have : X < Y := by
      refine Int.lt_of_mul_lt_mul_right (a := WW) ?_ (Int.le_of_lt hW)
      rw [s1, s2]; exact Int.mul_lt_mul_of_pos_right z i4
    rw [if_neg (by have := zcmp_lt.mpr this; omega), if_pos z]
  · have : X = Y := by
      apply Int.eq_of_mul_eq_mul_right (Int.ne_of_gt hW)
      rw [s1, s2, z]
    have zc := zcmp_0.mpr this
    rw [if_pos (by omega), if_pos (by omega), if_neg (by omega), if_pos z]
  · have : Y < X := by
      refine Int.lt_of_mul_lt_mul_right (a := WW) ?_ (Int.le_of_lt hW)
      rw [s1, s2]; exact Int.mul_lt_mul_of_pos_right z i4
    have zc := zcmp_g.mpr this
    rw [if_pos (by omega), if_neg (by omega), if_neg (by omega), if_neg (by omega)]
end
end
section
section
/-! ===== how often a fraction goes into a place ===== -/
theorem div_FR {a b c d p q : Int} (h : a * WW = p * b) (h' : c * WW = q * d) (b0 : 0 < b) (c0 : 0 < c) (d0 : 0 < d) (q0 : 0 < q) : a * d / (b * c) = p / q ∧ (a * d % (b * c) = 0 ↔ p % q = 0) := by
  have hW : (0 : Int) < WW := by decide
  have bd : 0 < b * d := Int.mul_pos b0 d0
  have e1 : a * d * WW = p * (b * d) := by
    calc a * d * WW = (a * WW) * d := by ac_rfl
      _ = p * b * d := by rw [h]
      _ = p * (b * d) := by ac_rfl
  have e2 : b * c * WW = q * (b * d) := by
    calc b * c * WW = (c * WW) * b := by ac_rfl
      _ = q * d * b := by rw [h']
      _ = q * (b * d) := by ac_rfl
  refine ⟨?_, ?_⟩
  · rw [← Int.mul_ediv_mul_of_pos_left (a * d) (b * c) hW, e1, e2, Int.mul_ediv_mul_of_pos_left p q bd]
  · have m : a * d % (b * c) * WW = p % q * (b * d) := by
      rw [Int.mul_comm _ WW, ← Int.mul_emod_mul_of_pos _ _ hW, Int.mul_comm WW, Int.mul_comm WW, e1, e2, Int.mul_comm p, Int.mul_comm q, Int.mul_emod_mul_of_pos _ _ bd, Int.mul_comm]
    constructor
    · intro z
      rw [z, Int.zero_mul] at m
      rcases Int.mul_eq_zero.mp m.symm with w | w
      · exact w
      · omega
    · intro z
      rw [z, Int.zero_mul] at m
      rcases Int.mul_eq_zero.mp m with w | w
      · exact w
      · omega
theorem L_oftR {K : Nat} {F : zF} {B : zB} {a b c d p q : Int} (h : FR a b p) (h' : c * WW = q * d) (c0 : 0 < c) (c1 : c ≤ 100000) (d0 : 0 < d) (d1 : d ≤ 100000) (q0 : 0 < q) (hp : p < 70368744177664) : f_M_often K a b c d F B = some (p / q, F, B) := by
  have hb := FR_b h
  have hw : WW = 812851200 := rfl
  have bc : 0 < b * c := Int.mul_pos h.1 c0
  have bc2 : b * c ≤ 812851200 * 100000 := Int.mul_le_mul (by omega) c1 (by omega) (by omega)
  have ad : 0 ≤ a * d := Int.mul_nonneg h.2.2.1 (by omega)
  have ad2 : a * d ≤ 70368744177664 * 100000 := Int.mul_le_mul (by omega) d1 (by omega) (by omega)
  unfold f_M_often
  rw [if_pos (lI_n0 bc (by omega)), zldv_e ad (by omega) bc (by omega), (div_FR h.2.2.2 h' h.1 c0 d0 q0).1]
theorem L_multR {K : Nat} {F : zF} {B : zB} {a b c d p q : Int} (h : FR a b p) (h' : c * WW = q * d) (c0 : 0 < c) (c1 : c ≤ 100000) (d0 : 0 < d) (d1 : d ≤ 100000) (q0 : 0 < q) (hp : p < 70368744177664) : f_M_isMultiple K a b c d F B = some (if p % q = 0 then 1 else 0, F, B) := by
  have hb := FR_b h
  have hw : WW = 812851200 := rfl
  have bc : 0 < b * c := Int.mul_pos h.1 c0
  have bc2 : b * c ≤ 812851200 * 100000 := Int.mul_le_mul (by omega) c1 (by omega) (by omega)
  have ad : 0 ≤ a * d := Int.mul_nonneg h.2.2.1 (by omega)
  have ad2 : a * d ≤ 70368744177664 * 100000 := Int.mul_le_mul (by omega) d1 (by omega) (by omega)
  have m0 : 0 ≤ a * d % (b * c) := Int.emod_nonneg _ (by omega)
  have m1 : a * d % (b * c) < b * c := Int.emod_lt_of_pos _ bc
  have k := (div_FR h.2.2.2 h' h.1 c0 d0 q0).2
  unfold f_M_isMultiple f_M_isMultiple_19
  rw [if_pos (lI_n0 bc (by omega)), zlrm_e ad (by omega) bc (by omega), if_pos (by omega)]
  by_cases z : a * d % (b * c) = 0
  · rw [if_pos (zcmp_0.mpr z), if_pos (by decide), if_pos (k.mp z)]
  · rw [if_neg (fun w => z (zcmp_0.mp w)), if_pos (by decide), if_neg (fun w => z (k.mpr w))]
end
end
section
section
/-! ===== a value times the slows around: both sides ===== -/
noncomputable def cap (x : Int) : Int := if x ≤ 1024 then x else -1
theorem cap_big {x m : Int} (h : 1024 < x) (hm : 1 ≤ m) : cap (x * m) = -1 := by
  have : x * 1 ≤ x * m := Int.mul_le_mul_of_nonneg_left hm (by omega)
  unfold cap
  rw [if_neg (by omega)]
theorem pw_1 {P : Int} (h : 1 ≤ P) (j : Nat) : 1 ≤ P ^ j := by
  induction j with
  | zero => rw [Int.pow_zero]; decide
  | succ j ih =>
    rw [Int.pow_succ]
    have : 1 * 1 ≤ P ^ j * P := Int.mul_le_mul ih h (by decide) (by omega)
    omega
theorem ml_1 {a b : Int} (h : 1 ≤ a) (h' : 1 ≤ b) : 1 ≤ a * b := by
  have : 1 * 1 ≤ a * b := Int.mul_le_mul h h' (by decide) (by omega)
  omega
theorem V265 {K : Nat} {F : zF} {B : zB} {u : Int} (h : r32 u) : f_M_valueOf_265 K u F B = some (cap u, F, B) := by
  unfold f_M_valueOf_265 f_M_valueOf_279 cap
  rw [if_pos h]
  split <;> rfl
theorem V237 {K : Nat} {F : zF} {B : zB} {e : Int} (he : r32 e) : ∀ (j n : Nat) {l u : Int}, 0 ≤ l → l ≤ e → (e - l).toNat = j → j < n → 1 ≤ u → u ≤ 10000 → f_M_valueOf_237 K n l u e F B = some (cap (u * 7 ^ j), F, B) := by
  unfold r32 at he
  intro j
  induction j with
  | zero =>
    intro n l u h0 h1 hj hn u0 u1
    obtain ⟨n, rfl⟩ : ∃ m, n = m + 1 := ⟨n - 1, by omega⟩
    unfold f_M_valueOf_237
    rw [if_pos (by unfold r32; omega), if_pos he, if_pos (by omega), V265 (by unfold r32; omega), Int.pow_zero, Int.mul_one]
  | succ j ih =>
    intro n l u h0 h1 hj hn u0 u1
    obtain ⟨n, rfl⟩ : ∃ m, n = m + 1 := ⟨n - 1, by omega⟩
    unfold f_M_valueOf_237
    rw [if_pos (by unfold r32; omega), if_pos he, if_neg (by omega), if_pos (by unfold r32; omega)]
    by_cases b : 1024 < u
    · rw [if_pos b, V265 (by unfold r32; omega), cap_big b (pw_1 (by decide) _)]
      unfold cap
      rw [if_neg (by omega)]
    · rw [if_neg b, ih n (by omega) (by omega) (by omega) (by omega) (by omega) (by omega), Int.pow_succ, Int.mul_comm (7 ^ j), Int.mul_assoc]
theorem V203 {K : Nat} {F : zF} {B : zB} {e s : Int} (hb : B 14 0 51 5 = e) (he : r32 e) (hs : r32 s) (s0 : 0 ≤ s) (hK : s < K) : ∀ (j n : Nat) {l u : Int}, 0 ≤ l → l ≤ e → (e - l).toNat = j → j < n → 1 ≤ u → u ≤ 10000 → f_M_valueOf_203 K n l u s F B = some (cap (u * 5 ^ j * 7 ^ s.toNat), F, B) := by
  have z7 : ∀ {u : Int}, 1 ≤ u → u ≤ 10000 → f_M_valueOf_234 K u s F B = some (cap (u * 7 ^ s.toNat), F, B) := fun {u} a b => by
    unfold f_M_valueOf_234
    exact V237 hs s.toNat K (Int.le_refl _) s0 (by omega) (by omega) a b
  unfold r32 at he
  intro j
  induction j with
  | zero =>
    intro n l u h0 h1 hj hn u0 u1
    obtain ⟨n, rfl⟩ : ∃ m, n = m + 1 := ⟨n - 1, by omega⟩
    unfold f_M_valueOf_203
    rw [hb, if_pos (by unfold r32; omega), if_pos he, if_pos (by omega), z7 u0 u1, Int.pow_zero, Int.mul_one]
  | succ j ih =>
    intro n l u h0 h1 hj hn u0 u1
    obtain ⟨n, rfl⟩ : ∃ m, n = m + 1 := ⟨n - 1, by omega⟩
    unfold f_M_valueOf_203
    rw [hb, if_pos (by unfold r32; omega), if_pos he, if_neg (by omega), if_pos (by unfold r32; omega)]
    by_cases b : 1024 < u
    · rw [if_pos b, z7 u0 u1, cap_big b (pw_1 (by decide) _), Int.mul_assoc, cap_big b (ml_1 (pw_1 (by decide) _) (pw_1 (by decide) _))]
    · rw [if_neg b, ih n (by omega) (by omega) (by omega) (by omega) (by omega) (by omega), Int.pow_succ, Int.mul_comm (5 ^ j), Int.mul_assoc u 5]
theorem V173 {K : Nat} {F : zF} {B : zB} {e s f : Int} (hb : B 14 0 51 5 = f) (hf : r32 f) (f0 : 0 ≤ f) (fK : f < K) (he : r32 e) (hs : r32 s) (s0 : 0 ≤ s) (hK : s < K) : ∀ (j n : Nat) {l u : Int}, 0 ≤ l → l ≤ e → (e - l).toNat = j → j < n → 1 ≤ u → u ≤ 10000 → f_M_valueOf_173 K n l u s e F B = some (cap (u * 3 ^ j * (5 ^ f.toNat * 7 ^ s.toNat)), F, B) := by
  have z7 : ∀ {u : Int}, 1 ≤ u → u ≤ 10000 → f_M_valueOf_200 K u s F B = some (cap (u * (5 ^ f.toNat * 7 ^ s.toNat)), F, B) := fun {u} a b => by
    unfold f_M_valueOf_200
    rw [V203 hb hf hs s0 hK f.toNat K (Int.le_refl _) f0 (by omega) (by omega) a b, Int.mul_assoc]
  unfold r32 at he
  intro j
  induction j with
  | zero =>
    intro n l u h0 h1 hj hn u0 u1
    obtain ⟨n, rfl⟩ : ∃ m, n = m + 1 := ⟨n - 1, by omega⟩
    unfold f_M_valueOf_173
    rw [if_pos (by unfold r32; omega), if_pos he, if_pos (by omega), z7 u0 u1, Int.pow_zero, Int.mul_one]
  | succ j ih =>
    intro n l u h0 h1 hj hn u0 u1
    obtain ⟨n, rfl⟩ : ∃ m, n = m + 1 := ⟨n - 1, by omega⟩
    unfold f_M_valueOf_173
    rw [if_pos (by unfold r32; omega), if_pos he, if_neg (by omega), if_pos (by unfold r32; omega)]
    by_cases b : 1024 < u
    · rw [if_pos b, z7 u0 u1, cap_big b (ml_1 (pw_1 (by decide) _) (pw_1 (by decide) _)), Int.mul_assoc, cap_big b (ml_1 (pw_1 (by decide) _) (ml_1 (pw_1 (by decide) _) (pw_1 (by decide) _)))]
    · rw [if_neg b, ih n (by omega) (by omega) (by omega) (by omega) (by omega) (by omega), Int.pow_succ, Int.mul_comm (3 ^ j), Int.mul_assoc u 3]
theorem V144 {K : Nat} {F : zF} {B : zB} {e s f t : Int} (hb : B 14 0 51 5 = f) (hf : r32 f) (f0 : 0 ≤ f) (fK : f < K) (ht : r32 t) (t0 : 0 ≤ t) (tK : t < K) (he : r32 e) (hs : r32 s) (s0 : 0 ≤ s) (hK : s < K) : ∀ (j n : Nat) {l u : Int}, 0 ≤ l → l ≤ e → (e - l).toNat = j → j < n → 1 ≤ u → u ≤ 10000 → f_M_valueOf_144 K n l u s t e F B = some (cap (u * 2 ^ j * (3 ^ t.toNat * (5 ^ f.toNat * 7 ^ s.toNat))), F, B) := by
  have z7 : ∀ {u : Int}, 1 ≤ u → u ≤ 10000 → f_M_valueOf_170 K u s t F B = some (cap (u * (3 ^ t.toNat * (5 ^ f.toNat * 7 ^ s.toNat))), F, B) := fun {u} a b => by
    unfold f_M_valueOf_170
    rw [V173 hb hf f0 fK ht hs s0 hK t.toNat K (Int.le_refl _) t0 (by omega) (by omega) a b, Int.mul_assoc]
  unfold r32 at he
  intro j
  induction j with
  | zero =>
    intro n l u h0 h1 hj hn u0 u1
    obtain ⟨n, rfl⟩ : ∃ m, n = m + 1 := ⟨n - 1, by omega⟩
    unfold f_M_valueOf_144
    rw [if_pos (by unfold r32; omega), if_pos he, if_pos (by omega), z7 u0 u1, Int.pow_zero, Int.mul_one]
  | succ j ih =>
    intro n l u h0 h1 hj hn u0 u1
    obtain ⟨n, rfl⟩ : ∃ m, n = m + 1 := ⟨n - 1, by omega⟩
    unfold f_M_valueOf_144
    rw [if_pos (by unfold r32; omega), if_pos he, if_neg (by omega), if_pos (by unfold r32; omega)]
    have h35 : ∀ (a b c : Nat), (1 : Int) ≤ 3 ^ a * (5 ^ b * 7 ^ c) := fun a b c => ml_1 (pw_1 (by decide) _) (ml_1 (pw_1 (by decide) _) (pw_1 (by decide) _))
    by_cases b : 1024 < u
    · rw [if_pos b, z7 u0 u1, cap_big b (h35 _ _ _), Int.mul_assoc, cap_big b (ml_1 (pw_1 (by decide) _) (h35 _ _ _))]
    · rw [if_neg b, ih n (by omega) (by omega) (by omega) (by omega) (by omega) (by omega), Int.pow_succ, Int.mul_comm (2 ^ j), Int.mul_assoc u 2]
/-- what both answer -/
noncomputable def slV (a b c d : Int) : Int := if 0 ≤ a ∧ 0 ≤ b ∧ 0 ≤ c ∧ 0 ≤ d then cap (2 ^ a.toNat * (3 ^ b.toNat * (5 ^ c.toNat * 7 ^ d.toNat))) else -1
theorem V110 {K : Nat} {F : zF} {B : zB} {a b c s0 s1 : Int} (hb : B 14 0 51 5 = c) (ha : -2000 ≤ a ∧ a ≤ 2000) (hb' : -2000 ≤ b ∧ b ≤ 2000) (hc : -2000 ≤ c ∧ c ≤ 2000) (hs : -2000 ≤ s0 + s1 ∧ s0 + s1 ≤ 2000) (hK : 2000 < K) : f_M_valueOf_110 K b a s0 s1 F B = some (slV a b c (s0 + s1), F, B) := by
  unfold f_M_valueOf_110 f_M_valueOf_136 slV
  rw [hb, if_pos (by unfold r32; omega)]
  by_cases h1 : a < 0
  · rw [if_pos h1, if_neg (by omega)]
  rw [if_neg h1, if_pos (by unfold r32; omega)]
  by_cases h2 : b < 0
  · rw [if_pos h2, if_neg (by omega)]
  rw [if_neg h2, if_pos (by unfold r32; omega)]
  by_cases h3 : c < 0
  · rw [if_pos h3, if_neg (by omega)]
  rw [if_neg h3, if_pos (by unfold r32; omega)]
  by_cases h4 : 0 ≤ s0 + s1
  · rw [if_pos h4, if_pos (by omega), V144 hb (by unfold r32; omega) (by omega) (by omega) (by unfold r32; omega) (by omega) (by omega) (by unfold r32; omega) (by unfold r32; omega) h4 (by omega) a.toNat K (Int.le_refl _) (by omega) (by omega) (by omega) (by decide) (by decide), Int.one_mul]
  · rw [if_neg h4, if_neg (by omega)]
/-- the twos of a length -/
noncomputable def lg2 (n : Int) : Int := if n = 1 then 0 else if n = 2 then 1 else if n = 4 then 2 else if n = 8 then 3 else if n = 16 then 4 else 5
theorem V55 {K n : Nat} {F : zF} {B : zB} {a q : Int} (h : pw2 q) (hn : 6 ≤ n) : ∃ m, f_M_valueOf_55 K n q a 1 F B = f_M_valueOf_55 K (m + 1) 1 (a - lg2 q) 1 F B ∧ f_M_valueOf_55 K n q a 3 F B = f_M_valueOf_55 K (m + 1) 1 (a - lg2 q) 3 F B ∧ f_M_valueOf_55 K n q a 7 F B = f_M_valueOf_55 K (m + 1) 1 (a - lg2 q) 7 F B := by
  have st : ∀ (m : Nat) (q a t : Int), r32 q → 1 < q → f_M_valueOf_55 K (m + 1) q a t F B = f_M_valueOf_55 K m (zdv q 2) (a - 1) t F B := fun m q a t h1 h2 => by
    rw [f_M_valueOf_55, if_pos h1, if_neg (by omega)]
  obtain ⟨n, rfl⟩ : ∃ m, n = m + 6 := ⟨n - 6, by omega⟩
  have e2 : zdv 2 2 = 1 := by decide
  have e4 : zdv 4 2 = 2 := by decide
  have e8 : zdv 8 2 = 4 := by decide
  have e16 : zdv 16 2 = 8 := by decide
  have e32 : zdv 32 2 = 16 := by decide
  have g : ∀ t, ∃ m, m ≤ n + 5 ∧ m = n + 5 - (lg2 q).toNat ∧ f_M_valueOf_55 K (n + 6) q a t F B = f_M_valueOf_55 K (m + 1) 1 (a - lg2 q) t F B := by
    intro t
    rcases h with rfl | rfl | rfl | rfl | rfl | rfl
    · exact ⟨n + 5, by omega, rfl, by rw [show lg2 1 = 0 by decide, Int.sub_zero]⟩
    · exact ⟨n + 4, by omega, rfl, by rw [show lg2 2 = 1 by decide, st _ _ _ _ (by decide) (by decide), e2]⟩
    · exact ⟨n + 3, by omega, rfl, by rw [show lg2 4 = 2 by decide, st _ _ _ _ (by decide) (by decide), e4, st _ _ _ _ (by decide) (by decide), e2, Int.sub_sub]; rfl⟩
    · exact ⟨n + 2, by omega, rfl, by rw [show lg2 8 = 3 by decide, st _ _ _ _ (by decide) (by decide), e8, st _ _ _ _ (by decide) (by decide), e4, st _ _ _ _ (by decide) (by decide), e2, Int.sub_sub, Int.sub_sub]; rfl⟩
    · exact ⟨n + 1, by omega, rfl, by rw [show lg2 16 = 4 by decide, st _ _ _ _ (by decide) (by decide), e16, st _ _ _ _ (by decide) (by decide), e8, st _ _ _ _ (by decide) (by decide), e4, st _ _ _ _ (by decide) (by decide), e2, Int.sub_sub, Int.sub_sub, Int.sub_sub]; rfl⟩
    · exact ⟨n, by omega, rfl, by rw [show lg2 32 = 5 by decide, st _ _ _ _ (by decide) (by decide), e32, st _ _ _ _ (by decide) (by decide), e16, st _ _ _ _ (by decide) (by decide), e8, st _ _ _ _ (by decide) (by decide), e4, st _ _ _ _ (by decide) (by decide), e2, Int.sub_sub, Int.sub_sub, Int.sub_sub, Int.sub_sub]; rfl⟩
  obtain ⟨m1, _, e1, g1⟩ := g 1
  obtain ⟨m2, _, e3, g2⟩ := g 3
  obtain ⟨m3, _, e5, g3⟩ := g 7
  have k1 : m2 = m1 := by omega
  have k2 : m3 = m1 := by omega
  rw [k1] at g2
  rw [k2] at g3
  exact ⟨m1, g1, g2, g3⟩
theorem L_valueOf {K : Nat} {F : zF} {B : zB} {i n p : Int} (hi : 0 ≤ i ∧ i < 3001) (h32 : B 14 0 32 i = n) (h33 : B 14 0 33 i = p) (hn : pw2 n) (hp : 0 ≤ p ∧ p ≤ 2) (hpw : ∀ k, k = 2 ∨ k = 3 ∨ k = 5 ∨ k = 7 → -1000 ≤ B 14 0 51 k ∧ B 14 0 51 k ≤ 1000) (hK : 3000 < K) : f_M_valueOf K i F B = some (slV (B 14 0 51 2 + 7 - p - lg2 n) (B 14 0 51 3 + (if p = 1 then 1 else 0)) (B 14 0 51 5) (B 14 0 51 7 + (if p = 2 then 1 else 0)), F, B) := by
  have b2 := hpw 2 (by decide)
  have b3 := hpw 3 (by decide)
  have b5 := hpw 5 (by decide)
  have b7 := hpw 7 (by decide)
  have hl : 0 ≤ lg2 n ∧ lg2 n ≤ 5 := by
    rcases hn with rfl | rfl | rfl | rfl | rfl | rfl <;> decide
  obtain ⟨m, g1, g3, g7⟩ := V55 (K := K) (n := K) (F := F) (B := B) (a := B 14 0 51 2 + 7 - p) hn (by omega)
  unfold f_M_valueOf f_M_valueOf_29
  rw [if_pos hi, h33, h32, if_pos (by unfold r32; omega)]
  simp only [if_pos hi]
  by_cases p0 : p = 0
  · rw [if_pos p0, g1, f_M_valueOf_55, if_pos (by decide), if_pos (by decide), if_pos (by decide), if_neg (by decide), f_M_valueOf_89, if_pos (by decide), if_neg (by decide), V110 rfl (by omega) (by omega) (by omega) (by omega) (by omega), if_neg (by omega), if_neg (by omega)]
  rw [if_neg p0]
  by_cases p1 : p = 1
  · rw [if_pos p1, g3, f_M_valueOf_55, if_pos (by decide), if_pos (by decide), if_pos (by decide), if_pos rfl, f_M_valueOf_89, if_pos (by decide), if_neg (by decide), V110 rfl (by omega) (by omega) (by omega) (by omega) (by omega), if_pos p1, if_neg (by omega)]
  · rw [if_neg p1, g7, f_M_valueOf_55, if_pos (by decide), if_pos (by decide), if_pos (by decide), if_neg (by decide), f_M_valueOf_89, if_pos (by decide), if_pos rfl, V110 rfl (by omega) (by omega) (by omega) (by omega) (by omega), if_neg p1, if_pos (by omega)]
end
end
section
section
/-! ===== the class's value times the slows around ===== -/
theorem zt6l : ztl 6 = 4 := by decide
theorem zt6_0 : ztv 6 0 = 2 := by decide
theorem zt6_1 : ztv 6 1 = 3 := by decide
theorem zt6_2 : ztv 6 2 = 5 := by decide
theorem zt6_3 : ztv 6 3 = 7 := by decide
theorem zdm_e : ∀ x : Fin 1025, ∀ p ∈ [2, 3, 5, 7], zrm (x.val : Int) p = (x.val : Int) % p ∧ zdv (x.val : Int) p = (x.val : Int) / p := by decide +kernel
theorem zdm {x p : Int} (h0 : 0 ≤ x) (h1 : x ≤ 1024) (hp : p = 2 ∨ p = 3 ∨ p = 5 ∨ p = 7) : zrm x p = x % p ∧ zdv x p = x / p := by
  have h := zdm_e ⟨x.toNat, by omega⟩ p (by rcases hp with rfl | rfl | rfl | rfl <;> decide)
  rw [show (((⟨x.toNat, by omega⟩ : Fin 1025).val : Nat) : Int) = x by show ((x.toNat : Nat) : Int) = x; omega] at h
  exact h
/-- multiplied up -/
theorem S70 {rec : Int → Int → Int → zF → zB → zO} {K : zK} {F : zF} {B : zB} {P m q e : Int} (h11 : 0 < K.2 11) (hq : 0 ≤ q ∧ q < 4) (hP : ztv 6 q = P) (P2 : 2 ≤ P ∧ P ≤ 7) (he : B 11 0 14 q = e) (hm : 1 ≤ m) (e1 : -2000 ≤ e ∧ e ≤ 2000) (hr : ∀ x, 1 ≤ x → x ≤ 1024 → rec (q + 1) x 0 F B = some (cap (x * m), F, B)) : ∀ (j n : Nat) {l x : Int}, 0 ≤ l → l ≤ 2000 → (e - l).toNat = j → j < n → 1 ≤ x → x ≤ 1024 → f_Walker_slowed_70 rec K n l q x 0 F B = some (cap (x * P ^ j * m), F, B) := by
  intro j
  induction j with
  | zero =>
    intro n l x h0 h1 hj hn x0 x1
    obtain ⟨n, rfl⟩ : ∃ m, n = m + 1 := ⟨n - 1, by omega⟩
    unfold f_Walker_slowed_70
    rw [if_pos ⟨Int.le_refl _, h11⟩, if_pos hq, he, if_pos (by unfold r32; omega), if_pos (by unfold r32; omega), if_pos (by omega), hr x x0 x1, Int.pow_zero, Int.mul_one]
  | succ j ih =>
    intro n l x h0 h1 hj hn x0 x1
    obtain ⟨n, rfl⟩ : ∃ m, n = m + 1 := ⟨n - 1, by omega⟩
    have xP : 1 ≤ x * P := ml_1 x0 (by omega)
    have xP2 : x * P ≤ 1024 * 7 := Int.mul_le_mul x1 P2.2 (by omega) (by decide)
    unfold f_Walker_slowed_70
    rw [if_pos ⟨Int.le_refl _, h11⟩, if_pos hq, he, if_pos (by unfold r32; omega), if_pos (by unfold r32; omega), if_neg (by omega), if_pos (by rw [zt6l]; omega), hP, if_pos (by unfold r32; omega)]
    have ee : x * P ^ (j + 1) * m = x * P * (P ^ j * m) := by
      rw [Int.pow_succ]
      ac_rfl
    by_cases b : x * P ≤ 1024
    · rw [if_pos b, ih n (by omega) (by omega) (by omega) (by omega) xP b, ee]
      congr 3
      ac_rfl
    · rw [if_neg b, ee, cap_big (by omega) (ml_1 (pw_1 (by omega) _) hm)]
/-- divided down -/
theorem S20 {rec : Int → Int → Int → zF → zB → zO} {K : zK} {F : zF} {B : zB} {P q r : Int} (hq : 0 ≤ q ∧ q < 4) (hP : ztv 6 q = P) (hP7 : P = 2 ∨ P = 3 ∨ P = 5 ∨ P = 7) (hr0 : 1 ≤ r) (hr : ¬ r % P = 0) : ∀ (j n k : Nat) {l : Int}, -2000 ≤ l → l ≤ 2000 → (-l).toNat = j → j < n → P ^ k * r ≤ 1024 → f_Walker_slowed_20 rec K n l q (P ^ k * r) 0 F B = if j ≤ k then rec (q + 1) (P ^ (k - j) * r) 0 F B else some (-1, F, B) := by
  have P2 : 2 ≤ P ∧ P ≤ 7 := by omega
  intro j
  induction j with
  | zero =>
    intro n k l h0 h1 hj hn hx
    obtain ⟨n, rfl⟩ : ∃ m, n = m + 1 := ⟨n - 1, by omega⟩
    unfold f_Walker_slowed_20
    rw [if_pos (by unfold r32; omega), if_pos (by omega), if_pos (by omega), Nat.sub_zero]
  | succ j ih =>
    intro n k l h0 h1 hj hn hx
    obtain ⟨n, rfl⟩ : ∃ m, n = m + 1 := ⟨n - 1, by omega⟩
    have x0 : 1 ≤ P ^ k * r := ml_1 (pw_1 (by omega) _) hr0
    obtain ⟨z1, z2⟩ := zdm (x := P ^ k * r) (by omega) hx hP7
    have m0 : 0 ≤ (P ^ k * r) % P := Int.emod_nonneg _ (by omega)
    have m1 : (P ^ k * r) % P < P := Int.emod_lt_of_pos _ (by omega)
    unfold f_Walker_slowed_20
    rw [if_pos (by unfold r32; omega), if_neg (by omega), if_pos (by rw [zt6l]; omega), hP, if_pos (iI_n0 (by omega) (by omega)), z1, z2, if_pos (by unfold r32; omega)]
    cases k with
    | zero =>
      rw [Int.pow_zero, Int.one_mul, if_neg hr, if_neg (by omega)]
    | succ k =>
      have ee : P ^ (k + 1) * r = P * (P ^ k * r) := by
        rw [Int.pow_succ]
        ac_rfl
      have e0 : P ^ (k + 1) * r % P = 0 := by rw [ee]; exact Int.mul_emod_right _ _
      have e1 : P ^ (k + 1) * r / P = P ^ k * r := by rw [ee]; exact Int.mul_ediv_cancel_left _ (by omega)
      have e2 : P ^ k * r ≤ 1024 := by
        have : 1 ≤ P ^ k * r := ml_1 (pw_1 (by omega) _) hr0
        have : 1 * (P ^ k * r) ≤ P * (P ^ k * r) := Int.mul_le_mul_of_nonneg_right (by omega) (by omega)
        omega
      rw [if_pos e0, e1, ih n k (by omega) (by omega) (by omega) (by omega) e2]
      by_cases c : j ≤ k
      · rw [if_pos c, if_pos (by omega), Nat.add_sub_add_right]
      · rw [if_neg c, if_neg (by omega)]
/-- all four multiplied -/
theorem S59 {K : zK} {F : zF} {B : zB} {e0 e1 e2 e3 : Int} {n : Nat} (h11 : 0 < K.2 11) (hK : 2000 < K.1) (hn : 5 ≤ n) (h0 : B 11 0 14 0 = e0) (h1 : B 11 0 14 1 = e1) (h2 : B 11 0 14 2 = e2) (h3 : B 11 0 14 3 = e3) (b0 : -2000 ≤ e0 ∧ e0 ≤ 2000) (b1 : -2000 ≤ e1 ∧ e1 ≤ 2000) (b2 : -2000 ≤ e2 ∧ e2 ≤ 2000) (b3 : -2000 ≤ e3 ∧ e3 ≤ 2000) {x : Int} (x0 : 1 ≤ x) (x1 : x ≤ 1024) : f_Walker_slowed_59 K n 0 x 0 F B = some (cap (x * (2 ^ e0.toNat * (3 ^ e1.toNat * (5 ^ e2.toNat * 7 ^ e3.toNat)))), F, B) := by
  obtain ⟨n, rfl⟩ : ∃ m, n = m + 5 := ⟨n - 5, by omega⟩
  have i4 : ∀ x, 1 ≤ x → x ≤ 1024 → f_Walker_slowed_59 K (n + 1) (3 + 1) x 0 F B = some (cap (x * 1), F, B) := fun x a b => by
    unfold f_Walker_slowed_59 f_Walker_slowed_122 cap
    rw [zt6l, if_pos (by decide), if_pos (by decide), if_pos (by decide), if_pos (by unfold r32; omega), Int.mul_one]
    split <;> rfl
  have i3 : ∀ x, 1 ≤ x → x ≤ 1024 → f_Walker_slowed_59 K (n + 2) (2 + 1) x 0 F B = some (cap (x * 7 ^ e3.toNat), F, B) := fun x a b => by
    unfold f_Walker_slowed_59
    rw [zt6l, if_pos (by decide), if_pos (by decide), if_neg (by decide), show (2 : Int) + 1 = 3 by decide, S70 (P := 7) (m := 1) h11 (by decide) zt6_3 (by decide) h3 (by decide) b3 i4 e3.toNat K.1 (by decide) (by decide) (by omega) (by omega) a b, Int.mul_one]
  have i2 : ∀ x, 1 ≤ x → x ≤ 1024 → f_Walker_slowed_59 K (n + 3) (1 + 1) x 0 F B = some (cap (x * (5 ^ e2.toNat * 7 ^ e3.toNat)), F, B) := fun x a b => by
    unfold f_Walker_slowed_59
    rw [zt6l, if_pos (by decide), if_pos (by decide), if_neg (by decide), show (1 : Int) + 1 = 2 by decide, S70 (P := 5) h11 (by decide) zt6_2 (by decide) h2 (pw_1 (by decide) _) b2 i3 e2.toNat K.1 (by decide) (by decide) (by omega) (by omega) a b, Int.mul_assoc]
  have i1 : ∀ x, 1 ≤ x → x ≤ 1024 → f_Walker_slowed_59 K (n + 4) (0 + 1) x 0 F B = some (cap (x * (3 ^ e1.toNat * (5 ^ e2.toNat * 7 ^ e3.toNat))), F, B) := fun x a b => by
    unfold f_Walker_slowed_59
    rw [zt6l, if_pos (by decide), if_pos (by decide), if_neg (by decide), show (0 : Int) + 1 = 1 by decide, S70 (P := 3) h11 (by decide) zt6_1 (by decide) h1 (ml_1 (pw_1 (by decide) _) (pw_1 (by decide) _)) b1 i2 e1.toNat K.1 (by decide) (by decide) (by omega) (by omega) a b, Int.mul_assoc]
  unfold f_Walker_slowed_59
  rw [zt6l, if_pos (by decide), if_pos (by decide), if_neg (by decide), S70 (P := 2) h11 (by decide) zt6_0 (by decide) h0 (ml_1 (pw_1 (by decide) _) (ml_1 (pw_1 (by decide) _) (pw_1 (by decide) _))) b0 i1 e0.toNat K.1 (by decide) (by decide) (by omega) (by omega) x0 x1, Int.mul_assoc]
theorem nd2 : ∀ b c : Fin 2, ¬ ((3 : Int) ^ b.val * 7 ^ c.val) % 2 = 0 := by decide +kernel
theorem nd3 : ∀ a : Fin 8, ∀ c : Fin 2, ¬ ((2 : Int) ^ a.val * 7 ^ c.val) % 3 = 0 := by decide +kernel
theorem nd5 : ∀ a : Fin 8, ∀ b c : Fin 2, ¬ ((2 : Int) ^ a.val * 3 ^ b.val * 7 ^ c.val) % 5 = 0 := by decide +kernel
theorem nd7 : ∀ a : Fin 8, ∀ b : Fin 2, ¬ ((2 : Int) ^ a.val * 3 ^ b.val) % 7 = 0 := by decide +kernel
theorem ndb : ∀ a : Fin 8, ∀ b c : Fin 2, b.val + c.val ≤ 1 → (2 : Int) ^ a.val * 3 ^ b.val * 7 ^ c.val ≤ 1024 := by decide +kernel
theorem nsub (e : Int) (k : Nat) (h : (-e).toNat ≤ k) : ((k : Int) + e).toNat = k - (-e).toNat + e.toNat := by omega
theorem C_slow {K : zK} {F : zF} {B : zB} {e0 e1 e2 e3 : Int} {a b c : Nat} (ha : a ≤ 7) (hbc : b + c ≤ 1) (h11 : 0 < K.2 11) (hK : 2000 < K.1) (h0 : B 11 0 14 0 = e0) (h1 : B 11 0 14 1 = e1) (h2 : B 11 0 14 2 = e2) (h3 : B 11 0 14 3 = e3) (b0 : -2000 ≤ e0 ∧ e0 ≤ 2000) (b1 : -2000 ≤ e1 ∧ e1 ≤ 2000) (b2 : -2000 ≤ e2 ∧ e2 ≤ 2000) (b3 : -2000 ≤ e3 ∧ e3 ≤ 2000) : f_Walker_slowed K 0 (2 ^ a * 3 ^ b * 7 ^ c) F B = some (slV (a + e0) (b + e1) e2 (c + e3), F, B) := by
  obtain ⟨n, hn⟩ : ∃ m, K.1 = m + 5 := ⟨K.1 - 5, by omega⟩
  have st : ∀ (m : Nat) (q x : Int), 0 ≤ q → q < 4 → f_Walker_slowed_4 K (m + 1) q x 0 F B = f_Walker_slowed_20 (f_Walker_slowed_4 K m) K K.1 (B 11 0 14 q) q x 0 F B := fun m q x u v => by
    rw [f_Walker_slowed_4, zt6l, if_pos (by unfold r32; omega), if_pos (by decide), if_neg (by omega), if_pos ⟨Int.le_refl _, h11⟩, if_pos ⟨u, v⟩]
  have en : ∀ (m : Nat) (x : Int), f_Walker_slowed_4 K (m + 1) 4 x 0 F B = f_Walker_slowed_59 K K.1 0 x 0 F B := fun m x => by
    rw [f_Walker_slowed_4, zt6l, if_pos (by decide), if_pos (by decide), if_pos (by decide)]
  have bd : ∀ (a' b' c' : Nat), a' ≤ 7 → b' ≤ 1 → c' ≤ 1 → b' + c' ≤ 1 → (2 : Int) ^ a' * 3 ^ b' * 7 ^ c' ≤ 1024 := fun a' b' c' u v w s => ndb ⟨a', by omega⟩ ⟨b', by omega⟩ ⟨c', by omega⟩ s
  have lo : ∀ (a' b' c' : Nat), (1 : Int) ≤ 2 ^ a' * 3 ^ b' * 7 ^ c' := fun a' b' c' => ml_1 (ml_1 (pw_1 (by decide) _) (pw_1 (by decide) _)) (pw_1 (by decide) _)
  unfold f_Walker_slowed slV
  rw [hn, st _ _ _ (by decide) (by decide), h0, show (2 : Int) ^ a * 3 ^ b * 7 ^ c = 2 ^ a * (3 ^ b * 7 ^ c) by rw [Int.mul_assoc], S20 (P := 2) (by decide) zt6_0 (by decide) (ml_1 (pw_1 (by decide) _) (pw_1 (by decide) _)) (nd2 ⟨b, by omega⟩ ⟨c, by omega⟩) (-e0).toNat K.1 a (by omega) (by omega) rfl (by omega) (by rw [← Int.mul_assoc]; exact bd a b c ha (by omega) (by omega) (by omega))]
  by_cases k0 : (-e0).toNat ≤ a
  case neg => rw [if_neg k0, if_neg (by omega)]
  rw [if_pos k0, show (0 : Int) + 1 = 1 by decide, st _ _ _ (by decide) (by decide), h1]
  generalize hA : a - (-e0).toNat = a'
  rw [show (2 : Int) ^ a' * (3 ^ b * 7 ^ c) = 3 ^ b * (2 ^ a' * 7 ^ c) by ac_rfl, S20 (P := 3) (by decide) zt6_1 (by decide) (ml_1 (pw_1 (by decide) _) (pw_1 (by decide) _)) (nd3 ⟨a', by omega⟩ ⟨c, by omega⟩) (-e1).toNat K.1 b (by omega) (by omega) rfl (by omega) (by rw [show (3 : Int) ^ b * (2 ^ a' * 7 ^ c) = 2 ^ a' * 3 ^ b * 7 ^ c by ac_rfl]; exact bd a' b c (by omega) (by omega) (by omega) (by omega))]
  by_cases k1 : (-e1).toNat ≤ b
  case neg => rw [if_neg k1, if_neg (by omega)]
  rw [if_pos k1, show (1 : Int) + 1 = 2 by decide, st _ _ _ (by decide) (by decide), h2]
  generalize hB : b - (-e1).toNat = b'
  rw [show (3 : Int) ^ b' * (2 ^ a' * 7 ^ c) = 5 ^ 0 * (2 ^ a' * 3 ^ b' * 7 ^ c) by rw [Int.pow_zero, Int.one_mul]; ac_rfl, S20 (P := 5) (by decide) zt6_2 (by decide) (lo _ _ _) (nd5 ⟨a', by omega⟩ ⟨b', by omega⟩ ⟨c, by omega⟩) (-e2).toNat K.1 0 (by omega) (by omega) rfl (by omega) (by rw [Int.pow_zero, Int.one_mul]; exact bd a' b' c (by omega) (by omega) (by omega) (by omega))]
  by_cases k2 : (-e2).toNat ≤ 0
  case neg => rw [if_neg k2, if_neg (by omega)]
  rw [if_pos k2, show (2 : Int) + 1 = 3 by decide, st _ _ _ (by decide) (by decide), h3, Nat.zero_sub, Int.pow_zero, Int.one_mul, show (2 : Int) ^ a' * 3 ^ b' * 7 ^ c = 7 ^ c * (2 ^ a' * 3 ^ b') by ac_rfl, S20 (P := 7) (by decide) zt6_3 (by decide) (ml_1 (pw_1 (by decide) _) (pw_1 (by decide) _)) (nd7 ⟨a', by omega⟩ ⟨b', by omega⟩) (-e3).toNat K.1 c (by omega) (by omega) rfl (by omega) (by rw [show (7 : Int) ^ c * (2 ^ a' * 3 ^ b') = 2 ^ a' * 3 ^ b' * 7 ^ c by ac_rfl]; exact bd a' b' c (by omega) (by omega) (by omega) (by omega))]
  by_cases k3 : (-e3).toNat ≤ c
  case neg => rw [if_neg k3, if_neg (by omega)]
  rw [if_pos k3, if_pos (by omega)]
  generalize hC : c - (-e3).toNat = c'
  rw [show (3 : Int) + 1 = 4 by decide, en, show (7 : Int) ^ c' * (2 ^ a' * 3 ^ b') = 2 ^ a' * 3 ^ b' * 7 ^ c' by ac_rfl, S59 h11 hK (by omega) h0 h1 h2 h3 b0 b1 b2 b3 (lo _ _ _) (bd a' b' c' (by omega) (by omega) (by omega) (by omega)), nsub e0 a k0, nsub e1 b k1, nsub e3 c k3, hA, hB, hC]
  congr 3
  rw [Int.pow_add, Int.pow_add, Int.pow_add]
  ac_rfl
end
end
section
section
/-! ===== lengths as powers; the powers of slows ===== -/
theorem lenV_e {n p : Int} (hn : pw2 n) (hp : 0 ≤ p ∧ p ≤ 2) : lenV n p = 2 ^ (7 - p - lg2 n).toNat * 3 ^ (if p = 1 then 1 else 0) * 7 ^ (if p = 2 then 1 else 0) ∧ 0 ≤ 7 - p - lg2 n ∧ 7 - p - lg2 n ≤ 7 := by
  have h : p = 0 ∨ p = 1 ∨ p = 2 := by omega
  rcases h with rfl | rfl | rfl <;> rcases hn with rfl | rfl | rfl | rfl | rfl | rfl <;> decide +kernel
theorem C_slowed {K : zK} {F : zF} {B : zB} {n p v : Int} (hv : v = lenV n p) (hn : pw2 n) (hp : 0 ≤ p ∧ p ≤ 2) (h11 : 0 < K.2 11) (hK : 2000 < K.1) (hb : ∀ q, 0 ≤ q → q < 4 → -1000 ≤ B 11 0 14 q ∧ B 11 0 14 q ≤ 1000) : f_Walker_slowed K 0 v F B = some (slV (B 11 0 14 0 + 7 - p - lg2 n) (B 11 0 14 1 + (if p = 1 then 1 else 0)) (B 11 0 14 2) (B 11 0 14 3 + (if p = 2 then 1 else 0)), F, B) := by
  obtain ⟨e, l0, l1⟩ := lenV_e hn hp
  have b0 := hb 0 (by decide) (by decide)
  have b1 := hb 1 (by decide) (by decide)
  have b2 := hb 2 (by decide) (by decide)
  have b3 := hb 3 (by decide) (by decide)
  have hc := C_slow (K := K) (F := F) (B := B) (a := (7 - p - lg2 n).toNat) (b := if p = 1 then 1 else 0) (c := if p = 2 then 1 else 0) (by omega) (by split <;> split <;> omega) h11 hK rfl rfl rfl rfl (by omega) (by omega) (by omega) (by omega)
  rw [hv, e, hc]
  congr 3
  · omega
  · split <;> omega
  · split <;> omega
noncomputable def exN (p x : Int) : Nat := if x % p = 0 then (if x / p % p = 0 then (if x / p / p % p = 0 then 3 else 2) else 1) else 0
noncomputable def rmN (p x : Int) : Int := x / p ^ exN p x
theorem exN_f : ∀ x : Fin 9, 1 ≤ x.val → ∀ p ∈ [(2 : Int), 3, 5, 7], (exN p x.val ≤ 3 ∧ (x.val : Int) = p ^ exN p x.val * rmN p x.val ∧ ¬ rmN p x.val % p = 0 ∧ 1 ≤ rmN p x.val ∧ rmN p x.val ≤ 8) := by decide +kernel
theorem exN_g : ∀ x : Fin 9, 1 ≤ x.val → (exN 3 (rmN 2 x.val) = exN 3 x.val ∧ exN 5 (rmN 3 (rmN 2 x.val)) = exN 5 x.val ∧ exN 7 (rmN 5 (rmN 3 (rmN 2 x.val))) = exN 7 x.val ∧ ¬ rmN 3 (rmN 2 x.val) % 4 = 0 ∧ ¬ rmN 5 (rmN 3 (rmN 2 x.val)) % 6 = 0) := by decide +kernel
theorem exN_e {x p : Int} (h0 : 1 ≤ x) (h1 : x ≤ 8) (hp : p = 2 ∨ p = 3 ∨ p = 5 ∨ p = 7) : exN p x ≤ 3 ∧ x = p ^ exN p x * rmN p x ∧ ¬ rmN p x % p = 0 ∧ 1 ≤ rmN p x ∧ rmN p x ≤ 8 := by
  have h := exN_f ⟨x.toNat, by omega⟩ (by show 1 ≤ x.toNat; omega) p (by rcases hp with rfl | rfl | rfl | rfl <;> decide)
  rw [show (((⟨x.toNat, by omega⟩ : Fin 9).val : Nat) : Int) = x by show ((x.toNat : Nat) : Int) = x; omega] at h
  exact h
theorem exN_h {x : Int} (h0 : 1 ≤ x) (h1 : x ≤ 8) : exN 3 (rmN 2 x) = exN 3 x ∧ exN 5 (rmN 3 (rmN 2 x)) = exN 5 x ∧ exN 7 (rmN 5 (rmN 3 (rmN 2 x))) = exN 7 x ∧ ¬ rmN 3 (rmN 2 x) % 4 = 0 ∧ ¬ rmN 5 (rmN 3 (rmN 2 x)) % 6 = 0 := by
  have h := exN_g ⟨x.toNat, by omega⟩ (by show 1 ≤ x.toNat; omega)
  rw [show (((⟨x.toNat, by omega⟩ : Fin 9).val : Nat) : Int) = x by show ((x.toNat : Nat) : Int) = x; omega] at h
  exact h
theorem zd8_e : ∀ x : Fin 9, ∀ p : Fin 8, 2 ≤ p.val → zrm (x.val : Int) (p.val : Int) = (x.val : Int) % (p.val : Int) ∧ zdv (x.val : Int) (p.val : Int) = (x.val : Int) / (p.val : Int) := by decide +kernel
theorem zd8 {x p : Int} (h0 : 0 ≤ x) (h1 : x ≤ 8) (p0 : 2 ≤ p) (p1 : p ≤ 7) : zrm x p = x % p ∧ zdv x p = x / p := by
  have h := zd8_e ⟨x.toNat, by omega⟩ ⟨p.toNat, by omega⟩ (by show 2 ≤ p.toNat; omega)
  rw [show (((⟨x.toNat, by omega⟩ : Fin 9).val : Nat) : Int) = x by show ((x.toNat : Nat) : Int) = x; omega, show (((⟨p.toNat, by omega⟩ : Fin 8).val : Nat) : Int) = p by show ((p.toNat : Nat) : Int) = p; omega] at h
  exact h
/-- cell x of row (c, 0, k) grew by v -/
noncomputable def grew (c k : Nat) (x v : Int) (B B' : zB) : Prop := B' c 0 k x = B c 0 k x + v ∧ ∀ c' i' k' x', ¬ (c' = c ∧ i' = 0 ∧ k' = k ∧ x' = x) → B' c' i' k' x' = B c' i' k' x'
theorem grew_0 {c k : Nat} {x : Int} {B : zB} : grew c k x 0 B B := ⟨by omega, fun _ _ _ _ _ => rfl⟩
theorem grew_s {c k : Nat} {x v w : Int} {B B' : zB} (h : grew c k x v (zup4 B c 0 k x (B c 0 k x + w)) B') : grew c k x (v + w) B B' := ⟨by rw [h.1, zup4_v, if_pos ⟨rfl, rfl, rfl, rfl⟩]; omega, fun c' i' k' x' n => by rw [h.2 c' i' k' x' n, zup4_v, if_neg n]⟩
theorem M17 {rec : Int → Int → Int → Int → zF → zB → zO} {K : zK} {F : zF} {P q s r : Int} (h11 : 0 < K.2 11) (hq : 0 ≤ q ∧ q < 4) (hP : ztv 6 q = P) (hP7 : P = 2 ∨ P = 3 ∨ P = 5 ∨ P = 7) (hr0 : 1 ≤ r) (hr : ¬ r % P = 0) : ∀ (k n : Nat) {l : Int} {B : zB}, 0 ≤ l → l + k ≤ 3 → k < n → P ^ k * r ≤ 8 → ∃ B', f_Walker_multiplySlow_17 rec K n l q (P ^ k * r) 0 s F B = rec (q + 1) r 0 s F B' ∧ grew 11 14 q (k * s) B B' := by
  intro k
  induction k with
  | zero =>
    intro n l B h0 h1 hn hx
    obtain ⟨n, rfl⟩ : ∃ m, n = m + 1 := ⟨n - 1, by omega⟩
    rw [Int.pow_zero, Int.one_mul] at hx ⊢
    have m0 : 0 ≤ r % P := Int.emod_nonneg _ (by omega)
    have m1 : r % P < P := Int.emod_lt_of_pos _ (by omega)
    refine ⟨B, ?_, by simpa using grew_0⟩
    unfold f_Walker_multiplySlow_17 f_Walker_multiplySlow_60
    rw [if_pos (by unfold r32; omega), if_neg (by omega), if_pos (by rw [zt6l]; omega), hP, if_pos (iI_n0 (by omega) (by omega)), (zd8 (by omega) hx (by omega) (by omega)).1, if_pos (by unfold r32; omega), if_neg hr]
  | succ k ih =>
    intro n l B h0 h1 hn hx
    obtain ⟨n, rfl⟩ : ∃ m, n = m + 1 := ⟨n - 1, by omega⟩
    have x0 : 1 ≤ P ^ k * r := ml_1 (pw_1 (by omega) _) hr0
    have ee : P ^ (k + 1) * r = P * (P ^ k * r) := by
      rw [Int.pow_succ]
      ac_rfl
    rw [ee] at hx ⊢
    have e0 : P * (P ^ k * r) % P = 0 := Int.mul_emod_right _ _
    have e1 : P * (P ^ k * r) / P = P ^ k * r := Int.mul_ediv_cancel_left _ (by omega)
    have e2 : 1 * (P ^ k * r) ≤ P * (P ^ k * r) := Int.mul_le_mul_of_nonneg_right (by omega) (by omega)
    obtain ⟨z1, z2⟩ := zd8 (x := P * (P ^ k * r)) (p := P) (by omega) hx (by omega) (by omega)
    obtain ⟨B', h, g⟩ := ih n (l := l + 1) (B := zup4 B 11 0 14 q (B 11 0 14 q + s)) (by omega) (by omega) (by omega) (by omega)
    refine ⟨B', ?_, ?_⟩
    · unfold f_Walker_multiplySlow_17
      rw [if_pos (by unfold r32; omega), if_neg (by omega), if_pos (by rw [zt6l]; omega), hP, if_pos (iI_n0 (by omega) (by omega)), z1, z2, e0, e1, if_pos (by decide), if_pos rfl, if_pos ⟨Int.le_refl _, h11⟩, if_pos hq, h]
    · have := grew_s g
      rwa [show ((k + 1 : Nat) : Int) * s = k * s + s by rw [Int.natCast_add, Int.add_mul]; simp]
theorem M12 {rec : Int → Int → Int → zF → zB → zO} {K : Nat} {F : zF} {P s r : Int} (hP7 : P = 2 ∨ P = 3 ∨ P = 5 ∨ P = 7) (hr0 : 1 ≤ r) (hr : ¬ r % P = 0) : ∀ (k n : Nat) {B : zB}, k < n → P ^ k * r ≤ 8 → ∃ B', f_M_power_12 rec K n P (P ^ k * r) s F B = rec (P + 1) r s F B' ∧ grew 14 51 P (k * s) B B' := by
  intro k
  induction k with
  | zero =>
    intro n B hn hx
    obtain ⟨n, rfl⟩ : ∃ m, n = m + 1 := ⟨n - 1, by omega⟩
    rw [Int.pow_zero, Int.one_mul] at hx ⊢
    have m0 : 0 ≤ r % P := Int.emod_nonneg _ (by omega)
    have m1 : r % P < P := Int.emod_lt_of_pos _ (by omega)
    refine ⟨B, ?_, by simpa using grew_0⟩
    unfold f_M_power_12
    rw [if_pos (iI_n0 (by omega) (by omega)), (zd8 (by omega) hx (by omega) (by omega)).1, if_pos (by unfold r32; omega), if_neg hr]
  | succ k ih =>
    intro n B hn hx
    obtain ⟨n, rfl⟩ : ∃ m, n = m + 1 := ⟨n - 1, by omega⟩
    have x0 : 1 ≤ P ^ k * r := ml_1 (pw_1 (by omega) _) hr0
    have ee : P ^ (k + 1) * r = P * (P ^ k * r) := by
      rw [Int.pow_succ]
      ac_rfl
    rw [ee] at hx ⊢
    have e0 : P * (P ^ k * r) % P = 0 := Int.mul_emod_right _ _
    have e1 : P * (P ^ k * r) / P = P ^ k * r := Int.mul_ediv_cancel_left _ (by omega)
    have e2 : 1 * (P ^ k * r) ≤ P * (P ^ k * r) := Int.mul_le_mul_of_nonneg_right (by omega) (by omega)
    obtain ⟨z1, z2⟩ := zd8 (x := P * (P ^ k * r)) (p := P) (by omega) hx (by omega) (by omega)
    obtain ⟨B', h, g⟩ := ih n (B := zup4 B 14 0 51 P (B 14 0 51 P + s)) (by omega) (by omega)
    refine ⟨B', ?_, ?_⟩
    · unfold f_M_power_12
      rw [if_pos (iI_n0 (by omega) (by omega)), z1, z2, e0, e1, if_pos (by decide), if_pos rfl, if_pos (by omega), h]
    · have := grew_s g
      rwa [show ((k + 1 : Nat) : Int) * s = k * s + s by rw [Int.natCast_add, Int.add_mul]; simp]
theorem M12n {rec : Int → Int → Int → zF → zB → zO} {K n : Nat} {F : zF} {B : zB} {P s r : Int} (p0 : 2 ≤ P) (p1 : P ≤ 7) (r0 : 1 ≤ r) (r1 : r ≤ 8) (hr : ¬ r % P = 0) : f_M_power_12 rec K (n + 1) P r s F B = rec (P + 1) r s F B := by
  have m0 : 0 ≤ r % P := Int.emod_nonneg _ (by omega)
  have m1 : r % P < P := Int.emod_lt_of_pos _ (by omega)
  unfold f_M_power_12
  rw [if_pos (iI_n0 (by omega) (by omega)), (zd8 (by omega) r1 p0 p1).1, if_pos (by unfold r32; omega), if_neg hr]
noncomputable def prN (q : Int) : Int := if q = 0 then 2 else if q = 1 then 3 else if q = 2 then 5 else 7
theorem C_mul {K : zK} {F : zF} {B : zB} {x s : Int} (h11 : 0 < K.2 11) (hK : 10 < K.1) (h0 : 1 ≤ x) (h1 : x ≤ 8) : ∃ B', f_Walker_multiplySlow K 0 x s F B = some (0, F, B') ∧ (∀ q, 0 ≤ q → q < 4 → B' 11 0 14 q = B 11 0 14 q + exN (prN q) x * s) ∧ ∀ c i k y, ¬ (c = 11 ∧ i = 0 ∧ k = 14) → B' c i k y = B c i k y := by
  obtain ⟨n, hn⟩ : ∃ m, K.1 = m + 5 := ⟨K.1 - 5, by omega⟩
  obtain ⟨g3, g5, g7, g4, g6⟩ := exN_h h0 h1
  obtain ⟨a1, a2, a3, a4, a5⟩ := exN_e h0 h1 (p := 2) (by decide)
  obtain ⟨b1, b2, b3, b4, b5⟩ := exN_e a4 a5 (p := 3) (by decide)
  obtain ⟨c1, c2, c3, c4, c5⟩ := exN_e b4 b5 (p := 5) (by decide)
  obtain ⟨d1, d2, d3, d4, d5⟩ := exN_e c4 c5 (p := 7) (by decide)
  have st : ∀ (m : Nat) (q y : Int) (B : zB), 0 ≤ q → q < 4 → f_Walker_multiplySlow_5 K (m + 1) q y 0 s F B = f_Walker_multiplySlow_17 (f_Walker_multiplySlow_5 K m) K K.1 0 q y 0 s F B := fun m q y B u v => by
    rw [f_Walker_multiplySlow_5, zt6l, if_pos (by unfold r32; omega), if_pos (by decide), if_neg (by omega)]
  have en : ∀ (m : Nat) (y : Int) (B : zB), f_Walker_multiplySlow_5 K (m + 1) 4 y 0 s F B = some (0, F, B) := fun m y B => by
    rw [f_Walker_multiplySlow_5, zt6l, if_pos (by decide), if_pos (by decide), if_pos (by decide)]
  obtain ⟨B1, e1, w1⟩ := M17 (rec := f_Walker_multiplySlow_5 K (n + 4)) (F := F) (s := s) h11 (q := 0) (by decide) zt6_0 (by decide) a4 a3 (exN 2 x) K.1 (l := 0) (B := B) (by decide) (by omega) (by omega) (by omega)
  obtain ⟨B2, e2, w2⟩ := M17 (rec := f_Walker_multiplySlow_5 K (n + 3)) (F := F) (s := s) h11 (q := 1) (by decide) zt6_1 (by decide) b4 b3 (exN 3 (rmN 2 x)) K.1 (l := 0) (B := B1) (by decide) (by omega) (by omega) (by omega)
  obtain ⟨B3, e3, w3⟩ := M17 (rec := f_Walker_multiplySlow_5 K (n + 2)) (F := F) (s := s) h11 (q := 2) (by decide) zt6_2 (by decide) c4 c3 (exN 5 (rmN 3 (rmN 2 x))) K.1 (l := 0) (B := B2) (by decide) (by omega) (by omega) (by omega)
  obtain ⟨B4, e4, w4⟩ := M17 (rec := f_Walker_multiplySlow_5 K (n + 1)) (F := F) (s := s) h11 (q := 3) (by decide) zt6_3 (by decide) d4 d3 (exN 7 (rmN 5 (rmN 3 (rmN 2 x)))) K.1 (l := 0) (B := B3) (by decide) (by omega) (by omega) (by omega)
  rw [← a2] at e1
  rw [← b2] at e2
  rw [← c2] at e3
  rw [← d2] at e4
  refine ⟨B4, ?_, ?_, ?_⟩
  · unfold f_Walker_multiplySlow
    rw [show f_Walker_multiplySlow_5 K K.1 0 x 0 s F B = f_Walker_multiplySlow_5 K (n + 4 + 1) 0 x 0 s F B by rw [← hn], st _ _ _ _ (by decide) (by decide), e1, show (0 : Int) + 1 = 1 by decide, st _ _ _ _ (by decide) (by decide), e2, show (1 : Int) + 1 = 2 by decide, st _ _ _ _ (by decide) (by decide), e3, show (2 : Int) + 1 = 3 by decide, st _ _ _ _ (by decide) (by decide), e4, show (3 : Int) + 1 = 4 by decide, en]
  · intro q q0 q1
    have hq : q = 0 ∨ q = 1 ∨ q = 2 ∨ q = 3 := by omega
    rcases hq with rfl | rfl | rfl | rfl
    · rw [w4.2 _ _ _ _ (by decide), w3.2 _ _ _ _ (by decide), w2.2 _ _ _ _ (by decide), w1.1]; rfl
    · rw [w4.2 _ _ _ _ (by decide), w3.2 _ _ _ _ (by decide), w2.1, w1.2 _ _ _ _ (by decide), g3]; rfl
    · rw [w4.2 _ _ _ _ (by decide), w3.1, w2.2 _ _ _ _ (by decide), w1.2 _ _ _ _ (by decide), g5]; rfl
    · rw [w4.1, w3.2 _ _ _ _ (by decide), w2.2 _ _ _ _ (by decide), w1.2 _ _ _ _ (by decide), g7]; rfl
  · intro c i k y h
    rw [w4.2 _ _ _ _ (by omega), w3.2 _ _ _ _ (by omega), w2.2 _ _ _ _ (by omega), w1.2 _ _ _ _ (by omega)]
theorem L_pow {K : Nat} {F : zF} {B : zB} {x s : Int} (hK : 10 < K) (h0 : 1 ≤ x) (h1 : x ≤ 8) : ∃ B', f_M_power K x s F B = some (0, F, B') ∧ (∀ q, 0 ≤ q → q < 4 → B' 14 0 51 (prN q) = B 14 0 51 (prN q) + exN (prN q) x * s) ∧ ∀ c i k y, ¬ (c = 14 ∧ i = 0 ∧ k = 51 ∧ (y = 2 ∨ y = 3 ∨ y = 5 ∨ y = 7)) → B' c i k y = B c i k y := by
  obtain ⟨n, hn⟩ : ∃ m, K = m + 7 := ⟨K - 7, by omega⟩
  obtain ⟨g3, g5, g7, g4, g6⟩ := exN_h h0 h1
  obtain ⟨a1, a2, a3, a4, a5⟩ := exN_e h0 h1 (p := 2) (by decide)
  obtain ⟨b1, b2, b3, b4, b5⟩ := exN_e a4 a5 (p := 3) (by decide)
  obtain ⟨c1, c2, c3, c4, c5⟩ := exN_e b4 b5 (p := 5) (by decide)
  obtain ⟨d1, d2, d3, d4, d5⟩ := exN_e c4 c5 (p := 7) (by decide)
  have st : ∀ (m : Nat) (q y : Int) (B : zB), 0 ≤ q → q < 8 → f_M_power_5 K (m + 1) q y s F B = f_M_power_12 (f_M_power_5 K m) K K q y s F B := fun m q y B u v => by
    rw [f_M_power_5, if_pos (by unfold r32; omega), if_neg (by omega)]
  have en : ∀ (m : Nat) (y : Int) (B : zB), f_M_power_5 K (m + 1) 8 y s F B = some (0, F, B) := fun m y B => by
    rw [f_M_power_5, if_pos (by decide), if_pos (by decide)]
  obtain ⟨B1, e1, w1⟩ := M12 (rec := f_M_power_5 K (n + 6)) (K := K) (F := F) (s := s) (P := 2) (by decide) a4 a3 (exN 2 x) K (B := B) (by omega) (by omega)
  obtain ⟨B2, e2, w2⟩ := M12 (rec := f_M_power_5 K (n + 5)) (K := K) (F := F) (s := s) (P := 3) (by decide) b4 b3 (exN 3 (rmN 2 x)) K (B := B1) (by omega) (by omega)
  obtain ⟨B3, e3, w3⟩ := M12 (rec := f_M_power_5 K (n + 3)) (K := K) (F := F) (s := s) (P := 5) (by decide) c4 c3 (exN 5 (rmN 3 (rmN 2 x))) K (B := B2) (by omega) (by omega)
  obtain ⟨B4, e4, w4⟩ := M12 (rec := f_M_power_5 K (n + 1)) (K := K) (F := F) (s := s) (P := 7) (by decide) d4 d3 (exN 7 (rmN 5 (rmN 3 (rmN 2 x)))) K (B := B3) (by omega) (by omega)
  rw [← a2] at e1
  rw [← b2] at e2
  rw [← c2] at e3
  rw [← d2] at e4
  have m4 : ∀ {rec : Int → Int → Int → zF → zB → zO} {B : zB}, f_M_power_12 rec K K 4 (rmN 3 (rmN 2 x)) s F B = rec (4 + 1) (rmN 3 (rmN 2 x)) s F B := fun {rec B} => by
    have := M12n (rec := rec) (K := K) (n := n + 6) (F := F) (B := B) (s := s) (P := 4) (by decide) (by decide) b4 b5 g4
    rwa [← hn] at this
  have m6 : ∀ {rec : Int → Int → Int → zF → zB → zO} {B : zB}, f_M_power_12 rec K K 6 (rmN 5 (rmN 3 (rmN 2 x))) s F B = rec (6 + 1) (rmN 5 (rmN 3 (rmN 2 x))) s F B := fun {rec B} => by
    have := M12n (rec := rec) (K := K) (n := n + 6) (F := F) (B := B) (s := s) (P := 6) (by decide) (by decide) c4 c5 g6
    rwa [← hn] at this
  refine ⟨B4, ?_, ?_, ?_⟩
  · unfold f_M_power
    rw [show f_M_power_5 K K 2 x s F B = f_M_power_5 K (n + 6 + 1) 2 x s F B by rw [← hn], st _ _ _ _ (by decide) (by decide), e1, show (2 : Int) + 1 = 3 by decide, st _ _ _ _ (by decide) (by decide), e2, show (3 : Int) + 1 = 4 by decide, st _ _ _ _ (by decide) (by decide), m4, show (4 : Int) + 1 = 5 by decide, st _ _ _ _ (by decide) (by decide), e3, show (5 : Int) + 1 = 6 by decide, st _ _ _ _ (by decide) (by decide), m6, show (6 : Int) + 1 = 7 by decide, st _ _ _ _ (by decide) (by decide), e4, show (7 : Int) + 1 = 8 by decide, en]
  · intro q q0 q1
    have hq : q = 0 ∨ q = 1 ∨ q = 2 ∨ q = 3 := by omega
    rcases hq with rfl | rfl | rfl | rfl
    · show B4 14 0 51 2 = _
      rw [w4.2 _ _ _ _ (by decide), w3.2 _ _ _ _ (by decide), w2.2 _ _ _ _ (by decide), w1.1]; rfl
    · show B4 14 0 51 3 = _
      rw [w4.2 _ _ _ _ (by decide), w3.2 _ _ _ _ (by decide), w2.1, w1.2 _ _ _ _ (by decide), g3]; rfl
    · show B4 14 0 51 5 = _
      rw [w4.2 _ _ _ _ (by decide), w3.1, w2.2 _ _ _ _ (by decide), w1.2 _ _ _ _ (by decide), g5]; rfl
    · show B4 14 0 51 7 = _
      rw [w4.1, w3.2 _ _ _ _ (by decide), w2.2 _ _ _ _ (by decide), w1.2 _ _ _ _ (by decide), g7]; rfl
  · intro c i k y h
    rw [w4.2 _ _ _ _ (by omega), w3.2 _ _ _ _ (by omega), w2.2 _ _ _ _ (by omega), w1.2 _ _ _ _ (by omega)]
end
end
section
section
/-! ===== a pitch carried through the moves and mirrors around ===== -/
theorem L_tonP {K : Nat} {s a : Int} {F : zF} {B : zB} (h0 : 0 ≤ s) (h1 : s ≤ 62) : f_M_tone K s a F B = some (tnv s + a, F, B) := by
  have h := nat_f ⟨s.toNat, by omega⟩
  rw [show (((⟨s.toNat, by omega⟩ : Fin 63).val : Nat) : Int) = s by show ((s.toNat : Nat) : Int) = s; omega] at h
  obtain ⟨_, _, d, r, _⟩ := h
  unfold f_M_tone f_M_tone_18 tnv
  rw [r, d, if_pos (by unfold r32; omega)]
  by_cases c : s % 7 ≤ 2
  · rw [if_pos c, if_pos c]
  · rw [if_neg c, if_neg c]
/-- what the class keeps of a move or a mirror, and the reference -/
noncomputable def CRk (B Bm : zB) (k : Int) : Prop := ((Bm 14 0 42 k = 0 ∧ B 11 0 15 k = 1 ∧ B 11 0 16 k = Bm 14 0 43 k ∧ B 11 0 17 k = Bm 14 0 44 k) ∨ (Bm 14 0 42 k = 1 ∧ B 11 0 15 k = -1 ∧ B 11 0 16 k = 2 * Bm 14 0 43 k ∧ B 11 0 17 k = 2 * Bm 14 0 44 k)) ∧ (-200 ≤ B 11 0 16 k ∧ B 11 0 16 k ≤ 200) ∧ (-500 ≤ B 11 0 17 k ∧ B 11 0 17 k ≤ 500)
noncomputable abbrev okP (s t : Int) : Prop := (0 ≤ s ∧ s ≤ 62) ∧ (-2 ≤ t - tnv s ∧ t - tnv s ≤ 2)
noncomputable def crr (B : zB) : Nat → Int → Int → Option (Int × Int)
  | 0, s, t => some (s, t)
  | n + 1, s, t => if okP (B 11 0 16 n + B 11 0 15 n * s) (B 11 0 17 n + B 11 0 15 n * t) then crr B n (B 11 0 16 n + B 11 0 15 n * s) (B 11 0 17 n + B 11 0 15 n * t) else none
theorem crr_ok {B : zB} : ∀ {n : Nat} {s t s' t' : Int}, okP s t → crr B n s t = some (s', t') → okP s' t' := by
  intro n
  induction n with
  | zero =>
    intro s t s' t' h e
    simp only [crr, Option.some.injEq, Prod.mk.injEq] at e
    rw [← e.1, ← e.2]
    exact h
  | succ n ih =>
    intro s t s' t' h e
    simp only [crr] at e
    by_cases c : okP (B 11 0 16 n + B 11 0 15 n * s) (B 11 0 17 n + B 11 0 15 n * t)
    · rw [if_pos c] at e
      exact ih c e
    · rw [if_neg c] at e
      exact absurd e (by simp)
noncomputable def crC (K : zK) (e pt : Int) (F : zF) (B : zB) : Option (Int × Int) → zO
  | some (s, t) => f_Walker_addPitch_122 K 1 t s 0 e pt F B
  | none => f_Walker_addPitch_142 K 0 pt F B
theorem C37x {K : zK} {e pt l t s : Int} {F : zF} {B : zB} {m : Nat} (hl : r32 l) : f_Walker_addPitch_37 K (m + 1) l 0 t s 0 e pt F B = f_Walker_addPitch_142 K 0 pt F B := by
  have z : ∀ F B, f_Walker_addPitch_122 K 0 t s 0 e pt F B = f_Walker_addPitch_142 K 0 pt F B := fun F B => by
    unfold f_Walker_addPitch_122
    rw [if_pos (by decide), if_pos rfl]
  unfold f_Walker_addPitch_37
  rw [if_pos hl]
  by_cases c : l < 0
  · rw [if_pos c, z]
  · rw [if_neg c, if_pos (by decide), if_pos rfl, z]
theorem C37 {K : zK} {e pt : Int} {F : zF} {B Bm : zB} (h11 : 0 < K.2 11) : ∀ (n m : Nat) {s t : Int}, n + 1 < m → n ≤ 64 → (∀ k, 0 ≤ k → k < n → CRk B Bm k) → okP s t → f_Walker_addPitch_37 K m ((n : Int) - 1) 1 t s 0 e pt F B = crC K e pt F B (crr B n s t) := by
  intro n
  induction n with
  | zero =>
    intro m s t hm h64 hc ok
    obtain ⟨m, rfl⟩ : ∃ x, m = x + 1 := ⟨m - 1, by omega⟩
    unfold f_Walker_addPitch_37
    rw [if_pos (by decide), if_pos (by decide)]
    rfl
  | succ n ih =>
    intro m s t hm h64 hc ok
    obtain ⟨m, rfl⟩ : ∃ x, m = x + 1 := ⟨m - 1, by omega⟩
    obtain ⟨m', rfl⟩ : ∃ x, m = x + 1 := ⟨m - 1, by omega⟩
    have hk := hc n (by omega) (by omega)
    obtain ⟨⟨s0, s1⟩, t0, t1⟩ := ok
    have tb := tnv_b s0 s1
    rw [show ((n + 1 : Nat) : Int) - 1 = (n : Int) by omega, crr]
    have bs : -300 ≤ B 11 0 16 n + B 11 0 15 n * s ∧ B 11 0 16 n + B 11 0 15 n * s ≤ 300 := by
      obtain ⟨hh, b1, b2⟩ := hk
      rcases hh with ⟨_, e, _⟩ | ⟨_, e, _⟩ <;> rw [e] <;> omega
    have bt : -1000 ≤ B 11 0 17 n + B 11 0 15 n * t ∧ B 11 0 17 n + B 11 0 15 n * t ≤ 1000 := by
      obtain ⟨hh, b1, b2⟩ := hk
      rcases hh with ⟨_, e, _⟩ | ⟨_, e, _⟩ <;> rw [e] <;> omega
    generalize hs : B 11 0 16 n + B 11 0 15 n * s = s' at bs ⊢
    generalize ht : B 11 0 17 n + B 11 0 15 n * t = t' at bt ⊢
    unfold f_Walker_addPitch_37 f_Walker_addPitch_113 f_Walker_addPitch_114
    rw [if_pos (by unfold r32; omega), if_neg (by omega), if_pos (by decide), if_neg (by decide), if_pos ⟨Int.le_refl _, h11⟩, if_pos (by omega), hs, ht, if_pos (by unfold r32; omega)]
    by_cases c1 : s' < 0
    · rw [if_pos c1, C37x (by unfold r32; omega), if_neg (fun z => by have := z.1; omega)]
      rfl
    rw [if_neg c1]
    by_cases c2 : 63 ≤ s'
    · rw [if_pos c2, C37x (by unfold r32; omega), if_neg (fun z => by have := z.1; omega)]
      rfl
    have tb' := tnv_b (s := s') (by omega) (by omega)
    have za : zabs (t' - tnv s') = t' - tnv s' ∨ zabs (t' - tnv s') = -(t' - tnv s') := by unfold zabs; split <;> omega
    have zn : 0 ≤ zabs (t' - tnv s') := by unfold zabs; split <;> omega
    rw [if_neg c2, C_nat (by omega) (by omega), zb_s, if_pos (by unfold r32; omega), if_pos (by unfold r32; omega)]
    by_cases c3 : 2 < zabs (t' - tnv s')
    · rw [if_pos c3, C37x (by unfold r32; omega), if_neg (fun z => by have := z.2; omega)]
      rfl
    · have ok' : okP s' t' := ⟨by omega, by omega⟩
      rw [if_neg c3, if_pos ok', ih (m' + 1) (by omega) (by omega) (fun k a b => hc k a (by omega)) ok']
noncomputable def crM (K : Nat) (x p : Int) (F : zF) (B : zB) : Option (Int × Int) → zO
  | some (s, t) => f_M_pitchOf_184 K K (6 * x) (6 * x + B 13 (F 14 0 6) 21 x) (6 * x) t s x p F B
  | none => f_M_pitchOf_146 K p F B
theorem L32 {K : Nat} {x p : Int} {F : zF} {B Bm : zB} (h6 : 0 ≤ F 14 0 6 ∧ F 14 0 6 < 3) (hx : 0 ≤ x ∧ x < 4000) : ∀ (n m : Nat) {s t : Int}, n < m → n ≤ 64 → (∀ k, 0 ≤ k → k < n → CRk B Bm k) → okP s t → f_M_pitchOf_32 K m ((n : Int) - 1) t s x p F Bm = crM K x p F Bm (crr B n s t) := by
  intro n
  induction n with
  | zero =>
    intro m s t hm h64 hc ok
    obtain ⟨m, rfl⟩ : ∃ x, m = x + 1 := ⟨m - 1, by omega⟩
    unfold f_M_pitchOf_32
    rw [if_pos (by decide), if_pos (by decide), if_pos h6, if_pos hx]
    rfl
  | succ n ih =>
    intro m s t hm h64 hc ok
    obtain ⟨m, rfl⟩ : ∃ x, m = x + 1 := ⟨m - 1, by omega⟩
    have hk := hc n (by omega) (by omega)
    obtain ⟨⟨s0, s1⟩, t0, t1⟩ := ok
    have tb := tnv_b s0 s1
    rw [show ((n + 1 : Nat) : Int) - 1 = (n : Int) by omega, crr]
    have fin : ∀ s' t', -300 ≤ s' → s' ≤ 300 → -1000 ≤ t' → t' ≤ 1000 → f_M_pitchOf_106 (f_M_pitchOf_32 K m) K s' n x p t' F Bm = crM K x p F Bm (if okP s' t' then crr B n s' t' else none) := by
      intro s' t' b1 b2 b3 b4
      unfold f_M_pitchOf_106 f_M_pitchOf_118 f_M_pitchOf_131
      rw [if_pos (by unfold r32; omega)]
      by_cases c1 : s' < 0
      · rw [if_pos c1, if_pos (by decide), if_neg (by decide), if_neg (by decide), if_neg (fun z => by have := z.1; omega)]
        rfl
      rw [if_neg c1]
      by_cases c2 : s' ≤ 62
      case neg =>
        rw [if_neg c2, if_pos (by decide), if_neg (by decide), if_neg (by decide), if_neg (fun z => by have := z.1; omega)]
        rfl
      have tb' := tnv_b (s := s') (by omega) c2
      rw [if_pos c2, L_tonP (by omega) c2, zb_s, Int.add_zero, if_pos (by unfold r32; omega)]
      by_cases c3 : t' - tnv s' < -2
      · rw [if_pos c3, if_neg (fun z => by have := z.2; omega)]
        rfl
      rw [if_neg c3]
      by_cases c4 : t' - tnv s' ≤ 2
      · have ok' : okP s' t' := ⟨by omega, by omega⟩
        rw [if_pos c4, if_pos ok', ih m (by omega) (by omega) (fun k a b => hc k a (by omega)) ok']
      · rw [if_neg c4, if_neg (fun z => by have := z.2; omega)]
        rfl
    unfold f_M_pitchOf_32 f_M_pitchOf_70
    rw [if_pos (by unfold r32; omega), if_neg (by omega), if_pos (by omega), if_pos (by rcases hk.1 with ⟨e, _⟩ | ⟨e, _⟩ <;> rw [e] <;> decide)]
    obtain ⟨hh, b1, b2⟩ := hk
    rcases hh with ⟨e, e1, e2, e3⟩ | ⟨e, e1, e2, e3⟩
    · rw [if_pos e, if_pos (by omega), if_pos (by rw [e]; decide), if_pos e, fin _ _ (by omega) (by omega) (by omega) (by omega), e1, e2, e3, Int.one_mul, Int.one_mul, Int.add_comm s, Int.add_comm t]
    · rw [if_neg (by omega), if_pos (by omega), if_pos (by rw [e]; decide), if_neg (by omega), fin _ _ (by omega) (by omega) (by omega) (by omega), e1, e2, e3, show 2 * Bm 14 0 43 n + -1 * s = 2 * Bm 14 0 43 n - s by omega, show 2 * Bm 14 0 44 n + -1 * t = 2 * Bm 14 0 44 n - t by omega]
end
end
section
section
/-! ===== a pitch put into its event ===== -/
noncomputable def shf (a top v : Int) (g : Int → Int) (k : Int) : Int := if k = a then v else if a < k ∧ k ≤ top then g (k - 1) else g k
theorem shf_s {a top v : Int} {g g' : Int → Int} (h : a < top) (h1 : ∀ k, ¬ k = top → g' k = g k) (h2 : g' top = g (top - 1)) (k : Int) : shf a (top - 1) v g' k = shf a top v g k := by
  unfold shf
  by_cases c : k = a
  · rw [if_pos c, if_pos c]
  · rw [if_neg c, if_neg c]
    by_cases d : a < k ∧ k ≤ top - 1
    · rw [if_pos d, if_pos (by omega), h1 _ (by omega)]
    · rw [if_neg d]
      by_cases e : k = top
      · rw [if_pos (by omega), e, h2]
      · rw [if_neg (by omega), h1 _ e]
theorem shf_0 {a v : Int} {g g' : Int → Int} (h1 : ∀ k, ¬ k = a → g' k = g k) (h2 : g' a = v) (k : Int) : g' k = shf a a v g k := by
  unfold shf
  by_cases c : k = a
  · rw [if_pos c, c, h2]
  · rw [if_neg c, if_neg (by omega), h1 _ c]
theorem C75 {K : zK} {F : zF} {e s al a : Int} (he : 0 ≤ e ∧ e < K.2 1) (a0 : 0 ≤ a) : ∀ (j n : Nat) {l : Int} {B : zB}, l = a + j → l ≤ 5 → j < n → ∃ B', f_Event_insert_75 K n l a e s al F B = some (1, zup3 F 1 e 10 (F 1 e 10 + 1), B') ∧ (∀ k, B' 1 e 12 k = shf a l s (B 1 e 12) k) ∧ (∀ k, B' 1 e 13 k = shf a l al (B 1 e 13) k) ∧ ∀ c i k y, ¬ (c = 1 ∧ i = e ∧ (k = 12 ∨ k = 13)) → B' c i k y = B c i k y := by
  intro j
  induction j with
  | zero =>
    intro n l B hl h5 hn
    obtain ⟨n, rfl⟩ : ∃ m, n = m + 1 := ⟨n - 1, by omega⟩
    have hl : l = a := by omega
    subst hl
    refine ⟨_, by unfold f_Event_insert_75; rw [if_pos (by unfold r32; omega), if_pos (by unfold r32; omega), if_pos (by omega), if_pos he, if_pos (by omega)], ?_, ?_, ?_⟩
    · exact fun k => shf_0 (fun k h => by rw [zup4_v, if_neg (by omega), zup4_v, if_neg (by omega)]) (by rw [zup4_v, if_neg (by omega), zup4_v, if_pos (by omega)]) k
    · exact fun k => shf_0 (fun k h => by rw [zup4_v, if_neg (by omega), zup4_v, if_neg (by omega)]) (by rw [zup4_v, if_pos (by omega)]) k
    · intro c i k y h
      rw [zup4_v, if_neg (by omega), zup4_v, if_neg (by omega)]
  | succ j ih =>
    intro n l B hl h5 hn
    obtain ⟨n, rfl⟩ : ∃ m, n = m + 1 := ⟨n - 1, by omega⟩
    obtain ⟨B', h, g1, g2, g3⟩ := ih n (l := l - 1) (B := zup4 (zup4 B 1 e 12 l (B 1 e 12 (l - 1))) 1 e 13 l ((zup4 B 1 e 12 l (B 1 e 12 (l - 1))) 1 e 13 (l - 1))) (by omega) (by omega) (by omega)
    refine ⟨B', ?_, ?_, ?_, ?_⟩
    · unfold f_Event_insert_75
      rw [if_pos (by unfold r32; omega), if_pos (by unfold r32; omega), if_neg (by omega), if_pos he, if_pos (by omega), if_pos (by omega), h]
    · intro k
      rw [g1, shf_s (g := B 1 e 12) (by omega) (fun k h => by rw [zup4_v, if_neg (by omega), zup4_v, if_neg (by omega)]) (by rw [zup4_v, if_neg (by omega), zup4_v, if_pos (by omega)])]
    · intro k
      rw [g2, shf_s (g := B 1 e 13) (by omega) (fun k h => by rw [zup4_v, if_neg (by omega), zup4_v, if_neg (by omega)]) (by rw [zup4_v, if_pos (by omega), zup4_v, if_neg (by omega)])]
    · intro c i k y h
      rw [g3 c i k y h, zup4_v, if_neg (by omega), zup4_v, if_neg (by omega)]
theorem C24 {K : zK} {F : zF} {B : zB} {e s al : Int} (he : 0 ≤ e ∧ e < K.2 1) (hs : r32 s) {c0 : Int} (hc0 : c0 ≤ 6) (hb : ∀ k, 0 ≤ k → k < c0 → r32 (B 1 e 12 k)) : ∀ (j n : Nat), j ≤ c0 → j < n → ∃ a, f_Event_insert_24 K n ((j : Int) - 1) j e s al F B = f_Event_insert_49 K a e s al F B ∧ (0 ≤ a ∧ a ≤ j) ∧ (∀ k, a ≤ k → k < j → s ≤ B 1 e 12 k) ∧ (a = 0 ∨ B 1 e 12 (a - 1) < s) := by
  intro j
  induction j with
  | zero =>
    intro n h6 hn
    obtain ⟨n, rfl⟩ : ∃ m, n = m + 1 := ⟨n - 1, by omega⟩
    refine ⟨0, ?_, by omega, fun k a b => by omega, Or.inl rfl⟩
    unfold f_Event_insert_24
    rw [if_pos (by decide), if_pos (by decide)]
    rfl
  | succ j ih =>
    intro n h6 hn
    obtain ⟨n, rfl⟩ : ∃ m, n = m + 1 := ⟨n - 1, by omega⟩
    rw [show ((j + 1 : Nat) : Int) - 1 = (j : Int) by omega]
    have st : f_Event_insert_24 K (n + 1) j ((j + 1 : Nat) : Int) e s al F B = if B 1 e 12 j < s then f_Event_insert_49 K ((j + 1 : Nat) : Int) e s al F B else f_Event_insert_24 K n ((j : Int) - 1) j e s al F B := by
      rw [f_Event_insert_24, if_pos (by unfold r32; omega), if_neg (by omega), if_pos he, if_pos (by omega), if_pos (hb j (by omega) (by omega)), if_pos hs]
    rw [st]
    by_cases c : B 1 e 12 j < s
    · exact ⟨((j + 1 : Nat) : Int), by rw [if_pos c], by omega, fun k a b => by omega, Or.inr (by rw [show ((j + 1 : Nat) : Int) - 1 = (j : Int) by omega]; exact c)⟩
    · obtain ⟨a, h1, h2, h3, h4⟩ := ih n (by omega) (by omega)
      refine ⟨a, by rw [if_neg c, h1], by omega, fun k p q => ?_, h4⟩
      by_cases z : k = j
      · rw [z]; omega
      · exact h3 k p (by omega)
/-- one event's pitches on both sides -/
noncomputable def EPR (e x w c : Int) (F : zF) (B Bm : zB) : Prop := F 1 e 10 = c ∧ Bm 13 w 21 x = c ∧ (0 ≤ c ∧ c ≤ 6) ∧ (∀ k, 0 ≤ k → k < c → B 1 e 12 k = Bm 13 w 28 (6 * x + k) ∧ B 1 e 13 k = Bm 13 w 29 (6 * x + k) ∧ (0 ≤ B 1 e 12 k ∧ B 1 e 12 k ≤ 62) ∧ (-2 ≤ B 1 e 13 k ∧ B 1 e 13 k ≤ 2)) ∧ (∀ j k, 0 ≤ j → j < k → k < c → B 1 e 12 j < B 1 e 12 k)
theorem L_failAtB {K : Nat} {F : zF} {B : zB} {s i : Int} (h : bad F) : f_M_failAt K s i F B = some (0, F, B) := by
  unfold bad at h
  unfold f_M_failAt
  rw [if_pos (by unfold r32; omega), if_neg (by omega)]
theorem L184b {K : Nat} {F : zF} {B : zB} {w f t s x p h : Int} (hw : F 14 0 6 = w) (h6 : 0 ≤ w ∧ w < 3) (hB : bad F) (hs : r32 s) (hp : 0 ≤ p ∧ p < 3001) (hh : 0 ≤ h ∧ h ≤ 24000) (hr : ∀ k, 0 ≤ k → k < h → f ≤ k → r32 (B 13 w 28 k)) : ∀ (j n : Nat) {l : Int}, 0 ≤ l → f ≤ l → l ≤ h → (h - l).toNat = j → j < n → f_M_pitchOf_184 K n l h f t s x p F B = some (0, F, B) := by
  intro j
  induction j with
  | zero =>
    intro n l l0 lf l1 hj hn
    obtain ⟨n, rfl⟩ : ∃ m, n = m + 1 := ⟨n - 1, by omega⟩
    unfold f_M_pitchOf_184
    rw [if_pos (by unfold r32; omega), if_pos (by unfold r32; omega), if_pos (by omega), L_goodB hB, zb_s, if_pos (by decide), if_pos rfl]
  | succ j ih =>
    intro n l l0 lf l1 hj hn
    obtain ⟨n, rfl⟩ : ∃ m, n = m + 1 := ⟨n - 1, by omega⟩
    unfold f_M_pitchOf_184 f_M_pitchOf_212
    rw [hw, if_pos (by unfold r32; omega), if_pos (by unfold r32; omega), if_neg (by omega), if_pos h6, if_pos (by omega), if_pos (hr l (by omega) (by omega) lf), if_pos hs, L_failAtB hB, zb_s, ih n (by omega) (by omega) (by omega) (by omega) (by omega)]
    split <;> rfl
theorem L184n {K : Nat} {F : zF} {B : zB} {w f t s x p h : Int} (hw : F 14 0 6 = w) (h6 : 0 ≤ w ∧ w < 3) (hB : F 14 0 17 = 0) (hs : r32 s) (hh : 0 ≤ h ∧ h ≤ 24000) (hr : ∀ k, 0 ≤ k → k < h → f ≤ k → r32 (B 13 w 28 k) ∧ ¬ B 13 w 28 k = s) : ∀ (j n : Nat) {l : Int}, 0 ≤ l → f ≤ l → l ≤ h → (h - l).toNat = j → j < n → f_M_pitchOf_184 K n l h f t s x p F B = f_M_pitchOf_226 K K h f t s x F B := by
  intro j
  induction j with
  | zero =>
    intro n l l0 lf l1 hj hn
    obtain ⟨n, rfl⟩ : ∃ m, n = m + 1 := ⟨n - 1, by omega⟩
    unfold f_M_pitchOf_184
    rw [if_pos (by unfold r32; omega), if_pos (by unfold r32; omega), if_pos (by omega), L_good hB, zb_s, if_pos (by decide), if_neg (by decide)]
  | succ j ih =>
    intro n l l0 lf l1 hj hn
    obtain ⟨n, rfl⟩ : ∃ m, n = m + 1 := ⟨n - 1, by omega⟩
    unfold f_M_pitchOf_184 f_M_pitchOf_212
    rw [hw, if_pos (by unfold r32; omega), if_pos (by unfold r32; omega), if_neg (by omega), if_pos h6, if_pos (by omega), if_pos (hr l (by omega) (by omega) lf).1, if_pos hs, if_neg (hr l (by omega) (by omega) lf).2, ih n (by omega) (by omega) (by omega) (by omega) (by omega)]
/-- the reference's fault at a token -/
noncomputable def flM (F : zF) (B : zB) (s i : Int) : zF := zup3 (zup3 F 14 0 17 s) 14 0 18 (B 14 0 8 i)
theorem L_failAt {K : Nat} {F : zF} {B : zB} {s i : Int} (h : F 14 0 17 = 0) (hi : 0 ≤ i ∧ i < 3001) : f_M_failAt K s i F B = some (0, flM F B s i, B) := by
  unfold f_M_failAt flM
  rw [h, if_pos (by decide), if_pos (by decide), if_pos hi]
theorem flM_17 {F : zF} {B : zB} {s i : Int} : flM F B s i 14 0 17 = s := by
  unfold flM
  rw [zup3_v, if_neg (by decide), zup3_v, if_pos (by decide)]
theorem flM_18 {F : zF} {B : zB} {s i : Int} : flM F B s i 14 0 18 = B 14 0 8 i := by
  unfold flM
  rw [zup3_v, if_pos (by decide)]
theorem flM_n {F : zF} {B : zB} {s i : Int} {c k : Nat} {y : Int} (h : ¬ (c = 14 ∧ y = 0 ∧ (k = 17 ∨ k = 18))) : flM F B s i c y k = F c y k := by
  unfold flM
  rw [zup3_v, if_neg (by omega), zup3_v, if_neg (by omega)]
theorem flM_b {F : zF} {B : zB} {s i : Int} (h : 1 ≤ s) (h' : s ≤ 15) : bad (flM F B s i) := by
  unfold bad
  rw [flM_17]
  exact ⟨h, h'⟩
theorem L184y {K : Nat} {F : zF} {B : zB} {w f t s x p h a : Int} (hw : F 14 0 6 = w) (h6 : 0 ≤ w ∧ w < 3) (hB : F 14 0 17 = 0) (hs : r32 s) (hp : 0 ≤ p ∧ p < 3001) (hh : 0 ≤ h ∧ h ≤ 24000) (hr : ∀ k, 0 ≤ k → k < h → f ≤ k → r32 (B 13 w 28 k)) (ha : B 13 w 28 a = s) (ah : a < h) : ∀ (j n : Nat) {l : Int}, 0 ≤ l → f ≤ l → l ≤ a → (h - l).toNat = j → j < n → f_M_pitchOf_184 K n l h f t s x p F B = some (0, flM F B 9 p, B) := by
  intro j
  induction j with
  | zero => intro n l l0 lf l1 hj hn; omega
  | succ j ih =>
    intro n l l0 lf l1 hj hn
    obtain ⟨n, rfl⟩ : ∃ m, n = m + 1 := ⟨n - 1, by omega⟩
    unfold f_M_pitchOf_184 f_M_pitchOf_212
    rw [hw, if_pos (by unfold r32; omega), if_pos (by unfold r32; omega), if_neg (by omega), if_pos h6, if_pos (by omega), if_pos (hr l (by omega) (by omega) lf), if_pos hs]
    by_cases c : B 13 w 28 l = s
    · rw [if_pos c, L_failAt hB hp, zb_s, L184b (by rw [flM_n (by decide)]; exact hw) h6 (flM_b (by decide) (by decide)) hs hp hh hr j n (by omega) (by omega) (by omega) (by omega) (by omega)]
    · have la : ¬ l = a := fun z => c (by rw [z]; exact ha)
      rw [if_neg c, ih n (by omega) (by omega) (by omega) (by omega) (by omega)]
theorem L226 {K : Nat} {F : zF} {w t s x a f : Int} (hw : F 14 0 6 = w) (h6 : 0 ≤ w ∧ w < 3) (s0 : 0 ≤ s) (s1 : s ≤ 62) (hx : 0 ≤ x ∧ x < 4000) (f0 : 0 ≤ f) (fa : f ≤ a) : ∀ (j n : Nat) {l : Int} {B : zB}, l = a + j → l < 24000 → j < n → (∀ k, f ≤ k → k < l → r32 (B 13 w 28 k)) → (∀ k, a ≤ k → k < l → s < B 13 w 28 k) → (a = f ∨ B 13 w 28 (a - 1) ≤ s) → ∃ B', f_M_pitchOf_226 K n l f t s x F B = some (0, F, B') ∧ (∀ k, B' 13 w 28 k = shf a l s (B 13 w 28) k) ∧ (∀ k, B' 13 w 29 k = shf a l (t - tnv s) (B 13 w 29) k) ∧ B' 13 w 21 x = B 13 w 21 x + 1 ∧ ∀ c i k y, ¬ (c = 13 ∧ i = w ∧ (k = 28 ∨ k = 29 ∨ (k = 21 ∧ y = x))) → B' c i k y = B c i k y := by
  intro j
  induction j with
  | zero =>
    intro n l B hl h5 hn hr hg hm
    obtain ⟨n, rfl⟩ : ∃ m, n = m + 1 := ⟨n - 1, by omega⟩
    have hl : l = a := by omega
    subst hl
    have e99 : f_M_pitchOf_226 K (n + 1) l f t s x F B = f_M_pitchOf_299 K l t s x F B := by
      unfold f_M_pitchOf_226
      rw [hw, if_pos (by unfold r32; omega), if_pos (by unfold r32; omega)]
      by_cases c : l ≤ f
      · rw [if_pos c]
      · rw [if_neg c, if_pos h6, if_pos (by omega), if_pos (hr (l - 1) (by omega) (by omega) |> fun z => z), if_pos (by unfold r32; omega), if_pos (by omega)]
    refine ⟨_, by rw [e99]; unfold f_M_pitchOf_299; rw [hw, if_pos h6, if_pos (by omega), L_tonP s0 s1, zb_s, hw, if_pos h6, if_pos hx, Int.add_zero], ?_, ?_, ?_, ?_⟩
    · exact fun k => shf_0 (fun k h => by rw [zup4_v, if_neg (by omega), zup4_v, if_neg (by omega), zup4_v, if_neg (by omega)]) (by rw [zup4_v, if_neg (by omega), zup4_v, if_neg (by omega), zup4_v, if_pos (by omega)]) k
    · exact fun k => shf_0 (fun k h => by rw [zup4_v, if_neg (by omega), zup4_v, if_neg (by omega), zup4_v, if_neg (by omega)]) (by rw [zup4_v, if_neg (by omega), zup4_v, if_pos (by omega)]) k
    · rw [zup4_v, if_pos (by omega), zup4_v, if_neg (by omega), zup4_v, if_neg (by omega)]
    · intro c i k y h
      rw [zup4_v, if_neg (by omega), zup4_v, if_neg (by omega), zup4_v, if_neg (by omega)]
  | succ j ih =>
    intro n l B hl h5 hn hr hg hm
    obtain ⟨n, rfl⟩ : ∃ m, n = m + 1 := ⟨n - 1, by omega⟩
    have e : ∀ k, ¬ k = l → (zup4 (zup4 B 13 w 28 l (B 13 w 28 (l - 1))) 13 w 29 l ((zup4 B 13 w 28 l (B 13 w 28 (l - 1))) 13 w 29 (l - 1))) 13 w 28 k = B 13 w 28 k := fun k h => by rw [zup4_v, if_neg (by omega), zup4_v, if_neg (by omega)]
    obtain ⟨B', h, g1, g2, g3, g4⟩ := ih n (l := l - 1) (B := zup4 (zup4 B 13 w 28 l (B 13 w 28 (l - 1))) 13 w 29 l ((zup4 B 13 w 28 l (B 13 w 28 (l - 1))) 13 w 29 (l - 1))) (by omega) (by omega) (by omega) (fun k p q => by rw [e k (by omega)]; exact hr k p (by omega)) (fun k p q => by rw [e k (by omega)]; exact hg k p (by omega)) (by rw [e (a - 1) (by omega)]; exact hm)
    have gl := hg (l - 1) (by omega) (by omega)
    refine ⟨B', ?_, ?_, ?_, ?_, ?_⟩
    · unfold f_M_pitchOf_226
      rw [hw, if_pos (by unfold r32; omega), if_pos (by unfold r32; omega), if_neg (by omega), if_pos h6, if_pos (by omega), if_pos (hr (l - 1) (by omega) (by omega)), if_pos (by unfold r32; omega), if_neg (by omega), if_pos (by omega), h]
    · intro k
      rw [g1, shf_s (g := B 13 w 28) (by omega) e (by rw [zup4_v, if_neg (by omega), zup4_v, if_pos (by omega)])]
    · intro k
      rw [g2, shf_s (g := B 13 w 29) (by omega) (fun k h => by rw [zup4_v, if_neg (by omega), zup4_v, if_neg (by omega)]) (by rw [zup4_v, if_pos (by omega), zup4_v, if_neg (by omega)])]
    · rw [g3, zup4_v, if_neg (by omega), zup4_v, if_neg (by omega)]
    · intro c i k y h
      rw [g4 c i k y h, zup4_v, if_neg (by omega), zup4_v, if_neg (by omega)]
end
end
section
section
/-! ===== one pitch of an event, both sides ===== -/
theorem C_wref {K : zK} {F : zF} {B : zB} {s p : Int} (h11 : 0 < K.2 11) (h : F 11 0 2 = 0) : f_Walker_refuse K 0 s p F B = some (0, zup3 F 11 0 2 (s + 16 * p), B) := by
  unfold f_Walker_refuse f_Walker_refuse_17
  rw [if_pos ⟨Int.le_refl _, h11⟩, h, if_pos (by decide), if_pos rfl]
theorem C_wrefB {K : zK} {F : zF} {B : zB} {s p : Int} (h11 : 0 < K.2 11) (h : r32 (F 11 0 2)) (h' : ¬ F 11 0 2 = 0) : f_Walker_refuse K 0 s p F B = some (0, F, B) := by
  unfold f_Walker_refuse f_Walker_refuse_17
  rw [if_pos ⟨Int.le_refl _, h11⟩, if_pos h, if_neg h']
theorem shf_a {a l v k : Int} {g : Int → Int} (h : k = a) : shf a l v g k = v := by
  unfold shf
  rw [if_pos h]
theorem shf_m {a l v k : Int} {g : Int → Int} (h : a < k) (h' : k ≤ l) : shf a l v g k = g (k - 1) := by
  unfold shf
  rw [if_neg (by omega), if_pos ⟨h, h'⟩]
theorem shf_o {a l v k : Int} {g : Int → Int} (h : k < a ∨ (l < k ∧ ¬ k = a)) : shf a l v g k = g k := by
  unfold shf
  rw [if_neg (by omega), if_neg (by omega)]
noncomputable def pOK (e x w c : Int) (F : zF) (B : zB) (Fm : zF) (Bm : zB) (F' : zF) (B' : zB) (Fm' : zF) (Bm' : zB) : Prop := F' = zup3 F 1 e 10 (c + 1) ∧ Fm' = Fm ∧ EPR e x w (c + 1) F' B' Bm' ∧ (∀ c i k y, ¬ (c = 1 ∧ i = e ∧ (k = 12 ∨ k = 13)) → B' c i k y = B c i k y) ∧ (∀ c i k y, ¬ (c = 13 ∧ i = w ∧ (((k = 28 ∨ k = 29) ∧ 6 * x ≤ y ∧ y < 6 * x + 6) ∨ (k = 21 ∧ y = x))) → Bm' c i k y = Bm c i k y)
noncomputable def pNO (p : Int) (F : zF) (B : zB) (Fm : zF) (Bm : zB) (F' : zF) (B' : zB) (Fm' : zF) (Bm' : zB) : Prop := F' = zup3 F 11 0 2 (9 + 16 * Bm 14 0 8 p) ∧ B' = B ∧ Fm' = flM Fm Bm 9 p ∧ Bm' = Bm
theorem P_pitch {K : zK} {Km : Nat} {e x w c p pt : Int} {n : Nat} {F : zF} {B : zB} {Fm : zF} {Bm : zB} (hK : 100 < K.1) (hKm : 100 < Km) (h11 : 0 < K.2 11) (h3 : 0 < K.2 3) (hE : EPR e x w c F B Bm) (c5 : c ≤ 5) (he : 0 ≤ e ∧ e < K.2 1) (hx : 0 ≤ x ∧ x < 4000) (h0 : F 11 0 0 = 0) (hwr : F 11 0 2 = 0) (h17 : Fm 14 0 17 = 0) (hw : Fm 14 0 6 = w) (h6 : 0 ≤ w ∧ w < 3) (hn : F 11 0 18 = n) (hn' : Fm 14 0 45 = n) (n64 : n ≤ 64) (hc : ∀ k, 0 ≤ k → k < n → CRk B Bm k) (hpt : 0 ≤ pt ∧ pt < 1500) (hp : 0 ≤ p ∧ p < 3001) (e8 : B 3 0 8 pt = Bm 14 0 9 p) (e9 : B 3 0 9 pt = Bm 14 0 10 p) (e10 : B 3 0 10 pt = Bm 14 0 8 p) (v0 : 0 ≤ Bm 14 0 9 p ∧ Bm 14 0 9 p ≤ 62) (a0 : -2 ≤ Bm 14 0 10 p ∧ Bm 14 0 10 p ≤ 2) : zP (f_Walker_addPitch K 0 e pt F B) (f_M_pitchOf Km x p Fm Bm) (fun _ F' B' _ Fm' Bm' => pOK e x w c F B Fm Bm F' B' Fm' Bm' ∨ pNO p F B Fm Bm F' B' Fm' Bm') := by
  have okp : okP (Bm 14 0 9 p) (tnv (Bm 14 0 9 p) + Bm 14 0 10 p) := ⟨v0, by omega⟩
  have l1 : f_M_pitchOf Km x p Fm Bm = crM Km x p Fm Bm (crr B n (Bm 14 0 9 p) (tnv (Bm 14 0 9 p) + Bm 14 0 10 p)) := by
    unfold f_M_pitchOf
    rw [if_pos hp, L_tonP v0.1 v0.2, zb_s, hn', L32 (by rw [hw]; exact h6) hx n Km (by omega) n64 hc okp]
  have c1 : f_Walker_addPitch K 0 e pt F B = crC K e pt F B (crr B n (Bm 14 0 9 p) (tnv (Bm 14 0 9 p) + Bm 14 0 10 p)) := by
    unfold f_Walker_addPitch
    rw [if_pos ⟨Int.le_refl _, h11⟩, h0, if_pos ⟨Int.le_refl _, h3⟩, if_pos hpt, e8, C_nat v0.1 v0.2, zb_s, h0, if_pos ⟨Int.le_refl _, h3⟩, hn, e9, C37 h11 n K.1 (by omega) n64 hc okp]
  have no : f_Walker_addPitch_142 K 0 pt F B = some (0, zup3 F 11 0 2 (9 + 16 * Bm 14 0 8 p), B) := by
    unfold f_Walker_addPitch_142 f_Walker_addPitch_157
    rw [if_pos ⟨Int.le_refl _, h11⟩, h0, if_pos ⟨Int.le_refl _, h3⟩, if_pos hpt, C_wref h11 hwr, zb_s, e10]
  rw [l1, c1]
  cases hr : crr B n (Bm 14 0 9 p) (tnv (Bm 14 0 9 p) + Bm 14 0 10 p) with
  | none =>
    show zP (f_Walker_addPitch_142 K 0 pt F B) (f_M_pitchOf_146 Km p Fm Bm) _
    rw [no, f_M_pitchOf_146, L_failAt h17 hp, zb_s]
    exact zP_s (Or.inr ⟨rfl, rfl, rfl, rfl⟩)
  | some st =>
    obtain ⟨s, t⟩ := st
    obtain ⟨⟨s0, s1⟩, t0, t1⟩ := crr_ok okp hr
    obtain ⟨E1, E2, E3, E4, E5⟩ := hE
    show zP (f_Walker_addPitch_122 K 1 t s 0 e pt F B) (f_M_pitchOf_184 Km Km (6 * x) (6 * x + Bm 13 (Fm 14 0 6) 21 x) (6 * x) t s x p Fm Bm) _
    obtain ⟨a, ha, ⟨a1, a2⟩, a3, a4⟩ := C24 (K := K) (F := F) (B := B) (al := t - tnv s) (c0 := c) he (s := s) (by unfold r32; omega) (by omega) (fun k u v => by have := (E4 k u v).2.2.1; unfold r32; omega) c.toNat K.1 (by omega) (by omega)
    rw [show ((c.toNat : Nat) : Int) = c by omega] at ha a2 a3
    have ci : f_Event_insert K e s (t - tnv s) F B = f_Event_insert_49 K a e s (t - tnv s) F B := by
      unfold f_Event_insert
      rw [if_pos he, E1, if_pos (by unfold r32; omega), if_pos (by omega), ha]
    have rr : ∀ k, 0 ≤ k → k < 6 * x + c → 6 * x ≤ k → r32 (Bm 13 w 28 k) := fun k u v z => by
      have := E4 (k - 6 * x) (by omega) (by omega)
      rw [show 6 * x + (k - 6 * x) = k by omega] at this
      have h1 := this.1
      have h2 := this.2.2.1
      unfold r32
      omega
    rw [f_Walker_addPitch_122, if_pos (by decide), if_neg (by decide), C_nat s0 s1, zb_s, if_pos he, ci, hw, E2]
    by_cases z : a < c ∧ B 1 e 12 a = s
    · have h49 : f_Event_insert_49 K a e s (t - tnv s) F B = some (0, F, B) := by
        unfold f_Event_insert_49
        rw [if_pos he, if_pos (by unfold r32; omega), E1, if_pos (by unfold r32; omega), if_neg (by omega), if_pos (by omega), z.2, if_pos (by unfold r32; omega), if_pos (by unfold r32; omega), if_pos rfl]
      rw [h49, zb_s, if_pos (by decide), if_pos rfl, no, L184y hw h6 h17 (by unfold r32; omega) hp (by omega) rr (a := 6 * x + a) (by rw [← (E4 a a1 z.1).1]; exact z.2) (by omega) c.toNat Km (by omega) (by omega) (by omega) (by omega) (by omega)]
      exact zP_s (Or.inr ⟨rfl, rfl, rfl, rfl⟩)
    · have lt : ∀ k, 0 ≤ k → k < a → B 1 e 12 k < s := fun k u v => by
        rcases a4 with q | q
        · omega
        · by_cases y : k = a - 1
          · rw [y]; exact q
          · have := E5 k (a - 1) u (by omega) (by omega)
            omega
      have gt : ∀ k, a ≤ k → k < c → s < B 1 e 12 k := fun k u v => by
        have h1 := a3 k u v
        by_cases y : k = a
        · subst y
          by_cases q : B 1 e 12 k = s
          · exact absurd ⟨v, q⟩ z
          · omega
        · have := E5 a k a1 (by omega) v
          have := a3 a (by omega) (by omega)
          omega
      have h49 : f_Event_insert_49 K a e s (t - tnv s) F B = f_Event_insert_75 K K.1 c a e s (t - tnv s) F B := by
        unfold f_Event_insert_49 f_Event_insert_69
        rw [if_pos he, if_pos (by unfold r32; omega), E1, if_pos (by unfold r32; omega)]
        by_cases y : c ≤ a
        · rw [if_pos y, if_pos he]
        · have g := gt a (by omega) (by omega)
          have g2 := (E4 a (by omega) (by omega)).2.2.1
          rw [if_neg y, if_pos (by omega), if_pos (by unfold r32; omega), if_pos (by unfold r32; omega), if_neg (by omega), if_pos he]
      have eqR : ∀ k, 6 * x ≤ k → k < 6 * x + c → Bm 13 w 28 k = B 1 e 12 (k - 6 * x) := fun k u v => by
        rw [(E4 (k - 6 * x) (by omega) (by omega)).1, show 6 * x + (k - 6 * x) = k by omega]
      obtain ⟨B', g, g1, g2, g3⟩ := C75 (K := K) (F := F) (e := e) (s := s) (al := t - tnv s) (a := a) he a1 (c - a).toNat K.1 (l := c) (B := B) (by omega) (by omega) (by omega)
      obtain ⟨Bm', m, m1, m2, m3, m4⟩ := L226 (K := Km) (F := Fm) (w := w) (t := t) (s := s) (x := x) (a := 6 * x + a) (f := 6 * x) hw h6 s0 s1 hx (by omega) (by omega) (c - a).toNat Km (l := 6 * x + c) (B := Bm) (by omega) (by omega) (by omega) (fun k u v => rr k (by omega) v u) (fun k u v => by rw [eqR k (by omega) v]; exact gt _ (by omega) (by omega)) (by
        by_cases y : a = 0
        · exact Or.inl (by omega)
        · right
          rw [eqR _ (by omega) (by omega)]
          have := lt (6 * x + a - 1 - 6 * x) (by omega) (by omega)
          omega)
      rw [h49, g, zb_s, if_pos (by decide), if_neg (by decide), f_Walker_addPitch_157, L184n hw h6 h17 (by unfold r32; omega) (by omega) (fun k u v y => ⟨rr k u v y, by
        rw [eqR k y v]
        by_cases q : k - 6 * x < a
        · have := lt _ (by omega) q
          omega
        · have := gt (k - 6 * x) (by omega) (by omega)
          omega⟩) c.toNat Km (by omega) (by omega) (by omega) (by omega) (by omega), m]
      refine zP_s (Or.inl ⟨by rw [E1], rfl, ⟨?_, ?_, by omega, ?_, ?_⟩, g3, ?_⟩)
      · rw [E1, zup3_v, if_pos (by omega)]
      · rw [m3, E2]
      · intro k u v
        rw [g1, g2, m1, m2]
        by_cases y : k = a
        · rw [shf_a y, shf_a y, shf_a (by omega), shf_a (by omega)]
          exact ⟨rfl, rfl, ⟨s0, s1⟩, t0, t1⟩
        · by_cases q : a < k ∧ k ≤ c
          · rw [shf_m q.1 q.2, shf_m q.1 q.2, shf_m (by omega) (by omega), shf_m (by omega) (by omega)]
            have := E4 (k - 1) (by omega) (by omega)
            rw [show 6 * x + (k - 1) = 6 * x + k - 1 by omega] at this
            exact this
          · rw [shf_o (by omega), shf_o (by omega), shf_o (by omega), shf_o (by omega)]
            exact E4 k u (by omega)
      · intro j k u v y
        rw [g1, g1]
        unfold shf
        by_cases q1 : j = a
        · rw [if_pos q1, if_neg (by omega), if_pos (by omega)]
          exact gt (k - 1) (by omega) (by omega)
        rw [if_neg q1]
        by_cases q2 : a < j ∧ j ≤ c
        · rw [if_pos q2, if_neg (by omega), if_pos (by omega)]
          exact E5 (j - 1) (k - 1) (by omega) (by omega) (by omega)
        rw [if_neg q2]
        have := lt j u (by omega)
        by_cases q3 : k = a
        · rw [if_pos q3]; exact this
        rw [if_neg q3]
        by_cases q4 : a < k ∧ k ≤ c
        · rw [if_pos q4]
          have := gt (k - 1) (by omega) (by omega)
          omega
        · rw [if_neg q4]
          exact E5 j k u v (by omega)
      · intro c' i k y h
        by_cases q : c' = 13 ∧ i = w ∧ (k = 28 ∨ k = 29)
        · obtain ⟨rfl, rfl, q⟩ := q
          have hy : ¬ (6 * x ≤ y ∧ y < 6 * x + 6) := fun z => h ⟨rfl, rfl, Or.inl ⟨q, z⟩⟩
          rcases q with rfl | rfl
          · rw [m1]
            unfold shf
            rw [if_neg (by omega), if_neg (by omega)]
          · rw [m2]
            unfold shf
            rw [if_neg (by omega), if_neg (by omega)]
        · exact m4 c' i k y (fun z => by
            obtain ⟨z1, z2, z3⟩ := z
            rcases z3 with z3 | z3 | z3
            · exact q ⟨z1, z2, Or.inl z3⟩
            · exact q ⟨z1, z2, Or.inr z3⟩
            · exact h ⟨z1, z2, Or.inr z3⟩)
end
end
section
section
/-! ===== the walker: an event's pitches one after another ===== -/
noncomputable def PLH (x s0 cnt p0 : Int) (nn : Nat) (F : zF) (B Bm : zB) : Prop := F 11 0 0 = 0 ∧ F 11 0 2 = 0 ∧ F 11 0 18 = nn ∧ B 3 0 6 x = cnt ∧ B 3 0 3 x = p0 ∧ (∀ k, 0 ≤ k → k < nn → CRk B Bm k) ∧ (∀ t, 0 ≤ t → t < cnt → B 3 0 8 (p0 + t) = Bm 14 0 9 (s0 + t) ∧ B 3 0 9 (p0 + t) = Bm 14 0 10 (s0 + t) ∧ B 3 0 10 (p0 + t) = Bm 14 0 8 (s0 + t) ∧ (0 ≤ Bm 14 0 9 (s0 + t) ∧ Bm 14 0 9 (s0 + t) ≤ 62) ∧ (-2 ≤ Bm 14 0 10 (s0 + t) ∧ Bm 14 0 10 (s0 + t) ≤ 2))
/-- what the pitches of event e (x) may change -/
noncomputable def lFr (e x w : Int) (F : zF) (B Bm : zB) (F' : zF) (B' Bm' : zB) : Prop := (∀ c y k, ¬ (c = 1 ∧ y = e ∧ k = 10) → ¬ (c = 11 ∧ y = 0 ∧ k = 2) → F' c y k = F c y k) ∧ (∀ c i k y, ¬ (c = 1 ∧ i = e ∧ (k = 12 ∨ k = 13)) → B' c i k y = B c i k y) ∧ (∀ c i k y, ¬ (c = 13 ∧ i = w ∧ (((k = 28 ∨ k = 29) ∧ 6 * x ≤ y ∧ y < 6 * x + 6) ∨ (k = 21 ∧ y = x))) → Bm' c i k y = Bm c i k y)
theorem lFr_r {e x w : Int} {F : zF} {B Bm : zB} : lFr e x w F B Bm F B Bm := ⟨fun _ _ _ _ _ => rfl, fun _ _ _ _ _ => rfl, fun _ _ _ _ _ => rfl⟩
theorem lFr_t {e x w : Int} {F F' F'' : zF} {B Bm B' Bm' B'' Bm'' : zB} (h : lFr e x w F B Bm F' B' Bm') (h' : lFr e x w F' B' Bm' F'' B'' Bm'') : lFr e x w F B Bm F'' B'' Bm'' := ⟨fun c y k a b => by rw [h'.1 c y k a b, h.1 c y k a b], fun c i k y a => by rw [h'.2.1 c i k y a, h.2.1 c i k y a], fun c i k y a => by rw [h'.2.2 c i k y a, h.2.2 c i k y a]⟩
theorem PLH_f {x s0 cnt p0 e xx w : Int} {nn : Nat} {F F' : zF} {B Bm B' Bm' : zB} (h : PLH x s0 cnt p0 nn F B Bm) (f : lFr e xx w F B Bm F' B' Bm') (h2 : F' 11 0 2 = 0) : PLH x s0 cnt p0 nn F' B' Bm' := by
  obtain ⟨a1, a2, a3, a4, a5, a6, a7⟩ := h
  have b1 : ∀ (c : Nat) i k y, ¬ c = 1 → B' c i k y = B c i k y := fun c i k y n => f.2.1 c i k y (fun z => n z.1)
  have m1 : ∀ (c : Nat) i k y, ¬ c = 13 → Bm' c i k y = Bm c i k y := fun c i k y n => f.2.2 c i k y (fun z => n z.1)
  refine ⟨by rw [f.1 11 0 0 (by omega) (by omega)]; exact a1, h2, by rw [f.1 11 0 18 (by omega) (by omega)]; exact a3, by rw [b1 _ _ _ _ (by decide)]; exact a4, by rw [b1 _ _ _ _ (by decide)]; exact a5, fun k u v => ?_, fun t u v => ?_⟩
  · have := a6 k u v
    unfold CRk at this ⊢
    rw [b1 11 0 15 k (by decide), b1 11 0 16 k (by decide), b1 11 0 17 k (by decide), m1 14 0 42 k (by decide), m1 14 0 43 k (by decide), m1 14 0 44 k (by decide)]
    exact this
  · rw [b1 3 0 8 _ (by decide), b1 3 0 9 _ (by decide), b1 3 0 10 _ (by decide), m1 14 0 9 _ (by decide), m1 14 0 10 _ (by decide), m1 14 0 8 _ (by decide)]
    exact a7 t u v
theorem P_ploop {K : zK} {Km : Nat} {e xx w x s0 cnt p0 len dn nm l4 l3 i N : Int} {nn : Nat} {Fm : zF} {Q : Int → zF → zB → Int → zF → zB → Prop} {F0 : zF} {B0 Bm0 : zB} (hK : 100 < K.1) (hKm : 100 < Km) (h11 : 0 < K.2 11) (h3 : 0 < K.2 3) (he : 0 ≤ e ∧ e < K.2 1) (hxx : 0 ≤ xx ∧ xx < 4000) (hx : 0 ≤ x ∧ x < 3000) (h17 : Fm 14 0 17 = 0) (hw : Fm 14 0 6 = w) (h6 : 0 ≤ w ∧ w < 3) (hn' : Fm 14 0 45 = nn) (n64 : nn ≤ 64) (hc6 : cnt ≤ 6) (hp0 : 0 ≤ p0 ∧ p0 + cnt ≤ 1500) (hs0 : 0 ≤ s0 ∧ s0 + cnt ≤ N) (hN : N ≤ 3000) (ok : ∀ F' B' Bm', lFr e xx w F0 B0 Bm0 F' B' Bm' → F' 11 0 2 = 0 → EPR e xx w cnt F' B' Bm' → zP (f_Walker_makeEvent_273 K len 0 F' B') (f_M_event_0_277 Km xx dn nm l4 l3 i Fm Bm') Q) (no : ∀ F' B' Bm' p, lFr e xx w F0 B0 Bm0 F' B' Bm' → 0 ≤ p ∧ p ≤ N → F' 11 0 2 = 9 + 16 * Bm' 14 0 8 p → zP (f_Walker_makeEvent_273 K len 0 F' B') (f_M_event_0_277 Km xx dn nm l4 l3 i (flM Fm Bm' 9 p) Bm') Q) (h8 : ∀ t, 0 ≤ t → t ≤ N → 0 ≤ Bm0 14 0 8 t ∧ Bm0 14 0 8 t ≤ 3000) : ∀ (j n n' : Nat) {k : Int} {F : zF} {B Bm : zB}, (cnt - k).toNat = j → 0 ≤ k → k ≤ cnt → j < n → j < n' → EPR e xx w k F B Bm → PLH x s0 cnt p0 nn F B Bm → lFr e xx w F0 B0 Bm0 F B Bm → zP (f_Walker_makeEvent_228 K n k e len 0 x F B) (f_M_event_0_249 Km n' (s0 + k) (s0 + cnt) xx dn nm l4 l3 i Fm Bm) Q := by
  intro j
  induction j with
  | zero =>
    intro n n' k F B Bm hj k0 k1 hn hn2 hE hP hf
    obtain ⟨n, rfl⟩ : ∃ m, n = m + 1 := ⟨n - 1, by omega⟩
    obtain ⟨n', rfl⟩ : ∃ m, n' = m + 1 := ⟨n' - 1, by omega⟩
    obtain ⟨a1, a2, a3, a4, a5, a6, a7⟩ := hP
    have hk : k = cnt := by omega
    subst hk
    unfold f_Walker_makeEvent_228 f_M_event_0_249
    rw [if_pos ⟨Int.le_refl _, h11⟩, a1, if_pos ⟨Int.le_refl _, h3⟩, if_pos hx, a4, if_pos (by unfold r32; omega), if_pos (by unfold r32; omega), if_pos (Int.le_refl _), if_pos (by unfold r32; omega), if_pos (by unfold r32; omega), if_pos (Int.le_refl _)]
    exact ok F B Bm hf a2 hE
  | succ j ih =>
    intro n n' k F B Bm hj k0 k1 hn hn2 hE hP hf
    obtain ⟨n, rfl⟩ : ∃ m, n = m + 1 := ⟨n - 1, by omega⟩
    obtain ⟨n', rfl⟩ : ∃ m, n' = m + 1 := ⟨n' - 1, by omega⟩
    have hP' := hP
    obtain ⟨a1, a2, a3, a4, a5, a6, a7⟩ := hP
    obtain ⟨t1, t2, t3, t4, t5⟩ := a7 k k0 (by omega)
    rw [f_Walker_makeEvent_228, f_M_event_0_249]
    rw [if_pos ⟨Int.le_refl _, h11⟩, a1, if_pos ⟨Int.le_refl _, h3⟩, if_pos hx, a4, a5, if_pos (by unfold r32; omega), if_pos (by unfold r32; omega), if_neg (by omega), a2, if_pos (by decide), if_pos rfl, if_pos he, if_pos (by unfold r32; omega), if_pos (by unfold r32; omega), if_neg (by omega), L_good h17, zb_s, if_pos (by decide), if_neg (by decide)]
    refine zP_c (P_pitch hK hKm h11 h3 hE (by omega) he hxx a1 a2 h17 hw h6 a3 hn' n64 a6 (by omega) (by omega) t1 t2 t3 t4 t5) ?_
    intro r F1 B1 r' Fm1 Bm1 h
    rcases h with ⟨g1, g2, g3, g4, g5⟩ | ⟨g1, g2, g3, g4⟩
    · subst g2
      have f1 : lFr e xx w F B Bm F1 B1 Bm1 := ⟨fun c y k' u v => by rw [g1, zup3_v, if_neg u], g4, g5⟩
      rw [show s0 + k + 1 = s0 + (k + 1) by omega]
      exact ih n n' (by omega) (by omega) (by omega) (by omega) (by omega) g3 (PLH_f hP' f1 (by rw [g1, zup3_v, if_neg (by omega)]; exact a2)) (lFr_t hf f1)
    · obtain ⟨n, rfl⟩ : ∃ m, n = m + 1 := ⟨n - 1, by omega⟩
      obtain ⟨n', rfl⟩ : ∃ m, n' = m + 1 := ⟨n' - 1, by omega⟩
      subst g2 g3 g4
      have f1 : lFr e xx w F B1 Bm1 F1 B1 Bm1 := ⟨fun c y k' u v => by rw [g1, zup3_v, if_neg v], fun _ _ _ _ _ => rfl, fun _ _ _ _ _ => rfl⟩
      have f2 := lFr_t hf f1
      have e2 : F1 11 0 2 = 9 + 16 * Bm1 14 0 8 (s0 + k) := by rw [g1, zup3_v, if_pos (by decide)]
      have e0 : F1 11 0 0 = 0 := by rw [g1, zup3_v, if_neg (by decide)]; exact a1
      have b8 := h8 (s0 + k) (by omega) (by omega)
      rw [← hf.2.2 14 0 8 (s0 + k) (by omega)] at b8
      have N := no F1 B1 Bm1 (s0 + k) f2 (by omega) e2
      have c1 : f_Walker_makeEvent_228 K (n + 1) (k + 1) e len 0 x F1 B1 = f_Walker_makeEvent_273 K len 0 F1 B1 := by
        rw [f_Walker_makeEvent_228, if_pos ⟨Int.le_refl _, h11⟩, e0, if_pos ⟨Int.le_refl _, h3⟩, if_pos hx, a4, if_pos (by unfold r32; omega), if_pos (by unfold r32; omega)]
        by_cases z : cnt ≤ k + 1
        · rw [if_pos z]
        · rw [if_neg z, if_pos (by unfold r32; omega), if_neg (by omega)]
      have m1 : f_M_event_0_249 Km (n' + 1) (s0 + k + 1) (s0 + cnt) xx dn nm l4 l3 i (flM Fm Bm1 9 (s0 + k)) Bm1 = f_M_event_0_277 Km xx dn nm l4 l3 i (flM Fm Bm1 9 (s0 + k)) Bm1 := by
        rw [f_M_event_0_249, if_pos (by unfold r32; omega), if_pos (by unfold r32; omega)]
        by_cases z : s0 + cnt ≤ s0 + k + 1
        · rw [if_pos z]
        · rw [if_neg z, L_goodB (flM_b (by decide) (by decide)), zb_s, if_pos (by decide), if_pos rfl]
      rw [c1, m1]
      exact N
end
end
section
section
/-! ===== the walkers of both sides: what is alike, what may change ===== -/
noncomputable def ownE (B : zB) (q y : Int) : Prop := ∃ i, 0 ≤ i ∧ i < 200 ∧ B 4 q 5 i = y
noncomputable def inJ (q : Int) (B : zB) : Prop := ∀ t t', 0 ≤ t → t < 200 → 0 ≤ t' → t' < 200 → B 4 q 5 t = B 4 q 5 t' → t = t'
/-- one event -/
noncomputable def EVW (w e x : Int) (F : zF) (B Bm : zB) : Prop := (1 ≤ F 1 e 2 ∧ F 1 e 2 ≤ 1024) ∧ (F 1 e 3 = Bm 13 w 24 x ∧ 1 ≤ F 1 e 3 ∧ F 1 e 3 ≤ 81) ∧ (F 1 e 4 = Bm 13 w 23 x ∧ 1 ≤ F 1 e 4 ∧ F 1 e 4 ≤ 81) ∧ (∃ z, 6350400 = F 1 e 3 * z ∧ F 1 e 1 = z * F 1 e 2 * F 1 e 4) ∧ (Bm 13 w 16 x = nu (F 1 e 1) ∧ Bm 13 w 17 x = de (F 1 e 1) ∧ 1 ≤ F 1 e 1 ∧ F 1 e 1 ≤ 600000000000) ∧ (F 1 e 5 = Bm 13 w 25 x ∧ 0 ≤ F 1 e 5 ∧ F 1 e 5 ≤ 5000) ∧ (0 ≤ Bm 13 w 22 x ∧ Bm 13 w 22 x ≤ 2 ∧ (F 1 e 5 = 0 ↔ Bm 13 w 22 x = 0) ∧ (F 1 e 5 = 0 → F 1 e 3 = 1 ∧ F 1 e 4 = 1)) ∧ (0 < F 1 e 5 → F 1 e 6 = Bm 14 0 8 (Bm 13 w 26 x) ∧ 0 ≤ Bm 13 w 26 x ∧ Bm 13 w 26 x ≤ 3000 ∧ 0 ≤ F 1 e 6 ∧ F 1 e 6 ≤ 3000) ∧ (F 1 e 7 = Bm 13 w 18 x ∧ 0 ≤ F 1 e 7 ∧ F 1 e 7 < 128) ∧ (F 1 e 8 = Bm 13 w 19 x ∧ 0 ≤ F 1 e 8 ∧ F 1 e 8 ≤ 7) ∧ (F 1 e 9 = Bm 14 0 8 (Bm 13 w 20 x) ∧ 0 ≤ Bm 13 w 20 x ∧ Bm 13 w 20 x ≤ 3000 ∧ 0 ≤ F 1 e 9 ∧ F 1 e 9 ≤ 3000) ∧ EPR e x w (F 1 e 10) F B Bm
/-- the brackets around -/
noncomputable def TPL (b tf ts : Int) (Bm : zB) : Prop := (∀ k, 0 ≤ k → k < b → (2 ≤ Bm 14 0 46 k ∧ Bm 14 0 46 k ≤ 9) ∧ (1 ≤ Bm 14 0 47 k ∧ Bm 14 0 47 k ≤ 9)) ∧ (1 ≤ tf ∧ tf ≤ 81) ∧ (1 ≤ ts ∧ ts ≤ 81) ∧ (b = 0 → tf = 1 ∧ ts = 1) ∧ (b = 1 → tf = Bm 14 0 46 0 ∧ ts = Bm 14 0 47 0) ∧ (b = 2 → tf = Bm 14 0 46 0 * Bm 14 0 46 1 ∧ ts = Bm 14 0 47 0 * Bm 14 0 47 1)
noncomputable def WS (q v w bar : Int) (D : Nat) (F : zF) (B : zB) (Fm : zF) (Bm : zB) : Prop :=
  (F 11 0 0 = 0 ∧ F 11 0 1 = q ∧ F 11 0 2 = 0 ∧ Fm 14 0 17 = 0) ∧
  (Fm 14 0 35 = v ∧ Fm 14 0 6 = w ∧ F 11 0 13 = bar ∧ F 11 0 12 = 100 * bar) ∧
  (F 11 0 3 = Fm 14 0 37 ∧ 0 ≤ F 11 0 3 ∧ F 11 0 3 ≤ 5000) ∧
  (F 11 0 4 = Fm 14 0 40 ∧ 0 ≤ F 11 0 4 ∧ F 11 0 4 ≤ 7) ∧
  (F 11 0 5 = Fm 14 0 41 ∧ 0 ≤ F 11 0 5 ∧ F 11 0 5 ≤ D) ∧
  (F 11 0 6 = Fm 14 0 48 ∧ 0 ≤ F 11 0 6 ∧ F 11 0 6 ≤ D) ∧
  (F 11 0 7 = Fm 14 0 50 ∧ 0 ≤ F 11 0 7 ∧ F 11 0 7 ≤ F 11 0 3) ∧
  (0 < F 11 0 6 → 1 ≤ F 11 0 7 ∧ F 11 0 8 = Bm 14 0 8 (Fm 14 0 49) ∧ 0 ≤ Fm 14 0 49 ∧ Fm 14 0 49 ≤ 3000 ∧ 0 ≤ F 11 0 8 ∧ F 11 0 8 ≤ 3000) ∧
  TPL (F 11 0 6) (F 11 0 9) (F 11 0 10) Bm ∧
  (Fm 14 0 38 = nu (F 11 0 11) ∧ Fm 14 0 39 = de (F 11 0 11) ∧ 0 ≤ F 11 0 11 ∧ F 11 0 11 ≤ 100 * bar) ∧
  (∀ k, 0 ≤ k → k < 4 → B 11 0 14 k = Bm 14 0 51 (prN k) ∧ -(3 * (D : Int)) ≤ B 11 0 14 k ∧ B 11 0 14 k ≤ 3 * (D : Int)) ∧
  (F 11 0 18 = Fm 14 0 45 ∧ 0 ≤ F 11 0 18 ∧ F 11 0 18 ≤ D ∧ ∀ k, 0 ≤ k → k < F 11 0 18 → CRk B Bm k) ∧
  (F 4 q 6 = Fm 14 0 36 ∧ 0 ≤ F 4 q 6 ∧ F 4 q 6 ≤ 200 ∧ ∀ i, 0 ≤ i → i < F 4 q 6 → EVW w (B 4 q 5 i) (1000 * v + i) F B Bm)
/-- both have told the same fault; what is left to do comes to nothing -/
noncomputable def WE (D : Nat) (q v w : Int) (F : zF) (Fm : zF) : Prop := F 11 0 0 = 0 ∧ F 11 0 1 = q ∧ F 11 0 2 = Fm 14 0 17 + 16 * Fm 14 0 18 ∧ bad Fm ∧ (0 ≤ Fm 14 0 18 ∧ Fm 14 0 18 ≤ 3000) ∧ Fm 14 0 35 = v ∧ Fm 14 0 6 = w ∧ (0 ≤ F 4 q 6 ∧ F 4 q 6 ≤ 200) ∧ (0 ≤ Fm 14 0 36 ∧ Fm 14 0 36 ≤ 200) ∧ (0 ≤ F 11 0 3 ∧ F 11 0 3 + D ≤ 5100)
noncomputable def sumZ (g : Int → Int) : Nat → Int
  | 0 => 0
  | n + 1 => sumZ g n + g n
/-- how far the walk has come, less all lengths -/
noncomputable def SD (q : Int) (F : zF) (B : zB) : Int := F 11 0 11 - sumZ (fun j => F 1 (B 4 q 5 j) 1) (F 4 q 6).toNat
theorem sumZ_c {g h : Int → Int} : ∀ {n : Nat}, (∀ j : Int, 0 ≤ j → j < n → g j = h j) → sumZ g n = sumZ h n := by
  intro n
  induction n with
  | zero => intro _; rfl
  | succ n ih => intro e; rw [sumZ, sumZ, ih (fun j a b => e j a (by omega)), e n (by omega) (by omega)]
theorem sumZ_f {g : Int → Int} : ∀ {n : Nat}, sumZ g (n + 1) = g 0 + sumZ (fun k => g (k + 1)) n := by
  intro n
  induction n with
  | zero => rw [sumZ, sumZ, sumZ]; show 0 + g 0 = g 0 + 0; omega
  | succ n ih => rw [sumZ, ih, sumZ, Int.add_assoc]; rfl
theorem sumZ_a {g : Int → Int} {a : Nat} : ∀ {n : Nat}, sumZ g (a + n) = sumZ g a + sumZ (fun k => g (a + k)) n := by
  intro n
  induction n with
  | zero => rw [sumZ, Int.add_zero]; rfl
  | succ n ih => rw [← Nat.add_assoc, sumZ, ih, sumZ, Int.add_assoc, show ((a + n : Nat) : Int) = (a : Int) + n by omega]
theorem sumZ_r {f : Int → Int} : ∀ {n : Nat}, sumZ (fun k => f (n - 1 - k)) n = sumZ f n := by
  intro n
  induction n with
  | zero => rfl
  | succ n ih =>
    rw [sumZ_f, sumZ, show f (((n + 1 : Nat) : Int) - 1 - 0) = f n by rw [show ((n + 1 : Nat) : Int) - 1 - 0 = n by omega], ← ih, Int.add_comm]
    congr 1
    exact sumZ_c (fun j _ _ => by rw [show ((n + 1 : Nat) : Int) - 1 - (j + 1) = (n : Int) - 1 - j by omega])
theorem SD_c {q : Int} {F F' : zF} {B B' : zB} (h1 : F' 11 0 11 = F 11 0 11) (h2 : F' 4 q 6 = F 4 q 6) (h : 0 ≤ F 4 q 6 ∧ F 4 q 6 ≤ 200) (h3 : ∀ j, 0 ≤ j → j < 200 → F' 1 (B' 4 q 5 j) 1 = F 1 (B 4 q 5 j) 1) : SD q F' B' = SD q F B := by
  unfold SD
  rw [h1, h2, sumZ_c (fun j a b => h3 j a (by omega))]
noncomputable def inV (v w : Int) (c : Nat) (i : Int) (k : Nat) (x : Int) : Prop := c = 13 ∧ i = w ∧ ((16 ≤ k ∧ k ≤ 26 ∧ 1000 * v ≤ x ∧ x < 1000 * v + 1000) ∨ (28 ≤ k ∧ k ≤ 29 ∧ 6000 * v ≤ x ∧ x < 6000 * v + 6000))
noncomputable def WFR (q v w : Int) (F : zF) (B : zB) (Fm : zF) (Bm : zB) (F' : zF) (B' : zB) (Fm' : zF) (Bm' : zB) : Prop :=
  (∀ c y k, ¬ (c = 11 ∧ y = 0) → ¬ (c = 4 ∧ y = q ∧ k = 6) → ¬ (c = 1 ∧ ownE B q y) → F' c y k = F c y k) ∧
  (∀ c y k x, ¬ (c = 11 ∧ y = 0) → ¬ (c = 4 ∧ y = q ∧ k = 5) → ¬ (c = 1 ∧ ownE B q y) → B' c y k x = B c y k x) ∧
  (∀ y, ownE B' q y ↔ ownE B q y) ∧
  (∀ c i k, ¬ (c = 14 ∧ i = 0 ∧ (k ≤ 1 ∨ k = 17 ∨ k = 18 ∨ (36 ≤ k ∧ k ≤ 50))) → Fm' c i k = Fm c i k) ∧
  (∀ c i k x, ¬ (c = 14 ∧ i = 0 ∧ 42 ≤ k ∧ k ≤ 51) → ¬ inV v w c i k x → Bm' c i k x = Bm c i k x) ∧
  (inJ q B → inJ q B' ∧ (0 ≤ F 4 q 6 ∧ F 4 q 6 ≤ 200 → (0 ≤ F' 4 q 6 ∧ F' 4 q 6 ≤ 200) ∧ SD q F' B' = SD q F B))
theorem WFR_r {q v w : Int} {F : zF} {B : zB} {Fm : zF} {Bm : zB} : WFR q v w F B Fm Bm F B Fm Bm := ⟨fun _ _ _ _ _ _ => rfl, fun _ _ _ _ _ _ _ => rfl, fun _ => Iff.rfl, fun _ _ _ _ => rfl, fun _ _ _ _ _ _ => rfl, fun h => ⟨h, fun c => ⟨c, rfl⟩⟩⟩
theorem WFR_t {q v w : Int} {F F1 F2 : zF} {B B1 B2 : zB} {Fm Fm1 Fm2 : zF} {Bm Bm1 Bm2 : zB} (h : WFR q v w F B Fm Bm F1 B1 Fm1 Bm1) (h' : WFR q v w F1 B1 Fm1 Bm1 F2 B2 Fm2 Bm2) : WFR q v w F B Fm Bm F2 B2 Fm2 Bm2 :=
  ⟨fun c y k a b d => by rw [h'.1 c y k a b (fun z => d ⟨z.1, (h.2.2.1 y).mp z.2⟩), h.1 c y k a b d], fun c y k x a b d => by rw [h'.2.1 c y k x a b (fun z => d ⟨z.1, (h.2.2.1 y).mp z.2⟩), h.2.1 c y k x a b d], fun y => (h'.2.2.1 y).trans (h.2.2.1 y), fun c i k a => by rw [h'.2.2.2.1 c i k a, h.2.2.2.1 c i k a], fun c i k x a b => by rw [h'.2.2.2.2.1 c i k x a b, h.2.2.2.2.1 c i k x a b], fun z => ⟨(h'.2.2.2.2.2 (h.2.2.2.2.2 z).1).1, fun c => by
    obtain ⟨c1, e1⟩ := (h.2.2.2.2.2 z).2 c
    obtain ⟨c2, e2⟩ := (h'.2.2.2.2.2 (h.2.2.2.2.2 z).1).2 c1
    exact ⟨c2, by rw [e2, e1]⟩⟩⟩
/-- what a walk gives back as it was -/
noncomputable def WKP (q : Int) (F : zF) (B : zB) (Fm : zF) (Bm : zB) (F' : zF) (B' : zB) (Fm' : zF) (Bm' : zB) : Prop := (F' 11 0 5 = F 11 0 5 ∧ F' 11 0 6 = F 11 0 6 ∧ F' 11 0 9 = F 11 0 9 ∧ F' 11 0 10 = F 11 0 10 ∧ F' 11 0 18 = F 11 0 18) ∧ (∀ k, 0 ≤ k → k < 4 → B' 11 0 14 k = B 11 0 14 k) ∧ (∀ k, 0 ≤ k → k < F 11 0 18 → B' 11 0 15 k = B 11 0 15 k ∧ B' 11 0 16 k = B 11 0 16 k ∧ B' 11 0 17 k = B 11 0 17 k ∧ Bm' 14 0 42 k = Bm 14 0 42 k ∧ Bm' 14 0 43 k = Bm 14 0 43 k ∧ Bm' 14 0 44 k = Bm 14 0 44 k) ∧ (∀ k, 0 ≤ k → k < F 11 0 6 → Bm' 14 0 46 k = Bm 14 0 46 k ∧ Bm' 14 0 47 k = Bm 14 0 47 k) ∧ (0 < F 11 0 6 → F' 11 0 7 = F 11 0 7 ∧ F' 11 0 8 = F 11 0 8 ∧ Fm' 14 0 49 = Fm 14 0 49) ∧ F 4 q 6 ≤ F' 4 q 6
theorem WKP_r {q : Int} {F : zF} {B : zB} {Fm : zF} {Bm : zB} : WKP q F B Fm Bm F B Fm Bm := ⟨⟨rfl, rfl, rfl, rfl, rfl⟩, fun _ _ _ => rfl, fun _ _ _ => ⟨rfl, rfl, rfl, rfl, rfl, rfl⟩, fun _ _ _ => ⟨rfl, rfl⟩, fun _ => ⟨rfl, rfl, rfl⟩, Int.le_refl _⟩
theorem WKP_t {q : Int} {F F1 F2 : zF} {B B1 B2 : zB} {Fm Fm1 Fm2 : zF} {Bm Bm1 Bm2 : zB} (h : WKP q F B Fm Bm F1 B1 Fm1 Bm1) (h' : WKP q F1 B1 Fm1 Bm1 F2 B2 Fm2 Bm2) : WKP q F B Fm Bm F2 B2 Fm2 Bm2 := by
  obtain ⟨⟨a1, a2, a3, a4, a5⟩, a6, a7, a8, a9, a10⟩ := h
  obtain ⟨⟨b1, b2, b3, b4, b5⟩, b6, b7, b8, b9, b10⟩ := h'
  refine ⟨⟨by rw [b1, a1], by rw [b2, a2], by rw [b3, a3], by rw [b4, a4], by rw [b5, a5]⟩, fun k u v => by rw [b6 k u v, a6 k u v], fun k u v => ?_, fun k u v => ?_, fun u => ?_, Int.le_trans a10 b10⟩
  · obtain ⟨p1, p2, p3, p4, p5, p6⟩ := a7 k u v
    obtain ⟨q1, q2, q3, q4, q5, q6⟩ := b7 k u (by rw [a5]; exact v)
    exact ⟨by rw [q1, p1], by rw [q2, p2], by rw [q3, p3], by rw [q4, p4], by rw [q5, p5], by rw [q6, p6]⟩
  · obtain ⟨p1, p2⟩ := a8 k u v
    obtain ⟨q1, q2⟩ := b8 k u (by rw [a2]; exact v)
    exact ⟨by rw [q1, p1], by rw [q2, p2]⟩
  · obtain ⟨p1, p2, p3⟩ := a9 u
    obtain ⟨q1, q2, q3⟩ := b9 (by rw [a2]; exact u)
    exact ⟨by rw [q1, p1], by rw [q2, p2], by rw [q3, p3]⟩
noncomputable def WO (q v w bar : Int) (D : Nat) (F : zF) (B : zB) (Fm : zF) (Bm : zB) (F' : zF) (B' : zB) (Fm' : zF) (Bm' : zB) : Prop := WFR q v w F B Fm Bm F' B' Fm' Bm' ∧ ((WS q v w bar D F' B' Fm' Bm' ∧ WKP q F B Fm Bm F' B' Fm' Bm') ∨ WE D q v w F' Fm')
theorem slV_b {a b c d : Int} : slV a b c d = -1 ∨ (1 ≤ slV a b c d ∧ slV a b c d ≤ 1024) := by
  unfold slV
  split
  · unfold cap
    have h : (1 : Int) ≤ 2 ^ a.toNat * (3 ^ b.toNat * (5 ^ c.toNat * 7 ^ d.toNat)) := ml_1 (pw_1 (by decide) _) (ml_1 (pw_1 (by decide) _) (ml_1 (pw_1 (by decide) _) (pw_1 (by decide) _)))
    split
    · exact Or.inr ⟨h, by assumption⟩
    · exact Or.inl rfl
  · exact Or.inl rfl
theorem d81 : ∀ a b : Fin 10, 1 ≤ a.val → 1 ≤ b.val → (6350400 : Int) = (a.val : Int) * (b.val : Int) * (6350400 / ((a.val : Int) * (b.val : Int))) := by decide +kernel
theorem d81i {a b : Int} (a0 : 1 ≤ a) (a1 : a ≤ 9) (b0 : 1 ≤ b) (b1 : b ≤ 9) : ∃ z, 6350400 = a * b * z ∧ 1 ≤ z ∧ z ≤ 6350400 := by
  have h := d81 ⟨a.toNat, by omega⟩ ⟨b.toNat, by omega⟩ (by show 1 ≤ a.toNat; omega) (by show 1 ≤ b.toNat; omega)
  rw [show (((⟨a.toNat, by omega⟩ : Fin 10).val : Nat) : Int) = a by show ((a.toNat : Nat) : Int) = a; omega, show (((⟨b.toNat, by omega⟩ : Fin 10).val : Nat) : Int) = b by show ((b.toNat : Nat) : Int) = b; omega] at h
  have ab : 1 ≤ a * b := ml_1 a0 b0
  generalize 6350400 / (a * b) = z at h
  have z1 : 1 ≤ z := by
    rcases Int.lt_or_le 0 z with y | y
    · omega
    · have := Int.mul_nonpos_of_nonneg_of_nonpos (show 0 ≤ a * b by omega) y
      omega
  have z2 : 1 * z ≤ a * b * z := Int.mul_le_mul_of_nonneg_right ab (by omega)
  exact ⟨z, h, z1, by omega⟩
theorem TPL_d {b tf ts : Int} {Bm : zB} (h : TPL b tf ts Bm) (b0 : 0 ≤ b) (b2 : b ≤ 2) : ∃ z, 6350400 = tf * z ∧ 1 ≤ z ∧ z ≤ 6350400 := by
  obtain ⟨a1, a2, a3, a4, a5, a6⟩ := h
  have hb : b = 0 ∨ b = 1 ∨ b = 2 := by omega
  rcases hb with rfl | rfl | rfl
  · exact ⟨6350400, by rw [(a4 rfl).1]; decide, by decide, by decide⟩
  · have h0 := (a1 0 (by decide) (by decide)).1
    obtain ⟨z, hz, z1, z2⟩ := d81i (a := Bm 14 0 46 0) (b := 1) (by omega) (by omega) (by decide) (by decide)
    exact ⟨z, by rw [(a5 rfl).1, hz, Int.mul_one], z1, z2⟩
  · have h0 := (a1 0 (by decide) (by decide)).1
    have h1 := (a1 1 (by decide) (by decide)).1
    obtain ⟨z, hz, z1, z2⟩ := d81i (a := Bm 14 0 46 0) (b := Bm 14 0 46 1) (by omega) (by omega) (by omega) (by omega)
    exact ⟨z, by rw [(a6 rfl).1, hz], z1, z2⟩
theorem L34w {K n : Nat} {F : zF} {B : zB} {b tf ts u i : Int} (hb : F 14 0 48 = b) (b0 : 0 ≤ b) (b2 : b ≤ 2) (h : TPL b tf ts B) (hn : 3 ≤ n) : ∃ m, f_M_event_0_34 K n 0 1 1 u i F B = f_M_event_0_34 K (m + 1) b tf ts u i F B := by
  obtain ⟨n, rfl⟩ : ∃ m, n = m + 3 := ⟨n - 3, by omega⟩
  obtain ⟨a1, a2, a3, a4, a5, a6⟩ := h
  have st : ∀ (m : Nat) (l l4 l3 : Int), 0 ≤ l → l < b → f_M_event_0_34 K (m + 1) l l4 l3 u i F B = f_M_event_0_34 K m (l + 1) (l4 * B 14 0 46 l) (l3 * B 14 0 47 l) u i F B := fun m l l4 l3 p q => by
    rw [f_M_event_0_34, hb, if_pos (by unfold r32; omega), if_pos (by unfold r32; omega), if_neg (by omega), if_pos (by omega)]
  have hb' : b = 0 ∨ b = 1 ∨ b = 2 := by omega
  rcases hb' with rfl | rfl | rfl
  · exact ⟨n + 2, by rw [(a4 rfl).1, (a4 rfl).2]⟩
  · exact ⟨n + 1, by rw [st _ _ _ _ (by decide) (by decide), (a5 rfl).1, (a5 rfl).2, Int.one_mul, Int.one_mul]; rfl⟩
  · exact ⟨n, by rw [st _ _ _ _ (by decide) (by decide), Int.one_mul, Int.one_mul, st _ _ _ _ (by decide) (by decide), (a6 rfl).1, (a6 rfl).2]; rfl⟩
end
end
section
section
/-! ===== an event made: both sides up to its pitches ===== -/
theorem zcmp_m {a b : Int} : zcmp a b ≤ 0 ↔ a ≤ b := by
  unfold zcmp
  split
  · constructor <;> intro <;> omega
  · split
    · constructor <;> intro <;> omega
    · constructor <;> intro <;> omega
noncomputable def evF (e len u tf ts br bp mk ld tok : Int) (F : zF) : zF := zup3 (zup3 (zup3 (zup3 (zup3 (zup3 (zup3 (zup3 (zup3 (zup3 F 1 e 1 len) 1 e 2 u) 1 e 3 tf) 1 e 4 ts) 1 e 5 br) 1 e 6 bp) 1 e 7 mk) 1 e 8 ld) 1 e 9 tok) 1 e 10 0
theorem evF_n {e len u tf ts br bp mk ld tok : Int} {F : zF} {c k : Nat} {y : Int} (h : ¬ (c = 1 ∧ y = e ∧ 1 ≤ k ∧ k ≤ 10)) : evF e len u tf ts br bp mk ld tok F c y k = F c y k := by
  unfold evF
  rw [zup3_v, if_neg (by omega), zup3_v, if_neg (by omega), zup3_v, if_neg (by omega), zup3_v, if_neg (by omega), zup3_v, if_neg (by omega), zup3_v, if_neg (by omega), zup3_v, if_neg (by omega), zup3_v, if_neg (by omega), zup3_v, if_neg (by omega), zup3_v, if_neg (by omega)]
theorem evF_v {e len u tf ts br bp mk ld tok : Int} {F : zF} : evF e len u tf ts br bp mk ld tok F 1 e 1 = len ∧ evF e len u tf ts br bp mk ld tok F 1 e 2 = u ∧ evF e len u tf ts br bp mk ld tok F 1 e 3 = tf ∧ evF e len u tf ts br bp mk ld tok F 1 e 4 = ts ∧ evF e len u tf ts br bp mk ld tok F 1 e 5 = br ∧ evF e len u tf ts br bp mk ld tok F 1 e 6 = bp ∧ evF e len u tf ts br bp mk ld tok F 1 e 7 = mk ∧ evF e len u tf ts br bp mk ld tok F 1 e 8 = ld ∧ evF e len u tf ts br bp mk ld tok F 1 e 9 = tok ∧ evF e len u tf ts br bp mk ld tok F 1 e 10 = 0 := by
  simp [evF, zup3_v]
theorem C35a {K : zK} {F : zF} {B : zB} {x pl : Int} (h11 : 0 < K.2 11) (hwr : F 11 0 2 = 0) : f_Walker_makeEvent_35 K pl 0 x (-1) F B = some (0, zup3 F 11 0 2 (12 + 16 * pl), B) := by
  unfold f_Walker_makeEvent_35 f_Walker_makeEvent_49
  rw [if_pos (by decide), if_pos rfl, if_pos ⟨Int.le_refl _, h11⟩, C_wref h11 hwr, zb_s]
theorem C35b {K : zK} {F : zF} {B : zB} {x pl u q m b tf ts z e come far : Int} (h11 : 0 < K.2 11) (h3 : 0 < K.2 3) (h4 : 0 ≤ q ∧ q < K.2 4) (hx : 0 ≤ x ∧ x < 3000) (h0 : F 11 0 0 = 0) (h1 : F 11 0 1 = q) (hwr : F 11 0 2 = 0) (hm : F 4 q 6 = m) (m0 : 0 ≤ m ∧ m ≤ 200) (hb : F 11 0 6 = b) (b0 : 0 ≤ b ∧ b ≤ 100) (htf : F 11 0 9 = tf) (tf0 : 1 ≤ tf ∧ tf ≤ 81) (hts : F 11 0 10 = ts) (ts0 : 1 ≤ ts ∧ ts ≤ 81) (hz : 6350400 = tf * z) (z0 : 1 ≤ z ∧ z ≤ 6350400) (u0 : 1 ≤ u ∧ u ≤ 1024) (hc : F 11 0 11 = come) (c0 : 0 ≤ come ∧ come ≤ 1000000000000) (hf : F 11 0 12 = far) (f0 : 0 ≤ far ∧ far ≤ 1000000000000) (he : m < 200 → B 4 q 5 m = e ∧ 0 ≤ e ∧ e < K.2 1) : f_Walker_makeEvent_35 K pl 0 x u F B = if 200 ≤ m ∨ far < come + z * u * ts then some (0, zup3 F 11 0 2 (8 + 16 * pl), B) else f_Walker_makeEvent_228 K K.1 0 e (z * u * ts) 0 x (evF e (z * u * ts) u tf ts (if b = 0 then 0 else F 11 0 7) (F 11 0 8) (B 3 0 7 x) (F 11 0 4) pl F) B := by
  have e1 : zldv (6350400 * u) tf = z * u := by
    rw [zldv_e (by omega) (by omega) (by omega) (by omega), hz, show tf * z * u = tf * (z * u) by ac_rfl, Int.mul_ediv_cancel_left _ (by omega)]
  have zu : 1 ≤ z * u := ml_1 z0.1 u0.1
  have zu2 : z * u ≤ 6350400 * 1024 := Int.mul_le_mul z0.2 u0.2 (by omega) (by decide)
  have zt : 1 ≤ z * u * ts := ml_1 zu ts0.1
  have zt2 : z * u * ts ≤ 6350400 * 1024 * 81 := Int.mul_le_mul zu2 ts0.2 (by omega) (by decide)
  have n8 : f_Walker_makeEvent_105 K pl 0 F B = some (0, zup3 F 11 0 2 (8 + 16 * pl), B) := by
    unfold f_Walker_makeEvent_105
    rw [if_pos ⟨Int.le_refl _, h11⟩, C_wref h11 hwr, zb_s]
  unfold f_Walker_makeEvent_35
  rw [if_pos (by unfold r32; omega), if_neg (by omega), if_pos ⟨Int.le_refl _, h11⟩, h1, htf, hts, hm, hb, hc, hf, e1, if_pos (by unfold r32; omega), if_pos tf0.1, if_pos (lI_n0 (by omega) (by unfold r64; omega)), if_pos (by unfold r32; omega), if_pos h4, if_pos (by unfold r32; omega)]
  by_cases a : 200 ≤ m
  · rw [if_pos a, if_pos (Or.inl a), n8]
  obtain ⟨he1, he2⟩ := he (by omega)
  rw [if_neg a, if_pos (by unfold r64; omega), if_pos (by unfold r64; omega)]
  by_cases c : zcmp (come + z * u * ts) far ≤ 0
  case neg =>
    rw [if_neg c, n8, if_pos (Or.inr (by have := mt zcmp_m.mpr c; omega))]
  have hR : ¬ (200 ≤ m ∨ far < come + z * u * ts) := by have := zcmp_m.mp c; omega
  rw [if_pos c, if_neg hR, if_pos (by omega), he1, if_pos he2, if_pos (by unfold r32; omega)]
  have fin : ∀ br, f_Walker_makeEvent_178 K e (z * u * ts) pl 0 x e br (zup3 (zup3 (zup3 (zup3 F 1 e 1 (z * u * ts)) 1 e 2 u) 1 e 3 tf) 1 e 4 ts) B = f_Walker_makeEvent_228 K K.1 0 e (z * u * ts) 0 x (evF e (z * u * ts) u tf ts br (F 11 0 8) (B 3 0 7 x) (F 11 0 4) pl F) B := by
    intro br
    have g : ∀ k, (zup3 (zup3 (zup3 (zup3 F 1 e 1 (z * u * ts)) 1 e 2 u) 1 e 3 tf) 1 e 4 ts) 11 0 k = F 11 0 k := fun k => by
      rw [zup3_v, if_neg (by omega), zup3_v, if_neg (by omega), zup3_v, if_neg (by omega), zup3_v, if_neg (by omega)]
    unfold f_Walker_makeEvent_178 evF
    rw [if_pos he2, if_pos ⟨Int.le_refl _, h11⟩, if_pos he2, g, g, g, h0, if_pos ⟨Int.le_refl _, h3⟩, if_pos hx]
  by_cases d : b = 0
  · rw [if_pos d, if_pos d, fin]
  · rw [if_neg d, if_neg d, fin]
theorem fr_n {F : zF} {p : Int} {c k : Nat} {y : Int} (h : ¬ (c = 14 ∧ y = 0 ∧ k ≤ 1)) : fr F p c y k = F c y k := by
  unfold fr
  rw [zup3_v, if_neg (by omega), zup3_v, if_neg (by omega)]
theorem fr_0 {F : zF} {p : Int} : fr F p 14 0 0 = nu p := by
  unfold fr
  rw [zup3_v, if_neg (by decide), zup3_v, if_pos (by decide)]
theorem fr_1 {F : zF} {p : Int} : fr F p 14 0 1 = de p := by
  unfold fr
  rw [zup3_v, if_pos (by decide)]
theorem bpL {K : Nat} {F : zF} {B : zB} {a e : Int} (h2 : ∀ k, a ≤ k → k < e → B 14 0 7 k = 2) (hn : ¬ B 14 0 7 e = 2) (hr : r32 (B 14 0 7 e)) (a0 : 0 ≤ a) (e1 : e < 3001) : ∀ (j n : Nat) {l : Int}, a ≤ l → l ≤ e → (e - l).toNat = j → j < n → f_M_behindPitches_4 K n l F B = some (e, F, B) := by
  intro j
  induction j with
  | zero =>
    intro n l h0 h1 hj hn'
    obtain ⟨n, rfl⟩ : ∃ m, n = m + 1 := ⟨n - 1, by omega⟩
    have hl : l = e := by omega
    subst hl
    rw [f_M_behindPitches_4, if_pos (by omega), if_pos hr, if_neg hn]
  | succ j ih =>
    intro n l h0 h1 hj hn'
    obtain ⟨n, rfl⟩ : ∃ m, n = m + 1 := ⟨n - 1, by omega⟩
    have e2 := h2 l h0 (by omega)
    rw [f_M_behindPitches_4, if_pos (by omega), e2, if_pos (by decide), if_pos rfl, ih n (by omega) (by omega) (by omega) (by omega)]
theorem L_evE {K : Nat} {F : zF} {B : zB} {i u b tf ts z come far m v w s0 cnt : Int} (hK : 812851200 < K) (hi : 0 ≤ i ∧ i < 3001) (h17 : F 14 0 17 = 0) (hU : f_M_valueOf K i F B = some (u, F, B)) (u0 : u = -1 ∨ (1 ≤ u ∧ u ≤ 1024)) (hb : F 14 0 48 = b) (b0 : 0 ≤ b ∧ b ≤ 100) (hT : TPL b tf ts B) (hz : b ≤ 2 → 6350400 = tf * z ∧ 1 ≤ z ∧ z ≤ 6350400) (c38 : F 14 0 38 = nu come) (c39 : F 14 0 39 = de come) (c0 : 0 ≤ come ∧ come ≤ 1000000000000) (hm : F 14 0 36 = m) (m0 : 0 ≤ m ∧ m ≤ 200) (hv : F 14 0 35 = v) (v0 : 0 ≤ v ∧ v < 4) (hw : F 14 0 6 = w) (w0 : 0 ≤ w ∧ w < 3) (r4 : r32 (F 13 w 4)) (r5 : r32 (F 13 w 5)) (hB : FR (100 * F 13 w 4) (F 13 w 5) far) (f0 : far ≤ 1000000000000) (hk : (B 14 0 7 i = 2 ∧ s0 = i ∧ cnt = 1) ∨ (B 14 0 7 i = 4 ∧ s0 = i + 1 ∧ cnt = -1) ∨ (B 14 0 7 i = 5 ∧ s0 = i + 1 ∧ (0 ≤ cnt ∧ s0 + cnt ≤ 3000) ∧ (∀ k, s0 ≤ k → k < s0 + cnt → B 14 0 7 k = 2) ∧ ¬ B 14 0 7 (s0 + cnt) = 2 ∧ r32 (B 14 0 7 (s0 + cnt)))) : f_M_event_0 K i F B = if 2 < b ∨ u = -1 then some (0, flM F B 12 i, B) else if 200 ≤ m ∨ far < come + z * u * ts then some (0, flM (fr (fr F (z * u * ts)) (come + z * u * ts)) B 8 i, B) else f_M_event_0_249 K K s0 (s0 + cnt) (1000 * v + m) (de (z * u * ts)) (nu (z * u * ts)) tf ts i (fr (fr F (z * u * ts)) (come + z * u * ts)) (zup4 B 13 w 21 (1000 * v + m) 0) := by
  have n12 : f_M_event_0_18 K i F B = some (0, flM F B 12 i, B) := by
    unfold f_M_event_0_18
    rw [L_failAt h17 hi, zb_s]
  unfold f_M_event_0
  rw [hU, zb_s, if_pos (by unfold r32; omega)]
  by_cases un : u < 0
  · rw [if_pos un, n12, if_pos (Or.inr (by omega))]
  rw [if_neg un, hb, if_pos (by unfold r32; omega)]
  by_cases b2 : b ≤ 2
  case neg => rw [if_neg b2, n12, if_pos (Or.inl (by omega))]
  have u1 : 1 ≤ u ∧ u ≤ 1024 := by omega
  obtain ⟨hz, z0⟩ := hz b2
  obtain ⟨mm, e34⟩ := L34w (K := K) (n := K) (F := F) (B := B) (u := u) (i := i) hb b0.1 b2 hT (by omega)
  obtain ⟨_, t1, t2, _⟩ := hT
  have zu : 1 ≤ z * u := ml_1 z0.1 u1.1
  have zu2 : z * u ≤ 6350400 * 1024 := Int.mul_le_mul z0.2 u1.2 (by omega) (by decide)
  have zt : 1 ≤ z * u * ts := ml_1 zu t2.1
  have zt2 : z * u * ts ≤ 6350400 * 1024 * 81 := Int.mul_le_mul zu2 t2.2 (by omega) (by decide)
  have wz : WW = 128 * tf * z := by
    rw [show 128 * tf * z = 128 * (tf * z) by ac_rfl, ← hz]
    rfl
  have fL : FR (u * ts) (128 * tf) (z * u * ts) := ⟨by omega, ⟨z, wz⟩, Int.mul_nonneg (by omega) (by omega), by rw [wz]; ac_rfl⟩
  rw [if_pos b2, e34, if_neg (by omega), f_M_event_0_34, hb, if_pos (by unfold r32; omega), if_pos (by unfold r32; omega), if_pos (Int.le_refl _), if_pos (by unfold r32; omega), if_pos (by unfold r32; omega), if_pos (by unfold r32; omega), L_isR hK fL (by omega), zb_s, fr_0, fr_1, fr_n (by omega), fr_n (by omega), c38, c39, L_plusR hK (FR_r c0.1) (FR_r (by omega)) (by omega), zb_s]
  generalize hG : fr (fr F (z * u * ts)) (come + z * u * ts) = G
  have g : ∀ (c : Nat) (y : Int) (k : Nat), ¬ (c = 14 ∧ y = 0 ∧ k ≤ 1) → G c y k = F c y k := fun c y k n => by rw [← hG, fr_n n, fr_n n]
  have g0 : G 14 0 0 = nu (come + z * u * ts) := by rw [← hG, fr_0]
  have g1 : G 14 0 1 = de (come + z * u * ts) := by rw [← hG, fr_1]
  have n8 : f_M_event_0_159 K i G B = some (0, flM G B 8 i, B) := by
    unfold f_M_event_0_159
    rw [L_failAt (by rw [g 14 0 17 (by omega)]; exact h17) hi, zb_s]
  rw [g 14 0 36 (by omega), hm, if_pos (by unfold r32; omega)]
  by_cases a : m = 200
  · rw [if_pos a, n8, if_pos (Or.inl (by omega))]
  rw [if_neg a, g 14 0 6 (by omega), hw, if_pos w0, g 13 w 4 (by omega), g 13 w 5 (by omega), if_pos r4, if_pos r5, g0, g1, L_cmpR hK (FR_r (by omega)) hB (by omega) (by omega), zb_s]
  have rc : r32 (if come + z * u * ts < far then -1 else if come + z * u * ts = far then 0 else 1) := by
    split
    · decide
    · split <;> decide
  rw [if_pos rc]
  by_cases c : come + z * u * ts ≤ far
  case neg =>
    rw [if_neg (by rw [if_neg (by omega), if_neg (by omega)]; decide), n8, if_pos (Or.inr (by omega))]
  have rl : (if come + z * u * ts < far then (-1 : Int) else if come + z * u * ts = far then 0 else 1) ≤ 0 := by
    by_cases d : come + z * u * ts < far
    · rw [if_pos d]; decide
    · rw [if_neg d, if_pos (by omega)]; decide
  have hR : ¬ (200 ≤ m ∨ far < come + z * u * ts) := by omega
  rw [if_pos rl, if_neg hR, g 14 0 6 (by omega), hw, if_pos w0, g 14 0 35 (by omega), hv, g 14 0 36 (by omega), hm, if_pos (by omega), if_pos hi]
  generalize hC : zup4 B 13 w 21 (1000 * v + m) 0 = C
  have e7 : ∀ k, C 14 0 7 k = B 14 0 7 k := fun k => by rw [← hC, zup4_v, if_neg (by omega)]
  rw [e7]
  rcases hk with ⟨k1, k2, k3⟩ | ⟨k1, k2, k3⟩ | ⟨k1, k2, k3, k4, k5, k6⟩
  · rw [k1, if_pos (by decide), if_pos rfl, f_M_event_0_228, if_pos hi, e7, k1, if_pos (by decide), if_pos rfl, f_M_event_0_247, k2, k3]
  · rw [k1, if_pos (by decide), if_neg (by decide), if_neg (by decide), f_M_event_0_228, if_pos hi, e7, k1, if_pos (by decide), if_neg (by decide), f_M_event_0_247, k2, k3, show i + 1 + -1 = i by omega]
  · rw [k1, if_pos (by decide), if_neg (by decide), if_pos rfl, f_M_behindPitches, ← k2, bpL (a := s0) (e := s0 + cnt) (fun k p q => by rw [e7]; exact k4 k p q) (by rw [e7]; exact k5) (by rw [e7]; exact k6) (by omega) (by omega) cnt.toNat K (Int.le_refl _) (by omega) (by omega) (by omega), zb_s, f_M_event_0_228, if_pos hi, e7, k1, if_pos (by decide), if_neg (by decide), f_M_event_0_247, ← k2]
end
end
section
section
/-! ===== an event made: both sides ===== -/
theorem EVW_f {w e x : Int} {F F' : zF} {B Bm B' Bm' : zB} (h : EVW w e x F B Bm) (h1 : ∀ k, F' 1 e k = F 1 e k) (h2 : ∀ k y, B' 1 e k y = B 1 e k y) (h3 : ∀ k, 16 ≤ k → k ≤ 26 → Bm' 13 w k x = Bm 13 w k x) (h4 : ∀ k y, 28 ≤ k → k ≤ 29 → 6 * x ≤ y → y < 6 * x + 6 → Bm' 13 w k y = Bm 13 w k y) (h5 : ∀ y, Bm' 14 0 8 y = Bm 14 0 8 y) : EVW w e x F' B' Bm' := by
  unfold EVW EPR at h ⊢
  simp only [h1, h2, h5, h3 16 (by decide) (by decide), h3 17 (by decide) (by decide), h3 18 (by decide) (by decide), h3 19 (by decide) (by decide), h3 20 (by decide) (by decide), h3 21 (by decide) (by decide), h3 22 (by decide) (by decide), h3 23 (by decide) (by decide), h3 24 (by decide) (by decide), h3 25 (by decide) (by decide), h3 26 (by decide) (by decide)]
  obtain ⟨a1, a2, a3, a4, a5, a6, a7, a8, a9, a10, a11, e1, e2, e3, e4, e5⟩ := h
  refine ⟨a1, a2, a3, a4, a5, a6, a7, a8, a9, a10, a11, trivial, e2, e3, fun k u v => ?_, e5⟩
  rw [h4 28 _ (by decide) (by decide) (by omega) (by omega), h4 29 _ (by decide) (by decide) (by omega) (by omega)]
  exact e4 k u v
noncomputable def evB (w x a b mk ld tk ins up dn out ot : Int) (B : zB) : zB := zup4 (zup4 (zup4 (zup4 (zup4 (zup4 (zup4 (zup4 (zup4 (zup4 B 13 w 16 x a) 13 w 17 x b) 13 w 18 x mk) 13 w 19 x ld) 13 w 20 x tk) 13 w 22 x ins) 13 w 23 x up) 13 w 24 x dn) 13 w 25 x out) 13 w 26 x ot
theorem evB_n {w x a b mk ld tk ins up dn out ot : Int} {B : zB} {c k : Nat} {i y : Int} (h : ¬ (c = 13 ∧ i = w ∧ y = x ∧ 16 ≤ k ∧ k ≤ 26 ∧ ¬ k = 21)) : evB w x a b mk ld tk ins up dn out ot B c i k y = B c i k y := by
  unfold evB
  rw [zup4_v, if_neg (by omega), zup4_v, if_neg (by omega), zup4_v, if_neg (by omega), zup4_v, if_neg (by omega), zup4_v, if_neg (by omega), zup4_v, if_neg (by omega), zup4_v, if_neg (by omega), zup4_v, if_neg (by omega), zup4_v, if_neg (by omega), zup4_v, if_neg (by omega)]
theorem evB_v {w x a b mk ld tk ins up dn out ot : Int} {B : zB} : evB w x a b mk ld tk ins up dn out ot B 13 w 16 x = a ∧ evB w x a b mk ld tk ins up dn out ot B 13 w 17 x = b ∧ evB w x a b mk ld tk ins up dn out ot B 13 w 18 x = mk ∧ evB w x a b mk ld tk ins up dn out ot B 13 w 19 x = ld ∧ evB w x a b mk ld tk ins up dn out ot B 13 w 20 x = tk ∧ evB w x a b mk ld tk ins up dn out ot B 13 w 22 x = ins ∧ evB w x a b mk ld tk ins up dn out ot B 13 w 23 x = up ∧ evB w x a b mk ld tk ins up dn out ot B 13 w 24 x = dn ∧ evB w x a b mk ld tk ins up dn out ot B 13 w 25 x = out ∧ evB w x a b mk ld tk ins up dn out ot B 13 w 26 x = ot := by
  simp [evB, zup4_v]
theorem C273 {K : zK} {F : zF} {B : zB} {len q : Int} (h11 : 0 < K.2 11) (h4 : 0 ≤ q ∧ q < K.2 4) (h1 : F 11 0 1 = q) : f_Walker_makeEvent_273 K len 0 F B = some (0, zup3 (zup3 F 4 q 6 (F 4 q 6 + 1)) 11 0 11 (F 11 0 11 + len), B) := by
  unfold f_Walker_makeEvent_273
  rw [if_pos ⟨Int.le_refl _, h11⟩, h1, if_pos h4]
noncomputable def evG (p : Int) (F : zF) : zF := zup3 (zup3 (zup3 (fr F p) 14 0 38 (nu p)) 14 0 39 (de p)) 14 0 36 (F 14 0 36 + 1)
theorem evG_n {p : Int} {F : zF} {c k : Nat} {y : Int} (h : ¬ (c = 14 ∧ y = 0 ∧ (k ≤ 1 ∨ k = 36 ∨ k = 38 ∨ k = 39))) : evG p F c y k = F c y k := by
  unfold evG
  rw [zup3_v, if_neg (by omega), zup3_v, if_neg (by omega), zup3_v, if_neg (by omega), fr_n (by omega)]
theorem evG_v {p : Int} {F : zF} : evG p F 14 0 36 = F 14 0 36 + 1 ∧ evG p F 14 0 38 = nu p ∧ evG p F 14 0 39 = de p := by
  simp [evG, zup3_v]
theorem L277 {K : Nat} {F : zF} {B : zB} {x l4 l3 i come len w : Int} (hK : 812851200 < K) (h17 : F 14 0 17 = 0) (c38 : F 14 0 38 = nu come) (c39 : F 14 0 39 = de come) (c0 : 0 ≤ come ∧ come ≤ 1000000000000) (l0 : 0 ≤ len ∧ len ≤ 1000000000000) (hw : F 14 0 6 = w) (w0 : 0 ≤ w ∧ w < 3) (hx : 0 ≤ x ∧ x < 4000) (hi : 0 ≤ i ∧ i < 3001) (hb : 0 ≤ F 14 0 48 ∧ F 14 0 48 ≤ 100) : f_M_event_0_277 K x (de len) (nu len) l4 l3 i F B = some (0, evG (come + len) F, evB w x (nu len) (de len) (B 14 0 34 i) (F 14 0 40) i (F 14 0 48) l3 l4 (if F 14 0 48 ≤ 0 then 0 else F 14 0 50) (F 14 0 49) B) := by
  unfold f_M_event_0_277
  rw [L_good h17, zb_s, if_pos (by decide), if_neg (by decide), c38, c39, L_plusR hK (FR_r c0.1) (FR_r l0.1) (by omega), zb_s]
  generalize hG : fr F (come + len) = G
  have g : ∀ (k : Nat), ¬ k ≤ 1 → G 14 0 k = F 14 0 k := fun k n => by rw [← hG, fr_n (by omega)]
  have g0 : G 14 0 0 = nu (come + len) := by rw [← hG, fr_0]
  have g1 : G 14 0 1 = de (come + len) := by rw [← hG, fr_1]
  rw [g 6 (by omega), hw, if_pos w0, if_pos hx, if_pos hi, g 48 (by omega), if_pos (by unfold r32; omega), g0, g1, g 40 (by omega), g 50 (by omega)]
  have q : ∀ (k : Nat), ¬ (k ≤ 1 ∨ k = 38 ∨ k = 39) → (zup3 (zup3 G 14 0 38 (nu (come + len))) 14 0 39 (de (come + len))) 14 0 k = F 14 0 k := fun k n => by
    rw [zup3_v, if_neg (by omega), zup3_v, if_neg (by omega), g k (by omega)]
  have z : ∀ out C, f_M_event_0_443 K x w x out (zup3 (zup3 G 14 0 38 (nu (come + len))) 14 0 39 (de (come + len))) C = some (0, evG (come + len) F, zup4 (zup4 C 13 w 25 x out) 13 w 26 x (F 14 0 49)) := fun out C => by
    unfold f_M_event_0_443 evG
    rw [hG, if_pos w0, if_pos hx, q 6 (by omega), hw, if_pos w0, if_pos hx, q 36 (by omega), q 49 (by omega)]
  have m34 : (zup4 (zup4 B 13 w 16 x (nu len)) 13 w 17 x (de len)) 14 0 34 i = B 14 0 34 i := by
    rw [zup4_v, if_neg (by omega), zup4_v, if_neg (by omega)]
  rw [m34, z, z]
  by_cases c : F 14 0 48 ≤ 0
  · rw [if_pos c, if_pos c]
    rfl
  · rw [if_neg c, if_neg c]
    rfl
theorem L277b {K : Nat} {F : zF} {B : zB} {x l4 l3 i a b : Int} (h : bad F) : f_M_event_0_277 K x a b l4 l3 i F B = some (0, F, B) := by
  unfold f_M_event_0_277
  rw [L_goodB h, zb_s, if_pos (by decide), if_pos rfl]
end
end
