section
/-! ===== sums, differences, comparisons of fractions as places ===== -/
def WW : Int := 812851200
def nu (p : Int) : Int := p / gc p WW
def de (p : Int) : Int := WW / gc p WW
/-- a/b is the place p; b goes into a whole -/
def FR (a b p : Int) : Prop := 0 < b ∧ (∃ x, WW = b * x) ∧ 0 ≤ a ∧ a * WW = p * b
theorem FR_r {p : Int} (h : 0 ≤ p) : FR (nu p) (de p) p := by
  have hW : (0 : Int) < WW := by decide
  have g := gc_pos (a := p) hW
  obtain ⟨p', hp⟩ := gc_dl (a := p) (b := WW) h
  obtain ⟨W', hw⟩ := gc_dr (a := p) (b := WW) (Int.le_of_lt hW)
  have e1 : nu p = p' := by unfold nu; rw [show p / gc p WW = gc p WW * p' / gc p WW by rw [← hp], Int.mul_ediv_cancel_left _ (Int.ne_of_gt g)]
  have e2 : de p = W' := by unfold de; rw [show WW / gc p WW = gc p WW * W' / gc p WW by rw [← hw], Int.mul_ediv_cancel_left _ (Int.ne_of_gt g)]
  have Wp : 0 < W' := by
    rcases Int.lt_or_le 0 W' with z | z
    · exact z
    · have := Int.mul_nonpos_of_nonneg_of_nonpos (Int.le_of_lt g) z
      omega
  have pp : 0 ≤ p' := by
    rcases Int.lt_or_le p' 0 with z | z
    · have := Int.mul_neg_of_pos_of_neg g z
      omega
    · exact z
  refine ⟨by rw [e2]; exact Wp, ⟨gc p WW, by rw [e2, Int.mul_comm]; exact hw⟩, by rw [e1]; exact pp, ?_⟩
  rw [e1, e2]
  calc p' * WW = p' * (gc p WW * W') := by rw [← hw]
    _ = (gc p WW * p') * W' := by ac_rfl
    _ = p * W' := by rw [← hp]
theorem FR_b {a b p : Int} (h : FR a b p) : b ≤ WW ∧ 0 ≤ p ∧ a ≤ p := by
  obtain ⟨b0, ⟨x, hx⟩, a0, e⟩ := h
  have hW : (0 : Int) < WW := by decide
  have x0 : 0 < x := by
    rcases Int.lt_or_le 0 x with z | z
    · exact z
    · have := Int.mul_nonpos_of_nonneg_of_nonpos (Int.le_of_lt b0) z
      omega
  have bW : b ≤ WW := by
    have := Int.mul_le_mul_of_nonneg_left (show (1 : Int) ≤ x by omega) (Int.le_of_lt b0)
    omega
  have p0 : 0 ≤ p := by
    rcases Int.lt_or_le p 0 with z | z
    · have h1 := Int.mul_neg_of_neg_of_pos z b0
      have h2 := Int.mul_nonneg a0 (Int.le_of_lt hW)
      omega
    · exact z
  refine ⟨bW, p0, ?_⟩
  have h1 : a * WW ≤ p * WW := by rw [e]; exact Int.mul_le_mul_of_nonneg_left bW p0
  exact Int.le_of_mul_le_mul_right h1 hW
/-- the common denominator of two such fractions -/
theorem lc_of {b d : Int} (hb : 0 < b) (hd : 0 < d) (xb : ∃ x, WW = b * x) (xd : ∃ x, WW = d * x) : 0 < gc b d ∧ gc b d ≤ d ∧ 0 ≤ d / gc b d ∧ 0 < b / gc b d ∧ b / gc b d * d = b * (d / gc b d) ∧ 0 < b / gc b d * d ∧ (∃ x, WW = b / gc b d * d * x) ∧ b / gc b d ≤ b ∧ d / gc b d ≤ d := by
  have hW : (0 : Int) < WW := by decide
  have g := gc_pos (a := b) hd
  have gl := gc_le (a := b) hd
  obtain ⟨b', eb⟩ := gc_dl (a := b) (b := d) (Int.le_of_lt hb)
  obtain ⟨d', ed⟩ := gc_dr (a := b) (b := d) (Int.le_of_lt hd)
  have q1 : b / gc b d = b' := by rw [show b / gc b d = gc b d * b' / gc b d by rw [← eb], Int.mul_ediv_cancel_left _ (Int.ne_of_gt g)]
  have q2 : d / gc b d = d' := by rw [show d / gc b d = gc b d * d' / gc b d by rw [← ed], Int.mul_ediv_cancel_left _ (Int.ne_of_gt g)]
  have b0 : 0 < b' := by
    rcases Int.lt_or_le 0 b' with z | z
    · exact z
    · have := Int.mul_nonpos_of_nonneg_of_nonpos (Int.le_of_lt g) z
      omega
  have d0 : 0 < d' := by
    rcases Int.lt_or_le 0 d' with z | z
    · exact z
    · have := Int.mul_nonpos_of_nonneg_of_nonpos (Int.le_of_lt g) z
      omega
  have l1 : b' ≤ b := by
    have := Int.mul_le_mul_of_nonneg_right (show (1 : Int) ≤ gc b d by omega) (Int.le_of_lt b0)
    omega
  have l2 : d' ≤ d := by
    have := Int.mul_le_mul_of_nonneg_right (show (1 : Int) ≤ gc b d by omega) (Int.le_of_lt d0)
    omega
  have lcm : ∃ x, WW = b' * d * x := by
    obtain ⟨x, hx⟩ := xb
    obtain ⟨y, hy⟩ := xd
    have hx0 : 0 < x := by
      rcases Int.lt_or_le 0 x with z | z
      · exact z
      · have := Int.mul_nonpos_of_nonneg_of_nonpos (Int.le_of_lt hb) z
        omega
    have hy0 : 0 < y := by
      rcases Int.lt_or_le 0 y with z | z
      · exact z
      · have := Int.mul_nonpos_of_nonneg_of_nonpos (Int.le_of_lt hd) z
        omega
    have n1 : b.toNat ∣ WW.toNat := ⟨x.toNat, by
      apply Int.ofNat_inj.mp
      rw [Int.natCast_mul, show ((b.toNat : Nat) : Int) = b by omega, show ((x.toNat : Nat) : Int) = x by omega, ← hx]; rfl⟩
    have n2 : d.toNat ∣ WW.toNat := ⟨y.toNat, by
      apply Int.ofNat_inj.mp
      rw [Int.natCast_mul, show ((d.toNat : Nat) : Int) = d by omega, show ((y.toNat : Nat) : Int) = y by omega, ← hy]; rfl⟩
    obtain ⟨z, hz⟩ := Nat.lcm_dvd n1 n2
    refine ⟨z, ?_⟩
    have e : ((Nat.lcm b.toNat d.toNat : Nat) : Int) = b' * d := by
      have gn : Nat.gcd b.toNat d.toNat * b'.toNat = b.toNat := by
        apply Int.ofNat_inj.mp
        rw [Int.natCast_mul, show ((b'.toNat : Nat) : Int) = b' by omega]
        show gc b d * b' = _
        omega
      have gp : 0 < Nat.gcd b.toNat d.toNat := Nat.gcd_pos_of_pos_right _ (by first | decide | omega)
      have l : Nat.lcm b.toNat d.toNat = b'.toNat * d.toNat := by
        show b.toNat * d.toNat / Nat.gcd b.toNat d.toNat = _
        rw [show b.toNat * d.toNat = Nat.gcd b.toNat d.toNat * (b'.toNat * d.toNat) by rw [← Nat.mul_assoc, gn]]
        exact Nat.mul_div_cancel_left _ gp
      rw [l, Int.natCast_mul, show ((b'.toNat : Nat) : Int) = b' by omega, show ((d.toNat : Nat) : Int) = d by omega]
    rw [← e, ← Int.natCast_mul, ← hz]
    rfl
  rw [q1, q2]
  refine ⟨g, gl, Int.le_of_lt d0, b0, ?_, Int.mul_pos b0 hd, lcm, l1, l2⟩
  calc b' * d = b' * (gc b d * d') := by rw [← ed]
    _ = (gc b d * b') * d' := by ac_rfl
    _ = b * d' := by rw [← eb]
def fr (F : zF) (p : Int) : zF := zup3 (zup3 F 14 0 0 (nu p)) 14 0 1 (de p)
theorem dv_le {l x : Int} (hl : 0 < l) (h : WW = l * x) : l ≤ WW := by
  have hW : (0 : Int) < WW := by decide
  have x0 : 0 < x := by
    rcases Int.lt_or_le 0 x with z | z
    · exact z
    · have := Int.mul_nonpos_of_nonneg_of_nonpos (Int.le_of_lt hl) z
      omega
  have := Int.mul_le_mul_of_nonneg_left (show (1 : Int) ≤ x by omega) (Int.le_of_lt hl)
  omega
theorem L_isR {K : Nat} {F : zF} {B : zB} {u d p : Int} (hK : 812851200 < K) (h : FR u d p) (hp : p < 4611686018427387904) : f_M_is K u d F B = some (0, fr F p, B) := by
  have b := FR_b h
  obtain ⟨d0, x, u0, e⟩ := h
  have hw : WW = 812851200 := rfl
  rw [L_is u0 (by first | decide | omega) d0 (by first | decide | omega) (by first | decide | omega)]
  obtain ⟨r1, r2⟩ := red_u (W := WW) (by decide) b.2.1 u0 d0 e
  rw [r1, r2]
  rfl
theorem L_plusR {K : Nat} {F : zF} {B : zB} {a b c d p q : Int} (hK : 812851200 < K) (h : FR a b p) (h' : FR c d q) (hp : p + q < 4611686018427387904) : f_M_plus K a b c d F B = some (0, fr F (p + q), B) := by
  have hb := FR_b h
  have hd := FR_b h'
  obtain ⟨b0, xb, a0, e⟩ := h
  obtain ⟨d0, xd, c0, e'⟩ := h'
  obtain ⟨g0, gl, i1, i2, i3, i4, i5, i6, i7⟩ := lc_of b0 d0 xb xd
  have hw : WW = 812851200 := rfl
  unfold f_M_plus
  rw [L_gcd (by first | decide | omega) (by first | decide | omega) (by first | decide | omega) (by first | decide | omega) (by first | decide | omega)]
  simp only [zb_s]
  rw [if_pos (lI_n0 g0 (by first | decide | omega)), zldv_e (by first | decide | omega) (by first | decide | omega) g0 (by first | decide | omega), zldv_e (by first | decide | omega) (by first | decide | omega) g0 (by first | decide | omega)]
  have f : FR (a * (d / gc b d) + c * (b / gc b d)) (b / gc b d * d) (p + q) := by
    refine ⟨i4, i5, ?_, ?_⟩
    · have := Int.mul_nonneg a0 i1
      have := Int.mul_nonneg c0 (Int.le_of_lt i2)
      omega
    · rw [Int.add_mul, Int.add_mul]
      have s1 : a * (d / gc b d) * WW = p * (b / gc b d * d) := by
        calc a * (d / gc b d) * WW = (a * WW) * (d / gc b d) := by ac_rfl
          _ = p * b * (d / gc b d) := by rw [e]
          _ = p * (b * (d / gc b d)) := by ac_rfl
          _ = p * (b / gc b d * d) := by rw [i3]
      have s2 : c * (b / gc b d) * WW = q * (b / gc b d * d) := by
        calc c * (b / gc b d) * WW = (c * WW) * (b / gc b d) := by ac_rfl
          _ = q * d * (b / gc b d) := by rw [e']
          _ = q * (b / gc b d * d) := by ac_rfl
      rw [s1, s2]
  rw [L_isR hK f hp]
  rfl
theorem L_minusR {K : Nat} {F : zF} {B : zB} {a b c d p q : Int} (hK : 812851200 < K) (h : FR a b p) (h' : FR c d q) (hq : q ≤ p) (hp : p < 4611686018427387904) : f_M_minus K a b c d F B = some (0, fr F (p - q), B) := by
  have hb := FR_b h
  have hd := FR_b h'
  obtain ⟨b0, xb, a0, e⟩ := h
  obtain ⟨d0, xd, c0, e'⟩ := h'
  obtain ⟨g0, gl, i1, i2, i3, i4, i5, i6, i7⟩ := lc_of b0 d0 xb xd
  have hw : WW = 812851200 := rfl
  have hW : (0 : Int) < WW := by decide
  unfold f_M_minus
  rw [L_gcd (by first | decide | omega) (by first | decide | omega) (by first | decide | omega) (by first | decide | omega) (by first | decide | omega)]
  simp only [zb_s]
  rw [if_pos (lI_n0 g0 (by first | decide | omega)), zldv_e (by first | decide | omega) (by first | decide | omega) g0 (by first | decide | omega), zldv_e (by first | decide | omega) (by first | decide | omega) g0 (by first | decide | omega)]
  have s1 : a * (d / gc b d) * WW = p * (b / gc b d * d) := by
    calc a * (d / gc b d) * WW = (a * WW) * (d / gc b d) := by ac_rfl
      _ = p * b * (d / gc b d) := by rw [e]
      _ = p * (b * (d / gc b d)) := by ac_rfl
      _ = p * (b / gc b d * d) := by rw [i3]
  have s2 : c * (b / gc b d) * WW = q * (b / gc b d * d) := by
    calc c * (b / gc b d) * WW = (c * WW) * (b / gc b d) := by ac_rfl
      _ = q * d * (b / gc b d) := by rw [e']
      _ = q * (b / gc b d * d) := by ac_rfl
  have f : FR (a * (d / gc b d) - c * (b / gc b d)) (b / gc b d * d) (p - q) := by
    refine ⟨i4, i5, ?_, ?_⟩
    · have le : c * (b / gc b d) * WW ≤ a * (d / gc b d) * WW := by
        rw [s1, s2]; exact Int.mul_le_mul_of_nonneg_right hq (Int.le_of_lt i4)
      have := Int.le_of_mul_le_mul_right le hW
      omega
    · rw [Int.sub_mul, Int.sub_mul, s1, s2]
  rw [L_isR hK f (by first | decide | omega)]
  rfl
theorem L_cmpR {K : Nat} {F : zF} {B : zB} {a b c d p q : Int} (hK : 812851200 < K) (h : FR a b p) (h' : FR c d q) (hp : p < 4611686018427387904) (hq : q < 4611686018427387904) : f_M_compare K a b c d F B = some (if p < q then -1 else if p = q then 0 else 1, F, B) := by
  have hb := FR_b h
  have hd := FR_b h'
  obtain ⟨b0, xb, a0, e⟩ := h
  obtain ⟨d0, xd, c0, e'⟩ := h'
  obtain ⟨g0, gl, i1, i2, i3, i4, ⟨lx, hlx⟩, i6, i7⟩ := lc_of b0 d0 xb xd
  have hw : WW = 812851200 := rfl
  have hW : (0 : Int) < WW := by decide
  have ll := dv_le i4 hlx
  have s1 : a * (d / gc b d) * WW = p * (b / gc b d * d) := by
    calc a * (d / gc b d) * WW = (a * WW) * (d / gc b d) := by ac_rfl
      _ = p * b * (d / gc b d) := by rw [e]
      _ = p * (b * (d / gc b d)) := by ac_rfl
      _ = p * (b / gc b d * d) := by rw [i3]
  have s2 : c * (b / gc b d) * WW = q * (b / gc b d * d) := by
    calc c * (b / gc b d) * WW = (c * WW) * (b / gc b d) := by ac_rfl
      _ = q * d * (b / gc b d) := by rw [e']
      _ = q * (b / gc b d * d) := by ac_rfl
  have x0 := Int.mul_nonneg a0 i1
  have y0 := Int.mul_nonneg c0 (Int.le_of_lt i2)
  have xp : a * (d / gc b d) ≤ p := by
    refine Int.le_of_mul_le_mul_right ?_ hW
    rw [s1]; exact Int.mul_le_mul_of_nonneg_left ll hb.2.1
  have yq : c * (b / gc b d) ≤ q := by
    refine Int.le_of_mul_le_mul_right ?_ hW
    rw [s2]; exact Int.mul_le_mul_of_nonneg_left ll hd.2.1
  unfold f_M_compare f_M_compare_51
  rw [L_gcd (by first | decide | omega) (by first | decide | omega) (by first | decide | omega) (by first | decide | omega) (by first | decide | omega)]
  simp only [zb_s]
  rw [if_pos (lI_n0 g0 (by first | decide | omega)), zldv_e (by first | decide | omega) (by first | decide | omega) g0 (by first | decide | omega), zldv_e (by first | decide | omega) (by first | decide | omega) g0 (by first | decide | omega)]
  generalize hl : b / gc b d * d = l at *
  generalize hX : a * (d / gc b d) = X at *
  generalize hY : c * (b / gc b d) = Y at *
  rw [if_pos (by first | decide | omega), if_pos (by first | decide | omega)]
  rcases Int.lt_trichotomy p q with z | z | z
  · have : X < Y := by
      refine Int.lt_of_mul_lt_mul_right (a := WW) ?_ (Int.le_of_lt hW)
      rw [s1, s2]; exact Int.mul_lt_mul_of_pos_right z i4
    rw [if_neg (by have := zcmp_lt.mpr this; omega), if_pos z]
  · have : X = Y := by
      apply Int.eq_of_mul_eq_mul_right (Int.ne_of_gt hW)
      rw [s1, s2, z]
    have zc := zcmp_0.mpr this
    rw [if_pos (by first | decide | omega), if_pos (by first | decide | omega), if_neg (by first | decide | omega), if_pos z]
  · have : Y < X := by
      refine Int.lt_of_mul_lt_mul_right (a := WW) ?_ (Int.le_of_lt hW)
      rw [s1, s2]; exact Int.mul_lt_mul_of_pos_right z i4
    have zc := zcmp_g.mpr this
    rw [if_pos (by first | decide | omega), if_neg (by first | decide | omega), if_neg (by first | decide | omega), if_neg (by first | decide | omega)]
end
