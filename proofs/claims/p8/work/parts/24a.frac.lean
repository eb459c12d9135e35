section
/-! ===== the reference's fractions are the class's places ===== -/
theorem lI_n0 {b : Int} (hb : 0 < b) (h : r64 b) : ¬ lI b = 0 := by
  intro z
  have e : (lI b).toInt = b := lI_to h
  rw [z] at e
  have : (0 : Int64).toInt = 0 := by decide
  omega
theorem zldv_e {a b : Int} (h0 : 0 ≤ a) (ha : a < 9223372036854775808) (hb : 0 < b) (hb2 : b < 9223372036854775808) : zldv a b = a / b := by
  have ra : r64 a := ⟨(by first | decide | omega), ha⟩
  have rb : r64 b := ⟨(by first | decide | omega), hb2⟩
  have hq : a / b ≤ a := Int.ediv_le_self b h0
  have hq0 : 0 ≤ a / b := Int.ediv_nonneg h0 (by first | decide | omega)
  unfold zldv
  rw [Int64.toInt_div, lI_to ra, lI_to rb, Int.tdiv_eq_ediv_of_nonneg h0]
  rw [Int.bmod_eq_of_le] <;> omega
theorem zlrm_e {a b : Int} (h0 : 0 ≤ a) (ha : a < 9223372036854775808) (hb : 0 < b) (hb2 : b < 9223372036854775808) : zlrm a b = a % b := by
  have ra : r64 a := ⟨(by first | decide | omega), ha⟩
  have rb : r64 b := ⟨(by first | decide | omega), hb2⟩
  have hm0 : 0 ≤ a % b := Int.emod_nonneg a (by first | decide | omega)
  have hm1 : a % b < b := Int.emod_lt_of_pos a hb
  have hd : lI a / lI b = lI (a / b) := by
    have e := zldv_e h0 ha hb hb2
    unfold zldv at e
    rw [← e, lI_of]
  unfold zlrm
  rw [hd, lI_mul, lI_sub, show a - a / b * b = a % b by rw [Int.emod_def, Int.mul_comm]]
  exact lI_to ⟨(by first | decide | omega), (by first | decide | omega)⟩
def gc (a b : Int) : Int := (Nat.gcd a.toNat b.toNat : Int)
theorem gc_pos {a b : Int} (hb : 0 < b) : 0 < gc a b := by
  unfold gc
  have := Nat.gcd_pos_of_pos_right a.toNat (show 0 < b.toNat by omega)
  omega
theorem gc_dl {a b : Int} (ha : 0 ≤ a) : ∃ x, a = gc a b * x := by
  obtain ⟨x, hx⟩ := Nat.gcd_dvd_left a.toNat b.toNat
  exact ⟨x, by unfold gc; omega⟩
theorem gc_dr {a b : Int} (hb : 0 ≤ b) : ∃ x, b = gc a b * x := by
  obtain ⟨x, hx⟩ := Nat.gcd_dvd_right a.toNat b.toNat
  exact ⟨x, by unfold gc; omega⟩
theorem gc_le {a b : Int} (hb : 0 < b) : gc a b ≤ b := by
  unfold gc
  have := Nat.gcd_le_right a.toNat (show 0 < b.toNat by omega)
  omega
theorem L_gcd6 {K : Nat} {F : zF} {B : zB} : ∀ {n : Nat} {x y : Int}, 0 ≤ x → x < 9223372036854775808 → 0 ≤ y → y < 9223372036854775808 → y < n → f_M_gcd_6 K n y x F B = some (gc x y, F, B) := by
  intro n
  induction n with
  | zero => intro x y _ _ _ _ h; omega
  | succ n ih =>
    intro x y x0 x1 y0 y1 h
    unfold f_M_gcd_6
    rw [if_pos (by first | decide | omega)]
    by_cases e : y = 0
    · rw [if_pos (zcmp_0.mpr e), e]
      unfold gc
      rw [show (0 : Int).toNat = 0 from rfl, Nat.gcd_zero_right]
      rw [show ((x.toNat : Nat) : Int) = x by omega]
    · rw [if_neg (fun z => e (zcmp_0.mp z)), if_pos (lI_n0 (by first | decide | omega) (by first | decide | omega)), zlrm_e x0 x1 (by first | decide | omega) y1]
      have m0 : 0 ≤ x % y := Int.emod_nonneg x e
      have m1 : x % y < y := Int.emod_lt_of_pos x (by first | decide | omega)
      rw [ih (by first | decide | omega) (by first | decide | omega) m0 (by first | decide | omega) (by first | decide | omega)]
      have g : gc y (x % y) = gc x y := by
        unfold gc
        have e2 : (x % y).toNat = x.toNat % y.toNat := by
          apply Int.ofNat_inj.mp
          rw [Int.natCast_emod, show ((x.toNat : Nat) : Int) = x by omega, show ((y.toNat : Nat) : Int) = y by omega]
          omega
        rw [e2, Nat.gcd_comm y.toNat, ← Nat.gcd_rec, Nat.gcd_comm]
      rw [g]
theorem L_gcd {K : Nat} {F : zF} {B : zB} {x y : Int} (x0 : 0 ≤ x) (x1 : x < 9223372036854775808) (y0 : 0 ≤ y) (y1 : y < 9223372036854775808) (h : y < K) : f_M_gcd K x y F B = some (gc x y, F, B) := L_gcd6 x0 x1 y0 y1 h
theorem L_is {K : Nat} {F : zF} {B : zB} {u d : Int} (u0 : 0 ≤ u) (u1 : u < 9223372036854775808) (d0 : 0 < d) (d1 : d < 9223372036854775808) (h : d < K) : f_M_is K u d F B = some (0, zup3 (zup3 F 14 0 0 (u / gc u d)) 14 0 1 (d / gc u d), B) := by
  have g := gc_pos (a := u) d0
  have gl := gc_le (a := u) d0
  unfold f_M_is
  rw [L_gcd u0 u1 (by first | decide | omega) d1 h]
  simp only [zb_s]
  rw [if_pos (lI_n0 g (by first | decide | omega)), zldv_e u0 u1 g (by first | decide | omega), zldv_e (by first | decide | omega) d1 g (by first | decide | omega)]
/-- a fraction u/d that is the place p of W: reduced it is p's -/
theorem red_u {W p u d : Int} (hW : 0 < W) (p0 : 0 ≤ p) (u0 : 0 ≤ u) (d0 : 0 < d) (h : u * W = p * d) : u / gc u d = p / gc p W ∧ d / gc u d = W / gc p W := by
  have g1 := gc_pos (a := u) d0
  have g2 := gc_pos (a := p) hW
  have key : W * gc u d = d * gc p W := by
    have n : Nat.gcd (W.toNat * u.toNat) (W.toNat * d.toNat) = Nat.gcd (d.toNat * p.toNat) (d.toNat * W.toNat) := by
      have e1 : W.toNat * u.toNat = d.toNat * p.toNat := by
        apply Int.ofNat_inj.mp
        rw [Int.natCast_mul, Int.natCast_mul, show ((W.toNat : Nat) : Int) = W by omega, show ((u.toNat : Nat) : Int) = u by omega, show ((d.toNat : Nat) : Int) = d by omega, show ((p.toNat : Nat) : Int) = p by omega, Int.mul_comm W u, h, Int.mul_comm]
      rw [e1, Nat.mul_comm W.toNat d.toNat]
    rw [Nat.gcd_mul_left, Nat.gcd_mul_left] at n
    have n' : ((W.toNat * Nat.gcd u.toNat d.toNat : Nat) : Int) = ((d.toNat * Nat.gcd p.toNat W.toNat : Nat) : Int) := by rw [n]
    rw [Int.natCast_mul, Int.natCast_mul, show ((W.toNat : Nat) : Int) = W by omega, show ((d.toNat : Nat) : Int) = d by omega] at n'
    exact n'
  obtain ⟨u', hu⟩ := gc_dl (a := u) (b := d) u0
  obtain ⟨d', hd⟩ := gc_dr (a := u) (b := d) (Int.le_of_lt d0)
  obtain ⟨p', hp⟩ := gc_dl (a := p) (b := W) p0
  obtain ⟨W', hw⟩ := gc_dr (a := p) (b := W) (Int.le_of_lt hW)
  generalize gc u d = a at *
  generalize gc p W = b at *
  have ab : 0 < a * b := Int.mul_pos g1 g2
  have e1 : d' = W' := by
    apply Int.eq_of_mul_eq_mul_left (Int.ne_of_gt ab)
    calc a * b * d' = (a * d') * b := by rw [Int.mul_assoc, Int.mul_comm b d', ← Int.mul_assoc]
      _ = d * b := by rw [← hd]
      _ = W * a := key.symm
      _ = (b * W') * a := by rw [← hw]
      _ = a * b * W' := by rw [Int.mul_comm, ← Int.mul_assoc]
  have Wp : 0 < W' := by
    rcases Int.lt_or_le 0 W' with z | z
    · exact z
    · have := Int.mul_nonpos_of_nonneg_of_nonpos (Int.le_of_lt g2) z
      omega
  have e2 : u' = p' := by
    have h2 : (a * u') * (b * W') = (b * p') * (a * d') := by rw [← hu, ← hw, ← hp, ← hd]; exact h
    rw [e1] at h2
    apply Int.eq_of_mul_eq_mul_left (Int.ne_of_gt (Int.mul_pos ab Wp))
    calc a * b * W' * u' = (a * u') * (b * W') := by ac_rfl
      _ = (b * p') * (a * W') := h2
      _ = a * b * W' * p' := by ac_rfl
  refine ⟨?_, ?_⟩
  · rw [hu, hp, Int.mul_ediv_cancel_left _ (Int.ne_of_gt g1), Int.mul_ediv_cancel_left _ (Int.ne_of_gt g2), e2]
  · rw [hd, hw, Int.mul_ediv_cancel_left _ (Int.ne_of_gt g1), Int.mul_ediv_cancel_left _ (Int.ne_of_gt g2), e1]
end
