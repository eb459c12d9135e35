section
/-! ===== how often a fraction goes into a place ===== -/
theorem div_FR {a b c d p q : Int} (h : a * WW = p * b) (h' : c * WW = q * d) (b0 : 0 < b) (c0 : 0 < c) (d0 : 0 < d) (q0 : 0 < q) : a * d / (b * c) = p / q ∧ (a * d % (b * c) = 0 ↔ p % q = 0) := by
  have hW : (0 : Int) < WW := by decide
  have bd : 0 < b * d := Int.mul_pos b0 d0
  have e1 : a * d * WW = p * (b * d) := by
    calc a * d * WW = (a * WW) * d := by ac_rfl
      _ = p * b * d := by rw [h]
      _ = p * (b * d) := by ac_rfl
  have e2 : b * c * WW = q * (b * d) := by
    calc b * c * WW = (c * WW) * b := by ac_rfl
      _ = q * d * b := by rw [h']
      _ = q * (b * d) := by ac_rfl
  refine ⟨?_, ?_⟩
  · rw [← Int.mul_ediv_mul_of_pos_left (a * d) (b * c) hW, e1, e2, Int.mul_ediv_mul_of_pos_left p q bd]
  · have m : a * d % (b * c) * WW = p % q * (b * d) := by
      rw [Int.mul_comm _ WW, ← Int.mul_emod_mul_of_pos _ _ hW, Int.mul_comm WW, Int.mul_comm WW, e1, e2, Int.mul_comm p, Int.mul_comm q, Int.mul_emod_mul_of_pos _ _ bd, Int.mul_comm]
    constructor
    · intro z
      rw [z, Int.zero_mul] at m
      rcases Int.mul_eq_zero.mp m.symm with w | w
      · exact w
      · omega
    · intro z
      rw [z, Int.zero_mul] at m
      rcases Int.mul_eq_zero.mp m with w | w
      · exact w
      · omega
theorem L_oftR {K : Nat} {F : zF} {B : zB} {a b c d p q : Int} (h : FR a b p) (h' : c * WW = q * d) (c0 : 0 < c) (c1 : c ≤ 100000) (d0 : 0 < d) (d1 : d ≤ 100000) (q0 : 0 < q) (hp : p < 70368744177664) : f_M_often K a b c d F B = some (p / q, F, B) := by
  have hb := FR_b h
  have hw : WW = 812851200 := rfl
  have bc : 0 < b * c := Int.mul_pos h.1 c0
  have bc2 : b * c ≤ 812851200 * 100000 := Int.mul_le_mul (by first | decide | omega) c1 (by first | decide | omega) (by first | decide | omega)
  have ad : 0 ≤ a * d := Int.mul_nonneg h.2.2.1 (by first | decide | omega)
  have ad2 : a * d ≤ 70368744177664 * 100000 := Int.mul_le_mul (by first | decide | omega) d1 (by first | decide | omega) (by first | decide | omega)
  unfold f_M_often
  rw [if_pos (lI_n0 bc (by first | decide | omega)), zldv_e ad (by first | decide | omega) bc (by first | decide | omega), (div_FR h.2.2.2 h' h.1 c0 d0 q0).1]
theorem L_multR {K : Nat} {F : zF} {B : zB} {a b c d p q : Int} (h : FR a b p) (h' : c * WW = q * d) (c0 : 0 < c) (c1 : c ≤ 100000) (d0 : 0 < d) (d1 : d ≤ 100000) (q0 : 0 < q) (hp : p < 70368744177664) : f_M_isMultiple K a b c d F B = some (if p % q = 0 then 1 else 0, F, B) := by
  have hb := FR_b h
  have hw : WW = 812851200 := rfl
  have bc : 0 < b * c := Int.mul_pos h.1 c0
  have bc2 : b * c ≤ 812851200 * 100000 := Int.mul_le_mul (by first | decide | omega) c1 (by first | decide | omega) (by first | decide | omega)
  have ad : 0 ≤ a * d := Int.mul_nonneg h.2.2.1 (by first | decide | omega)
  have ad2 : a * d ≤ 70368744177664 * 100000 := Int.mul_le_mul (by first | decide | omega) d1 (by first | decide | omega) (by first | decide | omega)
  have m0 : 0 ≤ a * d % (b * c) := Int.emod_nonneg _ (by first | decide | omega)
  have m1 : a * d % (b * c) < b * c := Int.emod_lt_of_pos _ bc
  have k := (div_FR h.2.2.2 h' h.1 c0 d0 q0).2
  unfold f_M_isMultiple f_M_isMultiple_19
  rw [if_pos (lI_n0 bc (by first | decide | omega)), zlrm_e ad (by first | decide | omega) bc (by first | decide | omega), if_pos (by first | decide | omega)]
  by_cases z : a * d % (b * c) = 0
  · rw [if_pos (zcmp_0.mpr z), if_pos (by decide), if_pos (k.mp z)]
  · rw [if_neg (fun w => z (zcmp_0.mp w)), if_pos (by decide), if_neg (fun w => z (k.mpr w))]
end
