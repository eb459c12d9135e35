theorem vin2 {x M : Int32} {n : Nat} (hM : M.toInt = n) (a : ¬ x < 0) (b : ¬ M ≤ x) : vp_in x n := by
  rw [vp_in_iff]
  have h1 := Int32.le_iff_toInt_le.mp (Int32.not_lt.mp a)
  have h2 := Int32.lt_iff_toInt_lt.mp (Int32.not_le.mp b)
  have h3 : (0 : Int32).toInt = 0 := by decide
  omega
theorem vgt {x : Int32} (c : ¬ 1 < x) : ¬ 2 ≤ x := by
  intro h
  apply c
  have h1 := Int32.le_iff_toInt_le.mp h
  rw [Int32.lt_iff_toInt_lt]
  have h2 : (2 : Int32).toInt = 2 := by decide
  have h3 : (1 : Int32).toInt = 1 := by decide
  omega
theorem v2 {x : Int32} (h : vp_in x 2) : x.toNatClampNeg = 0 ∨ x.toNatClampNeg = 1 := by
  have h1 : ¬ 2 ≤ x.toNatClampNeg := fun q => h (Or.inr q)
  omega
