/-! ===== machine numbers by whole numbers ===== -/
def iI (z : Int) : Int32 := Int32.ofInt z
def lI (z : Int) : Int64 := Int64.ofInt z
abbrev r32 (z : Int) : Prop := -2147483648 ≤ z ∧ z < 2147483648
abbrev r64 (z : Int) : Prop := -9223372036854775808 ≤ z ∧ z < 9223372036854775808
theorem iI_to {z : Int} (h : r32 z) : (iI z).toInt = z := Int32.toInt_ofInt_of_le h.1 h.2
theorem lI_to {z : Int} (h : r64 z) : (lI z).toInt = z := Int64.toInt_ofInt_of_le h.1 h.2
theorem iI_of (x : Int32) : iI x.toInt = x := Int32.ofInt_toInt x
theorem lI_of (x : Int64) : lI x.toInt = x := Int64.ofInt_toInt x
theorem iI_add (a b : Int) : iI a + iI b = iI (a + b) := (Int32.ofInt_add a b).symm
theorem iI_sub (a b : Int) : iI a - iI b = iI (a - b) := (Int32.ofInt_sub a b).symm
theorem iI_mul (a b : Int) : iI a * iI b = iI (a * b) := (Int32.ofInt_mul a b).symm
theorem iI_neg (a : Int) : - iI a = iI (- a) := (Int32.ofInt_neg a).symm
theorem lI_add (a b : Int) : lI a + lI b = lI (a + b) := (Int64.ofInt_add a b).symm
theorem lI_sub (a b : Int) : lI a - lI b = lI (a - b) := (Int64.ofInt_sub a b).symm
theorem lI_mul (a b : Int) : lI a * lI b = lI (a * b) := (Int64.ofInt_mul a b).symm
theorem iI_lt {a b : Int} (ha : r32 a) (hb : r32 b) : iI a < iI b ↔ a < b := by rw [Int32.lt_iff_toInt_lt, iI_to ha, iI_to hb]
theorem iI_le {a b : Int} (ha : r32 a) (hb : r32 b) : iI a ≤ iI b ↔ a ≤ b := by rw [Int32.le_iff_toInt_le, iI_to ha, iI_to hb]
theorem iI_eq {a b : Int} (ha : r32 a) (hb : r32 b) : iI a = iI b ↔ a = b := by rw [← Int32.toInt_inj, iI_to ha, iI_to hb]
theorem iI_cl {a : Int} (h0 : 0 ≤ a) (h : a < 2147483648) : (iI a).toNatClampNeg = a.toNat := by
  rw [← Int32.toNat_toInt, iI_to ⟨by omega, h⟩]
theorem iI_in {a : Int} {n : Nat} (h0 : 0 ≤ a) (h1 : a < n) (hn : n ≤ 2147483647) : vp_in (iI a) n := by
  intro q
  rcases q with q | q
  · rw [show (0 : Int32) = iI 0 from rfl, iI_lt ⟨by omega, by omega⟩ ⟨by decide, by decide⟩] at q
    omega
  · rw [iI_cl h0 (by omega)] at q
    omega
theorem iI_div {a b : Int} (ha : r32 a) (hb : 0 < b) (hb2 : r32 b) : iI a / iI b = iI (a.tdiv b) := by
  apply Int32.toInt_inj.mp
  have h1 : r32 (a.tdiv b) := by
    have h3 : (a.tdiv b).natAbs ≤ a.natAbs := by rw [Int.natAbs_tdiv]; exact Nat.div_le_self _ _
    constructor
    · rcases Int.le_total 0 a with h | h
      · have := Int.tdiv_nonneg h (Int.le_of_lt hb); omega
      · omega
    · rcases Int.le_total 0 a with h | h
      · omega
      · have h4 : (-a).tdiv b = -(a.tdiv b) := Int.neg_tdiv a b
        have := Int.tdiv_nonneg (show 0 ≤ -a by omega) (Int.le_of_lt hb); omega
  rw [iI_to h1, Int32.toInt_div, iI_to ha, iI_to hb2]
  rw [Int.bmod_eq_of_le] <;> omega
theorem iI_rem {a b : Int} (ha : r32 a) (hb2 : r32 b) : iI a % iI b = iI (a.tmod b) := by
  apply Int32.toInt_inj.mp
  have h1 : r32 (a.tmod b) := by
    have h3 : (a.tmod b).natAbs ≤ a.natAbs := by rw [Int.natAbs_tmod]; exact Nat.mod_le _ _
    rcases Int.le_total 0 a with h | h
    · have := Int.tmod_nonneg b h; omega
    · have h4 : -(a.tmod b) = (-a).tmod b := by rw [Int.neg_tmod]
      have := Int.tmod_nonneg b (show 0 ≤ -a by omega); omega
  rw [iI_to h1, Int32.toInt_mod, iI_to ha, iI_to hb2]
def zAr (f : Int → Int) : Nat → Int32 := fun j => iI (f (j : Int))
def zLr (f : Int → Int) : Nat → Int64 := fun j => lI (f (j : Int))
def zup (f : Int → Int) (a v : Int) : Int → Int := fun x => if x = a then v else f x
theorem zAr_at {f : Int → Int} {a : Int} (h0 : 0 ≤ a) (h : a < 2147483648) : zAr f (iI a).toNatClampNeg = iI (f a) := by
  rw [iI_cl h0 h]
  unfold zAr
  rw [Int.toNat_of_nonneg h0]
theorem zLr_at {f : Int → Int} {a : Int} (h0 : 0 ≤ a) (h : a < 2147483648) : zLr f (iI a).toNatClampNeg = lI (f a) := by
  rw [iI_cl h0 h]
  unfold zLr
  rw [Int.toNat_of_nonneg h0]
theorem zAr_up {f : Int → Int} {a v : Int} (h0 : 0 ≤ a) (h : a < 2147483648) : upd (zAr f) (iI a).toNatClampNeg (iI v) = zAr (zup f a v) := by
  rw [iI_cl h0 h]
  funext j
  unfold upd zAr zup
  by_cases e : j = a.toNat
  · have e2 : (j : Int) = a := by omega
    simp [e, Int.toNat_of_nonneg h0]
  · have e2 : ¬ (j : Int) = a := by omega
    simp [e, e2]
theorem zLr_up {f : Int → Int} {a v : Int} (h0 : 0 ≤ a) (h : a < 2147483648) : vp_updL (zLr f) (iI a).toNatClampNeg (lI v) = zLr (zup f a v) := by
  rw [iI_cl h0 h]
  funext j
  unfold vp_updL zLr zup
  by_cases e : j = a.toNat
  · have e2 : (j : Int) = a := by omega
    simp [e, Int.toNat_of_nonneg h0]
  · have e2 : ¬ (j : Int) = a := by omega
    simp [e, e2]
