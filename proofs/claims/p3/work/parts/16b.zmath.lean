def zmax (a b : Int) : Int := if a < b then b else a
def zmin (a b : Int) : Int := if b < a then b else a
def zabs (a : Int) : Int := if 0 ≤ a then a else - a
theorem lI_lt2 {a b : Int} (ha : r64 a) (hb : r64 b) : lI a < lI b ↔ a < b := by rw [Int64.lt_iff_toInt_lt, lI_to ha, lI_to hb]
theorem zmax_e {a b : Int} (ha : r32 a) (hb : r32 b) : (if iI a < iI b then iI b else iI a) = iI (zmax a b) := by
  unfold zmax
  by_cases h : a < b
  · rw [if_pos h, if_pos ((iI_lt ha hb).mpr h)]
  · rw [if_neg h, if_neg (fun q => h ((iI_lt ha hb).mp q))]
theorem zmin_e {a b : Int} (ha : r32 a) (hb : r32 b) : (if iI b < iI a then iI b else iI a) = iI (zmin a b) := by
  unfold zmin
  by_cases h : b < a
  · rw [if_pos h, if_pos ((iI_lt hb ha).mpr h)]
  · rw [if_neg h, if_neg (fun q => h ((iI_lt hb ha).mp q))]
theorem zabs_e {a : Int} (ha : r32 a) : (if 0 ≤ iI a then iI a else 0 - iI a) = iI (zabs a) := by
  have h0 : (0 : Int32) = iI 0 := rfl
  have hr : r32 0 := ⟨by decide, by decide⟩
  unfold zabs
  rw [h0]
  by_cases h : 0 ≤ a
  · rw [if_pos h, if_pos ((iI_le hr ha).mpr h)]
  · rw [if_neg h, if_neg (fun q => h ((iI_le hr ha).mp q)), iI_sub, Int.zero_sub]
theorem zlmax_e {a b : Int} (ha : r64 a) (hb : r64 b) : (if lI b < lI a then lI a else lI b) = lI (zmax a b) := by
  unfold zmax
  by_cases h : b < a
  · rw [if_neg (show ¬ a < b by omega), if_pos ((lI_lt2 hb ha).mpr h)]
  · rw [if_neg (fun q => h ((lI_lt2 hb ha).mp q))]
    by_cases h2 : a < b
    · rw [if_pos h2]
    · rw [if_neg h2, show a = b by omega]
theorem zlmin_e {a b : Int} (ha : r64 a) (hb : r64 b) : (if lI b < lI a then lI b else lI a) = lI (zmin a b) := by
  unfold zmin
  by_cases h : b < a
  · rw [if_pos h, if_pos ((lI_lt2 hb ha).mpr h)]
  · rw [if_neg h, if_neg (fun q => h ((lI_lt2 hb ha).mp q))]
theorem zlabs_e {a : Int} (ha : r64 a) : (if 0 < lI a then lI a else - lI a) = lI (zabs a) := by
  have h0 : (0 : Int64) = lI 0 := rfl
  have hr : r64 0 := ⟨by decide, by decide⟩
  have hn : - lI a = lI (- a) := (Int64.ofInt_neg a).symm
  unfold zabs
  rw [h0, hn]
  by_cases h : 0 < a
  · rw [if_pos (show 0 ≤ a by omega), if_pos ((lI_lt2 hr ha).mpr h)]
  · rw [if_neg (fun q => h ((lI_lt2 hr ha).mp q))]
    by_cases h2 : 0 ≤ a
    · rw [if_pos h2, show a = 0 by omega]; rfl
    · rw [if_neg h2]
