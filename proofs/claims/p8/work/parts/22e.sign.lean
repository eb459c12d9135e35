section
/-! ===== strings and signs ===== -/
theorem toI_r (x : Int32) : r32 x.toInt := ⟨Int32.le_toInt _, Int.lt_of_le_of_lt (Int32.toInt_le x) (by decide)⟩
theorem zsb_r (s : Nat) (k : Int) : r32 (zsb s k) := toI_r _
theorem zi2b_q (x : Int) : r32 (zi2b x) := toI_r _
theorem zb_s {r : Int} {F : zF} {B : zB} {k : Int → zF → zB → zO} : zbind (some (r, F, B)) k = k r F B := rfl
theorem zi2c_b {b : Int} (h0 : 0 ≤ b) (h1 : b < 256) : zi2c b = b := by
  have h : ∀ c : Fin 256, zi2c (c.val : Int) = (c.val : Int) := by decide +kernel
  have := h ⟨b.toNat, (by first | decide | omega)⟩
  rwa [show (((⟨b.toNat, (by first | decide | omega)⟩ : Fin 256).val : Nat) : Int) = b by show ((b.toNat : Nat) : Int) = b; omega] at this
theorem C_slen {K : zK} {s : Nat} {F : zF} {B : zB} (h : s < strL.length) (hz : zshr (zsl s) 0 = zsl s) : f_CString_length K s F B = some (zsl s, F, B) := by
  unfold f_CString_length f_CString_coder f_CString_coder_14
  rw [if_pos h, if_neg (by decide), if_pos h, if_pos (by decide)]
  show some (zshr (zsl s) 0, F, B) = _
  rw [hz]
theorem C_slat {K : zK} {s : Nat} {F : zF} {B : zB} (h : s < strL.length) : f_CString_isLatin1 K s F B = some (1, F, B) := by
  unfold f_CString_isLatin1 f_CString_isLatin1_18
  rw [if_neg (by decide), if_pos h, if_pos rfl, if_pos (by decide)]
theorem L_slen {K : Nat} {s : Nat} {F : zF} {B : zB} (h : s < strL.length) (hz : zshr (zsl s) 0 = zsl s) : f_String_length K s F B = some (zsl s, F, B) := by
  unfold f_String_length f_String_coder f_String_coder_14
  rw [if_pos h, if_neg (by decide), if_pos h, if_pos (by decide)]
  show some (zshr (zsl s) 0, F, B) = _
  rw [hz]
theorem L_slat {K : Nat} {s : Nat} {F : zF} {B : zB} (h : s < strL.length) : f_String_isLatin1 K s F B = some (1, F, B) := by
  unfold f_String_isLatin1 f_String_isLatin1_18
  rw [if_neg (by decide), if_pos h, if_pos rfl, if_pos (by decide)]
def zsc (s : Nat) (k : Int) : Int := zi2c (zand (zsb s k) 255)
theorem zsc_b (s : Nat) (k : Int) : 0 ≤ zsc s k ∧ zsc s k < 256 := by
  unfold zsc
  rw [zand255, zi2c_b (by first | decide | omega) (by first | decide | omega)]
  omega
theorem L_schar {K : Nat} {s : Nat} {k : Int} {F : zF} {B : zB} (h : s < strL.length) (h0 : 0 ≤ k) (h1 : k < zsl s) (h2 : zsl s ≤ 1000) : f_String_charAt K s k F B = some (zsc s k, F, B) := by
  have b := zsc_b s k
  unfold f_String_charAt
  rw [if_pos h, L_slat h]
  simp only [zb_s]
  rw [if_pos (by decide), if_neg (by decide)]
  unfold f_StringLatin1_charAt f_String_checkIndex f_Preconditions_checkIndex
  rw [if_pos h, if_pos (by first | decide | omega), if_neg (by first | decide | omega), if_pos (by first | decide | omega), if_pos h1]
  simp only [zb_s]
  rw [if_pos ⟨h0, h1⟩]
  rw [show zi2c (zand (zsb s k) 255) = zsc s k from rfl]
  rw [if_pos (by first | decide | omega)]
  simp only [zb_s]
  rw [if_pos (by first | decide | omega)]
theorem C_schar {K : zK} {s : Nat} {k : Int} {F : zF} {B : zB} (h : s < strL.length) (h0 : 0 ≤ k) (h1 : k < zsl s) (h2 : zsl s ≤ 1000) : f_CString_charAt K s k F B = some (zsc s k, F, B) := by
  have b := zsc_b s k
  unfold f_CString_charAt
  rw [if_pos h, C_slat h]
  simp only [zb_s]
  rw [if_pos (by decide), if_neg (by decide)]
  unfold f_CStringLatin1_charAt f_CString_checkIndex f_CPreconditions_checkIndex
  rw [if_pos h, if_pos (by first | decide | omega), if_neg (by first | decide | omega), if_pos (by first | decide | omega), if_pos h1]
  simp only [zb_s]
  rw [if_pos ⟨h0, h1⟩]
  rw [show zi2c (zand (zsb s k) 255) = zsc s k from rfl]
  rw [if_pos (by first | decide | omega)]
  simp only [zb_s]
  rw [if_pos (by first | decide | omega)]
def idxS (s : Nat) (c : Int) : Nat → Int → Int
  | 0, _ => -1
  | f + 1, k => if zsl s ≤ k then -1 else if zsb s k = c then k else idxS s c f (k + 1)
theorem idxS_f {s : Nat} {c : Int} : ∀ {f g : Nat} {k : Int}, zsl s - k < f → zsl s - k < g → 0 < f → 0 < g → idxS s c f k = idxS s c g k := by
  intro f
  induction f with
  | zero => intro g k _ _ h _; omega
  | succ f ih =>
    intro g k a b _ d
    obtain ⟨g, rfl⟩ : ∃ x, g = x + 1 := ⟨g - 1, (by first | decide | omega)⟩
    unfold idxS
    by_cases h : zsl s ≤ k
    · rw [if_pos h, if_pos h]
    · rw [if_neg h, if_neg h]
      by_cases q : zsb s k = c
      · rw [if_pos q, if_pos q]
      · rw [if_neg q, if_neg q]
        exact ih (by first | decide | omega) (by first | decide | omega) (by first | decide | omega) (by first | decide | omega)
theorem C_ixc {K : zK} {s : Nat} {c : Int} {F : zF} {B : zB} (h : s < strL.length) (hc : r32 c) (hl : zsl s ≤ 1000) : ∀ {n : Nat} {k : Int}, 0 ≤ k → k ≤ 1000 → zsl s - k < n → 0 < n → f_CStringLatin1_indexOfChar_7 K n k c s (zsl s) F B = some (idxS s c n k, F, B) := by
  intro n
  induction n with
  | zero => intro k _ _ _ d; omega
  | succ n ih =>
    intro k a b d _
    have h0 : 0 ≤ zsl s := by unfold zsl; omega
    unfold f_CStringLatin1_indexOfChar_7 idxS
    rw [if_pos (by first | decide | omega), if_pos (by first | decide | omega)]
    by_cases g : zsl s ≤ k
    · rw [if_pos g, if_pos g]
    · rw [if_neg g, if_neg g, if_pos h, if_pos (by first | decide | omega), if_pos (zsb_r s k), if_pos hc]
      by_cases q : zsb s k = c
      · rw [if_pos q, if_pos q]
      · rw [if_neg q, if_neg q]
        exact ih (by first | decide | omega) (by first | decide | omega) (by first | decide | omega) (by first | decide | omega)
theorem C_indexOf {K : zK} {s : Nat} {b : Int} {F : zF} {B : zB} (hK : 102 ≤ K.1) (h : s < strL.length) (hz : zshr (zsl s) 0 = zsl s) (hl : 0 < zsl s) (hl2 : zsl s ≤ 100) (h0 : 0 ≤ b) (h1 : b < 256) : f_CString_indexOf_0 K s b F B = some (idxS s (zi2b b) 102 0, F, B) := by
  unfold f_CString_indexOf_0 f_CString_indexOf_1
  rw [if_pos h, if_pos h, C_slat h]
  simp only [zb_s]
  rw [if_pos (by decide), if_neg (by decide), C_slen h hz]
  simp only [zb_s]
  have e : f_CStringLatin1_indexOf K s b 0 (zsl s) F B = some (idxS s (zi2b b) 102 0, F, B) := by
    have z1 : zmax 0 0 = 0 := by decide
    have z2 : zmin (zsl s) (zsl s) = zsl s := by unfold zmin; rw [if_neg (by first | decide | omega)]
    unfold f_CStringLatin1_indexOf f_CStringLatin1_canEncode f_CStringLatin1_canEncode_16
    rw [if_pos (by first | decide | omega), if_neg (by first | decide | omega), if_neg (by first | decide | omega), if_pos (by decide)]
    simp only [zb_s]
    rw [if_pos (by decide), if_neg (by decide), if_pos (by decide), if_pos h, if_pos (by first | decide | omega), if_pos (by first | decide | omega), z1, z2, if_pos (by decide), if_pos (by first | decide | omega), if_pos hl]
    unfold f_CStringLatin1_indexOfChar
    rw [C_ixc h (zi2b_q b) (by first | decide | omega) (by first | decide | omega) (by first | decide | omega) (by first | decide | omega) (by first | decide | omega), idxS_f (g := 102) (by first | decide | omega) (by first | decide | omega) (by first | decide | omega) (by first | decide | omega)]
    rfl
  rw [e]
  rfl
def sgL : List Int := [123, 125, 91, 93, 60, 62, 40, 41, 58, 47, 46, 124, 126, 33, 39, 94, 45, 37, 61]
def bSg (b : Int) : Int := if b ∈ sgL then 1 else 0
theorem bSg_2 (b : Int) : bSg b = 0 ∨ bSg b = 1 := by unfold bSg; split <;> omega
theorem idx22 : ∀ c : Fin 256, -1 ≤ idxS 22 (zi2b (c.val : Int)) 102 0 ∧ idxS 22 (zi2b (c.val : Int)) 102 0 ≤ 18 ∧ (idxS 22 (zi2b (c.val : Int)) 102 0 < 0 ↔ bSg (c.val : Int) = 0) := by decide +kernel
theorem C_sign {K : zK} {b : Int} {F : zF} {B : zB} (hK : 102 ≤ K.1) (h0 : 0 ≤ b) (h1 : b < 256) : ∃ r, f_CString_indexOf_0 K 22 b F B = some (r, F, B) ∧ r32 r ∧ (r < 0 ↔ bSg b = 0) := by
  have i := idx22 ⟨b.toNat, (by first | decide | omega)⟩
  rw [show (((⟨b.toNat, (by first | decide | omega)⟩ : Fin 256).val : Nat) : Int) = b by show ((b.toNat : Nat) : Int) = b; omega] at i
  exact ⟨_, C_indexOf hK (by decide) (by decide) (by decide) (by decide) h0 h1, (by first | decide | omega), i.2.2⟩
def oneS (s : Nat) (c : Int) : Nat → Int → Int → Int
  | 0, _, a => a
  | f + 1, k, a => if zsl s ≤ k then a else oneS s c f (k + 1) (if a = 0 then (if zsc s k = c then 1 else 0) else 1)
theorem oneS_f {s : Nat} {c : Int} : ∀ {f g : Nat} {k a : Int}, zsl s - k < f → zsl s - k < g → 0 < f → 0 < g → oneS s c f k a = oneS s c g k a := by
  intro f
  induction f with
  | zero => intro g k a _ _ h _; omega
  | succ f ih =>
    intro g k a x y _ d
    obtain ⟨g, rfl⟩ : ∃ x, g = x + 1 := ⟨g - 1, (by first | decide | omega)⟩
    unfold oneS
    by_cases h : zsl s ≤ k
    · rw [if_pos h, if_pos h]
    · rw [if_neg h, if_neg h]
      exact ih (by first | decide | omega) (by first | decide | omega) (by first | decide | omega) (by first | decide | omega)
theorem L_one {K : Nat} {s : Nat} {c : Int} {F : zF} {B : zB} (h : s < strL.length) (hz : zshr (zsl s) 0 = zsl s) (hc : r32 c) (hl : zsl s ≤ 1000) : ∀ {n : Nat} {k a : Int}, 0 ≤ k → k ≤ 1000 → zsl s - k < n → 0 < n → (a = 0 ∨ a = 1) → f_M_isOneOf_4 K n k a s c F B = some (oneS s c n k a, F, B) := by
  intro n
  induction n with
  | zero => intro k a _ _ _ d _; omega
  | succ n ih =>
    intro k a x y d _ ha
    have h0 : 0 ≤ zsl s := by unfold zsl; omega
    unfold f_M_isOneOf_4 oneS
    rw [if_pos h, L_slen h hz]
    simp only [zb_s]
    rw [if_pos (by first | decide | omega), if_pos (by first | decide | omega)]
    by_cases g : zsl s ≤ k
    · rw [if_pos g, if_pos g, if_pos ha]
    · have b := zsc_b s k
      rw [if_neg g, if_neg g, if_pos (by first | decide | omega)]
      by_cases q : a = 0
      · rw [if_pos q, if_pos q, L_schar h x (by first | decide | omega) hl]
        simp only [zb_s]
        rw [if_pos (by first | decide | omega), if_pos hc]
        by_cases w : zsc s k = c
        · rw [if_pos w, if_pos w]
          unfold f_M_isOneOf_25 f_M_isOneOf_30
          exact ih (by first | decide | omega) (by first | decide | omega) (by first | decide | omega) (by first | decide | omega) (by first | decide | omega)
        · rw [if_neg w, if_neg w]
          unfold f_M_isOneOf_30
          exact ih (by first | decide | omega) (by first | decide | omega) (by first | decide | omega) (by first | decide | omega) (by first | decide | omega)
      · rw [if_neg q, if_neg q]
        unfold f_M_isOneOf_25 f_M_isOneOf_30
        exact ih (by first | decide | omega) (by first | decide | omega) (by first | decide | omega) (by first | decide | omega) (by first | decide | omega)
theorem one35 : ∀ c : Fin 256, oneS 35 (c.val : Int) 21 0 0 = bSg (c.val : Int) := by decide +kernel
theorem L_sign {K : Nat} {b : Int} {F : zF} {B : zB} (hK : 102 ≤ K) (h0 : 0 ≤ b) (h1 : b < 256) : f_M_isOneOf K 35 b F B = some (bSg b, F, B) := by
  have i := one35 ⟨b.toNat, (by first | decide | omega)⟩
  rw [show (((⟨b.toNat, (by first | decide | omega)⟩ : Fin 256).val : Nat) : Int) = b by show ((b.toNat : Nat) : Int) = b; omega] at i
  have hl : zsl 35 = 19 := by decide
  unfold f_M_isOneOf
  rw [L_one (by decide) (by decide) (by first | decide | omega) (by decide) (by first | decide | omega) (by first | decide | omega) (by first | decide | omega) (by first | decide | omega) (by first | decide | omega), oneS_f (g := 21) (by first | decide | omega) (by first | decide | omega) (by first | decide | omega) (by first | decide | omega), i]
end
