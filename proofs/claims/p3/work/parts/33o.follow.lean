section
variable {cc : Int}
/-! ===== follows: the reference's steps ===== -/
section
variable {K : Nat} {V w u x : Int} {F : zF} {B : zB}
theorem L_ln7 (hR : RDW V w F B) (u0 : 0 ≤ u) (u1 : u < V) (x0 : 1000 * u ≤ x) (x1 : x < 1000 * u + B 13 w 12 u) : ∀ (d n : Nat) (l m : Int), l + d = 6 * x + B 13 w 21 x → 6 * x ≤ l → d < n → (m = -1 ∨ (6 * x ≤ m ∧ m < l)) → (0 < d ∨ 0 ≤ m) → ∃ r, f_M_lineOf_7 K n l m w x F B = some (r, F, B) ∧ 6 * x ≤ r ∧ r < 6 * x + B 13 w 21 x := by
  have w0 := hR.1
  have hV := hR.2.1
  have hv := (rd_v hR u0 u1).1
  have he := (rd_e hR u0 u1 x0 x1).2.2.1
  have tn : ∀ z, 6 * x ≤ z → z < 6 * x + B 13 w 21 x → ∃ r, f_M_tone K (B 13 w 28 z) (B 13 w 29 z) F B = some (r, F, B) ∧ r32 r := fun z z0 z1 => by
    have p := rd_p hR u0 u1 x0 x1 (k := z - 6 * x) (by omega) (by omega)
    rw [show 6 * x + (z - 6 * x) = z by omega] at p
    obtain ⟨r, F', B', e, rfl, rfl, r0, r1⟩ := s_tone (K := K) (F := F) (B := B) p.1.1 p.1.2 p.2.1 p.2.2
    exact ⟨r, e, by unfold r32; omega⟩
  intro d
  induction d with
  | zero =>
    intro n l m hl l0 hn hm hd
    obtain ⟨p, rfl⟩ : ∃ p, n = p + 1 := ⟨n - 1, by omega⟩
    rw [f_M_lineOf_7, if_pos w0, if_pos (by omega), if_pos (by unfold r32; omega), if_pos (by unfold r32; omega), if_pos (by omega)]
    exact ⟨m, rfl, by omega, by omega⟩
  | succ d ih =>
    intro n l m hl l0 hn hm hd
    obtain ⟨p, rfl⟩ : ∃ p, n = p + 1 := ⟨n - 1, by omega⟩
    rw [f_M_lineOf_7, if_pos w0, if_pos (by omega), if_pos (by unfold r32; omega), if_pos (by unfold r32; omega), if_neg (by omega), if_pos (by unfold r32; omega)]
    unfold f_M_lineOf_59 f_M_lineOf_61
    by_cases z : m < 0
    · rw [if_pos z]
      exact ih p (l + 1) l (by omega) (by omega) (by omega) (by omega) (by omega)
    · obtain ⟨r9, e9, b9⟩ := tn l l0 (by omega)
      obtain ⟨r11, e11, b11⟩ := tn m (by omega) (by omega)
      rw [if_neg z, if_pos (by omega), e9, zb_s, if_pos (by omega), e11, zb_s, if_pos b9, if_pos b11]
      by_cases y : r9 < r11
      · rw [if_pos y]
        exact ih p (l + 1) m (by omega) (by omega) (by omega) (by omega) (by omega)
      · rw [if_neg y]
        exact ih p (l + 1) l (by omega) (by omega) (by omega) (by omega) (by omega)
theorem L_lnO (hK : 100 ≤ K) (hR : RDW V w F B) (u0 : 0 ≤ u) (u1 : u < V) (x0 : 1000 * u ≤ x) (x1 : x < 1000 * u + B 13 w 12 u) (hs : 0 < B 13 w 21 x) : ∃ r, f_M_lineOf K w x F B = some (r, F, B) ∧ (0 ≤ r ∧ r < 24000) ∧ (0 ≤ B 13 w 28 r ∧ B 13 w 28 r ≤ 62) := by
  have hV := hR.2.1
  have hv := (rd_v hR u0 u1).1
  have he := (rd_e hR u0 u1 x0 x1).2.2.1
  obtain ⟨r, e, r0, r1⟩ := L_ln7 (K := K) hR u0 u1 x0 x1 (B 13 w 21 x).toNat K (6 * x) (-1) (by omega) (by omega) (by omega) (by omega) (by omega)
  have p := rd_p hR u0 u1 x0 x1 (k := r - 6 * x) (by omega) (by omega)
  rw [show 6 * x + (r - 6 * x) = r by omega] at p
  exact ⟨r, e, by omega, p.1⟩
theorem L_fs2 (hR : RDW V w F B) (u0 : 0 ≤ u) (u1 : u < V) : ∀ (d n : Nat) (i : Int), i + d = B 13 w 12 u → 0 ≤ i → d < n → ∃ r, f_M_firstSounding_2 K n i w u F B = some (r, F, B) ∧ (r = -1 ∨ (1000 * u ≤ r ∧ r < 1000 * u + B 13 w 12 u ∧ 0 < B 13 w 21 r)) := by
  have w0 := hR.1
  have hV := hR.2.1
  have hv := (rd_v hR u0 u1).1
  intro d
  induction d with
  | zero =>
    intro n i hi i0 hn
    obtain ⟨p, rfl⟩ : ∃ p, n = p + 1 := ⟨n - 1, by omega⟩
    rw [f_M_firstSounding_2, if_pos w0, if_pos (by omega), if_pos (by unfold r32; omega), if_pos (by unfold r32; omega), if_pos (by omega), f_M_firstSounding_33, if_pos w0, if_pos (by omega), if_pos (by unfold r32; omega), if_pos (by unfold r32; omega), if_pos (by omega), f_M_firstSounding_54]
    exact ⟨-1, rfl, Or.inl rfl⟩
  | succ d ih =>
    intro n i hi i0 hn
    obtain ⟨p, rfl⟩ : ∃ p, n = p + 1 := ⟨n - 1, by omega⟩
    have he := (rd_e hR u0 u1 (x := 1000 * u + i) (by omega) (by omega)).2.2.1
    rw [f_M_firstSounding_2, if_pos w0, if_pos (by omega), if_pos (by unfold r32; omega), if_pos (by unfold r32; omega), if_neg (by omega), if_pos (by omega), if_pos (by unfold r32; omega)]
    by_cases z : B 13 w 21 (1000 * u + i) = 0
    · rw [if_pos z]
      exact ih p (i + 1) (by omega) (by omega) (by omega)
    · rw [if_neg z, f_M_firstSounding_33, if_pos w0, if_pos (by omega), if_pos (by unfold r32; omega), if_pos (by unfold r32; omega), if_neg (by omega), f_M_firstSounding_54]
      exact ⟨_, rfl, Or.inr ⟨by omega, by omega, by omega⟩⟩
theorem L_lik {x' : Int} (w0 : 0 ≤ w ∧ w < 3) (hx : 0 ≤ x ∧ x < 4000) (hx' : 0 ≤ x' ∧ x' < 4000) (b : 0 ≤ B 13 w 21 x ∧ B 13 w 21 x ≤ 6) (b' : 0 ≤ B 13 w 21 x' ∧ B 13 w 21 x' ≤ 6) : ∃ r, f_M_isLike K w x w x' F B = some (r, F, B) ∧ ((r = 0) ∨ (r = 1 ∧ (B 13 w 21 x = 0 ↔ B 13 w 21 x' = 0))) := by
  have d1 : r32 (1 : Int) := by decide
  have d0 : r32 (0 : Int) := by decide
  unfold f_M_isLike f_M_isLike_14 f_M_isLike_28 f_M_isLike_36
  rw [if_pos w0, if_pos hx, if_pos (by unfold r32; omega)]
  by_cases z : B 13 w 21 x = 0
  · rw [if_pos z, if_pos w0, if_pos hx', if_pos (by unfold r32; omega)]
    by_cases z' : B 13 w 21 x' = 0
    · rw [if_pos z', if_pos d1, if_pos d1, if_pos rfl, if_pos (Or.inr rfl)]
      exact ⟨1, rfl, Or.inr ⟨rfl, by omega⟩⟩
    · rw [if_neg z', if_pos d1, if_pos d0, if_neg (by decide), if_pos (Or.inl rfl)]
      exact ⟨0, rfl, Or.inl rfl⟩
  · rw [if_neg z, if_pos w0, if_pos hx', if_pos (by unfold r32; omega)]
    by_cases z' : B 13 w 21 x' = 0
    · rw [if_pos z', if_pos d0, if_pos d1, if_neg (by decide), if_pos (Or.inl rfl)]
      exact ⟨0, rfl, Or.inl rfl⟩
    · rw [if_neg z', if_pos d0, if_pos d0, if_pos rfl, if_pos (Or.inr rfl)]
      exact ⟨1, rfl, Or.inr ⟨rfl, by omega⟩⟩
end
end
