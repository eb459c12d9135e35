section
variable {cc : Int}
/-! ===== follows: the class's side ===== -/
def EKc (K : zK) (e : Int) (F : zF) (B : zB) : Prop := (0 ≤ e ∧ e < K.2 1) ∧ (0 ≤ F 1 e 10 ∧ F 1 e 10 ≤ 6) ∧ ∀ k, 0 ≤ k → k < F 1 e 10 → (0 ≤ B 1 e 12 k ∧ B 1 e 12 k ≤ 62) ∧ (-2 ≤ B 1 e 13 k ∧ B 1 e 13 k ≤ 2)
def PKc (K : zK) (x m : Int) (F : zF) (B : zB) : Prop := (0 ≤ x ∧ x < K.2 4) ∧ F 4 x 6 = m ∧ (0 ≤ m ∧ m ≤ 200) ∧ ∀ i, 0 ≤ i → i < m → EKc K (B 4 x 5 i) F B ∧ (0 ≤ F 1 (B 4 x 5 i) 0 ∧ F 1 (B 4 x 5 i) 0 ≤ 1000000000000) ∧ (0 ≤ F 1 (B 4 x 5 i) 1 ∧ F 1 (B 4 x 5 i) 1 ≤ 1000000000000)
section
variable {K : zK} {F : zF} {B : zB}
theorem C_isR {e : Int} (h : EKc K e F B) : ∃ r, f_Event_isRest K e F B = some (r, F, B) ∧ (r = 0 ∨ r = 1) := by
  unfold f_Event_isRest f_Event_isRest_12
  rw [if_pos h.1, if_pos (by have := h.2.1; unfold r32; omega)]
  by_cases z : F 1 e 10 = 0
  · rw [if_pos z, if_pos (Or.inr rfl)]; exact ⟨1, rfl, Or.inr rfl⟩
  · rw [if_neg z, if_pos (Or.inl rfl)]; exact ⟨0, rfl, Or.inl rfl⟩
theorem C_toneR {e k : Int} (h : EKc K e F B) (k0 : 0 ≤ k ∧ k < F 1 e 10) : ∃ r, f_Event_tone K e k F B = some (r, F, B) ∧ r32 r := by
  have b := h.2.2 k k0.1 k0.2
  refine ⟨_, C_tone h.1 (by have := h.2.1; omega) b.1, ?_⟩
  have t := tnv_r b.1.1 b.1.2 b.2.1 b.2.2
  unfold r32; omega
theorem C_top4 {e : Int} (h : EKc K e F B) : ∀ (d n : Nat) (i l : Int), i + d = F 1 e 10 → 0 ≤ i → d < n → -1 ≤ l → l < i → ∃ r, f_Event_top_4 K n i l e F B = some (r, F, B) ∧ -1 ≤ r ∧ r < F 1 e 10 := by
  have hc := h.2.1
  intro d
  induction d with
  | zero =>
    intro n i l hi i0 hn l0 l1
    obtain ⟨p, rfl⟩ : ∃ p, n = p + 1 := ⟨n - 1, by omega⟩
    rw [f_Event_top_4, if_pos h.1, if_pos (by unfold r32; omega), if_pos (by unfold r32; omega), if_pos (by omega)]
    exact ⟨l, rfl, l0, by omega⟩
  | succ d ih =>
    intro n i l hi i0 hn l0 l1
    obtain ⟨p, rfl⟩ : ∃ p, n = p + 1 := ⟨n - 1, by omega⟩
    rw [f_Event_top_4, if_pos h.1, if_pos (by unfold r32; omega), if_pos (by unfold r32; omega), if_neg (by omega), if_pos (by unfold r32; omega)]
    unfold f_Event_top_30 f_Event_top_32
    by_cases z : l = -1
    · rw [if_pos z]
      exact ih p (i + 1) i (by omega) (by omega) (by omega) (by omega) (by omega)
    · rw [if_neg z]
      obtain ⟨r7, e7, b7⟩ := C_toneR h (k := i) (by omega)
      obtain ⟨r8, e8, b8⟩ := C_toneR h (k := l) (by omega)
      rw [e7, zb_s, e8, zb_s, if_pos b7, if_pos b8]
      by_cases y : r7 < r8
      · rw [if_pos y]
        exact ih p (i + 1) l (by omega) (by omega) (by omega) l0 (by omega)
      · rw [if_neg y]
        exact ih p (i + 1) i (by omega) (by omega) (by omega) (by omega) (by omega)
theorem C_tpS {e : Int} (hK : 100 ≤ K.1) (h : EKc K e F B) : ∃ r, f_Event_topStep K e F B = some (r, F, B) ∧ 0 ≤ r ∧ r ≤ 62 := by
  have hc := h.2.1
  obtain ⟨r, e1, r0, r1⟩ := C_top4 h (F 1 e 10).toNat K.1 0 (-1) (by omega) (by omega) (by omega) (by omega) (by omega)
  unfold f_Event_topStep f_Event_topStep_20 f_Event_top
  rw [if_pos h.1, e1, zb_s, if_pos (by unfold r32; omega)]
  by_cases z : r = -1
  · rw [if_pos z]; exact ⟨0, rfl, by omega, by omega⟩
  · rw [if_neg z, if_pos (by omega)]
    exact ⟨_, rfl, (h.2.2 r (by omega) r1).1⟩
theorem C_fst {x m : Int} (h : PKc K x m F B) : ∀ (d n : Nat) (i : Int), i + d = m → 0 ≤ i → d < n → ∃ r, f_Part_firstSounding_2 K n i x F B = some (r, F, B) ∧ -1 ≤ r ∧ r < m := by
  obtain ⟨h1, h2, h3, h4⟩ := h
  intro d
  induction d with
  | zero =>
    intro n i hi i0 hn
    obtain ⟨p, rfl⟩ : ∃ p, n = p + 1 := ⟨n - 1, by omega⟩
    rw [f_Part_firstSounding_2, if_pos h1, if_pos (by unfold r32; omega), h2, if_pos (by unfold r32; omega), if_pos (by omega)]
    exact ⟨-1, rfl, by omega, by omega⟩
  | succ d ih =>
    intro n i hi i0 hn
    obtain ⟨p, rfl⟩ : ∃ p, n = p + 1 := ⟨n - 1, by omega⟩
    obtain ⟨r, e, r01⟩ := C_isR (h4 i i0 (by omega)).1
    rw [f_Part_firstSounding_2, if_pos h1, if_pos (by unfold r32; omega), h2, if_pos (by unfold r32; omega), if_neg (by omega), if_pos (by omega), if_pos (h4 i i0 (by omega)).1.1, e, zb_s, if_pos (by unfold r32; omega)]
    by_cases z : r = 0
    · rw [if_pos z]; exact ⟨i, rfl, by omega, by omega⟩
    · rw [if_neg z]; exact ih p (i + 1) (by omega) (by omega) (by omega)
theorem C_f48 {x y m m' a c st : Int} (hK : 100 ≤ K.1) (hx : PKc K x m F B) (hy : PKc K y m' F B) (ha : 0 ≤ a ∧ a < m) (hc : 0 ≤ c ∧ c < m') (hst : r32 st) : ∀ (d n : Nat) (i : Int), a + i + d = m → 0 ≤ i → d < n → ∃ r, f_Part_followedFor_48 K n i st y x a c F B = some (r, F, B) ∧ 0 ≤ r ∧ r ≤ 200 := by
  obtain ⟨h1, h2, h3, h4⟩ := hx
  obtain ⟨g1, g2, g3, g4⟩ := hy
  intro d
  induction d with
  | zero =>
    intro n i hi i0 hn
    obtain ⟨p, rfl⟩ : ∃ p, n = p + 1 := ⟨n - 1, by omega⟩
    rw [f_Part_followedFor_48, if_pos h1, if_pos (by unfold r32; omega), h2, if_pos (by unfold r32; omega), if_pos (by omega), f_Part_followedFor_164]
    exact ⟨i, rfl, by omega, by omega⟩
  | succ d ih =>
    intro n i hi i0 hn
    obtain ⟨p, rfl⟩ : ∃ p, n = p + 1 := ⟨n - 1, by omega⟩
    rw [f_Part_followedFor_48, if_pos h1, if_pos (by unfold r32; omega), h2, if_pos (by unfold r32; omega), if_neg (by omega), if_pos g1, if_pos (by unfold r32; omega), g2, if_pos (by unfold r32; omega)]
    by_cases z : m' ≤ c + i
    · rw [if_pos z, f_Part_followedFor_164]
      exact ⟨i, rfl, by omega, by omega⟩
    · obtain ⟨q1, q2, q3⟩ := h4 (a + i) (by omega) (by omega)
      obtain ⟨s1, s2, s3⟩ := g4 (c + i) (by omega) (by omega)
      obtain ⟨r, e, r01⟩ := C_isR q1
      obtain ⟨r', e', r01'⟩ := C_isR s1
      obtain ⟨t, et, t0, t1⟩ := C_tpS hK q1
      obtain ⟨t', et', t0', t1'⟩ := C_tpS hK s1
      rw [if_neg z, if_pos (by omega), if_pos (by omega), if_pos q1.1, e, zb_s, if_pos s1.1, e', zb_s, if_pos (by unfold r32; omega), if_pos (by unfold r32; omega)]
      have nxt := ih p (i + 1) (by omega) (by omega) (by omega)
      have o123 : ∃ r, f_Part_followedFor_123 (f_Part_followedFor_48 K p) K (B 4 y 5 (c + i)) (B 4 x 5 (a + i)) i st y x a c F B = some (r, F, B) ∧ 0 ≤ r ∧ r ≤ 200 := by
        unfold f_Part_followedFor_123 f_Part_followedFor_124 f_Part_followedFor_155
        rw [if_pos (by decide), if_pos rfl]
        exact ⟨i, rfl, by omega, by omega⟩
      by_cases er : r = r'
      · rw [if_pos er, if_pos (by unfold r64; omega), if_pos (by unfold r64; omega)]
        by_cases ez : zcmp (F 1 (B 4 x 5 (a + i)) 1) (F 1 (B 4 y 5 (c + i)) 1) = 0
        · rw [if_pos ez]
          unfold f_Part_followedFor_124 f_Part_followedFor_155 f_Part_followedFor_158
          rw [if_pos (by decide), if_neg (by decide), if_pos q1.1, e, zb_s, if_pos (by unfold r32; omega)]
          by_cases z0 : r = 0
          · rw [if_pos z0, if_pos s1.1, et', zb_s, et, zb_s, if_pos (by unfold r32; omega), if_pos hst]
            by_cases zs : t' - t = st
            · rw [if_pos zs]; exact nxt
            · rw [if_neg zs]; exact ⟨i, rfl, by omega, by omega⟩
          · rw [if_neg z0]; exact nxt
        · rw [if_neg ez]; exact o123
      · rw [if_neg er]; exact o123
end
end
