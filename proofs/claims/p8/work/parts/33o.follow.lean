section
section
variable {cc : Int}
/-! ===== follows: the reference's steps ===== -/
section
variable {K : Nat} {V w u x : Int} {F : zF} {B : zB}
theorem L_ln7 (hR : RDW V w F B) (u0 : 0 ≤ u) (u1 : u < V) (x0 : 1000 * u ≤ x) (x1 : x < 1000 * u + B 13 w 12 u) : ∀ (d n : Nat) (l m : Int), l + d = 6 * x + B 13 w 21 x → 6 * x ≤ l → d < n → (m = -1 ∨ (6 * x ≤ m ∧ m < l)) → (0 < d ∨ 0 ≤ m) → ∃ r, f_M_lineOf_7 K n l m w x F B = some (r, F, B) ∧ 6 * x ≤ r ∧ r < 6 * x + B 13 w 21 x := by
  have w0 := hR.1
  have hV := hR.2.1
  have hv := (rd_v hR u0 u1).1
  have he := (rd_e hR u0 u1 x0 x1).2.2.1
  have tn : ∀ z, 6 * x ≤ z → z < 6 * x + B 13 w 21 x → ∃ r, f_M_tone K (B 13 w 28 z) (B 13 w 29 z) F B = some (r, F, B) ∧ r32 r := fun z z0 z1 => by
    have p := rd_p hR u0 u1 x0 x1 (k := z - 6 * x) (by first | decide | omega) (by first | decide | omega)
    rw [show 6 * x + (z - 6 * x) = z by omega] at p
    obtain ⟨r, F', B', e, rfl, rfl, r0, r1⟩ := s_tone (K := K) (F := F) (B := B) p.1.1 p.1.2 p.2.1 p.2.2
    exact ⟨r, e, by unfold r32; omega⟩
  intro d
  induction d with
  | zero =>
    intro n l m hl l0 hn hm hd
    obtain ⟨p, rfl⟩ : ∃ p, n = p + 1 := ⟨n - 1, (by first | decide | omega)⟩
    rw [f_M_lineOf_7, if_pos w0, if_pos (by first | decide | omega), if_pos (by unfold r32; omega), if_pos (by unfold r32; omega), if_pos (by first | decide | omega)]
    exact ⟨m, rfl, (by first | decide | omega), (by first | decide | omega)⟩
  | succ d ih =>
    intro n l m hl l0 hn hm hd
    obtain ⟨p, rfl⟩ : ∃ p, n = p + 1 := ⟨n - 1, (by first | decide | omega)⟩
    rw [f_M_lineOf_7, if_pos w0, if_pos (by first | decide | omega), if_pos (by unfold r32; omega), if_pos (by unfold r32; omega), if_neg (by first | decide | omega), if_pos (by unfold r32; omega)]
    unfold f_M_lineOf_59 f_M_lineOf_61
    by_cases z : m < 0
    · rw [if_pos z]
      exact ih p (l + 1) l (by first | decide | omega) (by first | decide | omega) (by first | decide | omega) (by first | decide | omega) (by first | decide | omega)
    · obtain ⟨r9, e9, b9⟩ := tn l l0 (by first | decide | omega)
      obtain ⟨r11, e11, b11⟩ := tn m (by first | decide | omega) (by first | decide | omega)
      rw [if_neg z, if_pos (by first | decide | omega), e9, zb_s, if_pos (by first | decide | omega), e11, zb_s, if_pos b9, if_pos b11]
      by_cases y : r9 < r11
      · rw [if_pos y]
        exact ih p (l + 1) m (by first | decide | omega) (by first | decide | omega) (by first | decide | omega) (by first | decide | omega) (by first | decide | omega)
      · rw [if_neg y]
        exact ih p (l + 1) l (by first | decide | omega) (by first | decide | omega) (by first | decide | omega) (by first | decide | omega) (by first | decide | omega)
theorem L_lnO (hK : 100 ≤ K) (hR : RDW V w F B) (u0 : 0 ≤ u) (u1 : u < V) (x0 : 1000 * u ≤ x) (x1 : x < 1000 * u + B 13 w 12 u) (hs : 0 < B 13 w 21 x) : ∃ r, f_M_lineOf K w x F B = some (r, F, B) ∧ (0 ≤ r ∧ r < 24000) ∧ (0 ≤ B 13 w 28 r ∧ B 13 w 28 r ≤ 62) := by
  have hV := hR.2.1
  have hv := (rd_v hR u0 u1).1
  have he := (rd_e hR u0 u1 x0 x1).2.2.1
  obtain ⟨r, e, r0, r1⟩ := L_ln7 (K := K) hR u0 u1 x0 x1 (B 13 w 21 x).toNat K (6 * x) (-1) (by first | decide | omega) (by first | decide | omega) (by first | decide | omega) (by first | decide | omega) (by first | decide | omega)
  have p := rd_p hR u0 u1 x0 x1 (k := r - 6 * x) (by first | decide | omega) (by first | decide | omega)
  rw [show 6 * x + (r - 6 * x) = r by omega] at p
  exact ⟨r, e, (by first | decide | omega), p.1⟩
theorem L_fs2 (hR : RDW V w F B) (u0 : 0 ≤ u) (u1 : u < V) : ∀ (d n : Nat) (i : Int), i + d = B 13 w 12 u → 0 ≤ i → d < n → ∃ r, f_M_firstSounding_2 K n i w u F B = some (r, F, B) ∧ (r = -1 ∨ (1000 * u ≤ r ∧ r < 1000 * u + B 13 w 12 u ∧ 0 < B 13 w 21 r)) := by
  have w0 := hR.1
  have hV := hR.2.1
  have hv := (rd_v hR u0 u1).1
  intro d
  induction d with
  | zero =>
    intro n i hi i0 hn
    obtain ⟨p, rfl⟩ : ∃ p, n = p + 1 := ⟨n - 1, (by first | decide | omega)⟩
    rw [f_M_firstSounding_2, if_pos w0, if_pos (by first | decide | omega), if_pos (by unfold r32; omega), if_pos (by unfold r32; omega), if_pos (by first | decide | omega), f_M_firstSounding_33, if_pos w0, if_pos (by first | decide | omega), if_pos (by unfold r32; omega), if_pos (by unfold r32; omega), if_pos (by first | decide | omega), f_M_firstSounding_54]
    exact ⟨-1, rfl, Or.inl rfl⟩
  | succ d ih =>
    intro n i hi i0 hn
    obtain ⟨p, rfl⟩ : ∃ p, n = p + 1 := ⟨n - 1, (by first | decide | omega)⟩
    have he := (rd_e hR u0 u1 (x := 1000 * u + i) (by first | decide | omega) (by first | decide | omega)).2.2.1
    rw [f_M_firstSounding_2, if_pos w0, if_pos (by first | decide | omega), if_pos (by unfold r32; omega), if_pos (by unfold r32; omega), if_neg (by first | decide | omega), if_pos (by first | decide | omega), if_pos (by unfold r32; omega)]
    by_cases z : B 13 w 21 (1000 * u + i) = 0
    · rw [if_pos z]
      exact ih p (i + 1) (by first | decide | omega) (by first | decide | omega) (by first | decide | omega)
    · rw [if_neg z, f_M_firstSounding_33, if_pos w0, if_pos (by first | decide | omega), if_pos (by unfold r32; omega), if_pos (by unfold r32; omega), if_neg (by first | decide | omega), f_M_firstSounding_54]
      exact ⟨_, rfl, Or.inr ⟨(by first | decide | omega), (by first | decide | omega), (by first | decide | omega)⟩⟩
theorem L_lik {x' : Int} (w0 : 0 ≤ w ∧ w < 3) (hx : 0 ≤ x ∧ x < 4000) (hx' : 0 ≤ x' ∧ x' < 4000) (b : 0 ≤ B 13 w 21 x ∧ B 13 w 21 x ≤ 6) (b' : 0 ≤ B 13 w 21 x' ∧ B 13 w 21 x' ≤ 6) : ∃ r, f_M_isLike K w x w x' F B = some (r, F, B) ∧ ((r = 0) ∨ (r = 1 ∧ (B 13 w 21 x = 0 ↔ B 13 w 21 x' = 0))) := by
  have d1 : r32 (1 : Int) := by decide
  have d0 : r32 (0 : Int) := by decide
  unfold f_M_isLike f_M_isLike_14 f_M_isLike_28 f_M_isLike_36
  rw [if_pos w0, if_pos hx, if_pos (by unfold r32; omega)]
  by_cases z : B 13 w 21 x = 0
  · rw [if_pos z, if_pos w0, if_pos hx', if_pos (by unfold r32; omega)]
    by_cases z' : B 13 w 21 x' = 0
    · rw [if_pos z', if_pos d1, if_pos d1, if_pos rfl, if_pos (Or.inr rfl)]
      exact ⟨1, rfl, Or.inr ⟨rfl, (by first | decide | omega)⟩⟩
    · rw [if_neg z', if_pos d1, if_pos d0, if_neg (by decide), if_pos (Or.inl rfl)]
      exact ⟨0, rfl, Or.inl rfl⟩
  · rw [if_neg z, if_pos w0, if_pos hx', if_pos (by unfold r32; omega)]
    by_cases z' : B 13 w 21 x' = 0
    · rw [if_pos z', if_pos d0, if_pos d1, if_neg (by decide), if_pos (Or.inl rfl)]
      exact ⟨0, rfl, Or.inl rfl⟩
    · rw [if_neg z', if_pos d0, if_pos d0, if_pos rfl, if_pos (Or.inr rfl)]
      exact ⟨1, rfl, Or.inr ⟨rfl, (by first | decide | omega)⟩⟩
end
end
end
section
section
variable {cc : Int}
/-! ===== follows: the reference's loop ===== -/
section
variable {K : Nat} {V w u u' a c st l4 p q : Int} {F : zF} {B : zB}
theorem nu_64 {g : Int} (h : 0 ≤ g ∧ g ≤ 1000000000000) : r64 (nu g) := by
  have := FR_b (FR_r (p := g) (by first | decide | omega))
  have := (FR_r (p := g) (by first | decide | omega)).2.2.1
  unfold r64
  omega
theorem de_64 {g : Int} (h : 1 ≤ g) : r64 (de g) := by
  have := de_128 (D := g) (by first | decide | omega)
  have e : WW = 812851200 := rfl
  unfold r64
  omega
theorem L_146x {n : Nat} {l9 : Int} (hK : 812851200 < K) (w0 : 0 ≤ w ∧ w < 3) (ha : 0 ≤ a ∧ a < 4000) (hc : 0 ≤ c ∧ c < 4000) (h9 : 0 ≤ l9 ∧ l9 ≤ 4000) (hst : r32 st) (h4 : r32 l4) (hp : 0 ≤ q ∧ q ≤ p ∧ p ≤ 1000000000000) (c14 : B 13 w 14 c = nu p ∧ B 13 w 15 c = de p) (a14 : B 13 w 14 a = nu q ∧ B 13 w 15 a = de q) : ∃ r F', f_M_follows_146 K (n + 1) 0 l9 st c a w u u' l4 F B = some (r, F', B) ∧ ∀ i y k, ¬ (i = 14 ∧ y = 0 ∧ k ≤ 1) → F' i y k = F i y k := by
  rw [f_M_follows_146, if_pos (by decide), if_pos rfl, if_pos (by unfold r32; omega)]
  by_cases z : l9 = 0
  · rw [if_pos z]; exact ⟨_, _, rfl, fun _ _ _ _ => rfl⟩
  · rw [if_neg z, if_pos w0, if_pos hc, if_pos ha, c14.1, c14.2, a14.1, a14.2, L_minusR hK (FR_r (by first | decide | omega)) (FR_r (by first | decide | omega)) (by first | decide | omega) (by first | decide | omega), zb_s, if_pos h4]
    have fn : ∀ i y k, ¬ (i = 14 ∧ y = 0 ∧ k ≤ 1) → fr F (p - q) i y k = F i y k := fun i y k n => fr_n n
    unfold f_M_follows_409
    by_cases y0 : l4 = 0
    · rw [if_pos y0]; exact ⟨_, _, rfl, fn⟩
    · rw [if_neg y0]
      by_cases y1 : l4 = 1
      · rw [if_pos y1, if_pos hst]; exact ⟨_, _, rfl, fn⟩
      · rw [if_neg y1]
        by_cases y2 : l4 = 2
        · rw [if_pos y2]; exact ⟨_, _, rfl, fn⟩
        · rw [if_neg y2]; exact ⟨_, _, rfl, fn⟩
theorem L_146 (hK : 812851200 < K) (hR : RDW V w F B) (u0 : 0 ≤ u) (u1 : u < V) (v0 : 0 ≤ u') (v1 : u' < V) (ha : 1000 * u ≤ a ∧ a < 1000 * u + B 13 w 12 u) (hc : 1000 * u' ≤ c ∧ c < 1000 * u' + B 13 w 12 u') (hst : r32 st) (h4 : r32 l4) (hp : 0 ≤ q ∧ q ≤ p ∧ p ≤ 1000000000000) (c14 : B 13 w 14 c = nu p ∧ B 13 w 15 c = de p) (a14 : B 13 w 14 a = nu q ∧ B 13 w 15 a = de q) : ∀ (d n : Nat) (l9 : Int), a + l9 + d = 1000 * u + B 13 w 12 u → 0 ≤ l9 → d + 1 < n → ∃ r F', f_M_follows_146 K n 1 l9 st c a w u u' l4 F B = some (r, F', B) ∧ ∀ i y k, ¬ (i = 14 ∧ y = 0 ∧ k ≤ 1) → F' i y k = F i y k := by
  have w0 := hR.1
  have hV := hR.2.1
  have hv := (rd_v hR u0 u1).1
  have hv' := (rd_v hR v0 v1).1
  have x0 : ∀ (m : Nat) (l9 : Int), 0 < m → 0 ≤ l9 → l9 ≤ 200 → ∃ r F', f_M_follows_146 K m 0 l9 st c a w u u' l4 F B = some (r, F', B) ∧ ∀ i y k, ¬ (i = 14 ∧ y = 0 ∧ k ≤ 1) → F' i y k = F i y k := fun m l9 hm a0 a1 => by
    obtain ⟨p', rfl⟩ : ∃ p', m = p' + 1 := ⟨m - 1, (by first | decide | omega)⟩
    exact L_146x hK w0 (by first | decide | omega) (by first | decide | omega) (by first | decide | omega) hst h4 hp c14 a14
  have o259 : ∀ (m : Nat) (l12 l11 l9 : Int), 0 < m → 0 ≤ l9 → l9 ≤ 200 → ∃ r F', f_M_follows_259 (f_M_follows_146 K m) K l12 l11 l9 st c a w u u' l4 F B = some (r, F', B) ∧ ∀ i y k, ¬ (i = 14 ∧ y = 0 ∧ k ≤ 1) → F' i y k = F i y k := fun m l12 l11 l9 hm a0 a1 => by
    unfold f_M_follows_259 f_M_follows_260 f_M_follows_314 f_M_follows_315 f_M_follows_325
    rw [if_pos (by decide), if_pos rfl, if_pos (by decide), if_pos rfl]
    exact x0 m l9 hm a0 a1
  intro d
  induction d with
  | zero =>
    intro n l9 hl l0 hn
    obtain ⟨p', rfl⟩ : ∃ p', n = p' + 1 := ⟨n - 1, (by first | decide | omega)⟩
    rw [f_M_follows_146, if_pos (by decide), if_neg (by decide), if_pos w0, if_pos (by first | decide | omega), if_pos (by unfold r32; omega), if_pos (by unfold r32; omega), if_pos (by first | decide | omega)]
    exact o259 p' _ _ l9 (by first | decide | omega) l0 (by first | decide | omega)
  | succ d ih =>
    intro n l9 hl l0 hn
    obtain ⟨p', rfl⟩ : ∃ p', n = p' + 1 := ⟨n - 1, (by first | decide | omega)⟩
    rw [f_M_follows_146, if_pos (by decide), if_neg (by decide), if_pos w0, if_pos (by first | decide | omega), if_pos (by unfold r32; omega), if_pos (by unfold r32; omega), if_neg (by first | decide | omega), if_pos (by first | decide | omega), if_pos (by unfold r32; omega), if_pos (by unfold r32; omega)]
    by_cases z : 1000 * u' + B 13 w 12 u' ≤ c + l9
    · rw [if_pos z]
      exact o259 p' _ _ l9 (by first | decide | omega) l0 (by first | decide | omega)
    · have e1 := (rd_e hR u0 u1 (x := a + l9) (by first | decide | omega) (by first | decide | omega)).2.2.1
      have e2 := (rd_e hR v0 v1 (x := c + l9) (by first | decide | omega) (by first | decide | omega)).2.2.1
      obtain ⟨g1, g2, gg, g3, g4, g5, g6⟩ := ((hR.2.2.2.2.2.2 u u0 u1).2.1 (a + l9) (by first | decide | omega) (by first | decide | omega)).2.2
      obtain ⟨k1, k2, kk, k3, k4, k5, k6⟩ := ((hR.2.2.2.2.2.2 u' v0 v1).2.1 (c + l9) (by first | decide | omega) (by first | decide | omega)).2.2
      obtain ⟨r, er, rl⟩ := L_lik (K := K) (F := F) (x := a + l9) (x' := c + l9) w0 (by first | decide | omega) (by first | decide | omega) e1 e2
      rw [if_neg z, er, zb_s, if_pos (by unfold r32; omega)]
      by_cases y : r = 0
      · rw [if_pos y]
        exact o259 p' _ _ l9 (by first | decide | omega) l0 (by first | decide | omega)
      · have lk : B 13 w 21 (a + l9) = 0 ↔ B 13 w 21 (c + l9) = 0 := by
          rcases rl with h | h
          · exact absurd h y
          · exact h.2
        have q5 : r64 (B 13 w 16 (a + l9)) := by rw [g5]; exact nu_64 (by first | decide | omega)
        have q6 : r64 (B 13 w 17 (a + l9)) := by rw [g6]; exact de_64 (by first | decide | omega)
        have q7 : r64 (B 13 w 16 (c + l9)) := by rw [k5]; exact nu_64 (by first | decide | omega)
        have q8 : r64 (B 13 w 17 (c + l9)) := by rw [k6]; exact de_64 (by first | decide | omega)
        rw [if_neg y, if_pos (by first | decide | omega), if_pos (by first | decide | omega), if_pos q5, if_pos q7]
        by_cases y1 : zcmp (B 13 w 16 (a + l9)) (B 13 w 16 (c + l9)) = 0
        · rw [if_pos y1, if_pos q6, if_pos q8]
          by_cases y2 : zcmp (B 13 w 17 (a + l9)) (B 13 w 17 (c + l9)) = 0
          · rw [if_pos y2]
            have nxt : ∃ r F', f_M_follows_310 (f_M_follows_146 K p') K l9 st c a w u u' l4 F B = some (r, F', B) ∧ ∀ i y k, ¬ (i = 14 ∧ y = 0 ∧ k ≤ 1) → F' i y k = F i y k := by
              unfold f_M_follows_310 f_M_follows_315 f_M_follows_325
              rw [if_pos (by decide), if_neg (by decide)]
              exact ih p' (l9 + 1) (by first | decide | omega) (by first | decide | omega) (by first | decide | omega)
            unfold f_M_follows_260
            rw [if_pos (by decide), if_neg (by decide), if_pos w0, if_pos (by first | decide | omega), if_pos (by unfold r32; omega)]
            by_cases y3 : B 13 w 21 (a + l9) = 0
            · rw [if_pos y3]; exact nxt
            · have y4 : ¬ B 13 w 21 (c + l9) = 0 := fun h => y3 (lk.mpr h)
              obtain ⟨r1, f1, b1, d1⟩ := L_lnO (K := K) (by first | decide | omega) hR v0 v1 (x := c + l9) (by first | decide | omega) (by first | decide | omega) (by first | decide | omega)
              obtain ⟨r2, f2, b2, d2⟩ := L_lnO (K := K) (by first | decide | omega) hR u0 u1 (x := a + l9) (by first | decide | omega) (by first | decide | omega) (by first | decide | omega)
              rw [if_neg y3, f1, zb_s, if_pos b1, f2, zb_s, if_pos b2, if_pos (by unfold r32; omega), if_pos hst]
              by_cases y5 : B 13 w 28 r1 - B 13 w 28 r2 = st
              · rw [if_pos y5]; exact nxt
              · rw [if_neg y5]
                have := o259 p' 0 0 l9 (by first | decide | omega) l0 (by first | decide | omega)
                unfold f_M_follows_259 f_M_follows_260 at this
                rw [if_pos (by decide), if_pos rfl] at this
                exact this
          · rw [if_neg y2]
            exact o259 p' _ _ l9 (by first | decide | omega) l0 (by first | decide | omega)
        · rw [if_neg y1]
          exact o259 p' _ _ l9 (by first | decide | omega) l0 (by first | decide | omega)
end
end
end
