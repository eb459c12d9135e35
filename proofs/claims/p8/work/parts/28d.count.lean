section
/-! ===== counting, and the columns of a bar: one place put in ===== -/
def cn (q : Nat → Bool) : Nat → Nat
  | 0 => 0
  | n + 1 => cn q n + (if q n = true then 1 else 0)
theorem cn_le (q : Nat → Bool) : ∀ n, cn q n ≤ n := by
  intro n
  induction n with
  | zero => exact Nat.le_refl _
  | succ n ih =>
    unfold cn
    split <;> omega
theorem cn_mono {q q' : Nat → Bool} : ∀ n, (∀ y, y < n → q y = true → q' y = true) → cn q n ≤ cn q' n := by
  intro n
  induction n with
  | zero => intro _; exact Nat.le_refl _
  | succ n ih =>
    intro h
    have i := ih (fun y hy => h y (by first | decide | omega))
    unfold cn
    by_cases a : q n = true
    · rw [if_pos a, if_pos (h n (by first | decide | omega) a)]; omega
    · rw [if_neg a]; split <;> omega
theorem cn_lt {q q' : Nat → Bool} {y0 : Nat} (a0 : ¬ q y0 = true) (a1 : q' y0 = true) : ∀ n, y0 < n → (∀ y, y < n → q y = true → q' y = true) → cn q n + 1 ≤ cn q' n := by
  intro n
  induction n with
  | zero => intro h; omega
  | succ n ih =>
    intro hy h
    unfold cn
    by_cases e : y0 = n
    · subst e
      have := cn_mono (q := q) (q' := q') y0 (fun y hy => h y (by first | decide | omega))
      rw [if_neg a0, if_pos a1]; omega
    · have i := ih (by first | decide | omega) (fun y hy => h y (by first | decide | omega))
      by_cases a : q n = true
      · rw [if_pos a, if_pos (h n (by first | decide | omega) a)]; omega
      · rw [if_neg a]; split <;> omega
/-- equal as fractions, equal as places -/
theorem nd_inj {a b : Int} (a0 : 0 ≤ a) (b0 : 0 ≤ b) (h1 : nu a = nu b) (h2 : de a = de b) : a = b := by
  obtain ⟨d0, _, _, e⟩ := FR_r a0
  obtain ⟨_, _, _, e'⟩ := FR_r b0
  rw [h1, e', ← h2] at e
  exact (Int.eq_of_mul_eq_mul_right (by first | decide | omega) e).symm
theorem nd_r {p : Int} (p0 : 0 ≤ p) (p1 : p ≤ 1000000000000) : (0 ≤ nu p ∧ nu p ≤ 1000000000000) ∧ (1 ≤ de p ∧ de p ≤ 812851200) := by
  have h := FR_r p0
  have b := FR_b h
  have hw : WW = 812851200 := rfl
  exact ⟨⟨h.2.2.1, (by first | decide | omega)⟩, h.1, (by first | decide | omega)⟩
/-- rows of places in the columns -/
def CP (w : Int) (B : zB) (j p : Int) : Prop := B 13 w 43 j = nu p ∧ B 13 w 44 j = de p
def cU (w j p : Int) (B : zB) : zB := zup4 (zup4 B 13 w 43 j (nu p)) 13 w 44 j (de p)
theorem cU_n {w j p : Int} {B : zB} {c k : Nat} {i x : Int} (h : ¬ (c = 13 ∧ i = w ∧ (k = 43 ∨ k = 44) ∧ x = j)) : cU w j p B c i k x = B c i k x := by
  unfold cU
  rw [zup4_v, if_neg (by first | decide | omega), zup4_v, if_neg (by first | decide | omega)]
theorem cU_p {w j p : Int} {B : zB} : CP w (cU w j p B) j p := by
  unfold cU CP
  rw [zup4_v, if_neg (by first | decide | omega), zup4_v, if_pos (by first | decide | omega), zup4_v, if_pos (by first | decide | omega)]
  exact ⟨rfl, rfl⟩
theorem CP_n {w j p x q : Int} {B : zB} (h : CP w B x q) (n : ¬ x = j) : CP w (cU w j p B) x q := by
  unfold CP
  rw [cU_n (by first | decide | omega), cU_n (by first | decide | omega)]
  exact h
/-- what a column put in changes -/
def CZ (w s : Int) (B B' : zB) : Prop := ∀ c i k x, ¬ (c = 13 ∧ i = w ∧ (k = 43 ∨ k = 44) ∧ s ≤ x) → B' c i k x = B c i k x
theorem CZ_u {w s j p : Int} {B B1 : zB} (h : CZ w s B B1) (hj : s ≤ j) : CZ w s B (cU w j p B1) := fun c i k x n => by rw [cU_n (by first | decide | omega), h c i k x n]
theorem cmp3 {p q : Int} : r32 (if p < q then (-1 : Int) else if p = q then 0 else 1) ∧ ((if p < q then (-1 : Int) else if p = q then 0 else 1) ≤ 0 ↔ p ≤ q) := by
  by_cases a : p < q
  · rw [if_pos a]; exact ⟨by decide, (by first | decide | omega)⟩
  · rw [if_neg a]
    by_cases b : p = q
    · rw [if_pos b]; exact ⟨by decide, (by first | decide | omega)⟩
    · rw [if_neg b]; exact ⟨by decide, (by first | decide | omega)⟩
/-- places moved up, and the new one put in -/
theorem s_col51 {K : Nat} {w b s l p : Int} {P : Int → Int} {F : zF} {B0 : zB} (hKm : 812851200 < K) (w0 : 0 ≤ w ∧ w < 3) (b0 : 0 ≤ b ∧ b < 101) (hs : B0 13 w 42 b = s) (s0 : 0 ≤ s) (l1 : l < 3200) (p0 : 0 ≤ p) (p1 : p ≤ 1000000000000) (hP : ∀ j, 0 ≤ j → j < l → 0 ≤ P j ∧ P j ≤ 1000000000000) : ∀ (n : Nat) (t : Int) (B : zB), CZ w s B0 B → s ≤ t → t ≤ l → (∀ j, 0 ≤ j → j < t → CP w B j (P j)) → (∀ j, t < j → j ≤ l → CP w B j (P (j - 1))) → (∀ j, t ≤ j → j < l → p < P j) → t - s < n → ∃ (t' : Int) (B' : zB), f_M_column_51 K n t w b l (nu p) (de p) F B = some (l + 1, F, B') ∧ s ≤ t' ∧ t' ≤ l ∧ CZ w s B0 B' ∧ (∀ j, 0 ≤ j → j < t' → CP w B' j (P j)) ∧ CP w B' t' p ∧ (∀ j, t' < j → j ≤ l → CP w B' j (P (j - 1))) ∧ (s < t' → P (t' - 1) ≤ p) ∧ (t' < l → p < P t') := by
  intro n
  induction n with
  | zero => intro t B _ h _ _ _ _ hn; exfalso; omega
  | succ n ih =>
    intro t B hz ts tl c1 c2 c3 hn
    have e42 : B 13 w 42 b = s := by rw [hz 13 w 42 b (by first | decide | omega)]; exact hs
    have fin : ∀ (h : s < t → P (t - 1) ≤ p), ∃ (t' : Int) (B' : zB), f_M_column_128 K t w l (nu p) (de p) F B = some (l + 1, F, B') ∧ s ≤ t' ∧ t' ≤ l ∧ CZ w s B0 B' ∧ (∀ j, 0 ≤ j → j < t' → CP w B' j (P j)) ∧ CP w B' t' p ∧ (∀ j, t' < j → j ≤ l → CP w B' j (P (j - 1))) ∧ (s < t' → P (t' - 1) ≤ p) ∧ (t' < l → p < P t') := fun h => by
      refine ⟨t, cU w t p B, ?_, ts, tl, CZ_u hz ts, fun j j0 j1 => CP_n (c1 j j0 j1) (by first | decide | omega), cU_p, fun j j0 j1 => CP_n (c2 j j0 j1) (by first | decide | omega), h, fun h' => c3 t (Int.le_refl _) h'⟩
      unfold f_M_column_128 cU
      rw [if_pos w0, if_pos (by first | decide | omega)]
    rw [f_M_column_51, if_pos w0, if_pos b0, if_pos (by unfold r32; omega), e42, if_pos (by unfold r32; omega)]
    by_cases a : t ≤ s
    · rw [if_pos a]
      exact fin (fun h => (by first | decide | omega))
    · rw [if_neg a, if_pos (by first | decide | omega)]
      obtain ⟨k1, k2⟩ := c1 (t - 1) (by first | decide | omega) (by first | decide | omega)
      obtain ⟨q0, q1⟩ := hP (t - 1) (by first | decide | omega) (by first | decide | omega)
      rw [k1, k2, L_cmpR hKm (FR_r q0) (FR_r p0) (by first | decide | omega) (by first | decide | omega), zb_s, if_pos cmp3.1]
      by_cases y : P (t - 1) ≤ p
      · rw [if_pos (cmp3.2.mpr y)]
        exact fin (fun _ => y)
      · rw [if_neg (fun h => y (cmp3.2.mp h)), if_pos (by first | decide | omega)]
        have e1 : (zup4 B 13 w 43 t (nu (P (t - 1)))) 13 w 44 (t - 1) = de (P (t - 1)) := by rw [zup4_v, if_neg (by first | decide | omega)]; exact k2
        rw [k1, e1]
        exact ih (t - 1) (cU w t (P (t - 1)) B) (CZ_u hz ts) (by first | decide | omega) (by first | decide | omega) (fun j j0 j1 => CP_n (c1 j j0 (by first | decide | omega)) (by first | decide | omega)) (fun j j0 j1 => by
          by_cases e : j = t
          · rw [e]; exact cU_p
          · exact CP_n (c2 j (by first | decide | omega) j1) e) (fun j j0 j1 => by
          by_cases e : j = t - 1
          · rw [e]; omega
          · exact c3 j (by first | decide | omega) j1) (by first | decide | omega)
/-- the columns of a bar so far -/
def CS (w T s l : Int) (P : Int → Int) (B : zB) : Prop := (0 ≤ s ∧ s ≤ l ∧ l ≤ 3200) ∧ (∀ j, 0 ≤ j → j < l → CP w B j (P j) ∧ 0 ≤ P j ∧ P j < T) ∧ (∀ j, s ≤ j → j + 1 < l → P j ≤ P (j + 1))
/-- looked for -/
theorem s_col11 {K : Nat} {w b s l p T : Int} {P : Int → Int} {F : zF} {B : zB} (w0 : 0 ≤ w ∧ w < 3) (T1 : T ≤ 1000000000000) (hC : CS w T s l P B) (p0 : 0 ≤ p) (p1 : p < T) : ∀ (n : Nat) (t : Int), s ≤ t → t ≤ l → l - t < n → f_M_column_11 K n t l w b l (nu p) (de p) F B = (f_M_column_51 K K l w b l (nu p) (de p) F B) ∨ (f_M_column_11 K n t l w b l (nu p) (de p) F B = some (l, F, B) ∧ ∃ j, s ≤ j ∧ j < l ∧ P j = p) := by
  intro n
  obtain ⟨⟨h1, h2, h3⟩, h4, h5⟩ := hC
  have np := nd_r p0 (by first | decide | omega)
  induction n with
  | zero => intro t _ _ hn; exfalso; omega
  | succ n ih =>
    intro t ts tl hn
    rw [f_M_column_11, if_pos (by unfold r32; omega), if_pos (by unfold r32; omega)]
    by_cases a : l ≤ t
    · rw [if_pos a]; exact Or.inl rfl
    · rw [if_neg a, if_pos w0, if_pos (by first | decide | omega)]
      obtain ⟨⟨k1, k2⟩, q0, q1⟩ := h4 t (by first | decide | omega) (by first | decide | omega)
      have nq := nd_r q0 (by first | decide | omega)
      have nx : ∀ {x : zO}, x = f_M_column_45 (f_M_column_11 K n) K t l w b l (nu p) (de p) F B → x = f_M_column_51 K K l w b l (nu p) (de p) F B ∨ (x = some (l, F, B) ∧ ∃ j, s ≤ j ∧ j < l ∧ P j = p) := fun e => by
        rw [e, f_M_column_45]
        exact ih (t + 1) (by first | decide | omega) (by first | decide | omega) (by first | decide | omega)
      rw [k1, k2, if_pos (by unfold r64; omega), if_pos (by unfold r64; omega)]
      by_cases y : nu (P t) = nu p
      · rw [if_pos (zcmp_0.mpr y), if_pos (by unfold r64; omega), if_pos (by unfold r64; omega)]
        by_cases z : de (P t) = de p
        · rw [if_pos (zcmp_0.mpr z)]
          exact Or.inr ⟨rfl, t, ts, (by first | decide | omega), nd_inj q0 p0 y z⟩
        · rw [if_neg (fun h => z (zcmp_0.mp h))]
          exact nx rfl
      · rw [if_neg (fun h => y (zcmp_0.mp h))]
        exact nx rfl
theorem s_column {K : Nat} {w b s l p T : Int} {P : Int → Int} {F : zF} {B : zB} (hKm : 812851200 < K) (w0 : 0 ≤ w ∧ w < 3) (b0 : 0 ≤ b ∧ b < 101) (hs : B 13 w 42 b = s) (T1 : T ≤ 1000000000000) (hC : CS w T s l P B) (l1 : l < 3200) (p0 : 0 ≤ p) (p1 : p < T) : ∃ r P' B', f_M_column K w b l (nu p) (de p) F B = some (r, F, B') ∧ (r = l ∨ r = l + 1) ∧ CZ w s B B' ∧ CS w T s r P' B' ∧ (∃ j, s ≤ j ∧ j < r ∧ P' j = p) ∧ (∀ j, s ≤ j → j < l → ∃ j', s ≤ j' ∧ j' < r ∧ P' j' = P j) ∧ (∀ j, 0 ≤ j → j < s → P' j = P j) := by
  have hC' := hC
  obtain ⟨⟨h1, h2, h3⟩, h4, h5⟩ := hC
  unfold f_M_column
  rw [if_pos w0, if_pos b0, hs]
  rcases s_col11 (K := K) (b := b) (F := F) w0 T1 hC' p0 p1 K s (Int.le_refl _) h2 (by first | decide | omega) with e | ⟨e, j, j0, j1, j2⟩
  · rw [e]
    obtain ⟨t, B', g1, g2, g3, g4, g5, g6, g7, g8, g9⟩ := s_col51 (K := K) (F := F) (P := P) hKm w0 b0 hs h1 l1 p0 (by first | decide | omega) (fun j a c => ⟨(h4 j a c).2.1, by have := (h4 j a c).2.2; omega⟩) K l B (fun _ _ _ _ _ => rfl) h2 (Int.le_refl _) (fun j a c => (h4 j a c).1) (fun j a c => (by first | decide | omega)) (fun j a c => (by first | decide | omega)) (by first | decide | omega)
    refine ⟨l + 1, fun j => if j < t then P j else if j = t then p else P (j - 1), B', g1, Or.inr rfl, g4, ⟨⟨h1, (by first | decide | omega), (by first | decide | omega)⟩, fun j a c => ?_, fun j a c => ?_⟩, ⟨t, g2, (by first | decide | omega), by show (if t < t then P t else if t = t then p else P (t - 1)) = p; rw [if_neg (by first | decide | omega), if_pos rfl]⟩, fun j a c => ?_, fun j a c => ?_⟩
    · show CP w B' j (if j < t then P j else if j = t then p else P (j - 1)) ∧ 0 ≤ (if j < t then P j else if j = t then p else P (j - 1)) ∧ (if j < t then P j else if j = t then p else P (j - 1)) < T
      by_cases x : j < t
      · rw [if_pos x]; exact ⟨g5 j a x, (h4 j a (by first | decide | omega)).2⟩
      · rw [if_neg x]
        by_cases y : j = t
        · rw [if_pos y, y]; exact ⟨g6, p0, p1⟩
        · rw [if_neg y]; exact ⟨g7 j (by first | decide | omega) (by first | decide | omega), (h4 (j - 1) (by first | decide | omega) (by first | decide | omega)).2⟩
    · show (if j < t then P j else if j = t then p else P (j - 1)) ≤ (if j + 1 < t then P (j + 1) else if j + 1 = t then p else P (j + 1 - 1))
      by_cases x : j + 1 < t
      · rw [if_pos (show j < t by omega), if_pos x]; exact h5 j a (by first | decide | omega)
      · rw [if_neg x]
        by_cases y : j + 1 = t
        · rw [if_pos (show j < t by omega), if_pos y]
          have := g8 (by first | decide | omega)
          rw [show t - 1 = j by omega] at this
          exact this
        · rw [if_neg y, if_neg (show ¬ j < t by omega), show j + 1 - 1 = j by omega]
          by_cases z : j = t
          · rw [if_pos z]
            have := g9 (by first | decide | omega)
            rw [← z] at this
            omega
          · rw [if_neg z]
            have := h5 (j - 1) (by first | decide | omega) (by first | decide | omega)
            rw [show j - 1 + 1 = j by omega] at this
            exact this
    · by_cases x : j < t
      · exact ⟨j, a, (by first | decide | omega), by show (if j < t then P j else if j = t then p else P (j - 1)) = P j; rw [if_pos x]⟩
      · exact ⟨j + 1, (by first | decide | omega), (by first | decide | omega), by show (if j + 1 < t then P (j + 1) else if j + 1 = t then p else P (j + 1 - 1)) = P j; rw [if_neg (by first | decide | omega), if_neg (by first | decide | omega), show j + 1 - 1 = j by omega]⟩
    · show (if j < t then P j else if j = t then p else P (j - 1)) = P j
      rw [if_pos (by first | decide | omega)]
  · exact ⟨l, P, B, e, Or.inl rfl, fun _ _ _ _ _ => rfl, hC', ⟨j, j0, j1, j2⟩, fun j a c => ⟨j, a, c, rfl⟩, fun _ _ _ => rfl⟩
end
