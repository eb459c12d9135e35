section
/-! ===== strokes, both sides alike ===== -/
theorem st_le {g : Int → Int} {N z y : Int} (h : ∀ t, 0 ≤ t → t + 1 < N → g t < g (t + 1)) (z0 : 0 ≤ z) (z1 : z < N) (y0 : 0 ≤ y) (y1 : y < N) (e : g z < g y) : z < y := by
  rcases Int.lt_trichotomy z y with q | q | q
  · exact q
  · rw [q] at e; omega
  · have := st_lt (a := 0) (b := N) h (z - y - 1).toNat y0 (by first | decide | omega)
    rw [show y + (((z - y - 1).toNat : Nat) : Int) + 1 = z by omega] at this
    omega
theorem sig_id {f g : Int → Int} {N : Int} (hf : ∀ t, 0 ≤ t → t + 1 < N → f t < f (t + 1)) (hg : ∀ t, 0 ≤ t → t + 1 < N → g t < g (t + 1)) (mem : ∀ t, 0 ≤ t → t < N → ∃ z, 0 ≤ z ∧ z < N ∧ f t = g z) : ∀ t, 0 ≤ t → t < N → f t = g t := by
  have up : ∀ (n : Nat) (z : Int), (n : Int) < N → 0 ≤ z → z < N → f n = g z → (n : Int) ≤ z := by
    intro n
    induction n with
    | zero => intro z _ z0 _ _; omega
    | succ n ih =>
      intro z hn z0 z1 e
      obtain ⟨y, y0, y1, y2⟩ := mem n (by first | decide | omega) (by first | decide | omega)
      have h1 := ih y (by first | decide | omega) y0 y1 y2
      have h2 := hf n (by first | decide | omega) (by first | decide | omega)
      rw [show ((n + 1 : Nat) : Int) = (n : Int) + 1 by omega] at e
      have := st_le hg y0 y1 z0 z1 (by rw [← y2, ← e]; exact h2)
      omega
  have dn : ∀ (n : Nat) (t z : Int), t + n + 1 = N → 0 ≤ t → 0 ≤ z → z < N → f t = g z → z ≤ t := by
    intro n
    induction n with
    | zero => intro t z ht t0 z0 z1 e; omega
    | succ n ih =>
      intro t z ht t0 z0 z1 e
      obtain ⟨y, y0, y1, y2⟩ := mem (t + 1) (by first | decide | omega) (by first | decide | omega)
      have h1 := ih (t + 1) y (by first | decide | omega) (by first | decide | omega) y0 y1 y2
      have h2 := hf t t0 (by first | decide | omega)
      have := st_le hg z0 z1 y0 y1 (by rw [← y2, ← e]; exact h2)
      omega
  intro t t0 t1
  obtain ⟨z, z0, z1, e⟩ := mem t t0 t1
  obtain ⟨n, hn⟩ : ∃ n : Nat, t = n := ⟨t.toNat, (by first | decide | omega)⟩
  have h1 := up n z (by first | decide | omega) z0 z1 (by rw [← hn]; exact e)
  have h2 := dn (N - t - 1).toNat t z (by first | decide | omega) t0 z0 z1 e
  rw [e, show z = t by omega]
/-- the reference copies the sounds into its piece -/
theorem L_41 {K : Nat} {c w : Int} {F : zF} {B0 : zB} (w0 : 0 ≤ w ∧ w < 3) (h62 : F 14 0 62 = c) (c0 : 0 ≤ c ∧ c ≤ 2000) : ∀ (r n : Nat) {l : Int} {B : zB}, l + r = c → 0 ≤ l → r < n → (∀ y i k x, ¬ (y = 13 ∧ i = w ∧ 55 ≤ k ∧ k ≤ 59) → B y i k x = B0 y i k x) → (∀ j, 0 ≤ j → j < l → B 13 w 55 j = B0 14 0 63 j ∧ B 13 w 56 j = B0 14 0 64 j ∧ B 13 w 57 j = B0 14 0 65 j ∧ B 13 w 58 j = B0 14 0 66 j ∧ B 13 w 59 j = B0 14 0 67 j) → ∃ B', f_M_perform_41 K n l w F B = f_M_perform_127 K K 0 w (zup3 F 13 w 60 (2 * c)) B' ∧ (∀ y i k x, ¬ (y = 13 ∧ i = w ∧ 55 ≤ k ∧ k ≤ 59) → B' y i k x = B0 y i k x) ∧ (∀ j, 0 ≤ j → j < c → B' 13 w 55 j = B0 14 0 63 j ∧ B' 13 w 56 j = B0 14 0 64 j ∧ B' 13 w 57 j = B0 14 0 65 j ∧ B' 13 w 58 j = B0 14 0 66 j ∧ B' 13 w 59 j = B0 14 0 67 j) := by
  intro r
  induction r with
  | zero =>
    intro n l B lr l0 hn hB hC
    obtain ⟨n, rfl⟩ : ∃ j, n = j + 1 := ⟨n - 1, (by first | decide | omega)⟩
    refine ⟨B, ?_, hB, fun j j0 j1 => hC j j0 (by first | decide | omega)⟩
    rw [f_M_perform_41, if_pos (by unfold r32; omega), h62, if_pos (by unfold r32; omega), if_pos (by first | decide | omega), if_pos w0]
  | succ r ih =>
    intro n l B lr l0 hn hB hC
    obtain ⟨n, rfl⟩ : ∃ j, n = j + 1 := ⟨n - 1, (by first | decide | omega)⟩
    have u : ∀ {C : zB} {j v x : Int} {k k' : Nat}, (zup4 C 13 w k j v) 14 0 k' x = C 14 0 k' x := fun {C j v x k k'} => by rw [zup4_v, if_neg (by first | decide | omega)]
    rw [f_M_perform_41, if_pos (by unfold r32; omega), h62, if_pos (by unfold r32; omega), if_neg (by first | decide | omega), if_pos w0, if_pos (by first | decide | omega)]
    simp only [u]
    have e : ∀ k, B 14 0 k l = B0 14 0 k l := fun k => hB 14 0 k l (by first | decide | omega)
    refine ih n (l := l + 1) (by first | decide | omega) (by first | decide | omega) (by first | decide | omega) (fun y i k x q => by rw [zup4_v, if_neg (by first | decide | omega), zup4_v, if_neg (by first | decide | omega), zup4_v, if_neg (by first | decide | omega), zup4_v, if_neg (by first | decide | omega), zup4_v, if_neg (by first | decide | omega)]; exact hB y i k x q) (fun j j0 j1 => ?_)
    by_cases q : j = l
    · rw [q]
      refine ⟨?_, ?_, ?_, ?_, ?_⟩
      · rw [zup4_v, if_neg (by first | decide | omega), zup4_v, if_neg (by first | decide | omega), zup4_v, if_neg (by first | decide | omega), zup4_v, if_neg (by first | decide | omega), zup4_v, if_pos (by first | decide | omega), e]
      · rw [zup4_v, if_neg (by first | decide | omega), zup4_v, if_neg (by first | decide | omega), zup4_v, if_neg (by first | decide | omega), zup4_v, if_pos (by first | decide | omega), e]
      · rw [zup4_v, if_neg (by first | decide | omega), zup4_v, if_neg (by first | decide | omega), zup4_v, if_pos (by first | decide | omega), e]
      · rw [zup4_v, if_neg (by first | decide | omega), zup4_v, if_pos (by first | decide | omega), e]
      · rw [zup4_v, if_pos (by first | decide | omega), e]
    · have := hC j j0 (by first | decide | omega)
      have n5 : ∀ k, (zup4 (zup4 (zup4 (zup4 (zup4 B 13 w 55 l (B 14 0 63 l)) 13 w 56 l (B 14 0 64 l)) 13 w 57 l (B 14 0 65 l)) 13 w 58 l (B 14 0 66 l)) 13 w 59 l (B 14 0 67 l)) 13 w k j = B 13 w k j := fun k => by rw [zup4_v, if_neg (by first | decide | omega), zup4_v, if_neg (by first | decide | omega), zup4_v, if_neg (by first | decide | omega), zup4_v, if_neg (by first | decide | omega), zup4_v, if_neg (by first | decide | omega)]
      rw [n5, n5, n5, n5, n5]
      exact this
/-- the reference writes its strokes -/
def ST (w t z : Int) (B0 B : zB) : Prop := B 13 w 61 t = tz B0 z ∧ B 13 w 62 t = B0 14 0 67 (z / 2) ∧ B 13 w 63 t = B0 14 0 65 (z / 2) ∧ B 13 w 64 t = if z % 2 = 0 then B0 14 0 66 (z / 2) else 0
theorem L_198 {K : Nat} {c w : Int} {F : zF} {B0 : zB} {Z : Int → Int} (w0 : 0 ≤ w ∧ w < 3) (c0 : 0 ≤ c ∧ c ≤ 2000) (h60 : F 13 w 60 = 2 * c) (hZ : ∀ t, 0 ≤ t → t < 2 * c → B0 14 0 69 t = Z t ∧ 0 ≤ Z t ∧ Z t < 2 * c) : ∀ (r n : Nat) {l : Int} {B : zB}, l + r = 2 * c → 0 ≤ l → r < n → (∀ y i k x, ¬ (y = 13 ∧ i = w ∧ 61 ≤ k ∧ k ≤ 64) → B y i k x = B0 y i k x) → (∀ t, 0 ≤ t → t < l → ST w t (Z t) B0 B) → ∃ B', f_M_perform_198 K n l w F B = some (F 14 0 62, zup3 (zup3 (zup3 (zup3 (zup3 F 13 w 65 0) 13 w 66 0) 13 w 67 0) 13 w 68 0) 13 w 69 0, B') ∧ (∀ y i k x, ¬ (y = 13 ∧ i = w ∧ 61 ≤ k ∧ k ≤ 64) → B' y i k x = B0 y i k x) ∧ (∀ t, 0 ≤ t → t < 2 * c → ST w t (Z t) B0 B') := by
  intro r
  induction r with
  | zero =>
    intro n l B lr l0 hn hB hS
    obtain ⟨n, rfl⟩ : ∃ j, n = j + 1 := ⟨n - 1, (by first | decide | omega)⟩
    refine ⟨B, ?_, hB, fun t t0 t1 => hS t t0 (by first | decide | omega)⟩
    rw [f_M_perform_198, if_pos w0, if_pos (by unfold r32; omega), h60, if_pos (by unfold r32; omega), if_pos (by first | decide | omega)]
  | succ r ih =>
    intro n l B lr l0 hn hB hS
    obtain ⟨n, rfl⟩ : ∃ j, n = j + 1 := ⟨n - 1, (by first | decide | omega)⟩
    obtain ⟨z1, z2, z3⟩ := hZ l l0 (by first | decide | omega)
    have e69 : B 14 0 69 l = Z l := by rw [hB 14 0 69 l (by first | decide | omega)]; exact z1
    have zd : zdv (Z l) 2 = Z l / 2 := zdv_e z2 (by unfold r32; omega) (by decide) (by decide)
    have zm : zrm (Z l) 2 = Z l % 2 := zrm_e z2 (by unfold r32; omega) (by decide) (by decide)
    have e : ∀ k, B 14 0 k (Z l / 2) = B0 14 0 k (Z l / 2) := fun k => hB 14 0 k _ (by first | decide | omega)
    have u : ∀ {C : zB} {j v x : Int} {k k' : Nat}, (zup4 C 13 w k j v) 14 0 k' x = C 14 0 k' x := fun {C j v x k k'} => by rw [zup4_v, if_neg (by first | decide | omega)]
    -- one stroke, and on
    have st : ∀ (v4 v1 : Int), v1 = tz B0 (Z l) → (v4 = if Z l % 2 = 0 then B0 14 0 66 (Z l / 2) else 0) → ∃ B', f_M_perform_198 K n (l + 1) w F (zup4 (zup4 (zup4 (zup4 B 13 w 61 l v1) 13 w 62 l (B0 14 0 67 (Z l / 2))) 13 w 63 l (B0 14 0 65 (Z l / 2))) 13 w 64 l v4) = some (F 14 0 62, zup3 (zup3 (zup3 (zup3 (zup3 F 13 w 65 0) 13 w 66 0) 13 w 67 0) 13 w 68 0) 13 w 69 0, B') ∧ (∀ y i k x, ¬ (y = 13 ∧ i = w ∧ 61 ≤ k ∧ k ≤ 64) → B' y i k x = B0 y i k x) ∧ (∀ t, 0 ≤ t → t < 2 * c → ST w t (Z t) B0 B') := fun v4 v1 h1 h4 => by
      refine ih n (l := l + 1) (by first | decide | omega) (by first | decide | omega) (by first | decide | omega) (fun y i k x q => by rw [zup4_v, if_neg (by first | decide | omega), zup4_v, if_neg (by first | decide | omega), zup4_v, if_neg (by first | decide | omega), zup4_v, if_neg (by first | decide | omega)]; exact hB y i k x q) (fun t t0 t1 => ?_)
      by_cases q : t = l
      · rw [q]
        refine ⟨?_, ?_, ?_, ?_⟩
        · rw [zup4_v, if_neg (by first | decide | omega), zup4_v, if_neg (by first | decide | omega), zup4_v, if_neg (by first | decide | omega), zup4_v, if_pos (by first | decide | omega)]; exact h1
        · rw [zup4_v, if_neg (by first | decide | omega), zup4_v, if_neg (by first | decide | omega), zup4_v, if_pos (by first | decide | omega)]
        · rw [zup4_v, if_neg (by first | decide | omega), zup4_v, if_pos (by first | decide | omega)]
        · rw [zup4_v, if_pos (by first | decide | omega)]; exact h4
      · have := hS t t0 (by first | decide | omega)
        unfold ST at this ⊢
        rw [zup4_v, if_neg (by first | decide | omega), zup4_v, if_neg (by first | decide | omega), zup4_v, if_neg (by first | decide | omega), zup4_v, if_neg (by first | decide | omega), zup4_v, if_neg (by first | decide | omega), zup4_v, if_neg (by first | decide | omega), zup4_v, if_neg (by first | decide | omega), zup4_v, if_neg (by first | decide | omega), zup4_v, if_neg (by first | decide | omega), zup4_v, if_neg (by first | decide | omega), zup4_v, if_neg (by first | decide | omega), zup4_v, if_neg (by first | decide | omega), zup4_v, if_neg (by first | decide | omega), zup4_v, if_neg (by first | decide | omega), zup4_v, if_neg (by first | decide | omega), zup4_v, if_neg (by first | decide | omega)]
        exact this
    rw [f_M_perform_198, if_pos w0, if_pos (by unfold r32; omega), h60, if_pos (by unfold r32; omega), if_neg (by first | decide | omega), if_pos (by first | decide | omega), e69, zm, zd, if_pos (by unfold r32; omega)]
    unfold f_M_perform_232 f_M_perform_261 f_M_perform_309
    simp only [u, e]
    by_cases q : Z l % 2 = 0
    · rw [if_pos q, if_pos w0, if_pos (by decide), if_neg (by decide), if_pos (by first | decide | omega), if_pos w0, if_pos (by first | decide | omega), if_pos w0, if_pos (by first | decide | omega), if_pos (by first | decide | omega), if_pos (by decide), if_neg (by decide), if_pos w0, if_pos (by first | decide | omega)]
      exact st _ _ (by unfold tz; rw [if_pos q]) (by rw [if_pos q])
    · rw [if_neg q, if_pos w0, if_pos (by decide), if_pos trivial, if_pos (by first | decide | omega), if_pos w0, if_pos (by first | decide | omega), if_pos w0, if_pos (by first | decide | omega), if_pos (by first | decide | omega), if_pos (by decide), if_pos trivial, if_pos w0, if_pos (by first | decide | omega)]
      exact st _ _ (by unfold tz; rw [if_neg q]) (by rw [if_neg q])
end
