section
/-! ===== faults between voices, reference ===== -/
theorem s_tone {K : Nat} {s a : Int} {F : zF} {B : zB} (s0 : 0 ≤ s) (s1 : s ≤ 62) (a0 : -2 ≤ a) (a1 : a ≤ 2) : zS (f_M_tone K s a F B) (fun r F' B' => F' = F ∧ B' = B ∧ 9 ≤ r ∧ r ≤ 130) := by
  rw [L_tone s0 (by first | decide | omega)]
  exact zS_s ⟨rfl, rfl, by split <;> omega, by split <;> omega⟩
theorem s_mod {K : Nat} {a b : Int} {F : zF} {B : zB} (ha : r32 a) (hb : 0 < b) (hb2 : b ≤ 1000) : zS (f_M_mod K a b F B) (fun r F' B' => F' = F ∧ B' = B ∧ 0 ≤ r ∧ r < b) := by
  rw [L_mod ha hb (by unfold r32; omega)]
  exact zS_s ⟨rfl, rfl, Int.emod_nonneg _ (by first | decide | omega), Int.emod_lt_of_pos _ hb⟩
/-- a slot that holds a pitch, or none -/
def PV (w : Int) (B : zB) (r : Int) : Prop := -1 ≤ r ∧ r < 24000 ∧ (0 ≤ r → (0 ≤ B 13 w 28 r ∧ B 13 w 28 r ≤ 62) ∧ (-2 ≤ B 13 w 29 r ∧ B 13 w 29 r ≤ 2))
theorem s_lnOf7 {K : Nat} {V w u : Int} {F : zF} {B : zB} (hR : RDW V w F B) (u0 : 0 ≤ u) (u1 : u < V) {x : Int} (x0 : 1000 * u ≤ x) (x1 : x < 1000 * u + B 13 w 12 u) : ∀ (n : Nat) (l m : Int), 6 * x ≤ l → l ≤ 6 * x + B 13 w 21 x → (m = -1 ∨ (6 * x ≤ m ∧ m < l)) → 6 * x + B 13 w 21 x - l < n → zS (f_M_lineOf_7 K n l m w x F B) (fun r F' B' => F' = F ∧ B' = B ∧ (r = -1 ∨ (6 * x ≤ r ∧ r < 6 * x + B 13 w 21 x))) := by
  intro n
  induction n with
  | zero => intro l m l0 l1 hm hk; exfalso; omega
  | succ n ih =>
    intro l m l0 l1 hm hk
    have b0 := rd_0 hR
    have bv := rd_v hR u0 u1
    have be := rd_e hR u0 u1 x0 x1
    rw [f_M_lineOf_7]
    refine zS_g (by first | decide | omega) ?_ -- 1
    refine zS_g (by first | decide | omega) ?_ -- 2
    refine zS_g (by unfold r32; omega) ?_ -- 3
    refine zS_g (by unfold r32; omega) ?_ -- 4
    refine zS_i (fun h1 => ?_) (fun h1 => ?_) -- 5: (((6 * x) + (B 13 w 21 x)) ≤ l)
    · exact zS_s ⟨rfl, rfl, (by first | decide | omega)⟩
    · refine zS_g (by unfold r32; omega) ?_ -- 7
      refine zS_i (fun h2 => ?_) (fun h2 => ?_) -- 8: (m < 0)
      · unfold f_M_lineOf_59
        unfold f_M_lineOf_61
        exact ih _ _ (by first | decide | omega) (by first | decide | omega) (by first | decide | omega) (by first | decide | omega) -- 11 f_M_lineOf_7
      · refine zS_g (by first | decide | omega) ?_ -- 12
        have a3 := rd_p (u := u) (x := x) (k := l - 6 * x) hR u0 u1 x0 x1 (by first | decide | omega) (by first | decide | omega)
        have a3e : 6 * x + (l - 6 * x) = l := by omega
        rw [a3e] at a3
        refine zS_b (s_tone (K := K) (s := (B 13 w 28 l)) (a := (B 13 w 29 l)) (by first | decide | omega) (by first | decide | omega) (by first | decide | omega) (by first | decide | omega)) ?_
        rintro o5 F B ⟨rfl, rfl, q4⟩
        refine zS_g (by first | decide | omega) ?_ -- 14
        have a7 := rd_p (u := u) (x := x) (k := m - 6 * x) hR u0 u1 x0 x1 (by first | decide | omega) (by first | decide | omega)
        have a7e : 6 * x + (m - 6 * x) = m := by omega
        rw [a7e] at a7
        refine zS_b (s_tone (K := K) (s := (B 13 w 28 m)) (a := (B 13 w 29 m)) (by first | decide | omega) (by first | decide | omega) (by first | decide | omega) (by first | decide | omega)) ?_
        rintro o9 F B ⟨rfl, rfl, q8⟩
        refine zS_g (by unfold r32; omega) ?_ -- 16
        refine zS_g (by unfold r32; omega) ?_ -- 17
        refine zS_i (fun h11 => ?_) (fun h11 => ?_) -- 18: (o5 < o9)
        · unfold f_M_lineOf_61
          exact ih _ _ (by first | decide | omega) (by first | decide | omega) (by first | decide | omega) (by first | decide | omega) -- 20 f_M_lineOf_7
        · unfold f_M_lineOf_59
          unfold f_M_lineOf_61
          exact ih _ _ (by first | decide | omega) (by first | decide | omega) (by first | decide | omega) (by first | decide | omega) -- 23 f_M_lineOf_7
theorem s_lineOf {K : Nat} {V w u : Int} {F : zF} {B : zB} (hR : RDW V w F B) (u0 : 0 ≤ u) (u1 : u < V) {x : Int} (x0 : 1000 * u ≤ x) (x1 : x < 1000 * u + B 13 w 12 u) (hK : 1000 ≤ K) : zS (f_M_lineOf K w x F B) (fun r F' B' => F' = F ∧ B' = B ∧ PV w B r) := by
  have be := rd_e hR u0 u1 x0 x1
  have b0 := rd_0 hR
  have bv := rd_v hR u0 u1
  refine zS_m (s_lnOf7 hR u0 u1 x0 x1 K (6 * x) (-1) (Int.le_refl _) (by first | decide | omega) (Or.inl rfl) (by first | decide | omega)) ?_
  rintro r F' B' ⟨e1, e2, h⟩
  refine ⟨e1, e2, (by first | decide | omega), (by first | decide | omega), fun r0 => ?_⟩
  have := rd_p (x := x) (k := r - 6 * x) hR u0 u1 x0 x1 (by first | decide | omega) (by first | decide | omega)
  rw [show 6 * x + (r - 6 * x) = r by omega] at this
  exact this
/-- moments that stand -/
def MW5 (V w : Int) (F : zF) (B : zB) : Prop := (0 ≤ F 13 w 72 ∧ F 13 w 72 ≤ 800) ∧ (∀ x, 0 ≤ x → x < F 13 w 72 → MP w B x) ∧ ∀ u t, 0 ≤ u → u < V → 0 ≤ t → t < F 13 w 72 → 0 ≤ B 13 w 75 (4 * t + u) ∧ B 13 w 75 (4 * t + u) < B 13 w 12 u
theorem s_lineAt {K : Nat} {V w : Int} {F : zF} {B : zB} (hR : RDW V w F B) (hM : MW5 V w F B) (hK : 1000 ≤ K) {t u : Int} (t0 : 0 ≤ t) (t1 : t < F 13 w 72) (u0 : 0 ≤ u) (u1 : u < V) : zS (f_M_lineAt K w t u F B) (fun r F' B' => F' = F ∧ B' = B ∧ PV w B r) := by
  have b0 := rd_0 hR
  have m0 := hM.1
  have bv := rd_v hR u0 u1
  unfold f_M_lineAt
  refine zS_g (by first | decide | omega) ?_ -- 1
  refine zS_g (by first | decide | omega) ?_ -- 2
  have a1 := hM.2.2 u t (by first | decide | omega) (by first | decide | omega) (by first | decide | omega) (by first | decide | omega)
  refine zS_b (s_lineOf (K := K) (u := u) (x := ((1000 * u) + (B 13 w 75 ((4 * t) + u)))) hR (by first | decide | omega) (by first | decide | omega) (by first | decide | omega) (by first | decide | omega) hK) ?_
  rintro o3 F B ⟨rfl, rfl, q2⟩
  exact zS_s ⟨rfl, rfl, by assumption⟩
theorem s_beginsAt {K : Nat} {V w : Int} {F : zF} {B : zB} (hR : RDW V w F B) (hM : MW5 V w F B) (hK : 1000 ≤ K) {t u : Int} (t0 : 0 ≤ t) (t1 : t < F 13 w 72) (u0 : 0 ≤ u) (u1 : u < V) (t2 : 1 ≤ t) : zS (f_M_beginsAt K w t u F B) (fun r F' B' => F' = F ∧ B' = B ∧ (r = 0 ∨ r = 1)) := by
  have b0 := rd_0 hR
  have m0 := hM.1
  have bv := rd_v hR u0 u1
  unfold f_M_beginsAt
  refine zS_g (by first | decide | omega) ?_ -- 1
  refine zS_g (by first | decide | omega) ?_ -- 2
  refine zS_g (by first | decide | omega) ?_ -- 3
  have a1 := hM.2.2 u t (by first | decide | omega) (by first | decide | omega) (by first | decide | omega) (by first | decide | omega)
  refine zS_g (by unfold r32; omega) ?_ -- 4
  have a2 := hM.2.2 u (t - 1) (by first | decide | omega) (by first | decide | omega) (by first | decide | omega) (by first | decide | omega)
  refine zS_g (by unfold r32; omega) ?_ -- 5
  refine zS_i (fun h3 => ?_) (fun h3 => ?_) -- 6: ((B 13 w 75 ((4 * t) + u)) = (B 13 w 75 ((4 * (t - 1)) + u)))
  · unfold f_M_beginsAt_30
    refine zS_g (by first | decide | omega) ?_ -- 8
    exact zS_s ⟨rfl, rfl, (by first | decide | omega)⟩
  · unfold f_M_beginsAt_30
    refine zS_g (by first | decide | omega) ?_ -- 11
    exact zS_s ⟨rfl, rfl, (by first | decide | omega)⟩
theorem s_toneAt {K : Nat} {w z : Int} {F : zF} {B : zB} (w0 : 0 ≤ w ∧ w < 3) (hz : PV w B z) (z0 : 0 ≤ z) : zS (f_M_toneAt K w z F B) (fun r F' B' => F' = F ∧ B' = B ∧ (9 ≤ r ∧ r ≤ 130)) := by
  obtain ⟨z1, z2, z3⟩ := hz
  unfold f_M_toneAt
  refine zS_g (by first | decide | omega) ?_ -- 1
  refine zS_g (by first | decide | omega) ?_ -- 2
  refine zS_b (s_tone (K := K) (s := (B 13 w 28 z)) (a := (B 13 w 29 z)) (by first | decide | omega) (by first | decide | omega) (by first | decide | omega) (by first | decide | omega)) ?_
  rintro o2 F B ⟨rfl, rfl, q1⟩
  exact zS_s ⟨rfl, rfl, (by first | decide | omega)⟩
theorem s_isPlainStep {K : Nat} {a b : Int} {F : zF} {B : zB} (ra : r32 a) (rb : r32 b) : zS (f_M_isPlainStep K a b F B) (fun r F' B' => F' = F ∧ B' = B ∧ (r = 0 ∨ r = 1)) := by
  unfold f_M_isPlainStep
  refine zS_g (by unfold r32; omega) ?_ -- 1
  refine zS_i (fun h1 => ?_) (fun h1 => ?_) -- 2: (a = 0)
  · refine zS_g (by unfold r32; omega) ?_ -- 3
    refine zS_i (fun h2 => ?_) (fun h2 => ?_) -- 4: (b = 0)
    · unfold f_M_isPlainStep_13
      refine zS_g (by first | decide | omega) ?_ -- 6
      exact zS_s ⟨rfl, rfl, (by first | decide | omega)⟩
    · unfold f_M_isPlainStep_13
      refine zS_g (by first | decide | omega) ?_ -- 9
      exact zS_s ⟨rfl, rfl, (by first | decide | omega)⟩
  · refine zS_i (fun h3 => ?_) (fun h3 => ?_) -- 11: (a = 1)
    · refine zS_g (by unfold r32; omega) ?_ -- 12
      refine zS_i (fun h4 => ?_) (fun h4 => ?_) -- 13: (b = 1)
      · unfold f_M_isPlainStep_29
        unfold f_M_isPlainStep_34
        refine zS_g (by first | decide | omega) ?_ -- 16
        exact zS_s ⟨rfl, rfl, (by first | decide | omega)⟩
      · refine zS_i (fun h5 => ?_) (fun h5 => ?_) -- 18: (b = 2)
        · unfold f_M_isPlainStep_29
          unfold f_M_isPlainStep_34
          refine zS_g (by first | decide | omega) ?_ -- 21
          exact zS_s ⟨rfl, rfl, (by first | decide | omega)⟩
        · unfold f_M_isPlainStep_34
          refine zS_g (by first | decide | omega) ?_ -- 24
          exact zS_s ⟨rfl, rfl, (by first | decide | omega)⟩
    · refine zS_i (fun h6 => ?_) (fun h6 => ?_) -- 26: (a = 2)
      · refine zS_g (by unfold r32; omega) ?_ -- 27
        refine zS_i (fun h7 => ?_) (fun h7 => ?_) -- 28: (b = 3)
        · unfold f_M_isPlainStep_50
          unfold f_M_isPlainStep_55
          refine zS_g (by first | decide | omega) ?_ -- 31
          exact zS_s ⟨rfl, rfl, (by first | decide | omega)⟩
        · refine zS_i (fun h8 => ?_) (fun h8 => ?_) -- 33: (b = 4)
          · unfold f_M_isPlainStep_50
            unfold f_M_isPlainStep_55
            refine zS_g (by first | decide | omega) ?_ -- 36
            exact zS_s ⟨rfl, rfl, (by first | decide | omega)⟩
          · unfold f_M_isPlainStep_55
            refine zS_g (by first | decide | omega) ?_ -- 39
            exact zS_s ⟨rfl, rfl, (by first | decide | omega)⟩
      · refine zS_i (fun h9 => ?_) (fun h9 => ?_) -- 41: (a = 3)
        · refine zS_g (by unfold r32; omega) ?_ -- 42
          refine zS_i (fun h10 => ?_) (fun h10 => ?_) -- 43: (b = 5)
          · unfold f_M_isPlainStep_71
            refine zS_g (by first | decide | omega) ?_ -- 45
            exact zS_s ⟨rfl, rfl, (by first | decide | omega)⟩
          · unfold f_M_isPlainStep_71
            refine zS_g (by first | decide | omega) ?_ -- 48
            exact zS_s ⟨rfl, rfl, (by first | decide | omega)⟩
        · refine zS_i (fun h11 => ?_) (fun h11 => ?_) -- 50: (a = 4)
          · refine zS_g (by unfold r32; omega) ?_ -- 51
            refine zS_i (fun h12 => ?_) (fun h12 => ?_) -- 52: (b = 7)
            · unfold f_M_isPlainStep_88
              refine zS_g (by first | decide | omega) ?_ -- 54
              exact zS_s ⟨rfl, rfl, (by first | decide | omega)⟩
            · unfold f_M_isPlainStep_88
              refine zS_g (by first | decide | omega) ?_ -- 57
              exact zS_s ⟨rfl, rfl, (by first | decide | omega)⟩
          · refine zS_i (fun h13 => ?_) (fun h13 => ?_) -- 59: (a = 5)
            · refine zS_g (by unfold r32; omega) ?_ -- 60
              refine zS_i (fun h14 => ?_) (fun h14 => ?_) -- 61: (b = 8)
              · unfold f_M_isPlainStep_106
                unfold f_M_isPlainStep_131
                refine zS_g (by first | decide | omega) ?_ -- 64
                exact zS_s ⟨rfl, rfl, (by first | decide | omega)⟩
              · refine zS_i (fun h15 => ?_) (fun h15 => ?_) -- 66: (b = 9)
                · unfold f_M_isPlainStep_106
                  unfold f_M_isPlainStep_131
                  refine zS_g (by first | decide | omega) ?_ -- 69
                  exact zS_s ⟨rfl, rfl, (by first | decide | omega)⟩
                · unfold f_M_isPlainStep_131
                  refine zS_g (by first | decide | omega) ?_ -- 72
                  exact zS_s ⟨rfl, rfl, (by first | decide | omega)⟩
            · refine zS_g (by unfold r32; omega) ?_ -- 74
              refine zS_i (fun h16 => ?_) (fun h16 => ?_) -- 75: (b = 10)
              · unfold f_M_isPlainStep_126
                unfold f_M_isPlainStep_131
                refine zS_g (by first | decide | omega) ?_ -- 78
                exact zS_s ⟨rfl, rfl, (by first | decide | omega)⟩
              · refine zS_i (fun h17 => ?_) (fun h17 => ?_) -- 80: (b = 11)
                · unfold f_M_isPlainStep_126
                  unfold f_M_isPlainStep_131
                  refine zS_g (by first | decide | omega) ?_ -- 83
                  exact zS_s ⟨rfl, rfl, (by first | decide | omega)⟩
                · unfold f_M_isPlainStep_131
                  refine zS_g (by first | decide | omega) ?_ -- 86
                  exact zS_s ⟨rfl, rfl, (by first | decide | omega)⟩
theorem s_isOver {K : Nat} {w y z : Int} {F : zF} {B : zB} (b0 : (0 ≤ w ∧ w < 3) ∧ True) (vy : PV w B y) (vz : PV w B z) : zS (f_M_isOver K w y z F B) (fun r F' B' => F' = F ∧ B' = B ∧ (r = 0 ∨ r = 1)) := by
  have vy1 := vy.1
  have vy2 := vy.2.1
  have vz1 := vz.1
  have vz2 := vz.2.1
  unfold f_M_isOver
  refine zS_g (by unfold r32; omega) ?_ -- 1
  refine zS_i (fun h1 => ?_) (fun h1 => ?_) -- 2: (y < 0)
  · unfold f_M_isOver_25
    unfold f_M_isOver_26
    refine zS_g (by first | decide | omega) ?_ -- 5
    exact zS_s ⟨rfl, rfl, (by first | decide | omega)⟩
  · refine zS_g (by unfold r32; omega) ?_ -- 7
    refine zS_i (fun h2 => ?_) (fun h2 => ?_) -- 8: (z < 0)
    · unfold f_M_isOver_25
      unfold f_M_isOver_26
      refine zS_g (by first | decide | omega) ?_ -- 11
      exact zS_s ⟨rfl, rfl, (by first | decide | omega)⟩
    · refine zS_b (s_toneAt (K := K) b0.1 vz (by first | decide | omega)) ?_
      rintro o4 F B ⟨rfl, rfl, q3⟩
      refine zS_b (s_toneAt (K := K) b0.1 vy (by first | decide | omega)) ?_
      rintro o7 F B ⟨rfl, rfl, q6⟩
      refine zS_g (by unfold r32; omega) ?_ -- 15
      refine zS_g (by unfold r32; omega) ?_ -- 16
      refine zS_i (fun h9 => ?_) (fun h9 => ?_) -- 17: (o4 ≤ o7)
      · unfold f_M_isOver_25
        unfold f_M_isOver_26
        refine zS_g (by first | decide | omega) ?_ -- 20
        exact zS_s ⟨rfl, rfl, (by first | decide | omega)⟩
      · unfold f_M_isOver_26
        refine zS_g (by first | decide | omega) ?_ -- 23
        exact zS_s ⟨rfl, rfl, (by first | decide | omega)⟩
theorem s_isAlone {K : Nat} {V w : Int} {F : zF} {B : zB} (hR : RDW V w F B) (hM : MW5 V w F B) (hK : 1000 ≤ K) {t : Int} (t0 : 1 ≤ t) (t1 : t < F 13 w 72) {u k : Int} (u0 : 0 ≤ u) (u1 : u < V) (rk : r32 k) : zS (f_M_isAlone K w t k u F B) (fun r F' B' => F' = F ∧ B' = B ∧ (r = 0 ∨ r = 1)) := by
  have b0 := rd_0 hR
  have m0 := hM.1
  unfold f_M_isAlone
  refine zS_b (s_lineAt (K := K) (t := t) (u := u) hR hM hK (by first | decide | omega) (by first | decide | omega) (by first | decide | omega) (by first | decide | omega)) ?_
  rintro o2 F B ⟨rfl, rfl, v1⟩
  have vo2 := v1
  obtain ⟨v1a, v1b, v1c⟩ := v1
  refine zS_b (s_lineAt (K := K) (t := (t - 1)) (u := u) hR hM hK (by first | decide | omega) (by first | decide | omega) (by first | decide | omega) (by first | decide | omega)) ?_
  rintro o5 F B ⟨rfl, rfl, v4⟩
  have vo5 := v4
  obtain ⟨v4a, v4b, v4c⟩ := v4
  refine zS_g (by unfold r32; omega) ?_ -- 3
  refine zS_i (fun h7 => ?_) (fun h7 => ?_) -- 4: (o2 < 0)
  · unfold f_M_isAlone_37
    exact zS_s ⟨rfl, rfl, (by first | decide | omega)⟩
  · refine zS_g (by unfold r32; omega) ?_ -- 7
    refine zS_i (fun h8 => ?_) (fun h8 => ?_) -- 8: (o5 < 0)
    · unfold f_M_isAlone_37
      exact zS_s ⟨rfl, rfl, (by first | decide | omega)⟩
    · refine zS_b (s_beginsAt (K := K) (t := t) (u := u) hR hM hK (by first | decide | omega) (by first | decide | omega) (by first | decide | omega) (by first | decide | omega) (by first | decide | omega)) ?_
      rintro o10 F B ⟨rfl, rfl, q9⟩
      refine zS_g (by unfold r32; omega) ?_ -- 12
      refine zS_i (fun h12 => ?_) (fun h12 => ?_) -- 13: (o10 = 0)
      · unfold f_M_isAlone_37
        exact zS_s ⟨rfl, rfl, (by first | decide | omega)⟩
      · refine zS_g (by first | decide | omega) ?_ -- 16
        refine zS_g (by first | decide | omega) ?_ -- 17
        refine zS_g (by first | decide | omega) ?_ -- 18
        refine zS_g (by unfold r32; omega) ?_ -- 19
        refine zS_i (fun h13 => ?_) (fun h13 => ?_) -- 20: (0 ≤ ((B 13 w 28 o2) - (B 13 w 28 o5)))
        · unfold f_M_isAlone_69
          refine zS_g (by unfold r32; omega) ?_ -- 22
          refine zS_i (fun h14 => ?_) (fun h14 => ?_) -- 23: (k = 5)
          · refine zS_g (by unfold r32; omega) ?_ -- 24
            refine zS_i (fun h15 => ?_) (fun h15 => ?_) -- 25: (((B 13 w 28 o2) - (B 13 w 28 o5)) ≤ 7)
            · unfold f_M_isAlone_88
              refine zS_g (by first | decide | omega) ?_ -- 27
              exact zS_s ⟨rfl, rfl, (by first | decide | omega)⟩
            · unfold f_M_isAlone_88
              refine zS_g (by first | decide | omega) ?_ -- 30
              exact zS_s ⟨rfl, rfl, (by first | decide | omega)⟩
          · refine zS_b (s_toneAt (K := K) b0.1 vo2 (by first | decide | omega)) ?_
            rintro o17 F B ⟨rfl, rfl, q16⟩
            refine zS_b (s_toneAt (K := K) b0.1 vo5 (by first | decide | omega)) ?_
            rintro o20 F B ⟨rfl, rfl, q19⟩
            refine zS_g (by unfold r32; omega) ?_ -- 34
            refine zS_i (fun h22 => ?_) (fun h22 => ?_) -- 35: (((B 13 w 28 o2) - (B 13 w 28 o5)) < 0)
            · unfold f_M_isAlone_119
              unfold f_M_isAlone_127
              refine zS_b (s_mod (K := K) (a := (-(o17 - o20))) (b := 12) (by unfold r32; omega) (by decide) (by decide)) ?_
              rintro o24 F B ⟨rfl, rfl, q23⟩
              have z26 := zrm_R ((B 13 w 28 o2) - (B 13 w 28 o5)) 7
              refine zS_b (s_isPlainStep (K := K) (a := (zrm ((B 13 w 28 o2) - (B 13 w 28 o5)) 7)) (b := o24) (by first | exact zrm_R _ _ | (unfold r32; omega)) (by unfold r32; omega)) ?_
              rintro o28 F B ⟨rfl, rfl, q27⟩
              refine zS_g (by unfold r32; omega) ?_ -- 40
              refine zS_i (fun h30 => ?_) (fun h30 => ?_) -- 41: (o28 = 0)
              · unfold f_M_isAlone_152
                refine zS_g (by first | decide | omega) ?_ -- 43
                exact zS_s ⟨rfl, rfl, (by first | decide | omega)⟩
              · unfold f_M_isAlone_152
                refine zS_g (by first | decide | omega) ?_ -- 46
                exact zS_s ⟨rfl, rfl, (by first | decide | omega)⟩
            · refine zS_i (fun h31 => ?_) (fun h31 => ?_) -- 48: (((B 13 w 28 o2) - (B 13 w 28 o5)) = 0)
              · refine zS_g (by unfold r32; omega) ?_ -- 49
                refine zS_i (fun h32 => ?_) (fun h32 => ?_) -- 50: (0 ≤ (o17 - o20))
                · unfold f_M_isAlone_125
                  unfold f_M_isAlone_127
                  refine zS_b (s_mod (K := K) (a := (o17 - o20)) (b := 12) (by unfold r32; omega) (by decide) (by decide)) ?_
                  rintro o34 F B ⟨rfl, rfl, q33⟩
                  have z36 := zrm_R ((B 13 w 28 o2) - (B 13 w 28 o5)) 7
                  refine zS_b (s_isPlainStep (K := K) (a := (zrm ((B 13 w 28 o2) - (B 13 w 28 o5)) 7)) (b := o34) (by first | exact zrm_R _ _ | (unfold r32; omega)) (by unfold r32; omega)) ?_
                  rintro o38 F B ⟨rfl, rfl, q37⟩
                  refine zS_g (by unfold r32; omega) ?_ -- 55
                  refine zS_i (fun h40 => ?_) (fun h40 => ?_) -- 56: (o38 = 0)
                  · unfold f_M_isAlone_152
                    refine zS_g (by first | decide | omega) ?_ -- 58
                    exact zS_s ⟨rfl, rfl, (by first | decide | omega)⟩
                  · unfold f_M_isAlone_152
                    refine zS_g (by first | decide | omega) ?_ -- 61
                    exact zS_s ⟨rfl, rfl, (by first | decide | omega)⟩
                · unfold f_M_isAlone_119
                  unfold f_M_isAlone_127
                  refine zS_b (s_mod (K := K) (a := (-(o17 - o20))) (b := 12) (by unfold r32; omega) (by decide) (by decide)) ?_
                  rintro o42 F B ⟨rfl, rfl, q41⟩
                  have z44 := zrm_R ((B 13 w 28 o2) - (B 13 w 28 o5)) 7
                  refine zS_b (s_isPlainStep (K := K) (a := (zrm ((B 13 w 28 o2) - (B 13 w 28 o5)) 7)) (b := o42) (by first | exact zrm_R _ _ | (unfold r32; omega)) (by unfold r32; omega)) ?_
                  rintro o46 F B ⟨rfl, rfl, q45⟩
                  refine zS_g (by unfold r32; omega) ?_ -- 67
                  refine zS_i (fun h48 => ?_) (fun h48 => ?_) -- 68: (o46 = 0)
                  · unfold f_M_isAlone_152
                    refine zS_g (by first | decide | omega) ?_ -- 70
                    exact zS_s ⟨rfl, rfl, (by first | decide | omega)⟩
                  · unfold f_M_isAlone_152
                    refine zS_g (by first | decide | omega) ?_ -- 73
                    exact zS_s ⟨rfl, rfl, (by first | decide | omega)⟩
              · unfold f_M_isAlone_125
                unfold f_M_isAlone_127
                refine zS_b (s_mod (K := K) (a := (o17 - o20)) (b := 12) (by unfold r32; omega) (by decide) (by decide)) ?_
                rintro o50 F B ⟨rfl, rfl, q49⟩
                have z52 := zrm_R ((B 13 w 28 o2) - (B 13 w 28 o5)) 7
                refine zS_b (s_isPlainStep (K := K) (a := (zrm ((B 13 w 28 o2) - (B 13 w 28 o5)) 7)) (b := o50) (by first | exact zrm_R _ _ | (unfold r32; omega)) (by unfold r32; omega)) ?_
                rintro o54 F B ⟨rfl, rfl, q53⟩
                refine zS_g (by unfold r32; omega) ?_ -- 79
                refine zS_i (fun h56 => ?_) (fun h56 => ?_) -- 80: (o54 = 0)
                · unfold f_M_isAlone_152
                  refine zS_g (by first | decide | omega) ?_ -- 82
                  exact zS_s ⟨rfl, rfl, (by first | decide | omega)⟩
                · unfold f_M_isAlone_152
                  refine zS_g (by first | decide | omega) ?_ -- 85
                  exact zS_s ⟨rfl, rfl, (by first | decide | omega)⟩
        · unfold f_M_isAlone_69
          refine zS_g (by unfold r32; omega) ?_ -- 88
          refine zS_i (fun h57 => ?_) (fun h57 => ?_) -- 89: (k = 5)
          · refine zS_g (by unfold r32; omega) ?_ -- 90
            refine zS_i (fun h58 => ?_) (fun h58 => ?_) -- 91: ((-((B 13 w 28 o2) - (B 13 w 28 o5))) ≤ 7)
            · unfold f_M_isAlone_88
              refine zS_g (by first | decide | omega) ?_ -- 93
              exact zS_s ⟨rfl, rfl, (by first | decide | omega)⟩
            · unfold f_M_isAlone_88
              refine zS_g (by first | decide | omega) ?_ -- 96
              exact zS_s ⟨rfl, rfl, (by first | decide | omega)⟩
          · refine zS_b (s_toneAt (K := K) b0.1 vo2 (by first | decide | omega)) ?_
            rintro o60 F B ⟨rfl, rfl, q59⟩
            refine zS_b (s_toneAt (K := K) b0.1 vo5 (by first | decide | omega)) ?_
            rintro o63 F B ⟨rfl, rfl, q62⟩
            refine zS_g (by unfold r32; omega) ?_ -- 100
            refine zS_i (fun h65 => ?_) (fun h65 => ?_) -- 101: (((B 13 w 28 o2) - (B 13 w 28 o5)) < 0)
            · unfold f_M_isAlone_119
              unfold f_M_isAlone_127
              refine zS_b (s_mod (K := K) (a := (-(o60 - o63))) (b := 12) (by unfold r32; omega) (by decide) (by decide)) ?_
              rintro o67 F B ⟨rfl, rfl, q66⟩
              have z69 := zrm_R (-((B 13 w 28 o2) - (B 13 w 28 o5))) 7
              refine zS_b (s_isPlainStep (K := K) (a := (zrm (-((B 13 w 28 o2) - (B 13 w 28 o5))) 7)) (b := o67) (by first | exact zrm_R _ _ | (unfold r32; omega)) (by unfold r32; omega)) ?_
              rintro o71 F B ⟨rfl, rfl, q70⟩
              refine zS_g (by unfold r32; omega) ?_ -- 106
              refine zS_i (fun h73 => ?_) (fun h73 => ?_) -- 107: (o71 = 0)
              · unfold f_M_isAlone_152
                refine zS_g (by first | decide | omega) ?_ -- 109
                exact zS_s ⟨rfl, rfl, (by first | decide | omega)⟩
              · unfold f_M_isAlone_152
                refine zS_g (by first | decide | omega) ?_ -- 112
                exact zS_s ⟨rfl, rfl, (by first | decide | omega)⟩
            · refine zS_i (fun h74 => ?_) (fun h74 => ?_) -- 114: (((B 13 w 28 o2) - (B 13 w 28 o5)) = 0)
              · refine zS_g (by unfold r32; omega) ?_ -- 115
                refine zS_i (fun h75 => ?_) (fun h75 => ?_) -- 116: (0 ≤ (o60 - o63))
                · unfold f_M_isAlone_125
                  unfold f_M_isAlone_127
                  refine zS_b (s_mod (K := K) (a := (o60 - o63)) (b := 12) (by unfold r32; omega) (by decide) (by decide)) ?_
                  rintro o77 F B ⟨rfl, rfl, q76⟩
                  have z79 := zrm_R (-((B 13 w 28 o2) - (B 13 w 28 o5))) 7
                  refine zS_b (s_isPlainStep (K := K) (a := (zrm (-((B 13 w 28 o2) - (B 13 w 28 o5))) 7)) (b := o77) (by first | exact zrm_R _ _ | (unfold r32; omega)) (by unfold r32; omega)) ?_
                  rintro o81 F B ⟨rfl, rfl, q80⟩
                  refine zS_g (by unfold r32; omega) ?_ -- 121
                  refine zS_i (fun h83 => ?_) (fun h83 => ?_) -- 122: (o81 = 0)
                  · unfold f_M_isAlone_152
                    refine zS_g (by first | decide | omega) ?_ -- 124
                    exact zS_s ⟨rfl, rfl, (by first | decide | omega)⟩
                  · unfold f_M_isAlone_152
                    refine zS_g (by first | decide | omega) ?_ -- 127
                    exact zS_s ⟨rfl, rfl, (by first | decide | omega)⟩
                · unfold f_M_isAlone_119
                  unfold f_M_isAlone_127
                  refine zS_b (s_mod (K := K) (a := (-(o60 - o63))) (b := 12) (by unfold r32; omega) (by decide) (by decide)) ?_
                  rintro o85 F B ⟨rfl, rfl, q84⟩
                  have z87 := zrm_R (-((B 13 w 28 o2) - (B 13 w 28 o5))) 7
                  refine zS_b (s_isPlainStep (K := K) (a := (zrm (-((B 13 w 28 o2) - (B 13 w 28 o5))) 7)) (b := o85) (by first | exact zrm_R _ _ | (unfold r32; omega)) (by unfold r32; omega)) ?_
                  rintro o89 F B ⟨rfl, rfl, q88⟩
                  refine zS_g (by unfold r32; omega) ?_ -- 133
                  refine zS_i (fun h91 => ?_) (fun h91 => ?_) -- 134: (o89 = 0)
                  · unfold f_M_isAlone_152
                    refine zS_g (by first | decide | omega) ?_ -- 136
                    exact zS_s ⟨rfl, rfl, (by first | decide | omega)⟩
                  · unfold f_M_isAlone_152
                    refine zS_g (by first | decide | omega) ?_ -- 139
                    exact zS_s ⟨rfl, rfl, (by first | decide | omega)⟩
              · unfold f_M_isAlone_125
                unfold f_M_isAlone_127
                refine zS_b (s_mod (K := K) (a := (o60 - o63)) (b := 12) (by unfold r32; omega) (by decide) (by decide)) ?_
                rintro o93 F B ⟨rfl, rfl, q92⟩
                have z95 := zrm_R (-((B 13 w 28 o2) - (B 13 w 28 o5))) 7
                refine zS_b (s_isPlainStep (K := K) (a := (zrm (-((B 13 w 28 o2) - (B 13 w 28 o5))) 7)) (b := o93) (by first | exact zrm_R _ _ | (unfold r32; omega)) (by unfold r32; omega)) ?_
                rintro o97 F B ⟨rfl, rfl, q96⟩
                refine zS_g (by unfold r32; omega) ?_ -- 145
                refine zS_i (fun h99 => ?_) (fun h99 => ?_) -- 146: (o97 = 0)
                · unfold f_M_isAlone_152
                  refine zS_g (by first | decide | omega) ?_ -- 148
                  exact zS_s ⟨rfl, rfl, (by first | decide | omega)⟩
                · unfold f_M_isAlone_152
                  refine zS_g (by first | decide | omega) ?_ -- 151
                  exact zS_s ⟨rfl, rfl, (by first | decide | omega)⟩
theorem s_isCrossed {K : Nat} {V w : Int} {F : zF} {B : zB} (hR : RDW V w F B) (hM : MW5 V w F B) (hK : 1000 ≤ K) {t : Int} (t0 : 1 ≤ t) (t1 : t < F 13 w 72) {u v : Int} (u0 : 0 ≤ u) (u1 : u < V) (v0 : 0 ≤ v) (v1 : v < V) : zS (f_M_isCrossed K w t u v F B) (fun r F' B' => F' = F ∧ B' = B ∧ (r = 0 ∨ r = 1)) := by
  have b0 := rd_0 hR
  have m0 := hM.1
  unfold f_M_isCrossed
  refine zS_b (s_lineAt (K := K) (t := t) (u := u) hR hM hK (by first | decide | omega) (by first | decide | omega) (by first | decide | omega) (by first | decide | omega)) ?_
  rintro o2 F B ⟨rfl, rfl, v1⟩
  have vo2 := v1
  obtain ⟨v1a, v1b, v1c⟩ := v1
  refine zS_b (s_lineAt (K := K) (t := t) (u := v) hR hM hK (by first | decide | omega) (by first | decide | omega) (by first | decide | omega) (by first | decide | omega)) ?_
  rintro o5 F B ⟨rfl, rfl, v4⟩
  have vo5 := v4
  obtain ⟨v4a, v4b, v4c⟩ := v4
  refine zS_b (s_isOver (K := K) ⟨b0.1, True.intro⟩ vo2 vo5) ?_
  rintro o8 F B ⟨rfl, rfl, q7⟩
  refine zS_g (by unfold r32; omega) ?_ -- 4
  refine zS_i (fun h10 => ?_) (fun h10 => ?_) -- 5: (o8 = 0)
  · unfold f_M_isCrossed_46
    unfold f_M_isCrossed_47
    refine zS_g (by first | decide | omega) ?_ -- 8
    exact zS_s ⟨rfl, rfl, (by first | decide | omega)⟩
  · refine zS_b (s_lineAt (K := K) (t := (t - 1)) (u := u) hR hM hK (by first | decide | omega) (by first | decide | omega) (by first | decide | omega) (by first | decide | omega)) ?_
    rintro o12 F B ⟨rfl, rfl, v11⟩
    have vo12 := v11
    obtain ⟨v11a, v11b, v11c⟩ := v11
    refine zS_b (s_lineAt (K := K) (t := (t - 1)) (u := v) hR hM hK (by first | decide | omega) (by first | decide | omega) (by first | decide | omega) (by first | decide | omega)) ?_
    rintro o15 F B ⟨rfl, rfl, v14⟩
    have vo15 := v14
    obtain ⟨v14a, v14b, v14c⟩ := v14
    refine zS_b (s_isOver (K := K) ⟨b0.1, True.intro⟩ vo12 vo15) ?_
    rintro o18 F B ⟨rfl, rfl, q17⟩
    refine zS_g (by unfold r32; omega) ?_ -- 13
    refine zS_i (fun h20 => ?_) (fun h20 => ?_) -- 14: (o18 = 0)
    · unfold f_M_isCrossed_47
      refine zS_g (by first | decide | omega) ?_ -- 16
      exact zS_s ⟨rfl, rfl, (by first | decide | omega)⟩
    · unfold f_M_isCrossed_46
      unfold f_M_isCrossed_47
      refine zS_g (by first | decide | omega) ?_ -- 20
      exact zS_s ⟨rfl, rfl, (by first | decide | omega)⟩
theorem s_perfect {K : Nat} {w y z : Int} {F : zF} {B : zB} (b0 : (0 ≤ w ∧ w < 3) ∧ True) (vy : PV w B y) (vz : PV w B z) (y0 : 0 ≤ y) (z0 : 0 ≤ z) : zS (f_M_perfect K w y z F B) (fun r F' B' => F' = F ∧ B' = B ∧ (0 ≤ r ∧ r ≤ 2)) := by
  have vy1 := vy.2.2 y0
  have vy2 := vy.2.1
  have vz1 := vz.2.2 z0
  have vz2 := vz.2.1
  unfold f_M_perfect
  refine zS_b (s_toneAt (K := K) b0.1 vy (by first | decide | omega)) ?_
  rintro o2 F B ⟨rfl, rfl, q1⟩
  refine zS_b (s_toneAt (K := K) b0.1 vz (by first | decide | omega)) ?_
  rintro o5 F B ⟨rfl, rfl, q4⟩
  refine zS_g (by unfold r32; omega) ?_ -- 3
  refine zS_g (by unfold r32; omega) ?_ -- 4
  refine zS_i (fun h7 => ?_) (fun h7 => ?_) -- 5: (o2 < o5)
  · unfold f_M_perfect_18
    refine zS_g (by unfold r32; omega) ?_ -- 7
    refine zS_i (fun h8 => ?_) (fun h8 => ?_) -- 8: (0 = 0)
    · unfold f_M_perfect_28
      refine zS_g (by unfold r32; omega) ?_ -- 10
      refine zS_i (fun h9 => ?_) (fun h9 => ?_) -- 11: (0 = 0)
      · unfold f_M_perfect_39
        refine zS_g (by first | decide | omega) ?_ -- 13
        refine zS_g (by first | decide | omega) ?_ -- 14
        refine zS_g (by first | decide | omega) ?_ -- 15
        refine zS_b (s_mod (K := K) (a := ((B 13 w 28 z) - (B 13 w 28 y))) (b := 7) (by unfold r32; omega) (by decide) (by decide)) ?_
        rintro o11 F B ⟨rfl, rfl, q10⟩
        refine zS_b (s_toneAt (K := K) b0.1 vz (by first | decide | omega)) ?_
        rintro o14 F B ⟨rfl, rfl, q13⟩
        refine zS_b (s_toneAt (K := K) b0.1 vy (by first | decide | omega)) ?_
        rintro o17 F B ⟨rfl, rfl, q16⟩
        refine zS_b (s_mod (K := K) (a := (o14 - o17)) (b := 12) (by unfold r32; omega) (by decide) (by decide)) ?_
        rintro o20 F B ⟨rfl, rfl, q19⟩
        refine zS_g (by unfold r32; omega) ?_ -- 20
        refine zS_i (fun h22 => ?_) (fun h22 => ?_) -- 21: (o11 = 0)
        · refine zS_g (by unfold r32; omega) ?_ -- 22
          refine zS_i (fun h23 => ?_) (fun h23 => ?_) -- 23: (o20 = 0)
          · unfold f_M_perfect_115
            exact zS_s ⟨rfl, rfl, (by first | decide | omega)⟩
          · unfold f_M_perfect_97
            refine zS_g (by unfold r32; omega) ?_ -- 27
            refine zS_i (fun h24 => ?_) (fun h24 => ?_) -- 28: (o11 = 4)
            · refine zS_g (by unfold r32; omega) ?_ -- 29
              refine zS_i (fun h25 => ?_) (fun h25 => ?_) -- 30: (o20 = 7)
              · unfold f_M_perfect_115
                exact zS_s ⟨rfl, rfl, (by first | decide | omega)⟩
              · unfold f_M_perfect_114
                unfold f_M_perfect_115
                exact zS_s ⟨rfl, rfl, (by first | decide | omega)⟩
            · unfold f_M_perfect_114
              unfold f_M_perfect_115
              exact zS_s ⟨rfl, rfl, (by first | decide | omega)⟩
        · unfold f_M_perfect_97
          refine zS_g (by unfold r32; omega) ?_ -- 40
          refine zS_i (fun h26 => ?_) (fun h26 => ?_) -- 41: (o11 = 4)
          · refine zS_g (by unfold r32; omega) ?_ -- 42
            refine zS_i (fun h27 => ?_) (fun h27 => ?_) -- 43: (o20 = 7)
            · unfold f_M_perfect_115
              exact zS_s ⟨rfl, rfl, (by first | decide | omega)⟩
            · unfold f_M_perfect_114
              unfold f_M_perfect_115
              exact zS_s ⟨rfl, rfl, (by first | decide | omega)⟩
          · unfold f_M_perfect_114
            unfold f_M_perfect_115
            exact zS_s ⟨rfl, rfl, (by first | decide | omega)⟩
      · unfold f_M_perfect_39
        refine zS_g (by first | decide | omega) ?_ -- 53
        refine zS_g (by first | decide | omega) ?_ -- 54
        refine zS_g (by first | decide | omega) ?_ -- 55
        refine zS_b (s_mod (K := K) (a := ((B 13 w 28 z) - (B 13 w 28 z))) (b := 7) (by unfold r32; omega) (by decide) (by decide)) ?_
        rintro o29 F B ⟨rfl, rfl, q28⟩
        refine zS_b (s_toneAt (K := K) b0.1 vz (by first | decide | omega)) ?_
        rintro o32 F B ⟨rfl, rfl, q31⟩
        refine zS_b (s_toneAt (K := K) b0.1 vz (by first | decide | omega)) ?_
        rintro o35 F B ⟨rfl, rfl, q34⟩
        refine zS_b (s_mod (K := K) (a := (o32 - o35)) (b := 12) (by unfold r32; omega) (by decide) (by decide)) ?_
        rintro o38 F B ⟨rfl, rfl, q37⟩
        refine zS_g (by unfold r32; omega) ?_ -- 60
        refine zS_i (fun h40 => ?_) (fun h40 => ?_) -- 61: (o29 = 0)
        · refine zS_g (by unfold r32; omega) ?_ -- 62
          refine zS_i (fun h41 => ?_) (fun h41 => ?_) -- 63: (o38 = 0)
          · unfold f_M_perfect_115
            exact zS_s ⟨rfl, rfl, (by first | decide | omega)⟩
          · unfold f_M_perfect_97
            refine zS_g (by unfold r32; omega) ?_ -- 67
            refine zS_i (fun h42 => ?_) (fun h42 => ?_) -- 68: (o29 = 4)
            · refine zS_g (by unfold r32; omega) ?_ -- 69
              refine zS_i (fun h43 => ?_) (fun h43 => ?_) -- 70: (o38 = 7)
              · unfold f_M_perfect_115
                exact zS_s ⟨rfl, rfl, (by first | decide | omega)⟩
              · unfold f_M_perfect_114
                unfold f_M_perfect_115
                exact zS_s ⟨rfl, rfl, (by first | decide | omega)⟩
            · unfold f_M_perfect_114
              unfold f_M_perfect_115
              exact zS_s ⟨rfl, rfl, (by first | decide | omega)⟩
        · unfold f_M_perfect_97
          refine zS_g (by unfold r32; omega) ?_ -- 80
          refine zS_i (fun h44 => ?_) (fun h44 => ?_) -- 81: (o29 = 4)
          · refine zS_g (by unfold r32; omega) ?_ -- 82
            refine zS_i (fun h45 => ?_) (fun h45 => ?_) -- 83: (o38 = 7)
            · unfold f_M_perfect_115
              exact zS_s ⟨rfl, rfl, (by first | decide | omega)⟩
            · unfold f_M_perfect_114
              unfold f_M_perfect_115
              exact zS_s ⟨rfl, rfl, (by first | decide | omega)⟩
          · unfold f_M_perfect_114
            unfold f_M_perfect_115
            exact zS_s ⟨rfl, rfl, (by first | decide | omega)⟩
    · unfold f_M_perfect_28
      refine zS_g (by unfold r32; omega) ?_ -- 93
      refine zS_i (fun h46 => ?_) (fun h46 => ?_) -- 94: (0 = 0)
      · unfold f_M_perfect_39
        refine zS_g (by first | decide | omega) ?_ -- 96
        refine zS_g (by first | decide | omega) ?_ -- 97
        refine zS_g (by first | decide | omega) ?_ -- 98
        refine zS_b (s_mod (K := K) (a := ((B 13 w 28 y) - (B 13 w 28 y))) (b := 7) (by unfold r32; omega) (by decide) (by decide)) ?_
        rintro o48 F B ⟨rfl, rfl, q47⟩
        refine zS_b (s_toneAt (K := K) b0.1 vy (by first | decide | omega)) ?_
        rintro o51 F B ⟨rfl, rfl, q50⟩
        refine zS_b (s_toneAt (K := K) b0.1 vy (by first | decide | omega)) ?_
        rintro o54 F B ⟨rfl, rfl, q53⟩
        refine zS_b (s_mod (K := K) (a := (o51 - o54)) (b := 12) (by unfold r32; omega) (by decide) (by decide)) ?_
        rintro o57 F B ⟨rfl, rfl, q56⟩
        refine zS_g (by unfold r32; omega) ?_ -- 103
        refine zS_i (fun h59 => ?_) (fun h59 => ?_) -- 104: (o48 = 0)
        · refine zS_g (by unfold r32; omega) ?_ -- 105
          refine zS_i (fun h60 => ?_) (fun h60 => ?_) -- 106: (o57 = 0)
          · unfold f_M_perfect_115
            exact zS_s ⟨rfl, rfl, (by first | decide | omega)⟩
          · unfold f_M_perfect_97
            refine zS_g (by unfold r32; omega) ?_ -- 110
            refine zS_i (fun h61 => ?_) (fun h61 => ?_) -- 111: (o48 = 4)
            · refine zS_g (by unfold r32; omega) ?_ -- 112
              refine zS_i (fun h62 => ?_) (fun h62 => ?_) -- 113: (o57 = 7)
              · unfold f_M_perfect_115
                exact zS_s ⟨rfl, rfl, (by first | decide | omega)⟩
              · unfold f_M_perfect_114
                unfold f_M_perfect_115
                exact zS_s ⟨rfl, rfl, (by first | decide | omega)⟩
            · unfold f_M_perfect_114
              unfold f_M_perfect_115
              exact zS_s ⟨rfl, rfl, (by first | decide | omega)⟩
        · unfold f_M_perfect_97
          refine zS_g (by unfold r32; omega) ?_ -- 123
          refine zS_i (fun h63 => ?_) (fun h63 => ?_) -- 124: (o48 = 4)
          · refine zS_g (by unfold r32; omega) ?_ -- 125
            refine zS_i (fun h64 => ?_) (fun h64 => ?_) -- 126: (o57 = 7)
            · unfold f_M_perfect_115
              exact zS_s ⟨rfl, rfl, (by first | decide | omega)⟩
            · unfold f_M_perfect_114
              unfold f_M_perfect_115
              exact zS_s ⟨rfl, rfl, (by first | decide | omega)⟩
          · unfold f_M_perfect_114
            unfold f_M_perfect_115
            exact zS_s ⟨rfl, rfl, (by first | decide | omega)⟩
      · unfold f_M_perfect_39
        refine zS_g (by first | decide | omega) ?_ -- 136
        refine zS_g (by first | decide | omega) ?_ -- 137
        refine zS_g (by first | decide | omega) ?_ -- 138
        refine zS_b (s_mod (K := K) (a := ((B 13 w 28 y) - (B 13 w 28 z))) (b := 7) (by unfold r32; omega) (by decide) (by decide)) ?_
        rintro o66 F B ⟨rfl, rfl, q65⟩
        refine zS_b (s_toneAt (K := K) b0.1 vy (by first | decide | omega)) ?_
        rintro o69 F B ⟨rfl, rfl, q68⟩
        refine zS_b (s_toneAt (K := K) b0.1 vz (by first | decide | omega)) ?_
        rintro o72 F B ⟨rfl, rfl, q71⟩
        refine zS_b (s_mod (K := K) (a := (o69 - o72)) (b := 12) (by unfold r32; omega) (by decide) (by decide)) ?_
        rintro o75 F B ⟨rfl, rfl, q74⟩
        refine zS_g (by unfold r32; omega) ?_ -- 143
        refine zS_i (fun h77 => ?_) (fun h77 => ?_) -- 144: (o66 = 0)
        · refine zS_g (by unfold r32; omega) ?_ -- 145
          refine zS_i (fun h78 => ?_) (fun h78 => ?_) -- 146: (o75 = 0)
          · unfold f_M_perfect_115
            exact zS_s ⟨rfl, rfl, (by first | decide | omega)⟩
          · unfold f_M_perfect_97
            refine zS_g (by unfold r32; omega) ?_ -- 150
            refine zS_i (fun h79 => ?_) (fun h79 => ?_) -- 151: (o66 = 4)
            · refine zS_g (by unfold r32; omega) ?_ -- 152
              refine zS_i (fun h80 => ?_) (fun h80 => ?_) -- 153: (o75 = 7)
              · unfold f_M_perfect_115
                exact zS_s ⟨rfl, rfl, (by first | decide | omega)⟩
              · unfold f_M_perfect_114
                unfold f_M_perfect_115
                exact zS_s ⟨rfl, rfl, (by first | decide | omega)⟩
            · unfold f_M_perfect_114
              unfold f_M_perfect_115
              exact zS_s ⟨rfl, rfl, (by first | decide | omega)⟩
        · unfold f_M_perfect_97
          refine zS_g (by unfold r32; omega) ?_ -- 163
          refine zS_i (fun h81 => ?_) (fun h81 => ?_) -- 164: (o66 = 4)
          · refine zS_g (by unfold r32; omega) ?_ -- 165
            refine zS_i (fun h82 => ?_) (fun h82 => ?_) -- 166: (o75 = 7)
            · unfold f_M_perfect_115
              exact zS_s ⟨rfl, rfl, (by first | decide | omega)⟩
            · unfold f_M_perfect_114
              unfold f_M_perfect_115
              exact zS_s ⟨rfl, rfl, (by first | decide | omega)⟩
          · unfold f_M_perfect_114
            unfold f_M_perfect_115
            exact zS_s ⟨rfl, rfl, (by first | decide | omega)⟩
  · unfold f_M_perfect_18
    refine zS_g (by unfold r32; omega) ?_ -- 176
    refine zS_i (fun h83 => ?_) (fun h83 => ?_) -- 177: (1 = 0)
    · unfold f_M_perfect_28
      refine zS_g (by unfold r32; omega) ?_ -- 179
      refine zS_i (fun h84 => ?_) (fun h84 => ?_) -- 180: (1 = 0)
      · unfold f_M_perfect_39
        refine zS_g (by first | decide | omega) ?_ -- 182
        refine zS_g (by first | decide | omega) ?_ -- 183
        refine zS_g (by first | decide | omega) ?_ -- 184
        refine zS_b (s_mod (K := K) (a := ((B 13 w 28 z) - (B 13 w 28 y))) (b := 7) (by unfold r32; omega) (by decide) (by decide)) ?_
        rintro o86 F B ⟨rfl, rfl, q85⟩
        refine zS_b (s_toneAt (K := K) b0.1 vz (by first | decide | omega)) ?_
        rintro o89 F B ⟨rfl, rfl, q88⟩
        refine zS_b (s_toneAt (K := K) b0.1 vy (by first | decide | omega)) ?_
        rintro o92 F B ⟨rfl, rfl, q91⟩
        refine zS_b (s_mod (K := K) (a := (o89 - o92)) (b := 12) (by unfold r32; omega) (by decide) (by decide)) ?_
        rintro o95 F B ⟨rfl, rfl, q94⟩
        refine zS_g (by unfold r32; omega) ?_ -- 189
        refine zS_i (fun h97 => ?_) (fun h97 => ?_) -- 190: (o86 = 0)
        · refine zS_g (by unfold r32; omega) ?_ -- 191
          refine zS_i (fun h98 => ?_) (fun h98 => ?_) -- 192: (o95 = 0)
          · unfold f_M_perfect_115
            exact zS_s ⟨rfl, rfl, (by first | decide | omega)⟩
          · unfold f_M_perfect_97
            refine zS_g (by unfold r32; omega) ?_ -- 196
            refine zS_i (fun h99 => ?_) (fun h99 => ?_) -- 197: (o86 = 4)
            · refine zS_g (by unfold r32; omega) ?_ -- 198
              refine zS_i (fun h100 => ?_) (fun h100 => ?_) -- 199: (o95 = 7)
              · unfold f_M_perfect_115
                exact zS_s ⟨rfl, rfl, (by first | decide | omega)⟩
              · unfold f_M_perfect_114
                unfold f_M_perfect_115
                exact zS_s ⟨rfl, rfl, (by first | decide | omega)⟩
            · unfold f_M_perfect_114
              unfold f_M_perfect_115
              exact zS_s ⟨rfl, rfl, (by first | decide | omega)⟩
        · unfold f_M_perfect_97
          refine zS_g (by unfold r32; omega) ?_ -- 209
          refine zS_i (fun h101 => ?_) (fun h101 => ?_) -- 210: (o86 = 4)
          · refine zS_g (by unfold r32; omega) ?_ -- 211
            refine zS_i (fun h102 => ?_) (fun h102 => ?_) -- 212: (o95 = 7)
            · unfold f_M_perfect_115
              exact zS_s ⟨rfl, rfl, (by first | decide | omega)⟩
            · unfold f_M_perfect_114
              unfold f_M_perfect_115
              exact zS_s ⟨rfl, rfl, (by first | decide | omega)⟩
          · unfold f_M_perfect_114
            unfold f_M_perfect_115
            exact zS_s ⟨rfl, rfl, (by first | decide | omega)⟩
      · unfold f_M_perfect_39
        refine zS_g (by first | decide | omega) ?_ -- 222
        refine zS_g (by first | decide | omega) ?_ -- 223
        refine zS_g (by first | decide | omega) ?_ -- 224
        refine zS_b (s_mod (K := K) (a := ((B 13 w 28 z) - (B 13 w 28 z))) (b := 7) (by unfold r32; omega) (by decide) (by decide)) ?_
        rintro o104 F B ⟨rfl, rfl, q103⟩
        refine zS_b (s_toneAt (K := K) b0.1 vz (by first | decide | omega)) ?_
        rintro o107 F B ⟨rfl, rfl, q106⟩
        refine zS_b (s_toneAt (K := K) b0.1 vz (by first | decide | omega)) ?_
        rintro o110 F B ⟨rfl, rfl, q109⟩
        refine zS_b (s_mod (K := K) (a := (o107 - o110)) (b := 12) (by unfold r32; omega) (by decide) (by decide)) ?_
        rintro o113 F B ⟨rfl, rfl, q112⟩
        refine zS_g (by unfold r32; omega) ?_ -- 229
        refine zS_i (fun h115 => ?_) (fun h115 => ?_) -- 230: (o104 = 0)
        · refine zS_g (by unfold r32; omega) ?_ -- 231
          refine zS_i (fun h116 => ?_) (fun h116 => ?_) -- 232: (o113 = 0)
          · unfold f_M_perfect_115
            exact zS_s ⟨rfl, rfl, (by first | decide | omega)⟩
          · unfold f_M_perfect_97
            refine zS_g (by unfold r32; omega) ?_ -- 236
            refine zS_i (fun h117 => ?_) (fun h117 => ?_) -- 237: (o104 = 4)
            · refine zS_g (by unfold r32; omega) ?_ -- 238
              refine zS_i (fun h118 => ?_) (fun h118 => ?_) -- 239: (o113 = 7)
              · unfold f_M_perfect_115
                exact zS_s ⟨rfl, rfl, (by first | decide | omega)⟩
              · unfold f_M_perfect_114
                unfold f_M_perfect_115
                exact zS_s ⟨rfl, rfl, (by first | decide | omega)⟩
            · unfold f_M_perfect_114
              unfold f_M_perfect_115
              exact zS_s ⟨rfl, rfl, (by first | decide | omega)⟩
        · unfold f_M_perfect_97
          refine zS_g (by unfold r32; omega) ?_ -- 249
          refine zS_i (fun h119 => ?_) (fun h119 => ?_) -- 250: (o104 = 4)
          · refine zS_g (by unfold r32; omega) ?_ -- 251
            refine zS_i (fun h120 => ?_) (fun h120 => ?_) -- 252: (o113 = 7)
            · unfold f_M_perfect_115
              exact zS_s ⟨rfl, rfl, (by first | decide | omega)⟩
            · unfold f_M_perfect_114
              unfold f_M_perfect_115
              exact zS_s ⟨rfl, rfl, (by first | decide | omega)⟩
          · unfold f_M_perfect_114
            unfold f_M_perfect_115
            exact zS_s ⟨rfl, rfl, (by first | decide | omega)⟩
    · unfold f_M_perfect_28
      refine zS_g (by unfold r32; omega) ?_ -- 262
      refine zS_i (fun h121 => ?_) (fun h121 => ?_) -- 263: (1 = 0)
      · unfold f_M_perfect_39
        refine zS_g (by first | decide | omega) ?_ -- 265
        refine zS_g (by first | decide | omega) ?_ -- 266
        refine zS_g (by first | decide | omega) ?_ -- 267
        refine zS_b (s_mod (K := K) (a := ((B 13 w 28 y) - (B 13 w 28 y))) (b := 7) (by unfold r32; omega) (by decide) (by decide)) ?_
        rintro o123 F B ⟨rfl, rfl, q122⟩
        refine zS_b (s_toneAt (K := K) b0.1 vy (by first | decide | omega)) ?_
        rintro o126 F B ⟨rfl, rfl, q125⟩
        refine zS_b (s_toneAt (K := K) b0.1 vy (by first | decide | omega)) ?_
        rintro o129 F B ⟨rfl, rfl, q128⟩
        refine zS_b (s_mod (K := K) (a := (o126 - o129)) (b := 12) (by unfold r32; omega) (by decide) (by decide)) ?_
        rintro o132 F B ⟨rfl, rfl, q131⟩
        refine zS_g (by unfold r32; omega) ?_ -- 272
        refine zS_i (fun h134 => ?_) (fun h134 => ?_) -- 273: (o123 = 0)
        · refine zS_g (by unfold r32; omega) ?_ -- 274
          refine zS_i (fun h135 => ?_) (fun h135 => ?_) -- 275: (o132 = 0)
          · unfold f_M_perfect_115
            exact zS_s ⟨rfl, rfl, (by first | decide | omega)⟩
          · unfold f_M_perfect_97
            refine zS_g (by unfold r32; omega) ?_ -- 279
            refine zS_i (fun h136 => ?_) (fun h136 => ?_) -- 280: (o123 = 4)
            · refine zS_g (by unfold r32; omega) ?_ -- 281
              refine zS_i (fun h137 => ?_) (fun h137 => ?_) -- 282: (o132 = 7)
              · unfold f_M_perfect_115
                exact zS_s ⟨rfl, rfl, (by first | decide | omega)⟩
              · unfold f_M_perfect_114
                unfold f_M_perfect_115
                exact zS_s ⟨rfl, rfl, (by first | decide | omega)⟩
            · unfold f_M_perfect_114
              unfold f_M_perfect_115
              exact zS_s ⟨rfl, rfl, (by first | decide | omega)⟩
        · unfold f_M_perfect_97
          refine zS_g (by unfold r32; omega) ?_ -- 292
          refine zS_i (fun h138 => ?_) (fun h138 => ?_) -- 293: (o123 = 4)
          · refine zS_g (by unfold r32; omega) ?_ -- 294
            refine zS_i (fun h139 => ?_) (fun h139 => ?_) -- 295: (o132 = 7)
            · unfold f_M_perfect_115
              exact zS_s ⟨rfl, rfl, (by first | decide | omega)⟩
            · unfold f_M_perfect_114
              unfold f_M_perfect_115
              exact zS_s ⟨rfl, rfl, (by first | decide | omega)⟩
          · unfold f_M_perfect_114
            unfold f_M_perfect_115
            exact zS_s ⟨rfl, rfl, (by first | decide | omega)⟩
      · unfold f_M_perfect_39
        refine zS_g (by first | decide | omega) ?_ -- 305
        refine zS_g (by first | decide | omega) ?_ -- 306
        refine zS_g (by first | decide | omega) ?_ -- 307
        refine zS_b (s_mod (K := K) (a := ((B 13 w 28 y) - (B 13 w 28 z))) (b := 7) (by unfold r32; omega) (by decide) (by decide)) ?_
        rintro o141 F B ⟨rfl, rfl, q140⟩
        refine zS_b (s_toneAt (K := K) b0.1 vy (by first | decide | omega)) ?_
        rintro o144 F B ⟨rfl, rfl, q143⟩
        refine zS_b (s_toneAt (K := K) b0.1 vz (by first | decide | omega)) ?_
        rintro o147 F B ⟨rfl, rfl, q146⟩
        refine zS_b (s_mod (K := K) (a := (o144 - o147)) (b := 12) (by unfold r32; omega) (by decide) (by decide)) ?_
        rintro o150 F B ⟨rfl, rfl, q149⟩
        refine zS_g (by unfold r32; omega) ?_ -- 312
        refine zS_i (fun h152 => ?_) (fun h152 => ?_) -- 313: (o141 = 0)
        · refine zS_g (by unfold r32; omega) ?_ -- 314
          refine zS_i (fun h153 => ?_) (fun h153 => ?_) -- 315: (o150 = 0)
          · unfold f_M_perfect_115
            exact zS_s ⟨rfl, rfl, (by first | decide | omega)⟩
          · unfold f_M_perfect_97
            refine zS_g (by unfold r32; omega) ?_ -- 319
            refine zS_i (fun h154 => ?_) (fun h154 => ?_) -- 320: (o141 = 4)
            · refine zS_g (by unfold r32; omega) ?_ -- 321
              refine zS_i (fun h155 => ?_) (fun h155 => ?_) -- 322: (o150 = 7)
              · unfold f_M_perfect_115
                exact zS_s ⟨rfl, rfl, (by first | decide | omega)⟩
              · unfold f_M_perfect_114
                unfold f_M_perfect_115
                exact zS_s ⟨rfl, rfl, (by first | decide | omega)⟩
            · unfold f_M_perfect_114
              unfold f_M_perfect_115
              exact zS_s ⟨rfl, rfl, (by first | decide | omega)⟩
        · unfold f_M_perfect_97
          refine zS_g (by unfold r32; omega) ?_ -- 332
          refine zS_i (fun h156 => ?_) (fun h156 => ?_) -- 333: (o141 = 4)
          · refine zS_g (by unfold r32; omega) ?_ -- 334
            refine zS_i (fun h157 => ?_) (fun h157 => ?_) -- 335: (o150 = 7)
            · unfold f_M_perfect_115
              exact zS_s ⟨rfl, rfl, (by first | decide | omega)⟩
            · unfold f_M_perfect_114
              unfold f_M_perfect_115
              exact zS_s ⟨rfl, rfl, (by first | decide | omega)⟩
          · unfold f_M_perfect_114
            unfold f_M_perfect_115
            exact zS_s ⟨rfl, rfl, (by first | decide | omega)⟩
theorem s_isPar134 {K : Nat} {w s : Int} {F : zF} {B : zB} (b0 : (0 ≤ w ∧ w < 3) ∧ True) {y1 y2 y3 y4 k : Int} (v1 : PV w B y1) (v2 : PV w B y2) (v3 : PV w B y3) (v4 : PV w B y4) (g1 : 0 ≤ y1) (g2 : 0 ≤ y2) (g3 : 0 ≤ y3) (g4 : 0 ≤ y4) (rk : r32 k) (rs : r32 s) : zS (f_M_isParallel_134 K y4 y3 y2 y1 w k s F B) (fun r F' B' => F' = F ∧ B' = B ∧ (r = 0 ∨ r = 1)) := by
  have vy1 := v1
  have vy2 := v2
  have vy3 := v3
  have vy4 := v4
  have c1 := v1.2.2 g1
  have c2 := v2.2.2 g2
  have c3 := v3.2.2 g3
  have c4 := v4.2.2 g4
  have d1 := v1.2.1
  have d2 := v2.2.1
  have d3 := v3.2.1
  have d4 := v4.2.1
  unfold f_M_isParallel_134
  refine zS_g (by unfold r32; omega) ?_ -- 1
  refine zS_i (fun h1 => ?_) (fun h1 => ?_) -- 2: (s = 0)
  · exact zS_s ⟨rfl, rfl, (by first | decide | omega)⟩
  · refine zS_b (s_perfect (K := K) ⟨b0.1, True.intro⟩ vy1 vy2 (by first | decide | omega) (by first | decide | omega)) ?_
    rintro o3 F B ⟨rfl, rfl, q2⟩
    refine zS_b (s_perfect (K := K) ⟨b0.1, True.intro⟩ vy3 vy4 (by first | decide | omega) (by first | decide | omega)) ?_
    rintro o6 F B ⟨rfl, rfl, q5⟩
    refine zS_g (by unfold r32; omega) ?_ -- 6
    refine zS_i (fun h8 => ?_) (fun h8 => ?_) -- 7: (3 ≤ k)
    · refine zS_b (s_toneAt (K := K) b0.1 vy1 (by first | decide | omega)) ?_
      rintro o10 F B ⟨rfl, rfl, q9⟩
      refine zS_b (s_toneAt (K := K) b0.1 vy2 (by first | decide | omega)) ?_
      rintro o13 F B ⟨rfl, rfl, q12⟩
      refine zS_g (by unfold r32; omega) ?_ -- 10
      refine zS_g (by unfold r32; omega) ?_ -- 11
      refine zS_i (fun h15 => ?_) (fun h15 => ?_) -- 12: (o10 < o13)
      · refine zS_g (by first | decide | omega) ?_ -- 13
        refine zS_g (by first | decide | omega) ?_ -- 14
        refine zS_g (by first | decide | omega) ?_ -- 15
        unfold f_M_isParallel_234
        refine zS_g (by unfold r32; omega) ?_ -- 17
        refine zS_i (fun h16 => ?_) (fun h16 => ?_) -- 18: (o3 ≤ 0)
        · unfold f_M_isParallel_265
          unfold f_M_isParallel_266
          refine zS_g (by first | decide | omega) ?_ -- 21
          exact zS_s ⟨rfl, rfl, (by first | decide | omega)⟩
        · refine zS_g (by unfold r32; omega) ?_ -- 23
          refine zS_i (fun h17 => ?_) (fun h17 => ?_) -- 24: (o6 = o3)
          · unfold f_M_isParallel_265
            unfold f_M_isParallel_266
            refine zS_g (by first | decide | omega) ?_ -- 27
            exact zS_s ⟨rfl, rfl, (by first | decide | omega)⟩
          · refine zS_g (by unfold r32; omega) ?_ -- 29
            refine zS_i (fun h18 => ?_) (fun h18 => ?_) -- 30: (2 < ((B 13 w 28 y2) - (B 13 w 28 y4)))
            · unfold f_M_isParallel_261
              unfold f_M_isParallel_266
              refine zS_g (by first | decide | omega) ?_ -- 33
              exact zS_s ⟨rfl, rfl, (by first | decide | omega)⟩
            · refine zS_i (fun h19 => ?_) (fun h19 => ?_) -- 35: ((-2) ≤ ((B 13 w 28 y2) - (B 13 w 28 y4)))
              · unfold f_M_isParallel_265
                unfold f_M_isParallel_266
                refine zS_g (by first | decide | omega) ?_ -- 38
                exact zS_s ⟨rfl, rfl, (by first | decide | omega)⟩
              · unfold f_M_isParallel_261
                unfold f_M_isParallel_266
                refine zS_g (by first | decide | omega) ?_ -- 42
                exact zS_s ⟨rfl, rfl, (by first | decide | omega)⟩
      · refine zS_g (by first | decide | omega) ?_ -- 44
        refine zS_g (by first | decide | omega) ?_ -- 45
        refine zS_g (by first | decide | omega) ?_ -- 46
        unfold f_M_isParallel_234
        refine zS_g (by unfold r32; omega) ?_ -- 48
        refine zS_i (fun h20 => ?_) (fun h20 => ?_) -- 49: (o3 ≤ 0)
        · unfold f_M_isParallel_265
          unfold f_M_isParallel_266
          refine zS_g (by first | decide | omega) ?_ -- 52
          exact zS_s ⟨rfl, rfl, (by first | decide | omega)⟩
        · refine zS_g (by unfold r32; omega) ?_ -- 54
          refine zS_i (fun h21 => ?_) (fun h21 => ?_) -- 55: (o6 = o3)
          · unfold f_M_isParallel_265
            unfold f_M_isParallel_266
            refine zS_g (by first | decide | omega) ?_ -- 58
            exact zS_s ⟨rfl, rfl, (by first | decide | omega)⟩
          · refine zS_g (by unfold r32; omega) ?_ -- 60
            refine zS_i (fun h22 => ?_) (fun h22 => ?_) -- 61: (2 < ((B 13 w 28 y1) - (B 13 w 28 y3)))
            · unfold f_M_isParallel_261
              unfold f_M_isParallel_266
              refine zS_g (by first | decide | omega) ?_ -- 64
              exact zS_s ⟨rfl, rfl, (by first | decide | omega)⟩
            · refine zS_i (fun h23 => ?_) (fun h23 => ?_) -- 66: ((-2) ≤ ((B 13 w 28 y1) - (B 13 w 28 y3)))
              · unfold f_M_isParallel_265
                unfold f_M_isParallel_266
                refine zS_g (by first | decide | omega) ?_ -- 69
                exact zS_s ⟨rfl, rfl, (by first | decide | omega)⟩
              · unfold f_M_isParallel_261
                unfold f_M_isParallel_266
                refine zS_g (by first | decide | omega) ?_ -- 73
                exact zS_s ⟨rfl, rfl, (by first | decide | omega)⟩
    · refine zS_g (by unfold r32; omega) ?_ -- 75
      refine zS_i (fun h24 => ?_) (fun h24 => ?_) -- 76: (o3 = k)
      · refine zS_g (by unfold r32; omega) ?_ -- 77
        refine zS_i (fun h25 => ?_) (fun h25 => ?_) -- 78: (o6 = k)
        · unfold f_M_isParallel_185
          refine zS_g (by first | decide | omega) ?_ -- 80
          exact zS_s ⟨rfl, rfl, (by first | decide | omega)⟩
        · unfold f_M_isParallel_184
          unfold f_M_isParallel_185
          refine zS_g (by first | decide | omega) ?_ -- 84
          exact zS_s ⟨rfl, rfl, (by first | decide | omega)⟩
      · unfold f_M_isParallel_184
        unfold f_M_isParallel_185
        refine zS_g (by first | decide | omega) ?_ -- 88
        exact zS_s ⟨rfl, rfl, (by first | decide | omega)⟩
theorem s_isParallel {K : Nat} {V w : Int} {F : zF} {B : zB} (hR : RDW V w F B) (hM : MW5 V w F B) (hK : 1000 ≤ K) {t : Int} (t0 : 1 ≤ t) (t1 : t < F 13 w 72) {u v k : Int} (u0 : 0 ≤ u) (u1 : u < V) (v0 : 0 ≤ v) (v1 : v < V) (rk : r32 k) : zS (f_M_isParallel K w t k u v F B) (fun r F' B' => F' = F ∧ B' = B ∧ (r = 0 ∨ r = 1)) := by
  have b0 := rd_0 hR
  have m0 := hM.1
  unfold f_M_isParallel
  refine zS_b (s_lineAt (K := K) (t := t) (u := u) hR hM hK (by first | decide | omega) (by first | decide | omega) (by first | decide | omega) (by first | decide | omega)) ?_
  rintro o2 F B ⟨rfl, rfl, v1⟩
  have vo2 := v1
  obtain ⟨v1a, v1b, v1c⟩ := v1
  refine zS_b (s_lineAt (K := K) (t := t) (u := v) hR hM hK (by first | decide | omega) (by first | decide | omega) (by first | decide | omega) (by first | decide | omega)) ?_
  rintro o5 F B ⟨rfl, rfl, v4⟩
  have vo5 := v4
  obtain ⟨v4a, v4b, v4c⟩ := v4
  refine zS_b (s_lineAt (K := K) (t := (t - 1)) (u := u) hR hM hK (by first | decide | omega) (by first | decide | omega) (by first | decide | omega) (by first | decide | omega)) ?_
  rintro o8 F B ⟨rfl, rfl, v7⟩
  have vo8 := v7
  obtain ⟨v7a, v7b, v7c⟩ := v7
  refine zS_b (s_lineAt (K := K) (t := (t - 1)) (u := v) hR hM hK (by first | decide | omega) (by first | decide | omega) (by first | decide | omega) (by first | decide | omega)) ?_
  rintro o11 F B ⟨rfl, rfl, v10⟩
  have vo11 := v10
  obtain ⟨v10a, v10b, v10c⟩ := v10
  refine zS_g (by unfold r32; omega) ?_ -- 5
  refine zS_i (fun h13 => ?_) (fun h13 => ?_) -- 6: (o2 < 0)
  · unfold f_M_isParallel_77
    exact zS_s ⟨rfl, rfl, (by first | decide | omega)⟩
  · refine zS_g (by unfold r32; omega) ?_ -- 9
    refine zS_i (fun h14 => ?_) (fun h14 => ?_) -- 10: (o5 < 0)
    · unfold f_M_isParallel_77
      exact zS_s ⟨rfl, rfl, (by first | decide | omega)⟩
    · refine zS_g (by unfold r32; omega) ?_ -- 13
      refine zS_i (fun h15 => ?_) (fun h15 => ?_) -- 14: (o8 < 0)
      · unfold f_M_isParallel_77
        exact zS_s ⟨rfl, rfl, (by first | decide | omega)⟩
      · refine zS_g (by unfold r32; omega) ?_ -- 17
        refine zS_i (fun h16 => ?_) (fun h16 => ?_) -- 18: (o11 < 0)
        · unfold f_M_isParallel_77
          exact zS_s ⟨rfl, rfl, (by first | decide | omega)⟩
        · refine zS_b (s_beginsAt (K := K) (t := t) (u := u) hR hM hK (by first | decide | omega) (by first | decide | omega) (by first | decide | omega) (by first | decide | omega) (by first | decide | omega)) ?_
          rintro o18 F B ⟨rfl, rfl, q17⟩
          refine zS_g (by unfold r32; omega) ?_ -- 22
          refine zS_i (fun h20 => ?_) (fun h20 => ?_) -- 23: (o18 = 0)
          · unfold f_M_isParallel_77
            exact zS_s ⟨rfl, rfl, (by first | decide | omega)⟩
          · refine zS_b (s_beginsAt (K := K) (t := t) (u := v) hR hM hK (by first | decide | omega) (by first | decide | omega) (by first | decide | omega) (by first | decide | omega) (by first | decide | omega)) ?_
            rintro o22 F B ⟨rfl, rfl, q21⟩
            refine zS_g (by unfold r32; omega) ?_ -- 27
            refine zS_i (fun h24 => ?_) (fun h24 => ?_) -- 28: (o22 = 0)
            · unfold f_M_isParallel_77
              exact zS_s ⟨rfl, rfl, (by first | decide | omega)⟩
            · refine zS_b (s_toneAt (K := K) b0.1 vo2 (by first | decide | omega)) ?_
              rintro o26 F B ⟨rfl, rfl, q25⟩
              refine zS_b (s_toneAt (K := K) b0.1 vo8 (by first | decide | omega)) ?_
              rintro o29 F B ⟨rfl, rfl, q28⟩
              refine zS_b (s_toneAt (K := K) b0.1 vo5 (by first | decide | omega)) ?_
              rintro o32 F B ⟨rfl, rfl, q31⟩
              refine zS_b (s_toneAt (K := K) b0.1 vo11 (by first | decide | omega)) ?_
              rintro o35 F B ⟨rfl, rfl, q34⟩
              refine zS_g (by unfold r32; omega) ?_ -- 35
              refine zS_i (fun h37 => ?_) (fun h37 => ?_) -- 36: ((o26 - o29) ≤ 0)
              · unfold f_M_isParallel_119
                refine zS_g (by unfold r32; omega) ?_ -- 38
                refine zS_i (fun h38 => ?_) (fun h38 => ?_) -- 39: (0 ≤ (o26 - o29))
                · unfold f_M_isParallel_133
                  exact s_isPar134 ⟨b0.1, True.intro⟩ vo2 vo5 vo8 vo11 (by first | decide | omega) (by first | decide | omega) (by first | decide | omega) (by first | decide | omega) rk (by decide) -- 41 f_M_isParallel_134
                · refine zS_g (by unfold r32; omega) ?_ -- 42
                  refine zS_i (fun h39 => ?_) (fun h39 => ?_) -- 43: (0 ≤ (o32 - o35))
                  · unfold f_M_isParallel_133
                    exact s_isPar134 ⟨b0.1, True.intro⟩ vo2 vo5 vo8 vo11 (by first | decide | omega) (by first | decide | omega) (by first | decide | omega) (by first | decide | omega) rk (by decide) -- 45 f_M_isParallel_134
                  · unfold f_M_isParallel_129
                    exact s_isPar134 ⟨b0.1, True.intro⟩ vo2 vo5 vo8 vo11 (by first | decide | omega) (by first | decide | omega) (by first | decide | omega) (by first | decide | omega) rk (by decide) -- 47 f_M_isParallel_134
              · refine zS_g (by unfold r32; omega) ?_ -- 48
                refine zS_i (fun h40 => ?_) (fun h40 => ?_) -- 49: (0 < (o32 - o35))
                · unfold f_M_isParallel_129
                  exact s_isPar134 ⟨b0.1, True.intro⟩ vo2 vo5 vo8 vo11 (by first | decide | omega) (by first | decide | omega) (by first | decide | omega) (by first | decide | omega) rk (by decide) -- 51 f_M_isParallel_134
                · unfold f_M_isParallel_119
                  refine zS_g (by unfold r32; omega) ?_ -- 53
                  refine zS_i (fun h41 => ?_) (fun h41 => ?_) -- 54: (0 ≤ (o26 - o29))
                  · unfold f_M_isParallel_133
                    exact s_isPar134 ⟨b0.1, True.intro⟩ vo2 vo5 vo8 vo11 (by first | decide | omega) (by first | decide | omega) (by first | decide | omega) (by first | decide | omega) rk (by decide) -- 56 f_M_isParallel_134
                  · refine zS_g (by unfold r32; omega) ?_ -- 57
                    refine zS_i (fun h42 => ?_) (fun h42 => ?_) -- 58: (0 ≤ (o32 - o35))
                    · unfold f_M_isParallel_133
                      exact s_isPar134 ⟨b0.1, True.intro⟩ vo2 vo5 vo8 vo11 (by first | decide | omega) (by first | decide | omega) (by first | decide | omega) (by first | decide | omega) rk (by decide) -- 60 f_M_isParallel_134
                    · unfold f_M_isParallel_129
                      exact s_isPar134 ⟨b0.1, True.intro⟩ vo2 vo5 vo8 vo11 (by first | decide | omega) (by first | decide | omega) (by first | decide | omega) (by first | decide | omega) rk (by decide) -- 62 f_M_isParallel_134
end
