section
/-! ===== the events are placed, both sides ===== -/
theorem EVW_h {w e x : Int} {F F' : zF} {B Bm B' Bm' : zB} (h : EVW w e x F B Bm) (h1 : ∀ k, 1 ≤ k → k ≤ 10 → F' 1 e k = F 1 e k) (h2 : ∀ k y, B' 1 e k y = B 1 e k y) (h3 : ∀ k, 16 ≤ k → k ≤ 26 → Bm' 13 w k x = Bm 13 w k x) (h4 : ∀ k y, 28 ≤ k → k ≤ 29 → 6 * x ≤ y → y < 6 * x + 6 → Bm' 13 w k y = Bm 13 w k y) (h5 : ∀ y, Bm' 14 0 8 y = Bm 14 0 8 y) : EVW w e x F' B' Bm' := by
  unfold EVW EPR at h ⊢
  simp only [h1 1 (by decide) (by decide), h1 2 (by decide) (by decide), h1 3 (by decide) (by decide), h1 4 (by decide) (by decide), h1 5 (by decide) (by decide), h1 6 (by decide) (by decide), h1 7 (by decide) (by decide), h1 8 (by decide) (by decide), h1 9 (by decide) (by decide), h1 10 (by decide) (by decide), h2, h5, h3 16 (by decide) (by decide), h3 17 (by decide) (by decide), h3 18 (by decide) (by decide), h3 19 (by decide) (by decide), h3 20 (by decide) (by decide), h3 21 (by decide) (by decide), h3 22 (by decide) (by decide), h3 23 (by decide) (by decide), h3 24 (by decide) (by decide), h3 25 (by decide) (by decide), h3 26 (by decide) (by decide)]
  obtain ⟨a1, a2, a3, a4, a5, a6, a7, a8, a9, a10, a11, e1, e2, e3, e4, e5⟩ := h
  refine ⟨a1, a2, a3, a4, a5, a6, a7, a8, a9, a10, a11, trivial, e2, e3, fun k u v => ?_, e5⟩
  rw [h4 28 _ (by decide) (by decide) (by first | decide | omega) (by first | decide | omega), h4 29 _ (by decide) (by decide) (by first | decide | omega) (by first | decide | omega)]
  exact e4 k u v
theorem sumZ_m {g : Int → Int} {m : Nat} (h : ∀ j : Int, 0 ≤ j → j < m → 1 ≤ g j) : ∀ (d k : Nat), k + d = m → sumZ g k + d ≤ sumZ g m := by
  intro d
  induction d with
  | zero => intro k hk; rw [show k = m by omega]; omega
  | succ d ih =>
    intro k hk
    have := ih (k + 1) (by first | decide | omega)
    rw [sumZ] at this
    have := h k (by first | decide | omega) (by first | decide | omega)
    omega
theorem sumZ_0 {g : Int → Int} {m : Nat} (h : ∀ j : Int, 0 ≤ j → j < m → 1 ≤ g j) : ∀ (k : Nat), k ≤ m → 0 ≤ sumZ g k := by
  intro k
  induction k with
  | zero => intro _; exact Int.le_refl _
  | succ k ih =>
    intro hk
    have := ih (by first | decide | omega)
    have := h k (by first | decide | omega) (by first | decide | omega)
    rw [sumZ]
    omega
/-- what placing changes -/
def PLF (q v w k m : Int) (B : zB) (F : zF) (Fm : zF) (Bm : zB) (F' : zF) (Fm' : zF) (Bm' : zB) : Prop := (∀ c y t, ¬ (c = 4 ∧ y = q ∧ t = 7) → ¬ (c = 1 ∧ t = 0 ∧ ∃ j, k ≤ j ∧ j < m ∧ B 4 q 5 j = y) → F' c y t = F c y t) ∧ (∀ c y t, ¬ (c = 14 ∧ y = 0 ∧ t ≤ 1) → Fm' c y t = Fm c y t) ∧ (∀ c y t x, ¬ (c = 13 ∧ y = w ∧ (t = 14 ∨ t = 15) ∧ 1000 * v + k ≤ x ∧ x < 1000 * v + m) → Bm' c y t x = Bm c y t x)
theorem P_pl {K : zK} {Km m : Nat} {q v w : Int} {B : zB} {g : Int → Int} (hKm : 812851200 < Km) (h4 : 0 ≤ q ∧ q < K.2 4) (v0 : 0 ≤ v ∧ v < 4) (w0 : 0 ≤ w ∧ w < 3) (hV : ∀ t, 0 ≤ t → t < 200 → 0 ≤ B 4 q 5 t ∧ B 4 q 5 t < K.2 1) (hI : inJ q B) (m1 : m ≤ 200) (hg : ∀ j : Int, 0 ≤ j → j < m → 1 ≤ g j) (hs : sumZ g m ≤ 1000000000000) : ∀ (r n n' k : Nat) {F : zF} {Fm : zF} {Bm : zB}, k + r = m → r < n → r < n' → F 4 q 6 = m → Bm 13 w 12 v = m → F 4 q 7 = sumZ g k → Fm 14 0 0 = nu (sumZ g k) → Fm 14 0 1 = de (sumZ g k) → (∀ j : Int, 0 ≤ j → j < m → F 1 (B 4 q 5 j) 1 = g j ∧ Bm 13 w 16 (1000 * v + j) = nu (g j) ∧ Bm 13 w 17 (1000 * v + j) = de (g j)) → zP (f_Part_placeEvents_7 K n k q F B) (f_M_places_8 Km n' k w v Fm Bm) (fun _ F' B' _ Fm' Bm' => B' = B ∧ F' 4 q 7 = sumZ g m ∧ (∀ j : Nat, k ≤ j → j < m → F' 1 (B 4 q 5 j) 0 = sumZ g j ∧ Bm' 13 w 14 (1000 * v + j) = nu (sumZ g j) ∧ Bm' 13 w 15 (1000 * v + j) = de (sumZ g j)) ∧ PLF q v w k m B F Fm Bm F' Fm' Bm') := by
  intro r
  induction r with
  | zero =>
    intro n n' k F Fm Bm kr hn hn' c6 c12 c7 d0 d1 hl
    obtain ⟨n, rfl⟩ : ∃ m, n = m + 1 := ⟨n - 1, (by first | decide | omega)⟩
    obtain ⟨n', rfl⟩ : ∃ m, n' = m + 1 := ⟨n' - 1, (by first | decide | omega)⟩
    have rk : r32 (k : Int) := by unfold r32; omega
    have rm : r32 (m : Int) := by unfold r32; omega
    rw [f_Part_placeEvents_7, f_M_places_8, if_pos h4, if_pos rk, c6, if_pos rm, if_pos (by first | decide | omega), if_pos w0, if_pos v0, if_pos rk, c12, if_pos rm, if_pos (by first | decide | omega)]
    exact zP_s ⟨rfl, by rw [c7, show k = m by omega], fun j a b => (by first | decide | omega), fun _ _ _ _ _ => rfl, fun _ _ _ _ => rfl, fun _ _ _ _ _ => rfl⟩
  | succ r ih =>
    intro n n' k F Fm Bm kr hn hn' c6 c12 c7 d0 d1 hl
    obtain ⟨n, rfl⟩ : ∃ m, n = m + 1 := ⟨n - 1, (by first | decide | omega)⟩
    obtain ⟨n', rfl⟩ : ∃ m, n' = m + 1 := ⟨n' - 1, (by first | decide | omega)⟩
    have rk : r32 (k : Int) := by unfold r32; omega
    have rm : r32 (m : Int) := by unfold r32; omega
    have he := hV k (by first | decide | omega) (by first | decide | omega)
    obtain ⟨l1, l2, l3⟩ := hl k (by first | decide | omega) (by first | decide | omega)
    have p0 := sumZ_0 hg k (by first | decide | omega)
    have p1 := sumZ_m hg r (k + 1) (by first | decide | omega)
    have g1 := hg k (by first | decide | omega) (by first | decide | omega)
    rw [sumZ] at p1
    rw [f_Part_placeEvents_7, f_M_places_8, if_pos h4, if_pos rk, c6, if_pos rm, if_neg (by first | decide | omega), if_pos (by first | decide | omega), if_pos he, if_pos w0, if_pos v0, if_pos rk, c12, if_pos rm, if_neg (by first | decide | omega), if_pos (by first | decide | omega), l1, c7]
    generalize hM : zup4 (zup4 Bm 13 w 14 (1000 * v + k) (Fm 14 0 0)) 13 w 15 (1000 * v + k) (Fm 14 0 1) = M
    have mn : ∀ c y t x, ¬ (c = 13 ∧ y = w ∧ (t = 14 ∨ t = 15) ∧ x = 1000 * v + k) → M c y t x = Bm c y t x := fun c y t x h => by rw [← hM, zup4_v, if_neg (by first | decide | omega), zup4_v, if_neg (by first | decide | omega)]
    have m14 : M 13 w 14 (1000 * v + k) = nu (sumZ g k) := by rw [← hM, zup4_v, if_neg (by first | decide | omega), zup4_v, if_pos (by first | decide | omega), d0]
    have m15 : M 13 w 15 (1000 * v + k) = de (sumZ g k) := by rw [← hM, zup4_v, if_pos (by first | decide | omega), d1]
    rw [mn 13 w 16 _ (by first | decide | omega), mn 13 w 17 _ (by first | decide | omega), l2, l3, d0, d1, L_plusR hKm (FR_r p0) (FR_r (by first | decide | omega)) (by first | decide | omega), zb_s]
    generalize hX : zup3 (zup3 F 1 (B 4 q 5 k) 0 (sumZ g k)) 4 q 7 (sumZ g k + g k) = X
    have xn : ∀ c y t, ¬ (c = 4 ∧ y = q ∧ t = 7) → ¬ (c = 1 ∧ t = 0 ∧ y = B 4 q 5 k) → X c y t = F c y t := fun c y t h h' => by rw [← hX, zup3_v, if_neg (by first | decide | omega), zup3_v, if_neg (by first | decide | omega)]
    have x7 : X 4 q 7 = sumZ g (k + 1) := by rw [← hX, zup3_v, if_pos (by first | decide | omega), sumZ]
    have x0 : X 1 (B 4 q 5 k) 0 = sumZ g k := by rw [← hX, zup3_v, if_neg (by first | decide | omega), zup3_v, if_pos (by first | decide | omega)]
    have yn : ∀ c y t, ¬ (c = 14 ∧ y = 0 ∧ t ≤ 1) → fr Fm (sumZ g k + g k) c y t = Fm c y t := fun c y t h => fr_n h
    have ih' := ih n n' (k + 1) (F := X) (Fm := fr Fm (sumZ g k + g k)) (Bm := M) (by first | decide | omega) (by first | decide | omega) (by first | decide | omega) (by rw [xn 4 q 6 (by first | decide | omega) (by first | decide | omega)]; exact c6) (by rw [mn 13 w 12 v (by first | decide | omega)]; exact c12) x7 (by rw [fr_0, sumZ]) (by rw [fr_1, sumZ]) (fun j a b => by
      rw [xn 1 _ 1 (by first | decide | omega) (by first | decide | omega), mn 13 w 16 _ (by first | decide | omega), mn 13 w 17 _ (by first | decide | omega)]
      exact hl j a b)
    rw [show ((k + 1 : Nat) : Int) = (k : Int) + 1 by omega] at ih'
    refine zP_m ih' ?_
    intro r1 F' B' r1' Fm' Bm' ⟨q1, q2, q3, q4, q5, q6⟩
    have nk : ¬ ∃ j : Int, (k : Int) + 1 ≤ j ∧ j < m ∧ B 4 q 5 j = B 4 q 5 k := fun ⟨j, j0, j1, j2⟩ => by
      have := hI j k (by first | decide | omega) (by first | decide | omega) (by first | decide | omega) (by first | decide | omega) j2
      omega
    refine ⟨q1, q2, fun j a b => ?_, fun c y t h h' => ?_, fun c y t h => ?_, fun c y t x h => ?_⟩
    · by_cases e : j = k
      · rw [e, q4 1 _ 0 (by first | decide | omega) (fun z => nk z.2.2), x0, q6 13 w 14 _ (by first | decide | omega), q6 13 w 15 _ (by first | decide | omega), m14, m15]
        exact ⟨rfl, rfl, rfl⟩
      · exact q3 j (by first | decide | omega) b
    · rw [q4 c y t h (fun ⟨z1, z2, j, j0, j1, j2⟩ => h' ⟨z1, z2, j, (by first | decide | omega), j1, j2⟩), xn c y t h (fun ⟨z1, z2, z3⟩ => h' ⟨z1, z2, k, (by first | decide | omega), (by first | decide | omega), z3.symm⟩)]
    · rw [q5 c y t h, yn c y t h]
    · rw [q6 c y t x (by first | decide | omega), mn c y t x (by first | decide | omega)]
theorem P_places {K : zK} {Km m : Nat} {q v w : Int} {B : zB} {g : Int → Int} {F : zF} {Fm : zF} {Bm : zB} (hK : 3002 ≤ K.1) (hKm : 812851200 < Km) (h4 : 0 ≤ q ∧ q < K.2 4) (v0 : 0 ≤ v ∧ v < 4) (w0 : 0 ≤ w ∧ w < 3) (hV : ∀ t, 0 ≤ t → t < 200 → 0 ≤ B 4 q 5 t ∧ B 4 q 5 t < K.2 1) (hI : inJ q B) (m1 : m ≤ 200) (hg : ∀ j : Int, 0 ≤ j → j < m → 1 ≤ g j) (hs : sumZ g m ≤ 1000000000000) (c6 : F 4 q 6 = m) (c12 : Bm 13 w 12 v = m) (hl : ∀ j : Int, 0 ≤ j → j < m → F 1 (B 4 q 5 j) 1 = g j ∧ Bm 13 w 16 (1000 * v + j) = nu (g j) ∧ Bm 13 w 17 (1000 * v + j) = de (g j)) : zP (f_Part_placeEvents K q F B) (f_M_places Km w v Fm Bm) (fun _ F' B' _ Fm' Bm' => B' = B ∧ F' 4 q 7 = sumZ g m ∧ (∀ j : Nat, j < m → F' 1 (B 4 q 5 j) 0 = sumZ g j ∧ Bm' 13 w 14 (1000 * v + j) = nu (sumZ g j) ∧ Bm' 13 w 15 (1000 * v + j) = de (sumZ g j)) ∧ PLF q v w 0 m B F Fm Bm F' Fm' Bm') := by
  unfold f_Part_placeEvents f_M_places
  rw [if_pos h4, L_isR hKm (p := 0) ⟨by decide, ⟨WW, by decide⟩, by decide, by decide⟩ (by decide), zb_s]
  have := P_pl (K := K) (Km := Km) (m := m) (q := q) (v := v) (w := w) (B := B) (g := g) hKm h4 v0 w0 hV hI m1 hg hs m K.1 Km 0 (F := zup3 F 4 q 7 0) (Fm := fr Fm 0) (Bm := Bm) (by first | decide | omega) (by first | decide | omega) (by first | decide | omega) (by rw [zup3_v, if_neg (by first | decide | omega)]; exact c6) c12 (by rw [zup3_v, if_pos (by first | decide | omega)]; rfl) (by rw [fr_0]; rfl) (by rw [fr_1]; rfl) (fun j a b => by rw [zup3_v, if_neg (by first | decide | omega)]; exact hl j a b)
  refine zP_m this ?_
  intro r1 F' B' r1' Fm' Bm' ⟨q1, q2, q3, q4, q5, q6⟩
  refine ⟨q1, q2, fun j b => q3 j (by first | decide | omega) b, fun c y t h h' => ?_, fun c y t h => ?_, fun c y t x h => q6 c y t x h⟩
  · rw [q4 c y t h h', zup3_v, if_neg (by first | decide | omega)]
  · rw [q5 c y t h, fr_n h]
end
