section
section
/-! ===== the kind of chord on a class, reference ===== -/
variable {K : Nat} {V w : Int} {S : zV}
/-- of the first j classes (k apart), those dd letters above class k: none, or one, x tones above it -/
def KIx (k j dd x : Int) (B : zB) : Prop := (x = -1 ∧ ∀ i, 0 ≤ i → i < j → ¬ i = k → ¬ (B 14 0 98 i - B 14 0 98 k) % 7 = dd) ∨ ∃ i, 0 ≤ i ∧ i < j ∧ ¬ i = k ∧ (B 14 0 98 i - B 14 0 98 k) % 7 = dd ∧ x = (ntV (B 14 0 98 i) + B 14 0 99 i - ntV (B 14 0 98 k) - B 14 0 99 k) % 12 ∧ ∀ i', 0 ≤ i' → i' < j → ¬ i' = k → (B 14 0 98 i' - B 14 0 98 k) % 7 = dd → i' = i
theorem KIx_b {k j dd x : Int} {B : zB} (h : KIx k j dd x B) : -1 ≤ x ∧ x < 12 := by
  rcases h with ⟨a, _⟩ | ⟨i, _, _, _, _, a, _⟩
  · omega
  · omega
/-- one class more, which isn't of these -/
theorem KIx_n {k j dd x : Int} {B : zB} (h : KIx k j dd x B) (n : j = k ∨ ¬ (B 14 0 98 j - B 14 0 98 k) % 7 = dd) : KIx k (j + 1) dd x B := by
  rcases h with ⟨a, b⟩ | ⟨i, i0, i1, i2, i3, i4, i5⟩
  · refine Or.inl ⟨a, fun i i0 i1 i2 => ?_⟩
    by_cases z : i = j
    · rw [z] at i2 ⊢
      rcases n with n | n
      · exact absurd n i2
      · exact n
    · exact b i i0 (by omega) i2
  · refine Or.inr ⟨i, i0, by omega, i2, i3, i4, fun i' j0 j1 j2 j3 => ?_⟩
    by_cases z : i' = j
    · rw [z] at j2 j3
      rcases n with n | n
      · exact absurd n j2
      · exact absurd j3 n
    · exact i5 i' j0 (by omega) j2 j3
theorem KIx_a {k j dd : Int} {B : zB} (h : KIx k j dd (-1) B) (j0 : 0 ≤ j) (n : ¬ j = k) (e : (B 14 0 98 j - B 14 0 98 k) % 7 = dd) : KIx k (j + 1) dd ((ntV (B 14 0 98 j) + B 14 0 99 j - ntV (B 14 0 98 k) - B 14 0 99 k) % 12) B := by
  rcases h with ⟨_, b⟩ | ⟨i, _, _, _, _, a, _⟩
  · refine Or.inr ⟨j, j0, by omega, n, e, rfl, fun i' j0 j1 j2 j3 => ?_⟩
    by_cases z : i' = j
    · exact z
    · exact absurd j3 (b i' j0 (by omega) j2)
  · omega
theorem dd_e {l r dd : Int} (hl : 0 ≤ l ∧ l ≤ 6) (hr : 0 ≤ r ∧ r ≤ 6) (hd : 0 ≤ dd ∧ dd ≤ 6) : (l - r) % 7 = dd ↔ l = (r + dd) % 7 := by omega
/-- two classes of one letter -/
theorem two_l {n i j : Int} {I : zI} {F : zF} {B : zB} (h : CLx n I F B) (hi : 0 ≤ i ∧ i < n) (hj : 0 ≤ j ∧ j < n) (ne : ¬ i = j) (e : B 14 0 98 i = B 14 0 98 j) : 2 ≤ cnI I (B 14 0 98 i) := by
  obtain ⟨_, _, _, h4, h5, h6, _⟩ := h
  obtain ⟨a1, a2, a3⟩ := h5 i hi.1 hi.2
  obtain ⟨b1, b2, b3⟩ := h5 j hj.1 hj.2
  refine cnI_2 h4 a2 b2 (fun z => ?_) a3 (by rw [e]; exact b3)
  rcases (show i < j ∨ j < i by omega) with q | q
  · exact h6 i j hi.1 q hj.2 ⟨e, z⟩
  · exact h6 j i hj.1 q hi.2 ⟨e.symm, z.symm⟩
/-- all classes are seen -/
theorem KIx_e {n k dd x : Int} {I : zI} {F : zF} {B : zB} (h : CLx n I F B) (hk : 0 ≤ k ∧ k < n) (hd : dd = 2 ∨ dd = 4 ∨ dd = 6) (c : cnI I (B 14 0 98 k) = 1) (q : KIx k n dd x B) : cnI I ((B 14 0 98 k + dd) % 7) ≤ 1 ∧ taV I (B 14 0 98 k) dd = m99 x := by
  have h' := h
  obtain ⟨_, _, _, h4, h5, h6, h7⟩ := h
  obtain ⟨k1, k2, k3⟩ := h5 k hk.1 hk.2
  have al := alI_1 h4 c k2 k3
  have lb : 0 ≤ (B 14 0 98 k + dd) % 7 ∧ (B 14 0 98 k + dd) % 7 ≤ 6 := by omega
  -- a class of that letter is in the list
  have inl : ∀ a, -2 ≤ a → a ≤ 2 → I ((B 14 0 98 k + dd) % 7) a = 1 → ∃ i, 0 ≤ i ∧ i < n ∧ ¬ i = k ∧ (B 14 0 98 i - B 14 0 98 k) % 7 = dd ∧ B 14 0 98 i = (B 14 0 98 k + dd) % 7 ∧ B 14 0 99 i = a := fun a a0 a1 e => by
    obtain ⟨i, i0, i1, i2, i3⟩ := h7 _ a lb.1 lb.2 a0 a1 e
    refine ⟨i, i0, i1, fun z => ?_, ?_, i2, i3⟩
    · rw [z] at i2; omega
    · rw [i2]; omega
  unfold taV
  rcases q with ⟨x1, x2⟩ | ⟨i, i0, i1, i2, i3, i4, i5⟩
  · have c0 : cnI I ((B 14 0 98 k + dd) % 7) = 0 := cnI_0 h4 (fun a a0 a1 e => by
      obtain ⟨i, i0, i1, i2, i3, _⟩ := inl a a0 a1 e
      exact x2 i i0 i1 i2 i3)
    rw [if_pos c0]
    refine ⟨by omega, ?_⟩
    unfold m99
    rw [if_pos x1]
  · obtain ⟨b1, b2, b3⟩ := h5 i i0 i1
    have el : B 14 0 98 i = (B 14 0 98 k + dd) % 7 := (dd_e b1 k1 (by omega)).mp i3
    rw [el] at b3
    have c1 : cnI I ((B 14 0 98 k + dd) % 7) = 1 := cnI_1 h4 b2 b3 (fun a' a0 a1 ne e => by
      obtain ⟨i', j0, j1, j2, j3, _, j5⟩ := inl a' a0 a1 e
      have := i5 i' j0 j1 j2 j3
      rw [this] at j5
      exact ne j5.symm)
    have al' := alI_1 h4 c1 b2 b3
    rw [if_neg (by omega), al, al', ← el, ← i4]
    refine ⟨by rw [el]; omega, ?_⟩
    unfold m99
    rw [if_neg (by omega)]
theorem x_ko10 {n k : Int} {I : zI} {F : zF} {B : zB} (h : CLx n I F B) (hk : 0 ≤ k ∧ k < n) : ∀ (d N : Nat) (j x2 x4 x6 : Int), j + d = n → 0 ≤ j → d < N → KIx k j 2 x2 B → KIx k j 4 x4 B → KIx k j 6 x6 B → (∀ i, 0 ≤ i → i < j → ¬ i = k → (B 14 0 98 i - B 14 0 98 k) % 7 = 2 ∨ (B 14 0 98 i - B 14 0 98 k) % 7 = 4 ∨ (B 14 0 98 i - B 14 0 98 k) % 7 = 6) → f_M_kindOn_10 K N j x6 x4 x2 k F B = some (ckV I (B 14 0 98 k), F, B) := by
  have h' := h
  obtain ⟨h1, h2, h3, h4, h5, h6, h7⟩ := h
  obtain ⟨k1, k2, k3⟩ := h5 k hk.1 hk.2
  -- one that can't stand there
  have bad : ∀ j, 0 ≤ j → j < n → ¬ j = k → (∃ i, 0 ≤ i ∧ i < n ∧ ¬ i = j ∧ B 14 0 98 i = B 14 0 98 j) ∨ ¬ ((B 14 0 98 j - B 14 0 98 k) % 7 = 2 ∨ (B 14 0 98 j - B 14 0 98 k) % 7 = 4 ∨ (B 14 0 98 j - B 14 0 98 k) % 7 = 6) → ckV I (B 14 0 98 k) = -1 := fun j j0 j1 nj z => by
    obtain ⟨b1, b2, b3⟩ := h5 j j0 j1
    have g1 := cnI_g h4 b2 b3
    refine ckV_n (fun q => ?_)
    obtain ⟨q0, q1, q2, q3, q4, q5, q6⟩ := q
    have o : (B 14 0 98 j - B 14 0 98 k) % 7 = 0 ∨ (B 14 0 98 j - B 14 0 98 k) % 7 = 1 ∨ (B 14 0 98 j - B 14 0 98 k) % 7 = 2 ∨ (B 14 0 98 j - B 14 0 98 k) % 7 = 3 ∨ (B 14 0 98 j - B 14 0 98 k) % 7 = 4 ∨ (B 14 0 98 j - B 14 0 98 k) % 7 = 5 ∨ (B 14 0 98 j - B 14 0 98 k) % 7 = 6 := by omega
    have dup : (B 14 0 98 j - B 14 0 98 k) % 7 = 2 ∨ (B 14 0 98 j - B 14 0 98 k) % 7 = 4 ∨ (B 14 0 98 j - B 14 0 98 k) % 7 = 6 → 2 ≤ cnI I (B 14 0 98 j) := fun y => by
      rcases z with ⟨i, i0, i1, i2, i3⟩ | z
      · exact two_l h' ⟨j0, j1⟩ ⟨i0, i1⟩ (fun e => i2 e.symm) i3.symm
      · exact absurd y z
    rcases o with y | y | y | y | y | y | y
    · have e : B 14 0 98 j = B 14 0 98 k := by omega
      have := two_l h' ⟨j0, j1⟩ hk nj e
      rw [e] at this
      omega
    · rw [← (dd_e b1 k1 (by decide)).mp y] at q1; omega
    · have := dup (Or.inl y)
      rw [← (dd_e b1 k1 (by decide)).mp y] at q2; omega
    · rw [← (dd_e b1 k1 (by decide)).mp y] at q3; omega
    · have := dup (Or.inr (Or.inl y))
      rw [← (dd_e b1 k1 (by decide)).mp y] at q4; omega
    · rw [← (dd_e b1 k1 (by decide)).mp y] at q5; omega
    · have := dup (Or.inr (Or.inr y))
      rw [← (dd_e b1 k1 (by decide)).mp y] at q6; omega
  -- a second one at a distance
  have sec : ∀ j dd x, 0 ≤ j → j < n → ¬ j = k → (dd = 2 ∨ dd = 4 ∨ dd = 6) → (B 14 0 98 j - B 14 0 98 k) % 7 = dd → KIx k j dd x B → 0 ≤ x → ckV I (B 14 0 98 k) = -1 := fun j dd x j0 j1 nj hd e q x0 => by
    rcases q with ⟨y, _⟩ | ⟨i, i0, i1, i2, i3, _⟩
    · omega
    · refine bad j j0 j1 nj (Or.inl ⟨i, i0, by omega, by omega, ?_⟩)
      have b1 := (h5 j j0 j1).1
      have a1 := (h5 i i0 (by omega)).1
      omega
  intro d
  induction d with
  | zero =>
    intro N j x2 x4 x6 jd j0 hN q2 q4 q6 od
    obtain ⟨m, rfl⟩ : ∃ q, N = q + 1 := ⟨N - 1, by omega⟩
    have e : j = n := by omega
    rw [e] at q2 q4 q6 od
    have b2 := KIx_b q2
    have b4 := KIx_b q4
    have b6 := KIx_b q6
    -- the letters stand in thirds
    have c : cnI I (B 14 0 98 k) = 1 := cnI_1 h4 k2 k3 (fun a' a0 a1 ne ea => by
      obtain ⟨i, i0, i1, i2, i3⟩ := h7 _ a' k1.1 k1.2 a0 a1 ea
      have nk : ¬ i = k := fun z => by rw [z] at i3; exact ne i3.symm
      have := od i i0 i1 nk
      rw [i2] at this
      omega)
    have odd : ∀ dd, dd = 1 ∨ dd = 3 ∨ dd = 5 → cnI I ((B 14 0 98 k + dd) % 7) = 0 := fun dd hd => cnI_0 h4 (fun a a0 a1 ea => by
      obtain ⟨i, i0, i1, i2, i3⟩ := h7 _ a (by omega) (by omega) a0 a1 ea
      have nk : ¬ i = k := fun z => by rw [z] at i2; omega
      have := od i i0 i1 nk
      omega)
    obtain ⟨t2, u2⟩ := KIx_e h' hk (Or.inl rfl) c q2
    obtain ⟨t4, u4⟩ := KIx_e h' hk (Or.inr (Or.inl rfl)) c q4
    obtain ⟨t6, u6⟩ := KIx_e h' hk (Or.inr (Or.inr rfl)) c q6
    have ck : ckV I (B 14 0 98 k) = kdV (m99 x2) (m99 x4) (m99 x6) := by rw [ckV_p ⟨c, odd 1 (by omega), t2, odd 3 (by omega), t4, odd 5 (by omega), t6⟩, u2, u4, u6]
    obtain ⟨y4, y3, y0⟩ := x_kd (K := K) (F := F) (B := B) b2 b4 b6
    rw [f_M_kindOn_10, if_pos (show r32 j by unfold r32; omega), h1, if_pos (show r32 n by unfold r32; omega), if_pos (show n ≤ j by omega), if_pos (show r32 x2 by unfold r32; omega), ck]
    unfold f_M_kindOn_146
    by_cases z4 : x2 = 4
    · rw [if_pos z4, y4 z4, zb_s]
    rw [if_neg z4]
    by_cases z3 : x2 = 3
    · rw [if_pos z3, y3 z3, zb_s]
    · rw [if_neg z3, y0 z4 z3]
  | succ d ih =>
    intro N j x2 x4 x6 jd j0 hN q2 q4 q6 od
    obtain ⟨m, rfl⟩ : ∃ q, N = q + 1 := ⟨N - 1, by omega⟩
    have j1 : j < n := by omega
    have b2 := KIx_b q2
    have b4 := KIx_b q4
    have b6 := KIx_b q6
    rw [f_M_kindOn_10, if_pos (show r32 j by unfold r32; omega), h1, if_pos (show r32 n by unfold r32; omega), if_neg (show ¬ n ≤ j by omega), if_pos (show r32 k by unfold r32; omega)]
    by_cases zk : j = k
    · rw [if_pos zk, f_M_kindOn_111]
      exact ih m (j + 1) x2 x4 x6 (by omega) (by omega) (by omega) (KIx_n q2 (Or.inl zk)) (KIx_n q4 (Or.inl zk)) (KIx_n q6 (Or.inl zk)) (fun i i0 i1 i2 => od i i0 (by omega) i2)
    obtain ⟨c1, c2, _⟩ := h5 j j0 j1
    have ob : 0 ≤ (B 14 0 98 j - B 14 0 98 k) % 7 ∧ (B 14 0 98 j - B 14 0 98 k) % 7 < 7 := by omega
    rw [if_neg zk, if_pos (show 0 ≤ j ∧ j < 24 by omega), if_pos (show 0 ≤ k ∧ k < 24 by omega), L_mod (by unfold r32; omega) (by decide) (by decide), zb_s, x_abv h' hk ⟨j0, j1⟩, zb_s]
    have rm : r32 ((B 14 0 98 j - B 14 0 98 k) % 7) := by unfold r32; omega
    have od' : (B 14 0 98 j - B 14 0 98 k) % 7 = 2 ∨ (B 14 0 98 j - B 14 0 98 k) % 7 = 4 ∨ (B 14 0 98 j - B 14 0 98 k) % 7 = 6 → ∀ i, 0 ≤ i → i < j + 1 → ¬ i = k → (B 14 0 98 i - B 14 0 98 k) % 7 = 2 ∨ (B 14 0 98 i - B 14 0 98 k) % 7 = 4 ∨ (B 14 0 98 i - B 14 0 98 k) % 7 = 6 := fun z i i0 i1 i2 => by
      by_cases y : i = j
      · rw [y]; exact z
      · exact od i i0 (by omega) i2
    rw [if_pos rm]
    unfold f_M_kindOn_74 f_M_kindOn_90 f_M_kindOn_109 f_M_kindOn_111
    by_cases z2 : (B 14 0 98 j - B 14 0 98 k) % 7 = 2
    · rw [if_pos z2, if_pos (show r32 x2 by unfold r32; omega)]
      by_cases y : 0 ≤ x2
      · rw [if_pos y, if_pos rm, if_neg (show ¬ (B 14 0 98 j - B 14 0 98 k) % 7 = 4 by omega), if_pos rm, if_neg (show ¬ (B 14 0 98 j - B 14 0 98 k) % 7 = 6 by omega), sec j 2 x2 j0 j1 zk (Or.inl rfl) z2 q2 y]
      · have ex : x2 = -1 := by omega
        rw [ex] at q2
        rw [if_neg y]
        exact ih m (j + 1) _ x4 x6 (by omega) (by omega) (by omega) (KIx_a q2 j0 zk z2) (KIx_n q4 (Or.inr (by omega))) (KIx_n q6 (Or.inr (by omega))) (od' (Or.inl z2))
    rw [if_neg z2, if_pos rm]
    by_cases z4 : (B 14 0 98 j - B 14 0 98 k) % 7 = 4
    · rw [if_pos z4, if_pos (show r32 x4 by unfold r32; omega)]
      by_cases y : 0 ≤ x4
      · rw [if_pos y, if_pos rm, if_neg (show ¬ (B 14 0 98 j - B 14 0 98 k) % 7 = 6 by omega), sec j 4 x4 j0 j1 zk (Or.inr (Or.inl rfl)) z4 q4 y]
      · have ex : x4 = -1 := by omega
        rw [ex] at q4
        rw [if_neg y]
        exact ih m (j + 1) x2 _ x6 (by omega) (by omega) (by omega) (KIx_n q2 (Or.inr z2)) (KIx_a q4 j0 zk z4) (KIx_n q6 (Or.inr (by omega))) (od' (Or.inr (Or.inl z4)))
    rw [if_neg z4, if_pos rm]
    by_cases z6 : (B 14 0 98 j - B 14 0 98 k) % 7 = 6
    · rw [if_pos z6, if_pos (show r32 x6 by unfold r32; omega)]
      by_cases y : 0 ≤ x6
      · rw [if_pos y, sec j 6 x6 j0 j1 zk (Or.inr (Or.inr rfl)) z6 q6 y]
      · have ex : x6 = -1 := by omega
        rw [ex] at q6
        rw [if_neg y]
        exact ih m (j + 1) x2 x4 _ (by omega) (by omega) (by omega) (KIx_n q2 (Or.inr z2)) (KIx_n q4 (Or.inr z4)) (KIx_a q6 j0 zk z6) (od' (Or.inr (Or.inr z6)))
    · rw [if_neg z6, bad j j0 j1 zk (Or.inr (by omega))]
theorem x_kindOn {n k : Int} {I : zI} {F : zF} {B : zB} (hK : 200 ≤ K) (h : CLx n I F B) (hk : 0 ≤ k ∧ k < n) : f_M_kindOn K k F B = some (ckV I (B 14 0 98 k), F, B) := by
  have h2 := h.2.1
  exact x_ko10 h hk n.toNat K 0 (-1) (-1) (-1) (by omega) (by decide) (by omega) (Or.inl ⟨rfl, fun i a b => by omega⟩) (Or.inl ⟨rfl, fun i a b => by omega⟩) (Or.inl ⟨rfl, fun i a b => by omega⟩) (fun i a b => by omega)
/-- the root that is found -/
def RTx (n : Int) (I : zI) (F : zF) (B : zB) : Prop := (F 14 0 104 = -1 ∧ rtI I = -1) ∨ ((0 ≤ F 14 0 104 ∧ F 14 0 104 ≤ 9) ∧ (0 ≤ F 14 0 105 ∧ F 14 0 105 < n) ∧ rtI I = B 14 0 98 (F 14 0 105) ∧ F 14 0 104 = ckV I (rtI I) ∧ B 14 0 99 (F 14 0 105) = alI I (rtI I))
theorem x_ca13 {n : Int} {I : zI} {b : Int × Int} {F0 : zF} {B : zB} (hK : 200 ≤ K) : ∀ (d N : Nat) (i : Int) (F : zF), i + d = n → 0 ≤ i → d < N → crdF F0 F → CLx n I F B → (∀ k, 100 ≤ k → k ≤ 103 → F 14 0 k = F0 14 0 k) → F 14 0 104 = -1 → (∀ k, 0 ≤ k → k < i → ckV I (B 14 0 98 k) = -1) → ∃ F', f_M_chordAt_13 K N i F B = some (0, F', B) ∧ crdF F0 F' ∧ (∀ k, 100 ≤ k → k ≤ 103 → F' 14 0 k = F0 14 0 k) ∧ RTx n I F' B := by
  -- the class of a root that is found
  have fin : ∀ (i : Int) (F : zF), CLx n I F B → 0 ≤ i → i < n → 0 ≤ ckV I (B 14 0 98 i) → F 14 0 104 = ckV I (B 14 0 98 i) → F 14 0 105 = i → RTx n I F B := fun i F h i0 i1 c e4 e5 => by
    obtain ⟨_, _, _, h4, h5, _, _⟩ := h
    obtain ⟨b1, b2, b3⟩ := h5 i i0 i1
    have cb := ckV_b (I := I) (r := B 14 0 98 i)
    have th := ckV_th (I := I) (r := B 14 0 98 i) (by omega)
    have er : rtI I = B 14 0 98 i := by
      rcases rtI_s (I := I) with ⟨_, z⟩ | ⟨z1, z2⟩
      · have := z (B 14 0 98 i) b1.1 (by omega); omega
      · exact ckV_u z1 (by omega) (ckV_th z2) th
    refine Or.inr ⟨by omega, by omega, by rw [e5]; exact er, by rw [er]; exact e4, ?_⟩
    rw [e5, er]
    exact (alI_1 h4 th.1 b2 b3).symm
  intro d
  induction d with
  | zero =>
    intro N i F hi i0 hN f h fk e4 no
    obtain ⟨m, rfl⟩ : ∃ q, N = q + 1 := ⟨N - 1, by omega⟩
    have h2 := h.2.1
    rw [f_M_chordAt_13, if_pos (show r32 i by unfold r32; omega), h.1, if_pos (show r32 n by unfold r32; omega), if_pos (show n ≤ i by omega), f_M_chordAt_48]
    refine ⟨F, rfl, f, fk, Or.inl ⟨e4, ?_⟩⟩
    rcases rtI_s (I := I) with ⟨z, _⟩ | ⟨z1, z2⟩
    · exact z
    · have th := ckV_th z2
      obtain ⟨_, _, _, h4, _, _, h7⟩ := h
      -- a root's letter has a class, and that is in the list
      have ex : ∃ a, -2 ≤ a ∧ a ≤ 2 ∧ I (rtI I) a = 1 := by
        by_cases q : ∃ a, -2 ≤ a ∧ a ≤ 2 ∧ I (rtI I) a = 1
        · exact q
        · have := cnI_0 (l := rtI I) h4 (fun a a0 a1 e => q ⟨a, a0, a1, e⟩)
          have := th.1
          omega
      obtain ⟨a, a0, a1, e⟩ := ex
      obtain ⟨k, k0, k1, k2, k3⟩ := h7 (rtI I) a z1.1 (by omega) a0 a1 e
      have := no k k0 (by omega)
      rw [k2] at this
      exact absurd this z2
  | succ d ih =>
    intro N i F hi i0 hN f h fk e4 no
    obtain ⟨m, rfl⟩ : ∃ q, N = q + 1 := ⟨N - 1, by omega⟩
    have h2 := h.2.1
    have cb := ckV_b (I := I) (r := B 14 0 98 i)
    have hF1 : CLx n I (zup3 F 14 0 105 i) B := CLx_F h (by rw [zup3_v, if_neg (by omega)])
    rw [f_M_chordAt_13, if_pos (show r32 i by unfold r32; omega), h.1, if_pos (show r32 n by unfold r32; omega), if_neg (show ¬ n ≤ i by omega), e4, if_pos (show r32 (-1) by decide), if_neg (show ¬ (0 : Int) ≤ -1 by decide), x_kindOn hK hF1 ⟨i0, by omega⟩, zb_s]
    have f2 : crdF F0 (zup3 (zup3 F 14 0 105 i) 14 0 104 (ckV I (B 14 0 98 i))) := crdF_t f (crdF_t (crdF_w (by decide) (by decide)) (crdF_w (by decide) (by decide)))
    have h3 : CLx n I (zup3 (zup3 F 14 0 105 i) 14 0 104 (ckV I (B 14 0 98 i))) B := CLx_F hF1 (by rw [zup3_v, if_neg (by omega)])
    have fk2 : ∀ k, 100 ≤ k → k ≤ 103 → (zup3 (zup3 F 14 0 105 i) 14 0 104 (ckV I (B 14 0 98 i))) 14 0 k = F0 14 0 k := fun k k0 k1 => by rw [zup3_v, if_neg (by omega), zup3_v, if_neg (by omega)]; exact fk k k0 k1
    have v4 : (zup3 (zup3 F 14 0 105 i) 14 0 104 (ckV I (B 14 0 98 i))) 14 0 104 = ckV I (B 14 0 98 i) := by rw [zup3_v, if_pos ⟨rfl, rfl, rfl⟩]
    have v5 : (zup3 (zup3 F 14 0 105 i) 14 0 104 (ckV I (B 14 0 98 i))) 14 0 105 = i := by rw [zup3_v, if_neg (by omega), zup3_v, if_pos ⟨rfl, rfl, rfl⟩]
    generalize zup3 (zup3 F 14 0 105 i) 14 0 104 (ckV I (B 14 0 98 i)) = G at f2 h3 fk2 v4 v5 ⊢
    by_cases z : ckV I (B 14 0 98 i) = -1
    · exact ih m (i + 1) G (by omega) (by omega) (by omega) f2 h3 fk2 (by rw [v4]; exact z) (fun k k0 k1 => by
        by_cases y : k = i
        · rw [y]; exact z
        · exact no k k0 (by omega))
    · obtain ⟨m', rfl⟩ : ∃ q, m = q + 1 := ⟨m - 1, by omega⟩
      have r := fin i G h3 i0 (by omega) (by omega) v4 v5
      refine ⟨G, ?_, f2, fk2, r⟩
      rw [f_M_chordAt_13, if_pos (show r32 (i + 1) by unfold r32; omega), h3.1, if_pos (show r32 n by unfold r32; omega)]
      unfold f_M_chordAt_48
      by_cases y : n ≤ i + 1
      · rw [if_pos y]
      · rw [if_neg y, v4, if_pos (show r32 (ckV I (B 14 0 98 i)) by unfold r32; omega), if_pos (show 0 ≤ ckV I (B 14 0 98 i) by omega)]
theorem x_chordAt {j c : Int} {L : Int → Int → Int} {F : zF} {B : zB} (hK : 200 ≤ K) (hS : SG V S) (hR : LRm V w c S L F B) (hj : 0 ≤ j ∧ j < c) : ∃ n F' B', f_M_chordAt K w j F B = some (0, F', B') ∧ crdF F F' ∧ crdB B B' ∧ CQx n (iM S L V j) (bM S L V j) F' B' ∧ RTx n (iM S L V j) F' B' := by
  have hV := hS.1
  have f0 : crdF F (zup3 (zup3 F 14 0 100 0) 14 0 101 1000) := crdF_t (crdF_w (by decide) (by decide)) (crdF_w (by decide) (by decide))
  have z0 : ∀ l, cnI (fun _ _ => 0) l = 0 := fun l => by unfold cnI; rfl
  obtain ⟨F1, B1, n, x1, x2, x3, x4⟩ := x_ca14 hK hS hR hj V.toNat K 0 0 (fun _ _ => 0) (1000, 0) (zup3 (zup3 F 14 0 100 0) 14 0 101 1000) B (by omega) (by decide) (by omega) (by decide) f0 (fun _ _ _ _ _ => rfl) ⟨⟨by rw [zup3_v, if_neg (by omega), zup3_v, if_pos ⟨rfl, rfl, rfl⟩], by decide, by unfold tcI; rw [z0, z0, z0, z0, z0, z0, z0]; rfl, fun _ _ => Or.inl rfl, fun k k0 k1 => by omega, fun i k a b c => by omega, fun l a _ _ _ _ e => by exact absurd (show (0 : Int) = 1 from e) (by decide)⟩, ⟨by rw [zup3_v, if_pos ⟨rfl, rfl, rfl⟩], by decide, fun z => absurd z (by decide)⟩, Or.inl (fun _ _ e => by exact absurd (show (0 : Int) = 1 from e) (by decide))⟩
  obtain ⟨y1, y2, y4⟩ := x4
  have e4 : (zup3 F1 14 0 104 (-1)) 14 0 104 = -1 := by rw [zup3_v, if_pos ⟨rfl, rfl, rfl⟩]
  have hn := y1.2.1
  obtain ⟨F2, w1, w2, w3, w4⟩ := x_ca13 (b := (0, 0)) (F0 := F1) hK n.toNat K 0 (zup3 F1 14 0 104 (-1)) (by omega) (by decide) (by omega) (crdF_w (by decide) (by decide)) (CLx_F y1 (by rw [zup3_v, if_neg (by omega)])) (fun k k0 k1 => by rw [zup3_v, if_neg (by omega)]) e4 (fun k a b => by omega)
  have e100 := w3 100 (by decide) (by decide)
  have e101 := w3 101 (by decide) (by decide)
  have e102 := w3 102 (by decide) (by decide)
  unfold f_M_chordAt f_M_classesAt
  rw [x1, zb_s, w1]
  exact ⟨n, F2, B1, rfl, crdF_t x2 w2, x3, ⟨CLx_F y1 e100, ⟨by rw [e101]; exact y2.1, y2.2.1, fun z => by rw [e102]; exact y2.2.2 z⟩, y4⟩, w4⟩
theorem x_foreign {n f : Int} {I : zI} {F : zF} {B : zB} (w0 : 0 ≤ w ∧ w < 3) (hf : F 13 w 2 = f ∧ -7 ≤ f ∧ f ≤ 7) (h : CLx n I F B) : ∀ (d N : Nat) (i s : Int), i + d = n → 0 ≤ i → d < N → ((s = 0 ∧ ∀ k, 0 ≤ k → k < i → B 14 0 99 k = kaV f (B 14 0 98 k)) ∨ (s = 1 ∧ ∃ k, 0 ≤ k ∧ k < n ∧ ¬ B 14 0 99 k = kaV f (B 14 0 98 k))) → ∃ r, f_M_isForeign_4 K N i s w F B = some (r, F, B) ∧ foR I f r := by
  have h' := h
  obtain ⟨h1, h2, h3, h4, h5, h6, h7⟩ := h
  intro d
  induction d with
  | zero =>
    intro N i s hi i0 hN q
    obtain ⟨m, rfl⟩ : ∃ j, N = j + 1 := ⟨N - 1, by omega⟩
    rw [f_M_isForeign_4, if_pos (show r32 i by unfold r32; omega), h1, if_pos (show r32 n by unfold r32; omega), if_pos (show n ≤ i by omega)]
    rcases q with ⟨s0, q⟩ | ⟨s1, k, k0, k1, k2⟩
    · rw [if_pos (Or.inl s0), s0]
      refine ⟨0, rfl, Or.inl ⟨rfl, fun l a l0 l1 a0 a1 e => ?_⟩⟩
      obtain ⟨k, k0, k1, k2, k3⟩ := h7 l a l0 (by omega) a0 a1 e
      have := q k k0 (by omega)
      rw [k2, k3] at this
      exact this
    · rw [if_pos (Or.inr s1), s1]
      obtain ⟨b1, b2, b3⟩ := h5 k k0 k1
      exact ⟨1, rfl, Or.inr ⟨rfl, B 14 0 98 k, B 14 0 99 k, b1.1, by omega, b2.1, b2.2, b3, k2⟩⟩
  | succ d ih =>
    intro N i s hi i0 hN q
    obtain ⟨m, rfl⟩ : ∃ j, N = j + 1 := ⟨N - 1, by omega⟩
    obtain ⟨b1, b2, b3⟩ := h5 i i0 (by omega)
    rw [f_M_isForeign_4, if_pos (show r32 i by unfold r32; omega), h1, if_pos (show r32 n by unfold r32; omega), if_neg (show ¬ n ≤ i by omega)]
    rcases q with ⟨s0, q⟩ | ⟨s1, q⟩
    · have kb := kaV_b (f := f) (s := B 14 0 98 i)
      rw [s0, if_pos (show r32 0 by decide), if_pos (show (0 : Int) = 0 from rfl), if_pos w0, if_pos (show 0 ≤ i ∧ i < 24 by omega), hf.1, L_kaV hf.2 b1.1 b1.2, zb_s, if_pos (show r32 (kaV f (B 14 0 98 i)) by unfold r32; omega), if_pos (show r32 (B 14 0 99 i) by unfold r32; omega)]
      unfold f_M_isForeign_38 f_M_isForeign_43
      by_cases z : kaV f (B 14 0 98 i) = B 14 0 99 i
      · rw [if_pos z]
        exact ih m (i + 1) 0 (by omega) (by omega) (by omega) (Or.inl ⟨rfl, fun k k0 k1 => by
          by_cases y : k = i
          · rw [y]; exact z.symm
          · exact q k k0 (by omega)⟩)
      · rw [if_neg z]
        exact ih m (i + 1) 1 (by omega) (by omega) (by omega) (Or.inr ⟨rfl, i, i0, by omega, fun y => z y.symm⟩)
    · rw [s1, if_pos (show r32 1 by decide), if_neg (show ¬ (1 : Int) = 0 by decide)]
      unfold f_M_isForeign_38 f_M_isForeign_43
      exact ih m (i + 1) 1 (by omega) (by omega) (by omega) (Or.inr ⟨rfl, q⟩)
theorem x_tonic {f m : Int} {F : zF} {B : zB} (w0 : 0 ≤ w ∧ w < 3) (hf : F 13 w 2 = f ∧ -7 ≤ f ∧ f ≤ 7) (hm : F 13 w 3 = m ∧ (m = 0 ∨ m = 1)) : f_M_tonicLetter K w F B = some ((4 * f + 5 * m) % 7, F, B) := by
  unfold f_M_tonicLetter f_M_tonicLetter_18
  rw [if_pos w0, hm.1, hf.1, if_pos (show r32 m by unfold r32; omega)]
  by_cases z : m = 0
  · rw [if_pos z, L_mod (by unfold r32; omega) (by decide) (by decide), zb_s, show 5 * m = 0 by omega]
  · rw [if_neg z, L_mod (by unfold r32; omega) (by decide) (by decide), zb_s, show 5 * m = 5 by omega]
end
end
section
section
/-! ===== moment: answers alike ===== -/
variable {cc : Int}
theorem L_momx {Km : Nat} {V v a1 a2 a3 f m : Int} {S : zV} {Fm : zF} {Bm : zB} (hK : 200 ≤ Km) (h2 : r32 a2) (h3 : r32 a3) (hv : 0 ≤ v ∧ v < 3) (x3 : f_M_piece Km a1 Fm Bm = some (v, Fm, Bm)) (hS : SG V S) (hR : LRm V v (Fm 13 v 72) S (fun u t => Bm 13 v 75 (4 * t + u)) Fm Bm) (hf : Fm 13 v 2 = f ∧ -7 ≤ f ∧ f ≤ 7) (hm : Fm 13 v 3 = m ∧ (m = 0 ∨ m = 1)) (b2 : 0 ≤ a2 ∧ a2 < Fm 13 v 72) (b3 : 2 ≤ a3 ∧ a3 ≤ 8) : ∃ r F' B', f_M_moment_0 Km a1 a2 a3 Fm Bm = some (r, F', B') ∧ chA a3 (iM S (fun u t => Bm 13 v 75 (4 * t + u)) V a2) (bM S (fun u t => Bm 13 v 75 (4 * t + u)) V a2).2 f m r := by
  have c8 := hR.2.1
  obtain ⟨n, F', B', e1, e2, e3, ⟨e4, e5, e6⟩, e7⟩ := x_chordAt hK hS hR b2
  generalize iM S (fun u t => Bm 13 v 75 (4 * t + u)) V a2 = I at e4 e6 e7 ⊢
  generalize bM S (fun u t => Bm 13 v 75 (4 * t + u)) V a2 = b at e5 e6 ⊢
  have e4' := e4
  obtain ⟨n1, n2, n3, n4, n5, n6, n7⟩ := e4
  have f2 : F' 13 v 2 = f ∧ -7 ≤ f ∧ f ≤ 7 := ⟨by rw [e2 13 v 2 (by omega)]; exact hf.1, hf.2⟩
  have f3 : F' 13 v 3 = m ∧ (m = 0 ∨ m = 1) := ⟨by rw [e2 13 v 3 (by omega)]; exact hm.1, hm.2⟩
  unfold f_M_moment_0 f_M_moment_0_208
  rw [x3, zb_s, if_neg (show ¬ v < 0 by omega), if_pos h2, if_neg (show ¬ a2 < 0 by omega), if_pos hv, if_pos (show r32 (Fm 13 v 72) by unfold r32; omega), if_neg (show ¬ Fm 13 v 72 ≤ a2 by omega), if_pos h3, if_neg (show ¬ a3 < 0 by omega), if_pos (show a3 ≤ 8 by omega), if_neg (show ¬ a3 = 0 by omega), if_neg (show ¬ a3 = 1 by omega), e1, zb_s]
  by_cases o2 : a3 = 2
  · rw [if_pos o2, n1, if_pos (show r32 n by unfold r32; omega)]
    exact ⟨_, F', B', rfl, fun _ => n3, fun z => by omega, fun z => by omega, fun _ => ⟨fun z => by omega, fun z => by omega, fun z => by omega, fun z => by omega, fun z => by omega, fun z => by omega⟩⟩
  rw [if_neg o2]
  rcases e7 with ⟨k4, kr⟩ | ⟨k4, k5, kr, kc, ka⟩
  · by_cases o3 : a3 = 3
    · rw [if_pos o3, k4, if_pos (show r32 (-1) by decide)]
      exact ⟨-1, F', B', rfl, fun y => absurd y o2, fun _ _ => rfl, fun y => by omega, fun y => absurd kr y⟩
    · rw [if_neg o3, k4, if_pos (show r32 (-1) by decide), if_neg (show ¬ (0 : Int) ≤ -1 by decide)]
      exact ⟨0, F', B', rfl, fun y => absurd y o2, fun y => absurd y o3, fun _ _ => rfl, fun y => absurd kr y⟩
  obtain ⟨b1, b2', b3'⟩ := n5 (F' 14 0 105) k5.1 k5.2
  have nr : ¬ rtI I = -1 := by rw [kr]; omega
  have lt : b.1 < 1000 := by
    rcases e6 with z | z
    · exact absurd b3' (z _ _)
    · exact z
  obtain ⟨s1, s2, s3⟩ := e5.2.2 lt
  have i24 : 0 ≤ F' 14 0 105 ∧ F' 14 0 105 < 24 := by omega
  by_cases o3 : a3 = 3
  · rw [if_pos o3, if_pos (show r32 (F' 14 0 104) by unfold r32; omega)]
    exact ⟨_, F', B', rfl, fun y => absurd y o2, fun _ y => absurd y nr, fun y => by omega, fun _ => ⟨fun _ => kc, fun y => by omega, fun y => by omega, fun y => by omega, fun y => by omega, fun y => by omega⟩⟩
  rw [if_neg o3, if_pos (show r32 (F' 14 0 104) by unfold r32; omega), if_pos k4.1]
  by_cases o4 : a3 = 4
  · rw [if_pos o4, if_pos i24, if_pos (show r32 (B' 14 0 98 (F' 14 0 105)) by unfold r32; omega)]
    exact ⟨_, F', B', rfl, fun y => absurd y o2, fun y => absurd y o3, fun _ y => absurd y nr, fun _ => ⟨fun y => by omega, fun _ => kr.symm, fun y => by omega, fun y => by omega, fun y => by omega, fun y => by omega⟩⟩
  rw [if_neg o4]
  by_cases o5 : a3 = 5
  · rw [if_pos o5, if_pos i24, if_pos (show r32 (B' 14 0 99 (F' 14 0 105)) by unfold r32; omega)]
    exact ⟨_, F', B', rfl, fun y => absurd y o2, fun y => absurd y o3, fun _ y => absurd y nr, fun _ => ⟨fun y => by omega, fun y => by omega, fun _ => ka, fun y => by omega, fun y => by omega, fun y => by omega⟩⟩
  rw [if_neg o5]
  by_cases o6 : a3 = 6
  · have e7' : zrm (F' 14 0 102) 7 = b.2 % 7 := by rw [s1]; exact zrm_e s2 (by unfold r32; omega) (by decide) (by decide)
    have e8 : zdv ((b.2 % 7 - B' 14 0 98 (F' 14 0 105)) % 7) 2 = (b.2 % 7 - B' 14 0 98 (F' 14 0 105)) % 7 / 2 := zdv_e (by omega) (by unfold r32; omega) (by decide) (by decide)
    rw [if_pos o6, if_pos i24, e7', L_mod (by unfold r32; omega) (by decide) (by decide), zb_s, e8, if_pos (show r32 ((b.2 % 7 - B' 14 0 98 (F' 14 0 105)) % 7 / 2) by unfold r32; omega)]
    exact ⟨_, F', B', rfl, fun y => absurd y o2, fun y => absurd y o3, fun _ y => absurd y nr, fun _ => ⟨fun y => by omega, fun y => by omega, fun y => by omega, fun _ => by rw [kr], fun y => by omega, fun y => by omega⟩⟩
  rw [if_neg o6]
  by_cases o7 : a3 = 7
  · rw [if_pos o7, if_pos i24, x_tonic hv f2 f3, zb_s, L_mod (by unfold r32; omega) (by decide) (by decide), zb_s, if_pos (show r32 ((B' 14 0 98 (F' 14 0 105) - (4 * f + 5 * m) % 7) % 7) by unfold r32; omega)]
    exact ⟨_, F', B', rfl, fun y => absurd y o2, fun y => absurd y o3, fun _ y => absurd y nr, fun _ => ⟨fun y => by omega, fun y => by omega, fun y => by omega, fun y => by omega, fun _ => by rw [kr], fun y => by omega⟩⟩
  obtain ⟨r, y1, y2⟩ := x_foreign (K := Km) hv f2 e4' n.toNat Km 0 0 (by omega) (by decide) (by omega) (Or.inl ⟨rfl, fun k a b => by omega⟩)
  have y1' : f_M_isForeign Km v F' B' = some (r, F', B') := y1
  have r01 : r = 0 ∨ r = 1 := by
    rcases y2 with ⟨y, _⟩ | ⟨y, _⟩
    · exact Or.inl y
    · exact Or.inr y
  rw [if_neg o7, y1', zb_s, if_pos (show r32 r by unfold r32; omega)]
  refine ⟨r, F', B', ?_, fun y => absurd y o2, fun y => absurd y o3, fun _ y => absurd y nr, fun _ => ⟨fun y => by omega, fun y => by omega, fun y => by omega, fun y => by omega, fun y => by omega, fun _ => y2⟩⟩
  rcases r01 with rfl | rfl
  · rw [if_pos rfl]
  · rw [if_neg (by decide)]
theorem v_moment {Km : Nat} (a1 a2 a3 : Int) (h1 : r32 a1) (h2 : r32 a2) (h3 : r32 a3) {K : zK} {F Fm : zF} {B Bm : zB} (h : IV cc Km K F B Fm Bm) : ∃ r F1 B1 K1 F2 B2, f_S_moment K 0 a1 a2 a3 F B = some (r, F1, B1, K1) ∧ f_M_moment_0 Km a1 a2 a3 Fm Bm = some (r, F2, B2) := by
  have hK := (IV_k h).1
  have hKm := (IV_k h).2.1
  have h12 := IV_12 h
  have hU := IV_u h
  rcases slotE h h1 with ⟨q, q0, x1, x3⟩ | ⟨p, p0, p1, w, w0, w1, q, v, V, hE, hZ, hc, hP, hM, hD, m0, hv, x1, x3, ln, q0⟩
  · refine ⟨-2147483648, F, B, K, Fm, Bm, ?_, ?_⟩
    · unfold f_S_moment f_S_moment_28
      rw [if_pos h12, x1]
      simp only [zbN_s]
      rw [if_pos q0]
    · unfold f_M_moment_0 f_M_moment_0_35
      rw [x3, zb_s, if_pos (by decide)]
  have hq := hP.1.1
  have l12 := (hE.1.2.2.2.2.2.2.2.2.1 q hq.1 hq.2).2.2
  have g9 : 0 ≤ K.2 9 := by have := hE.1.1.2.2; omega
  obtain ⟨s, F1, B1, K1, e, st, sz, hq1⟩ := C_stm hK g9 hU (PQs_k h hP) l12
  have st2 := C_stm2 (B1 := B1) hq1.1 st.2.1.1 st.2.2.2.1
  obtain ⟨S, sg, sr, sc, tq⟩ := ST_q (K1 := K1) hP ln q0 sz
  obtain ⟨t1, t2, t3, t4, t5, t6⟩ := tq
  have hK1 : 60000 ≤ K1.1 := by rw [st.1]; exact hK
  have mo := (hM.1).1
  have c8 : 0 ≤ Fm 13 v 72 ∧ Fm 13 v 72 ≤ 800 := mo
  have nv : ¬ v < 0 := by omega
  -- no such answer
  have none1 : (a2 < 0 ∨ Fm 13 v 72 ≤ a2 ∨ a3 < 0 ∨ 8 < a3) → f_M_moment_0 Km a1 a2 a3 Fm Bm = some (-2147483648, Fm, Bm) := fun z => by
    unfold f_M_moment_0 f_M_moment_0_35
    rw [x3, zb_s, if_neg nv, if_pos h2]
    by_cases b1 : a2 < 0
    · rw [if_pos b1]
    rw [if_neg b1, if_pos hv, if_pos (show r32 (Fm 13 v 72) by unfold r32; omega)]
    by_cases b2 : Fm 13 v 72 ≤ a2
    · rw [if_pos b2]
    rw [if_neg b2, if_pos h3]
    by_cases b3 : a3 < 0
    · rw [if_pos b3]
    · rw [if_neg b3, if_neg (show ¬ a3 ≤ 8 by omega)]
  by_cases c1 : a2 < 0
  · refine ⟨-2147483648, F, B, K, Fm, Bm, ?_, none1 (Or.inl c1)⟩
    unfold f_S_moment f_S_moment_28
    rw [if_pos h12, x1]
    simp only [zbN_s]
    rw [if_neg (by omega), if_pos h2, if_pos c1]
  unfold f_S_moment f_S_moment_22
  rw [if_pos h12, x1]
  simp only [zbN_s]
  rw [if_neg (by omega), if_pos h2, if_neg c1, if_pos hq, if_pos hq.2, e]
  simp only [zbM_s]
  rw [if_pos st.2.1, if_pos h2, if_pos (by unfold r32; omega)]
  by_cases c2 : ¬ a2 < F1 9 s 0
  · rw [if_neg c2]
    exact ⟨_, F1, B1, K1, Fm, Bm, rfl, none1 (by omega)⟩
  have c2' : a2 < F1 9 s 0 := by omega
  rw [if_pos c2', if_pos hq1.1, if_pos hq1.1.2, st2]
  simp only [zbM_s]
  unfold f_S_moment_37 f_S_moment_100 f_S_moment_115
  rw [if_pos h3]
  obtain ⟨pl, r73, r74⟩ := t3 a2 (by omega) c2'
  have pre : ∀ x : Int, (a3 = 0 → x = Bm 13 v 73 a2) → (a3 = 1 → x = Bm 13 v 74 a2) → (a3 = 0 ∨ a3 = 1) → f_M_moment_0 Km a1 a2 a3 Fm Bm = some (x, Fm, Bm) := fun x e0 e1 o => by
    unfold f_M_moment_0
    rw [x3, zb_s, if_neg nv, if_pos h2, if_neg c1, if_pos hv, if_pos (show r32 (Fm 13 v 72) by unfold r32; omega), if_neg (show ¬ Fm 13 v 72 ≤ a2 by omega), if_pos h3, if_neg (show ¬ a3 < 0 by omega), if_pos (show a3 ≤ 8 by omega)]
    by_cases z : a3 = 0
    · rw [if_pos z, if_pos (show 0 ≤ a2 ∧ a2 < 800 by omega), e0 z]
    · rw [if_neg z, if_pos (show a3 = 1 by omega), if_pos (show 0 ≤ a2 ∧ a2 < 800 by omega), e1 (by omega)]
  by_cases d0 : a3 = 0
  · rw [if_pos d0, if_pos st.2.1, if_pos (show 0 ≤ a2 ∧ a2 < 800 by omega), C_aboveE (by omega) pl]
    simp only [zbN_s]
    exact ⟨_, F1, B1, K1, Fm, Bm, rfl, pre _ (fun _ => r73.symm) (fun z => by omega) (Or.inl d0)⟩
  rw [if_neg d0]
  by_cases d1 : a3 = 1
  · rw [if_pos d1, if_pos st.2.1, if_pos (show 0 ≤ a2 ∧ a2 < 800 by omega), C_belowE (by omega) pl]
    simp only [zbN_s]
    exact ⟨_, F1, B1, K1, Fm, Bm, rfl, pre _ (fun z => by omega) (fun _ => r74.symm) (Or.inr d1)⟩
  rw [if_neg d1]
  by_cases d2 : a3 < 0
  · rw [if_pos d2]; exact ⟨_, F1, B1, K1, Fm, Bm, rfl, none1 (by omega)⟩
  rw [if_neg d2]
  by_cases d3 : ¬ a3 ≤ 8
  · rw [if_neg d3]; exact ⟨_, F1, B1, K1, Fm, Bm, rfl, none1 (by omega)⟩
  have d3' : a3 ≤ 8 := by omega
  -- the chord, both sides
  obtain ⟨k1, k2, k3, k4, fS, bS', _⟩ := st
  have kk : ∀ c, K.2 c ≤ K1.2 c := fun c => by
    rcases k3 with ⟨_, z⟩ | ⟨_, _, z⟩
    · rw [z]; exact Int.le_refl _
    · rw [z]; show K.2 c ≤ zinN K.2 9 c
      by_cases e9 : c = 9
      · rw [e9, zinN_v, if_pos rfl]; omega
      · rw [zinN_v, if_neg e9]; exact Int.le_refl _
  have i1 : 0 ≤ K.2 1 := by have := hE.1.2.2.1.1.1 1 (by decide); omega
  have sc1 : SCl K1 V q S F1 B1 := SCl_m sc kk (fS 6 q 1 hq.2 (by omega) (by omega)) (fun x => bS' 6 q 0 x hq.2 (by omega)) (fun y k hy => fS 4 y k hy (by omega) (by omega)) (fun y k x hy => bS' 4 y k x hy (by omega)) (fun y k hy => fS 1 y k hy (by omega) (by omega)) (fun y k x hy => bS' 1 y k x hy (by omega))
  have lj : LJc s V a2 S (fun u t => Bm 13 v 75 (4 * t + u)) B1 := fun u u0 u1 => t4 u a2 u0 u1 (by omega) c2'
  have g2 := hP.2.1.1
  have g3 := hP.2.1.2.1
  have hf1 : F1 6 q 2 = F 6 q 2 ∧ -7 ≤ F 6 q 2 ∧ F 6 q 2 ≤ 7 := ⟨fS 6 q 2 hq.2 (by omega) (by omega), g2.2⟩
  have hm1 : F1 6 q 3 = F 6 q 3 ∧ (F 6 q 3 = 0 ∨ F 6 q 3 = 1) := ⟨fS 6 q 3 hq.2 (by omega) (by omega), g3.2⟩
  obtain ⟨r, B2, y1, y2⟩ := C_toldx (j := a2) (o := a3) hK1 sg sc1 k2 (by omega) lj hf1 hm1 (by omega)
  have hLR : LRm V v (Fm 13 v 72) S (fun u t => Bm 13 v 75 (4 * t + u)) Fm Bm := ⟨sr, ⟨rfl, c8⟩, fun u t u0 u1 t0 t1' => ⟨rfl, (t4 u t u0 u1 t0 (by omega)).2⟩⟩
  obtain ⟨r', F2, B3, z1, z2⟩ := L_momx (a1 := a1) (a3 := a3) (f := F 6 q 2) (m := F 6 q 3) (by omega) h2 h3 hv x3 sg hLR ⟨g2.1.symm, g2.2⟩ ⟨g3.1.symm, g3.2⟩ (by omega) (by omega)
  have er : r = r' := chA_u (by omega) y2 z2
  rw [if_pos d3', if_pos k2, if_pos hq1.1, y1]
  simp only [zbN_s]
  rw [er]
  exact ⟨r', F1, B2, K1, F2, B3, rfl, z1⟩
theorem q_moment {Km : Nat} (a1 a2 a3 : Int) (h1 : r32 a1) (h2 : r32 a2) (h3 : r32 a3) {K : zK} {F Fm : zF} {B Bm : zB} (h : IV cc Km K F B Fm Bm) : ∃ r1 F1 B1 K1 r2 F2 B2, f_S_moment K 0 a1 a2 a3 F B = some (r1, F1, B1, K1) ∧ f_M_moment_0 Km a1 a2 a3 Fm Bm = some (r2, F2, B2) ∧ IV cc Km K1 F1 B1 F2 B2 ∧ r1 = r2 := by
  obtain ⟨r1, F1, B1, K1, r2, F2, B2, x1, x2, hI⟩ := p_moment a1 a2 a3 h1 h2 h3 h
  obtain ⟨r, _, _, _, _, _, y1, y2⟩ := v_moment a1 a2 a3 h1 h2 h3 h
  exact ⟨r1, F1, B1, K1, r2, F2, B2, x1, x2, hI, (sm4 x1 y1).trans (sm3 x2 y2).symm⟩
end
end
section
section
variable {cc : Int}
/-! ===== line, x: answers alike ===== -/
theorem zdv_0 {m : Int} (h : 0 < m) (h' : r32 m) : zdv 0 m = 0 := by
  rw [zdv_e (Int.le_refl _) (by decide) h h', Int.zero_ediv]
/-- a column's bar -/
theorem bar_of {l nb n : Int} {B : zB} (hS : LYs l nb n B) {j a e : Int} (a0 : 0 ≤ a) (ae : a < e) (e1 : e ≤ nb) (j0 : B 2 l 5 a ≤ j) (j1 : j < B 2 l 5 e) : ∃ t, a ≤ t ∧ t < e ∧ B 2 l 5 t ≤ j ∧ j < B 2 l 5 (t + 1) := by
  have go : ∀ (d : Nat) (t : Int), t + d + 1 = e → a ≤ t → B 2 l 5 t ≤ j → ∃ t, a ≤ t ∧ t < e ∧ B 2 l 5 t ≤ j ∧ j < B 2 l 5 (t + 1) := by
    intro d
    induction d with
    | zero =>
      intro t te ta tj
      exact ⟨t, ta, by omega, tj, by rw [show t + 1 = e by omega]; exact j1⟩
    | succ d ih =>
      intro t te ta tj
      by_cases z : j < B 2 l 5 (t + 1)
      · exact ⟨t, ta, by omega, tj, z⟩
      · exact ih (t + 1) (by omega) (by omega) (by omega)
  exact go (e - a - 1).toNat a (by omega) (Int.le_refl _) j0
/-- what a layout tells -/
theorem C_tellX {K : zK} {l a2 a3 : Int} {F : zF} {B : zB} (hl : 0 ≤ l ∧ l < K.2 2) (h2 : r32 a2) (h3 : r32 a3) (n0 : 0 ≤ F 2 l 0 ∧ F 2 l 0 ≤ 100) (hB : ∀ j, 0 ≤ j → j ≤ F 2 l 0 → 0 ≤ B 2 l 7 j ∧ B 2 l 7 j ≤ 100) (h5 : ∀ j, 0 ≤ j → j ≤ 100 → r32 (B 2 l 5 j)) (h5d : ∀ i j, 0 ≤ i → i ≤ 100 → 0 ≤ j → j ≤ 100 → r32 (B 2 l 5 i - B 2 l 5 j)) (h8 : ∀ j, 0 ≤ j → j < F 2 l 0 → r32 (B 2 l 8 j)) : f_Layout_tell K l a2 a3 F B = some (if 0 ≤ a2 ∧ a2 < F 2 l 0 then (if a3 = 0 then B 2 l 7 a2 else if a3 = 1 then B 2 l 7 (a2 + 1) - B 2 l 7 a2 else if a3 = 2 then B 2 l 8 a2 else if a3 = 3 then B 2 l 5 (B 2 l 7 (a2 + 1)) - B 2 l 5 (B 2 l 7 a2) else if a3 = 4 then B 2 l 9 a2 else -1) else -1, F, B) := by
  unfold f_Layout_tell f_Layout_tell_12
  rw [if_pos h2]
  by_cases z : a2 < 0
  · rw [if_pos z, if_neg (by omega)]
  rw [if_neg z, if_pos hl, if_pos (by unfold r32; omega)]
  by_cases c : a2 < F 2 l 0
  case neg => rw [if_neg c, if_neg (by omega)]
  have k1 := hB a2 (by omega) (by omega)
  have k2 := hB (a2 + 1) (by omega) (by omega)
  rw [if_pos c, if_pos h3, if_pos (show 0 ≤ a2 ∧ a2 < F 2 l 0 by omega)]
  by_cases c0 : a3 = 0
  · rw [if_pos c0, if_pos c0, if_pos (by omega), if_pos (by unfold r32; omega)]
  rw [if_neg c0, if_neg c0]
  by_cases c1 : a3 = 1
  · rw [if_pos c1, if_pos c1, if_pos (by omega), if_pos (by omega), if_pos (by unfold r32; omega)]
  rw [if_neg c1, if_neg c1]
  by_cases c2 : a3 = 2
  · rw [if_pos c2, if_pos c2, if_pos (by omega), if_pos (h8 a2 (by omega) c)]
  rw [if_neg c2, if_neg c2]
  by_cases c3 : a3 = 3
  · rw [if_pos c3, if_pos c3, if_pos (by omega), if_pos (by omega), if_pos (by omega), if_pos (by omega), if_pos (h5d _ _ (by omega) (by omega) (by omega) (by omega))]
  rw [if_neg c3, if_neg c3]
  by_cases c4 : a3 = 4
  · rw [if_pos c4, if_pos c4, if_pos (by omega)]
  · rw [if_neg c4, if_neg c4]
theorem e_line {Km : Nat} (a1 a2 a3 : Int) (h1 : r32 a1) (h2 : r32 a2) (h3 : r32 a3) {K : zK} {F Fm : zF} {B Bm : zB} (h : IV cc Km K F B Fm Bm) : zE (f_S_line K 0 a1 a2 a3 F B) (f_M_line Km a1 a2 a3 Fm Bm) F B Fm Bm := by
  unfold f_S_line f_S_line_20 f_M_line f_M_line_25 f_M_line_101
  rw [if_pos (IV_12 h)]
  rcases slotE h h1 with ⟨q, q0, c, l⟩ | ⟨p, p0, p1, w, w0, w1, q, v, V, hE, hZ, hc, hP, hM, hD, m0, hv, c, l, ln, q0⟩
  · rw [c, zb_s, l, zb_s, if_pos q0, if_pos (show (-1 : Int) < 0 by decide)]
    exact zE_s rfl
  have hq := hP.1.1
  have o := (hE.1.2.2.2.2.2.2.2.2.1 q hq.1 hq.2).1
  have hU := hE.2.2.2.2.2.1
  rw [c, zb_s, l, zb_s, if_neg (show ¬ q < 0 by omega), if_neg (show ¬ v < 0 by omega), if_pos h2, if_pos hq]
  rcases (ln q0).2.2.2 with ⟨y1, y2⟩ | ⟨y1, y2⟩
  · -- no lines
    have right : (if a2 < 0 then some ((-1 : Int), Fm, Bm) else if 0 ≤ v ∧ v < 3 then if r32 (Fm 13 v 48) then (if a2 < (Fm 13 v 48) then if r32 a3 then (if a3 = 0 then if 0 ≤ a2 ∧ a2 < 100 then if r32 (Bm 13 v 49 a2) then some (Bm 13 v 49 a2, Fm, Bm) else none else none else (if a3 = 1 then if 0 ≤ a2 ∧ a2 < 100 then if r32 (Bm 13 v 50 a2) then some (Bm 13 v 50 a2, Fm, Bm) else none else none else (if a3 = 2 then if 0 ≤ a2 ∧ a2 < 100 then if r32 (Bm 13 v 51 a2) then some (Bm 13 v 51 a2, Fm, Bm) else none else none else (if a3 = 3 then zbind (f_M_lineColumns Km v a2 Fm Bm) (fun r15 F15 B15 => if r32 r15 then some (r15, F15, B15) else none) else (if a3 = 4 then if 0 ≤ a2 ∧ a2 < 100 then some (Bm 13 v 52 a2, Fm, Bm) else none else some (-1, Fm, Bm)))))) else none else some (-1, Fm, Bm)) else none else none) = some (-1, Fm, Bm) := by
      by_cases z : a2 < 0
      · rw [if_pos z]
      · rw [if_neg z, if_pos hv, y1, if_pos (by decide), if_neg (by omega)]
    refine ⟨-1, ?_, right⟩
    by_cases z8 : F 6 q 8 < 0
    · rw [if_pos z8]
    · have hl : 0 ≤ F 6 q 8 ∧ F 6 q 8 < K.2 2 := ⟨by omega, o⟩
      have z0 := y2 hl.1
      rw [if_neg z8, if_pos hl, C_tellX hl h2 h3 (by omega) (fun j j0 j1 => by
        have := ((hU.2.1 (F 6 q 8) hl.1 hl.2).2.2 j).2.2.2.2.1
        omega) (fun j _ _ => by
        have := ((hU.2.1 (F 6 q 8) hl.1 hl.2).2.2 j).2.2.1
        unfold r32; omega) (fun i j _ _ _ _ => by
        have a := ((hU.2.1 (F 6 q 8) hl.1 hl.2).2.2 i).2.2.1
        have b := ((hU.2.1 (F 6 q 8) hl.1 hl.2).2.2 j).2.2.1
        unfold r32; omega) (fun j j0 j1 => by omega), zb_s, if_neg (by omega)]
  · have hl : 0 ≤ F 6 q 8 ∧ F 6 q 8 < K.2 2 := ⟨y1, o⟩
    obtain ⟨⟨u1, u2, u3⟩, ⟨u4, u5⟩, u6, u7, u8, _⟩ := y2
    obtain ⟨s1, s2, s3, s4⟩ := u2
    have hu := hU.2.1 (F 6 q 8) hl.1 hl.2
    rw [if_neg (show ¬ F 6 q 8 < 0 by omega), if_pos hl, C_tellX hl h2 h3 s1 (fun j j0 j1 => by
      have := (hu.2.2 j).2.2.2.2.1
      omega) (fun j _ _ => by
      have := (hu.2.2 j).2.2.1
      unfold r32; omega) (fun i j _ _ _ _ => by
      have a := (hu.2.2 i).2.2.1
      have b := (hu.2.2 j).2.2.1
      unfold r32; omega) (fun j j0 j1 => (s3 j j0 j1).2.2.2.1), zb_s]
    by_cases z : a2 < 0
    · rw [if_pos z, if_neg (by omega)]
      exact zE_s rfl
    rw [if_neg z, if_pos hv, ← u1, if_pos (show r32 (F 2 (F 6 q 8) 0) by unfold r32; omega)]
    by_cases c2 : a2 < F 2 (F 6 q 8) 0
    case neg =>
      rw [if_neg c2, if_neg (by omega)]
      exact zE_s rfl
    obtain ⟨k1, k2, k3, k4⟩ := u6 a2 (by omega) c2
    obtain ⟨t1, t2, t3, t4, t5⟩ := s3 a2 (by omega) c2
    have ab : 0 ≤ a2 ∧ a2 < 100 := by omega
    rw [if_pos (show 0 ≤ a2 ∧ a2 < F 2 (F 6 q 8) 0 by omega), if_pos c2, if_pos h3]
    by_cases d0 : a3 = 0
    · rw [if_pos d0, if_pos d0, if_pos ab, if_pos (show r32 (Bm 13 v 49 a2) by rw [← k1]; unfold r32; omega)]
      exact zE_s k1
    rw [if_neg d0, if_neg d0]
    by_cases d1 : a3 = 1
    · rw [if_pos d1, if_pos d1, if_pos ab, if_pos (show r32 (Bm 13 v 50 a2) by unfold r32; omega)]
      exact zE_s (by omega)
    rw [if_neg d1, if_neg d1]
    by_cases d2 : a3 = 2
    · rw [if_pos d2, if_pos d2, if_pos ab, if_pos (show r32 (Bm 13 v 51 a2) by rw [← k3]; exact t4)]
      exact zE_s k3
    rw [if_neg d2, if_neg d2]
    by_cases d3 : a3 = 3
    · have e1 := u7 (B 2 (F 6 q 8) 7 a2) (by omega) (by omega)
      have e2 := u7 (B 2 (F 6 q 8) 7 (a2 + 1)) (by omega) (by omega)
      have b1 := (hu.2.2 (B 2 (F 6 q 8) 7 a2)).2.2.1
      have b2 := (hu.2.2 (B 2 (F 6 q 8) 7 (a2 + 1))).2.2.1
      unfold f_M_lineColumns
      rw [if_pos d3, if_pos d3, if_pos hv, if_pos ab, ← k2, ← k1, if_pos (by omega), if_pos (by omega), zb_s, e1, e2, if_pos (by unfold r32; omega)]
      exact zE_s rfl
    rw [if_neg d3, if_neg d3]
    by_cases d4 : a3 = 4
    · rw [if_pos d4, if_pos d4, if_pos ab]
      exact zE_s k4
    · rw [if_neg d4, if_neg d4]
      exact zE_s rfl
theorem q_line {Km : Nat} (a1 a2 a3 : Int) (h1 : r32 a1) (h2 : r32 a2) (h3 : r32 a3) {K : zK} {F Fm : zF} {B Bm : zB} (h : IV cc Km K F B Fm Bm) : ∃ r1 F1 B1 r2 F2 B2, f_S_line K 0 a1 a2 a3 F B = some (r1, F1, B1) ∧ f_M_line Km a1 a2 a3 Fm Bm = some (r2, F2, B2) ∧ IV cc Km K F1 B1 F2 B2 ∧ r1 = r2 := by
  obtain ⟨r1, F1, B1, r2, F2, B2, x1, x2, hI⟩ := p_line a1 a2 a3 h1 h2 h3 h
  obtain ⟨r, y1, y2⟩ := e_line a1 a2 a3 h1 h2 h3 h
  exact ⟨r1, F1, B1, r2, F2, B2, x1, x2, hI, (sm3 x1 y1).trans (sm3 x2 y2).symm⟩
theorem prtX {Km : Nat} {K : zK} {F Fm : zF} {B Bm : zB} (h : IV cc Km K F B Fm Bm) {a1 a2 : Int} (h1 : r32 a1) (h2 : r32 a2) : ∃ x y e s, f_S_partAt K 0 a1 a2 F B = some (x, F, B) ∧ f_S_pieceAt K 0 a1 F B = some (s, F, B) ∧ f_M_piece Km a1 Fm Bm = some (y, Fm, Bm) ∧ f_M_isVoice Km y a2 Fm Bm = some (e, Fm, Bm) ∧ ((x < 0 ∧ e = 0) ∨ (e = 1 ∧ (0 ≤ x ∧ x < K.2 4) ∧ (0 ≤ y ∧ y < 3) ∧ (0 ≤ a2 ∧ a2 < 4) ∧ ∃ V, a2 < V ∧ x = B 6 s 0 a2 ∧ PK K V s y F B Fm Bm ∧ LNk s y F B Fm Bm ∧ 0 ≤ s ∧ MK V y Fm Bm ∧ F 6 s 8 < K.2 2)) := by
  have h12 := IV_12 h
  rcases slotE h h1 with ⟨x, x0, e1, e2⟩ | ⟨_, _, _, _, _, _, x, y, V, hE, _, _, hP, hM, _, _, y0, e1, e2, ln, q0⟩
  · unfold f_S_partAt f_S_partAt_22 f_S_partAt_32 f_M_isVoice f_M_isVoice_20 f_M_isVoice_21
    rw [if_pos h12, e1, zb_s, if_pos x0]
    exact ⟨-1, -1, 0, x, rfl, rfl, e2, by rw [if_pos (by decide), if_pos (Or.inl rfl)], Or.inl ⟨by omega, rfl⟩⟩
  · unfold f_S_partAt f_S_partAt_22 f_S_partAt_32 f_M_isVoice f_M_isVoice_20 f_M_isVoice_21
    rw [if_pos h12, e1, zb_s]
    have hV := hP.1.2.2
    have x0 := hP.1.1
    rw [if_neg (by omega), if_pos h2]
    by_cases z : a2 < 0
    · rw [if_pos z]
      exact ⟨-1, y, 0, x, rfl, rfl, e2, by rw [if_neg (by omega), if_pos h2, if_pos z, if_pos (Or.inl rfl)], Or.inl ⟨by omega, rfl⟩⟩
    · rw [if_neg z, if_pos x0, hV.2.1, if_pos (by unfold r32; omega)]
      by_cases c : a2 < V
      · rw [if_pos c, if_pos (by omega)]
        refine ⟨_, y, 1, x, rfl, rfl, e2, by rw [if_neg (by omega), if_pos h2, if_neg z, if_pos y0, hV.2.2, if_pos (by unfold r32; omega), if_neg (by omega), if_pos (Or.inr rfl)], Or.inr ⟨rfl, (hP.2.2 a2 (by omega) c).1.1, y0, by omega, V, c, rfl, hP, ln, q0, hM, (hE.1.2.2.2.2.2.2.2.2.1 x x0.1 x0.2).1⟩⟩
      · rw [if_neg c]
        exact ⟨-1, y, 0, x, rfl, rfl, e2, by rw [if_neg (by omega), if_pos h2, if_neg z, if_pos y0, hV.2.2, if_pos (by unfold r32; omega), if_pos (by omega), if_pos (Or.inl rfl)], Or.inl ⟨by omega, rfl⟩⟩
/-- the x of a column, reference -/
theorem L_x199X {K : Nat} {w fst k c n wd lw cols : Int} {F : zF} {B : zB} (w0 : 0 ≤ w ∧ w < 3) (k0 : 0 ≤ k ∧ k < 100) (h47 : F 13 w 47 = wd) (h48 : F 13 w 48 = n) (h51 : B 13 w 51 k = lw) (rw' : r32 wd) (rl : r32 lw) (rn : 0 ≤ n ∧ n ≤ 100) (hc : f_M_lineColumns K w k F B = some (cols, F, B)) (c1 : 0 < cols ∧ cols ≤ 3200) (cb : c ≤ 3200) : ∀ (d N : Nat) (i v : Int), i + d = c → 0 ≤ i → d < N → f_M_x_199 K N i v c fst k w F B = some (v + smR (fun j => B 13 w 45 j) i d + (if wd ≤ lw ∨ n ≤ k + 1 then 0 else zdv ((wd - lw) * (c - fst)) cols), F, B) := by
  intro d
  induction d with
  | zero =>
    intro N i v hi i0 hN
    obtain ⟨m, rfl⟩ : ∃ m, N = m + 1 := ⟨N - 1, by omega⟩
    rw [f_M_x_199, if_pos (by unfold r32; omega), if_pos (by unfold r32; omega), if_pos (by omega), if_pos w0, if_pos k0, h51, if_pos rl, h47, if_pos rw', smR, Int.add_zero]
    by_cases z : wd ≤ lw
    · rw [if_pos z, if_pos (Or.inl z), f_M_x_257, f_M_x_258, if_pos (by decide), if_pos rfl, f_M_x_301, Int.add_zero]
    · rw [if_neg z, if_pos (by unfold r32; omega), h48, if_pos (by unfold r32; omega)]
      by_cases z' : n ≤ k + 1
      · rw [if_pos z', if_pos (Or.inr z'), f_M_x_257, f_M_x_258, if_pos (by decide), if_pos rfl, f_M_x_301, Int.add_zero]
      · rw [if_neg z', if_neg (by omega), f_M_x_258, if_pos (by decide), if_neg (by decide), if_pos w0, if_pos k0, hc, zb_s, if_pos (iI_n0 c1.1 (by unfold r32; omega)), f_M_x_301, h47, h51]
  | succ d ih =>
    intro N i v hi i0 hN
    obtain ⟨m, rfl⟩ : ∃ m, N = m + 1 := ⟨N - 1, by omega⟩
    rw [f_M_x_199, if_pos (by unfold r32; omega), if_pos (by unfold r32; omega), if_neg (by omega), if_pos w0, if_pos (by omega), ih m (i + 1) _ (by omega) (by omega) (by omega), smR, Int.add_assoc v]
/-- the column of a place, both sides -/
theorem P_col {K : zK} {Km : Nat} {l w b x y k fst nb : Int} {F : zF} {B : zB} {Fm : zF} {Bm : zB} {X : Int → Int} (hl : 0 ≤ l ∧ l < K.2 2) (w0 : 0 ≤ w ∧ w < 3) (hb : 0 ≤ b ∧ b < 100) (y0 : 0 ≤ y ∧ y < 3200) (x0 : 0 ≤ x ∧ x ≤ 1000000000000) (e32 : Bm 13 w 32 y = nu x) (e33 : Bm 13 w 33 y = de x) (e5 : 0 ≤ B 2 l 5 b ∧ B 2 l 5 (b + 1) ≤ 3200) (hC : ∀ c, B 2 l 5 b ≤ c → c < B 2 l 5 (b + 1) → (Bm 13 w 43 c = nu (B 2 l 1 c) ∧ Bm 13 w 44 c = de (B 2 l 1 c)) ∧ (0 ≤ B 2 l 1 c ∧ B 2 l 1 c ≤ 1000000000000)) (hX : ∀ c, B 2 l 5 b ≤ c → c < B 2 l 5 (b + 1) → B 2 l 3 c = X c) (hM : ∀ c, B 2 l 5 b ≤ c → c < B 2 l 5 (b + 1) → (if 0 ≤ k ∧ k < 100 then zbind (f_M_ahead Km w (Bm 13 w 49 k) Fm Bm) (fun r31 F31 B31 => f_M_x_199 Km Km fst (r31 + (6 * ((b - (B31 13 w 49 k)) + 1))) c fst k w F31 B31) else none) = some (X c, Fm, Bm)) {J : Int} (hJ : B 2 l 5 b ≤ J ∧ J < B 2 l 5 (b + 1)) (eJ : B 2 l 1 J = x) : ∀ (d N N' : Nat) (c : Int), c + d = J → B 2 l 5 b ≤ c → d < N → d < N' → ∃ r, f_Layout_columnX_27 K N c l b x F B = some (r, F, B) ∧ f_M_x_117 Km N' c fst k b y w Fm Bm = some (r, Fm, Bm) := by
  intro d
  have nx := nd_r x0.1 x0.2
  have stepC : ∀ (n : Nat) (c : Int), B 2 l 5 b ≤ c → c < B 2 l 5 (b + 1) → f_Layout_columnX_27 K (n + 1) c l b x F B = if B 2 l 1 c = x then some (X c, F, B) else f_Layout_columnX_27 K n (c + 1) l b x F B := fun n c c0 c1 => by
    obtain ⟨_, k1⟩ := hC c c0 c1
    rw [f_Layout_columnX_27, if_pos hl, if_pos (by omega), if_pos (by unfold r32; omega), if_pos (by unfold r32; omega), if_neg (by omega), if_pos (by omega), if_pos (by unfold r64; omega), if_pos (by unfold r64; omega)]
    by_cases z : B 2 l 1 c = x
    · rw [if_pos z, if_pos (zcmp_0.mpr z), hX c c0 c1]
    · rw [if_neg z, if_neg (fun q => z (zcmp_0.mp q))]
  have stepM : ∀ (n : Nat) (c : Int), B 2 l 5 b ≤ c → c < B 2 l 5 (b + 1) → f_M_x_117 Km (n + 1) c fst k b y w Fm Bm = if B 2 l 1 c = x then some (X c, Fm, Bm) else f_M_x_117 Km n (c + 1) fst k b y w Fm Bm := fun n c c0 c1 => by
    obtain ⟨⟨k1, k2⟩, k3⟩ := hC c c0 c1
    have nc := nd_r k3.1 k3.2
    rw [f_M_x_117, if_pos w0, if_pos (by omega), if_pos y0, k1, k2, e32, e33, if_pos (by unfold r64; omega), if_pos (by unfold r64; omega)]
    by_cases z : B 2 l 1 c = x
    · rw [if_pos z, z, if_pos (zcmp_0.mpr rfl), if_pos (by unfold r64; omega), if_pos (by unfold r64; omega), if_pos (zcmp_0.mpr rfl)]
      exact hM c c0 c1
    · rw [if_neg z]
      by_cases z1 : nu (B 2 l 1 c) = nu x
      · have z2 : ¬ de (B 2 l 1 c) = de x := fun q => z (nd_inj k3.1 x0.1 z1 q)
        rw [if_pos (zcmp_0.mpr z1), if_pos (by unfold r64; omega), if_pos (by unfold r64; omega), if_neg (fun q => z2 (zcmp_0.mp q)), f_M_x_157]
      · rw [if_neg (fun q => z1 (zcmp_0.mp q)), f_M_x_157]
  induction d with
  | zero =>
    intro N N' c hc c0 hN hN'
    obtain ⟨n, rfl⟩ : ∃ m, N = m + 1 := ⟨N - 1, by omega⟩
    obtain ⟨n', rfl⟩ : ∃ m, N' = m + 1 := ⟨N' - 1, by omega⟩
    have e : c = J := by omega
    rw [stepC n c c0 (by omega), stepM n' c c0 (by omega), e, if_pos eJ, if_pos eJ]
    exact ⟨_, rfl, rfl⟩
  | succ d ih =>
    intro N N' c hc c0 hN hN'
    obtain ⟨n, rfl⟩ : ∃ m, N = m + 1 := ⟨N - 1, by omega⟩
    obtain ⟨n', rfl⟩ : ∃ m, N' = m + 1 := ⟨N' - 1, by omega⟩
    rw [stepC n c c0 (by omega), stepM n' c c0 (by omega)]
    by_cases z : B 2 l 1 c = x
    · rw [if_pos z, if_pos z]
      exact ⟨_, rfl, rfl⟩
    · rw [if_neg z, if_neg z]
      exact ih n n' (c + 1) (by omega) (by omega) (by omega) (by omega)
theorem e_x {Km : Nat} (a1 a2 a3 : Int) (h1 : r32 a1) (h2 : r32 a2) (h3 : r32 a3) {K : zK} {F Fm : zF} {B Bm : zB} (h : IV cc Km K F B Fm Bm) : zE (f_S_x K 0 a1 a2 a3 F B) (f_M_x Km a1 a2 a3 Fm Bm) F B Fm Bm := by
  have hK := (IV_k h).1
  have hKm := (IV_k h).2.1
  obtain ⟨x, y, e, s, e1, e1', e2, e3, e4⟩ := prtX h h1 h2
  unfold f_S_x f_S_x_46 f_M_x f_M_x_39
  rw [if_pos (IV_12 h), e1, zb_s, e1', zb_s, e2, zb_s, e3, zb_s]
  rcases e4 with ⟨x0, rfl⟩ | ⟨rfl, x0, y0, z0, V, vV, ex, hP, ln, s0, hMK, l8⟩
  · rw [if_pos x0, if_pos (by decide), if_pos rfl]
    exact zE_s rfl
  obtain ⟨_, m, g, hV, _⟩ := hP.2.2 a2 z0.1 vV
  rw [← ex] at hV
  obtain ⟨_, _, _, _, _, _, _, _, c, nw, qn, gb⟩ := hV
  have c0 := nw.1
  have n10 := nw.2.1
  have n13 := nw.2.2.2.1
  have hq := hP.1.1
  have hv : Fm 13 y 7 = F 6 s 7 := hP.2.1.2.2.2.2.2.1.symm
  have nb0 := hP.2.1.2.2.2.2.2.2
  rw [if_neg (show ¬ x < 0 by omega), if_neg (show ¬ s < 0 by omega), if_pos hq, if_pos (show r32 1 by decide), if_neg (show ¬ (1 : Int) = 0 by decide), if_pos h3, if_pos h3]
  by_cases z3 : a3 < 0
  · rw [if_pos z3, if_pos z3]
    by_cases z8 : F 6 s 8 < 0
    · rw [if_pos z8]; exact zE_s rfl
    · rw [if_neg z8]; exact zE_s rfl
  rw [if_neg z3, if_neg z3, if_pos x0, n10, if_pos (show r32 c by unfold r32; omega), if_pos y0, if_pos z0, n13, if_pos (show r32 c by unfold r32; omega)]
  by_cases zc : c ≤ a3
  · rw [if_pos zc, if_neg (show ¬ a3 < c by omega)]
    by_cases z8 : F 6 s 8 < 0
    · rw [if_pos z8]; exact zE_s rfl
    · rw [if_neg z8]; exact zE_s rfl
  rw [if_neg zc, if_pos (show a3 < c by omega), if_pos (show 0 ≤ a3 ∧ a3 < 800 by omega)]
  obtain ⟨k0, k1, k9, k4, k5, _⟩ := nw.2.2.2.2 a3 (by omega) (by omega)
  have yb : 0 ≤ 800 * a2 + a3 ∧ 800 * a2 + a3 < 3200 := by omega
  have rdn := rd_n (y := 800 * a2 + a3) (PK_r hP) z0.1 vV (by omega) (by rw [n13]; omega)
  rcases (ln s0).2.2.2 with ⟨y1, y2⟩ | ⟨y1, y2⟩
  · -- no lines
    rw [y1, if_pos (show r32 0 by decide), if_pos (show (0 : Int) = 0 from rfl)]
    by_cases z8 : F 6 s 8 < 0
    · rw [if_pos z8]; exact zE_s rfl
    · have hl : 0 ≤ F 6 s 8 ∧ F 6 s 8 < K.2 2 := ⟨by omega, l8⟩
      unfold f_Layout_columnX f_Layout_columnX_17
      rw [if_neg z8, if_pos hl, if_pos hl, y2 hl.1, if_pos (by decide), if_pos rfl, zb_s]
      exact zE_s rfl
  have hl : 0 ≤ F 6 s 8 ∧ F 6 s 8 < K.2 2 := ⟨y1, l8⟩
  generalize hlv : F 6 s 8 = l at *
  obtain ⟨⟨u1, u2, u3⟩, ⟨u4, u5⟩, u6, u7, u8, u9⟩ := y2
  have hS := u2
  obtain ⟨s1, s2, s3, s4⟩ := u2
  generalize hn : F 2 l 0 = n at *
  generalize hb : B 4 x 361 a3 = b at *
  generalize hx : B 4 x 9 a3 = pl at *
  have bb : 0 ≤ b ∧ b < F 6 s 7 := by
    rw [← k1.1, hv] at rdn
    exact rdn.2.1
  have t4 := s4 b bb.1 bb.2
  -- its column
  obtain ⟨J, j0, j1, j2, j3⟩ := hMK.2.1.1.2 a2 (800 * a2 + a3) z0.1 vV (by omega) (by rw [n13]; omega) (by omega) (by rw [hv]; omega)
  rw [← k1.1, u7 b (by omega) (by omega)] at j0
  rw [← k1.1, u7 (b + 1) (by omega) (by omega)] at j1
  have cj := u8 b J bb.1 bb.2 j0 j1
  have eJ : B 2 l 1 J = pl := nd_inj cj.2.2.1 k9.1 (by rw [← cj.1.1, j2]; exact k9.2.2.1) (by rw [← cj.1.2, j3]; exact k9.2.2.2)
  unfold f_Layout_columnX
  rw [if_neg (show ¬ l < 0 by omega), if_pos hl, if_pos hl, hn, if_pos (show r32 n by unfold r32; omega), if_neg (show ¬ n = 0 by omega), if_pos (show r32 b by unfold r32; omega), if_neg (show ¬ b < 0 by omega), if_pos (show b < 100 by omega), if_pos (show 0 ≤ b ∧ b < 101 by omega), ← u1, if_pos (show r32 n by unfold r32; omega), if_neg (show ¬ n = 0 by omega), if_pos yb, ← k1.1]
  -- its line
  have f2 : -7 ≤ Fm 13 y 2 ∧ Fm 13 y 2 ≤ 7 := by have := hP.2.1.1; omega
  have key : ∀ (d N : Nat) (k : Int), k + d = n - 1 → 0 ≤ k → d < N → B 2 l 7 k ≤ b → ∃ r, zbind (f_Layout_columnX_27 K K.1 (B 2 l 5 b) l b pl F B) (fun r15 F15 B15 => some (r15, F15, B15)) = some (r, F, B) ∧ f_M_x_63 Km N k b (800 * a2 + a3) y Fm Bm = some (r, Fm, Bm) := by
    have stop : ∀ (N : Nat) (k : Int), 0 ≤ k → k < n → B 2 l 7 k ≤ b → b < B 2 l 7 (k + 1) → ∃ r, zbind (f_Layout_columnX_27 K K.1 (B 2 l 5 b) l b pl F B) (fun r15 F15 B15 => some (r15, F15, B15)) = some (r, F, B) ∧ f_M_x_63 Km (N + 1) k b (800 * a2 + a3) y Fm Bm = some (r, Fm, Bm) := by
      intro N k k0' k1' l0 l1
      obtain ⟨q1, q2, q3, q4⟩ := u6 k k0' k1'
      obtain ⟨r1, r2, r3, r4, r5⟩ := s3 k k0' k1'
      have m1 : B 2 l 5 (B 2 l 7 k) ≤ B 2 l 5 b := LYs_m hS r1 l0 (by omega)
      have m2 : B 2 l 5 (b + 1) ≤ B 2 l 5 (B 2 l 7 (k + 1)) := LYs_m hS (by omega) (by omega) r3
      have m0 := s4 (B 2 l 7 k) r1 (by omega)
      have m3 : B 2 l 5 (B 2 l 7 (k + 1)) ≤ 3200 := by
        have := (s4 (B 2 l 7 (k + 1) - 1) (by omega) (by omega)).2.2
        rw [show B 2 l 7 (k + 1) - 1 + 1 = B 2 l 7 (k + 1) by omega] at this
        exact this
      have w7 := u7 (B 2 l 7 k) r1 (by omega)
      have w7' := u7 (B 2 l 7 (k + 1)) (by omega) r3
      have cols : f_M_lineColumns Km y k Fm Bm = some (B 2 l 5 (B 2 l 7 (k + 1)) - B 2 l 5 (B 2 l 7 k), Fm, Bm) := by
        unfold f_M_lineColumns
        rw [if_pos y0, if_pos (by omega), ← q2, ← q1, if_pos (by omega), if_pos (by omega), w7, w7']
      have hr47 : r32 (Fm 13 y 47) := by
        rcases (ln s0).1 with zz | zz
        · omega
        · exact zz.2.1
      have hM : ∀ c, B 2 l 5 b ≤ c → c < B 2 l 5 (b + 1) → (if 0 ≤ k ∧ k < 100 then zbind (f_M_ahead Km y (Bm 13 y 49 k) Fm Bm) (fun r31 F31 B31 => f_M_x_199 Km Km (B 2 l 5 (B 2 l 7 k)) (r31 + (6 * ((b - (B31 13 y 49 k)) + 1))) c (B 2 l 5 (B 2 l 7 k)) k y F31 B31) else none) = some (xV (F 6 s 2) (Fm 13 y 47) n l k b c B, Fm, Bm) := fun c' c0' c1' => by
        rw [if_pos (by omega), ← q1, L_ahdX y0 f2 (by unfold r32; omega), zb_s, ← q1, L_x199X (K := Km) (w := y) (fst := B 2 l 5 (B 2 l 7 k)) (k := k) (c := c') (n := n) (wd := Fm 13 y 47) (lw := B 2 l 8 k) (cols := B 2 l 5 (B 2 l 7 (k + 1)) - B 2 l 5 (B 2 l 7 k)) y0 (by omega) rfl u1.symm q3.symm hr47 r4 (by omega) cols (by omega) (by omega) (c' - B 2 l 5 (B 2 l 7 k)).toNat Km (B 2 l 5 (B 2 l 7 k)) _ (by omega) m0.1 (by omega)]
        rw [smR_c (f := fun c => B 2 l 2 c) (f' := fun j => Bm 13 y 45 j) _ (B 2 l 5 (B 2 l 7 k)) (fun j jj0 jj1 => by
          -- the bar of column j
          obtain ⟨t, tt0, tt1, tt2, tt3⟩ := bar_of hS (j := j) (a := B 2 l 7 k) (e := b + 1) r1 (by omega) (by omega) (by omega) (by omega)
          exact (u8 t j (by omega) (by omega) tt2 tt3).2.1)]
        have zm : zmax (B 2 l 5 (B 2 l 7 (k + 1)) - B 2 l 5 (B 2 l 7 k)) 1 = B 2 l 5 (B 2 l 7 (k + 1)) - B 2 l 5 (B 2 l 7 k) := by unfold zmax; rw [if_neg (by omega)]
        unfold xV
        rw [zm, ← hP.2.1.1.1]
        by_cases z1 : n ≤ k + 1
        · rw [if_pos (Or.inr z1), if_pos z1, Int.zero_mul, zdv_0 (by omega) (by unfold r32; omega)]
        · by_cases z2 : Fm 13 y 47 ≤ B 2 l 8 k
          · rw [if_pos (Or.inl z2), if_neg z1, show zmax (Fm 13 y 47 - B 2 l 8 k) 0 = 0 by unfold zmax; split <;> omega, Int.zero_mul, zdv_0 (by omega) (by unfold r32; omega)]
          · rw [if_neg (by omega), if_neg z1, show zmax (Fm 13 y 47 - B 2 l 8 k) 0 = Fm 13 y 47 - B 2 l 8 k by unfold zmax; rw [if_neg (by omega)]]
      obtain ⟨r, g1, g2⟩ := P_col (K := K) (Km := Km) (l := l) (w := y) (b := b) (x := pl) (y := 800 * a2 + a3) (k := k) (fst := B 2 l 5 (B 2 l 7 k)) (nb := F 6 s 7) (F := F) (B := B) (Fm := Fm) (Bm := Bm) (X := fun c => xV (F 6 s 2) (Fm 13 y 47) n l k b c B) hl y0 (by omega) yb ⟨k9.1, k9.2.1⟩ k9.2.2.1 k9.2.2.2 ⟨t4.1, t4.2.2⟩ (fun c' c0' c1' => ⟨(u8 b c' bb.1 bb.2 c0' c1').1, (u8 b c' bb.1 bb.2 c0' c1').2.2⟩) (fun c' c0' c1' => u9 k b c' k0' k1' l0 l1 c0' c1') hM ⟨j0, j1⟩ eJ (J - B 2 l 5 b).toNat K.1 Km (B 2 l 5 b) (by omega) (Int.le_refl _) (by omega) (by omega)
      refine ⟨r, by rw [g1, zb_s], ?_⟩
      rw [f_M_x_63, if_pos y0, if_pos (by omega), ← q2, if_pos (by unfold r32; omega), if_pos (by unfold r32; omega), if_pos l1, ← q1, if_pos (by omega), if_pos (by omega), w7, u7 b (by omega) (by omega)]
      exact g2
    intro d
    induction d with
    | zero =>
      intro N k hk k0' hN l0
      obtain ⟨N, rfl⟩ : ∃ m, N = m + 1 := ⟨N - 1, by omega⟩
      refine stop N k k0' (by omega) l0 ?_
      rw [show k + 1 = n by omega, u5]
      exact bb.2
    | succ d ih =>
      intro N k hk k0' hN l0
      obtain ⟨N, rfl⟩ : ∃ m, N = m + 1 := ⟨N - 1, by omega⟩
      by_cases z : b < B 2 l 7 (k + 1)
      · exact stop N k k0' (by omega) l0 z
      · obtain ⟨r, g1, g2⟩ := ih N (k + 1) (by omega) (by omega) (by omega) (by omega)
        obtain ⟨q1, q2, q3, q4⟩ := u6 k k0' (by omega)
        obtain ⟨r1, r2, r3, r4, r5⟩ := s3 k k0' (by omega)
        refine ⟨r, g1, ?_⟩
        rw [f_M_x_63, if_pos y0, if_pos (by omega), ← q2, if_pos (by unfold r32; omega), if_pos (by unfold r32; omega), if_neg z]
        exact g2
  exact key (n - 1).toNat Km 0 (by omega) (by decide) (by omega) (by omega)
theorem q_x {Km : Nat} (a1 a2 a3 : Int) (h1 : r32 a1) (h2 : r32 a2) (h3 : r32 a3) {K : zK} {F Fm : zF} {B Bm : zB} (h : IV cc Km K F B Fm Bm) : ∃ r1 F1 B1 r2 F2 B2, f_S_x K 0 a1 a2 a3 F B = some (r1, F1, B1) ∧ f_M_x Km a1 a2 a3 Fm Bm = some (r2, F2, B2) ∧ IV cc Km K F1 B1 F2 B2 ∧ r1 = r2 := by
  obtain ⟨r1, F1, B1, r2, F2, B2, x1, x2, hI⟩ := p_x a1 a2 a3 h1 h2 h3 h
  obtain ⟨r, y1, y2⟩ := e_x a1 a2 a3 h1 h2 h3 h
  exact ⟨r1, F1, B1, r2, F2, B2, x1, x2, hI, (sm3 x1 y1).trans (sm3 x2 y2).symm⟩
end
end
section
section
variable {cc : Int}
/-! ===== look: answers alike ===== -/
/-- what the reference says of a kept piece (but the key heard) -/
def lkM (v a2 : Int) (Fm : zF) : Int := if a2 = 0 then Fm 13 v 1 else if a2 = 1 then Fm 13 v 7 else if a2 = 2 then Fm 13 v 2 else if a2 = 3 then (if Fm 13 v 3 = 0 then 0 else 1) else if a2 = 4 then Fm 13 v 4 else if a2 = 5 then Fm 13 v 5 else if a2 = 6 then Fm 13 v 6 else if a2 = 7 then Fm 13 v 72 else if a2 = 8 then Fm 13 v 76 else if a2 = 10 then Fm 13 v 48 else if a2 = 11 then Fm 13 v 54 else if a2 = 12 then Fm 13 v 60 else if a2 = 13 then Fm 13 v 65 else -1
theorem L_lookX {Km : Nat} {a1 a2 v : Int} {Fm : zF} {Bm : zB} (h2 : r32 a2) (hv : 0 ≤ v ∧ v < 3) (h33 : Fm 13 v 3 = 0 ∨ Fm 13 v 3 = 1) (x3 : f_M_piece Km a1 Fm Bm = some (v, Fm, Bm)) (c9 : ¬ a2 = 9) : f_M_look Km a1 a2 Fm Bm = some (lkM v a2 Fm, Fm, Bm) := by
  unfold f_M_look f_M_look_111 lkM
  rw [x3, zb_s, if_neg (show ¬ v < 0 by omega), if_pos h2]
  by_cases c0 : a2 = 0
  · rw [if_pos c0, if_pos c0, if_pos hv]
  rw [if_neg c0, if_neg c0]
  by_cases c1 : a2 = 1
  · rw [if_pos c1, if_pos c1, if_pos hv]
  rw [if_neg c1, if_neg c1]
  by_cases c2 : a2 = 2
  · rw [if_pos c2, if_pos c2, if_pos hv]
  rw [if_neg c2, if_neg c2]
  by_cases c3 : a2 = 3
  · rw [if_pos c3, if_pos c3, if_pos hv, if_pos (show r32 (Fm 13 v 3) by unfold r32; omega)]
    by_cases z : Fm 13 v 3 = 0
    · rw [if_pos z, if_pos z]
    · rw [if_neg z, if_neg z]
  rw [if_neg c3, if_neg c3]
  by_cases c4 : a2 = 4
  · rw [if_pos c4, if_pos c4, if_pos hv]
  rw [if_neg c4, if_neg c4]
  by_cases c5 : a2 = 5
  · rw [if_pos c5, if_pos c5, if_pos hv]
  rw [if_neg c5, if_neg c5]
  by_cases c6 : a2 = 6
  · rw [if_pos c6, if_pos c6, if_pos hv]
  rw [if_neg c6, if_neg c6]
  by_cases c7 : a2 = 7
  · rw [if_pos c7, if_pos c7, if_pos hv]
  rw [if_neg c7, if_neg c7]
  by_cases c8 : a2 = 8
  · rw [if_pos c8, if_pos c8, if_pos hv]
  rw [if_neg c8, if_neg c8]
  rw [if_neg c9]
  by_cases c10 : a2 = 10
  · rw [if_pos c10, if_pos c10, if_pos hv]
  rw [if_neg c10, if_neg c10]
  by_cases c11 : a2 = 11
  · rw [if_pos c11, if_pos c11, if_pos hv]
  rw [if_neg c11, if_neg c11]
  by_cases c12 : a2 = 12
  · rw [if_pos c12, if_pos c12, if_pos hv]
  rw [if_neg c12, if_neg c12]
  by_cases c13 : a2 = 13
  · rw [if_pos c13, if_pos c13, if_pos hv]
  rw [if_neg c13, if_neg c13]
theorem v_look {Km : Nat} (a1 a2 : Int) (h1 : r32 a1) (h2 : r32 a2) {K : zK} {F Fm : zF} {B Bm : zB} (h : IV cc Km K F B Fm Bm) : ∃ r F1 B1 K1 F2 B2, f_S_look K 0 a1 a2 F B = some (r, F1, B1, K1) ∧ f_M_look Km a1 a2 Fm Bm = some (r, F2, B2) := by
  have hK := (IV_k h).1
  have hKm := (IV_k h).2.1
  have h12 := IV_12 h
  have hU := IV_u h
  rcases slotE h h1 with ⟨q, q0, x1, x3⟩ | ⟨p, p0, p1, w, w0, w1, q, v, V, hE, hZ, hc, hP, hM, hD, m0, hv, x1, x3, ln, q0⟩
  · refine ⟨-1, F, B, K, Fm, Bm, ?_, ?_⟩
    · unfold f_S_look
      rw [if_pos h12, x1]
      simp only [zbN_s]
      rw [if_pos q0]
    · unfold f_M_look
      rw [x3, zb_s, if_pos (by decide)]
  have hq := hP.1.1
  have o3 := hE.1.2.2.2.2.2.2.2.2.1 q hq.1 hq.2
  have h5 : 0 ≤ K.2 5 := by have := hE.1.1.2.2; omega
  have g9 : 0 ≤ K.2 9 := by have := hE.1.1.2.2; omega
  have h33 : Fm 13 v 3 = 0 ∨ Fm 13 v 3 = 1 := by have := hP.2.1.2.1; omega
  obtain ⟨s, F1, B1, K1, y1, y2, y3, y4, y5, y6, y7, y8, y9, y10, y11⟩ := C_made (by omega) h5 hP hE.2.1 hD
  by_cases c9 : a2 = 9
  · -- the key heard
    obtain ⟨Fm', Bm', z1, z2, z3, z4, z5, z6⟩ := SDR_ga (Km := Km) (by omega) y5 hE.2.1
    obtain ⟨r, B2, ek, el⟩ := P_kyh (K := K1) (Km := Km) (by rw [y2]; exact hK) (by omega) y3 z1 z4 ⟨z5, z6⟩ (TQm_e hU.2.2.2.2.2.2 (fun k x hk => z3 14 0 k x (by omega)))
    refine ⟨r, F1, B2, K1, Fm', Bm', ?_, ?_⟩
    · unfold f_S_look f_S_look_139
      rw [if_pos h12, x1]
      simp only [zbN_s]
      rw [if_neg (show ¬ q < 0 by omega), if_pos h2, if_neg (show ¬ a2 = 0 by omega), if_neg (show ¬ a2 = 1 by omega), if_neg (show ¬ a2 = 2 by omega), if_neg (show ¬ a2 = 3 by omega), if_neg (show ¬ a2 = 4 by omega), if_neg (show ¬ a2 = 5 by omega), if_neg (show ¬ a2 = 6 by omega), if_neg (show ¬ a2 = 7 by omega), if_neg (show ¬ a2 = 8 by omega), if_pos c9, if_pos hq, y1]
      simp only [zbM_s]
      rw [if_pos y3, ek]
      simp only [zbN_s]
    · unfold f_M_look
      rw [x3, zb_s, if_neg (show ¬ v < 0 by omega), if_pos h2, if_neg (show ¬ a2 = 0 by omega), if_neg (show ¬ a2 = 1 by omega), if_neg (show ¬ a2 = 2 by omega), if_neg (show ¬ a2 = 3 by omega), if_neg (show ¬ a2 = 4 by omega), if_neg (show ¬ a2 = 5 by omega), if_neg (show ¬ a2 = 6 by omega), if_neg (show ¬ a2 = 7 by omega), if_neg (show ¬ a2 = 8 by omega), if_pos c9, if_pos hv, el, zb_s]
  obtain ⟨t, F3, B3, K3, e3, st, sz, hq3⟩ := C_stm hK g9 hU (PQs_k h hP) o3.2.2
  obtain ⟨S, _, _, _, sq⟩ := ST_q (K1 := K3) hP ln q0 sz
  have eM := L_lookX (Km := Km) (a1 := a1) (Bm := Bm) h2 hv h33 x3 c9
  have d10 := hD.1
  unfold f_S_look f_S_look_123 f_S_look_131 f_S_look_161 f_S_look_173 f_S_look_180 f_S_look_193 f_S_look_201 f_S_look_213 f_S_look_220
  rw [if_pos h12, x1]
  simp only [zbN_s]
  rw [if_neg (show ¬ q < 0 by omega), if_pos h2]
  have stay : ∀ (r : Int) (F' : zF) (B' : zB) (K' : zK), r = lkM v a2 Fm → ∃ r1 F1 B1 K1 F2 B2, some (r, F', B', K') = some (r1, F1, B1, K1) ∧ f_M_look Km a1 a2 Fm Bm = some (r1, F2, B2) := fun r F' B' K' e => ⟨r, F', B', K', Fm, Bm, rfl, by rw [e]; exact eM⟩
  have perf : ¬ F 6 q 10 = 0 → F1 5 s 0 = Fm 13 v 54 ∧ 2 * F1 5 s 0 = Fm 13 v 60 ∧ F1 5 s 2 = Fm 13 v 65 := fun z => by
    obtain ⟨e11, c, pfd⟩ := hD.2.2.2.2.2.1 (by omega)
    obtain ⟨rfl, rfl⟩ := y10 e11
    rw [y6.1] at pfd
    have a1' := pfd.1
    have a2' := pfd.2.1
    exact ⟨by omega, by omega, pfd.2.2.2.2.2.2⟩
  have none' : F 6 q 10 = 0 → Fm 13 v 53 = 0 ∧ Fm 13 v 54 = 0 ∧ Fm 13 v 60 = 0 ∧ Fm 13 v 65 = 0 := hD.2.2.2.2.2.2
  by_cases c0 : a2 = 0
  · rw [if_pos c0, if_pos hq]
    exact stay _ _ _ _ (by unfold lkM; rw [if_pos c0]; rw [hP.1.2.2.2.1, hP.1.2.2.2.2])
  rw [if_neg c0]
  by_cases c1 : a2 = 1
  · rw [if_pos c1, if_pos hq]
    exact stay _ _ _ _ (by unfold lkM; rw [if_neg c0, if_pos c1]; exact hP.2.1.2.2.2.2.2.1)
  rw [if_neg c1]
  by_cases c2 : a2 = 2
  · rw [if_pos c2, if_pos hq]
    exact stay _ _ _ _ (by unfold lkM; rw [if_neg c0, if_neg c1, if_pos c2]; exact hP.2.1.1.1)
  rw [if_neg c2]
  by_cases c3 : a2 = 3
  · rw [if_pos c3, if_pos hq]
    exact stay _ _ _ _ (by unfold lkM; rw [if_neg c0, if_neg c1, if_neg c2, if_pos c3]; have t3 := hP.2.1.2.1; split <;> omega)
  rw [if_neg c3]
  by_cases c4 : a2 = 4
  · rw [if_pos c4, if_pos hq]
    exact stay _ _ _ _ (by unfold lkM; rw [if_neg c0, if_neg c1, if_neg c2, if_neg c3, if_pos c4]; exact hP.2.1.2.2.1.1)
  rw [if_neg c4]
  by_cases c5 : a2 = 5
  · rw [if_pos c5, if_pos hq]
    exact stay _ _ _ _ (by unfold lkM; rw [if_neg c0, if_neg c1, if_neg c2, if_neg c3, if_neg c4, if_pos c5]; exact hP.2.1.2.2.2.1.1)
  rw [if_neg c5]
  by_cases c6 : a2 = 6
  · rw [if_pos c6, if_pos hq]
    exact stay _ _ _ _ (by unfold lkM; rw [if_neg c0, if_neg c1, if_neg c2, if_neg c3, if_neg c4, if_neg c5, if_pos c6]; exact hP.2.1.2.2.2.2.1.1)
  rw [if_neg c6]
  by_cases c7 : a2 = 7
  · rw [if_pos c7, if_pos hq, e3]
    simp only [zbM_s]
    rw [if_pos st.2.1]
    exact stay _ _ _ _ (by unfold lkM; rw [if_neg c0, if_neg c1, if_neg c2, if_neg c3, if_neg c4, if_neg c5, if_neg c6, if_pos c7]; exact sq.1)
  rw [if_neg c7]
  by_cases c8 : a2 = 8
  · rw [if_pos c8, if_pos hq, e3]
    simp only [zbM_s]
    rw [if_pos st.2.1]
    exact stay _ _ _ _ (by unfold lkM; rw [if_neg c0, if_neg c1, if_neg c2, if_neg c3, if_neg c4, if_neg c5, if_neg c6, if_neg c7, if_pos c8]; exact sq.2.1)
  rw [if_neg c8, if_neg c9]
  by_cases c10 : a2 = 10
  · rw [if_pos c10, if_pos hq]
    rcases (ln q0).2.2.2 with ⟨u1, u2⟩ | ⟨u1, u2⟩
    · by_cases n8 : F 6 q 8 < 0
      · rw [if_pos n8]
        exact stay _ _ _ _ (by unfold lkM; rw [if_neg c0, if_neg c1, if_neg c2, if_neg c3, if_neg c4, if_neg c5, if_neg c6, if_neg c7, if_neg c8, if_pos c10]; exact u1.symm)
      · rw [if_neg n8, if_pos ⟨by omega, o3.1⟩]
        exact stay _ _ _ _ (by unfold lkM; rw [if_neg c0, if_neg c1, if_neg c2, if_neg c3, if_neg c4, if_neg c5, if_neg c6, if_neg c7, if_neg c8, if_pos c10]; rw [u1]; exact u2 (by omega))
    · rw [if_neg (show ¬ F 6 q 8 < 0 by omega), if_pos ⟨u1, o3.1⟩]
      exact stay _ _ _ _ (by unfold lkM; rw [if_neg c0, if_neg c1, if_neg c2, if_neg c3, if_neg c4, if_neg c5, if_neg c6, if_neg c7, if_neg c8, if_pos c10]; exact u2.1.1)
  rw [if_neg c10]
  by_cases c11 : a2 = 11
  · rw [if_pos c11, if_pos hq, if_pos (show r32 (F 6 q 10) by unfold r32; omega)]
    by_cases z : F 6 q 10 = 0
    · rw [if_pos z]
      exact stay _ _ _ _ (by unfold lkM; rw [if_neg c0, if_neg c1, if_neg c2, if_neg c3, if_neg c4, if_neg c5, if_neg c6, if_neg c7, if_neg c8, if_neg c10, if_pos c11]; exact ((none' z).2.1).symm)
    · rw [if_neg z, y1]
      simp only [zbM_s]
      rw [if_pos y3]
      exact stay _ _ _ _ (by unfold lkM; rw [if_neg c0, if_neg c1, if_neg c2, if_neg c3, if_neg c4, if_neg c5, if_neg c6, if_neg c7, if_neg c8, if_neg c10, if_pos c11]; exact (perf z).1)
  rw [if_neg c11]
  by_cases c12 : a2 = 12
  · rw [if_pos c12, if_pos hq, if_pos (show r32 (F 6 q 10) by unfold r32; omega)]
    by_cases z : F 6 q 10 = 0
    · rw [if_pos z]
      exact stay _ _ _ _ (by unfold lkM; rw [if_neg c0, if_neg c1, if_neg c2, if_neg c3, if_neg c4, if_neg c5, if_neg c6, if_neg c7, if_neg c8, if_neg c10, if_neg c11, if_pos c12]; exact ((none' z).2.2.1).symm)
    · rw [if_neg z, y1]
      simp only [zbM_s]
      rw [if_pos y3]
      exact stay _ _ _ _ (by unfold lkM; rw [if_neg c0, if_neg c1, if_neg c2, if_neg c3, if_neg c4, if_neg c5, if_neg c6, if_neg c7, if_neg c8, if_neg c10, if_neg c11, if_pos c12]; exact (perf z).2.1)
  rw [if_neg c12]
  by_cases c13 : a2 = 13
  · rw [if_pos c13, if_pos hq, if_pos (show r32 (F 6 q 10) by unfold r32; omega)]
    by_cases z : F 6 q 10 = 0
    · rw [if_pos z]
      exact stay _ _ _ _ (by unfold lkM; rw [if_neg c0, if_neg c1, if_neg c2, if_neg c3, if_neg c4, if_neg c5, if_neg c6, if_neg c7, if_neg c8, if_neg c10, if_neg c11, if_neg c12, if_pos c13]; exact ((none' z).2.2.2).symm)
    · rw [if_neg z, y1]
      simp only [zbM_s]
      rw [if_pos y3]
      exact stay _ _ _ _ (by unfold lkM; rw [if_neg c0, if_neg c1, if_neg c2, if_neg c3, if_neg c4, if_neg c5, if_neg c6, if_neg c7, if_neg c8, if_neg c10, if_neg c11, if_neg c12, if_pos c13]; exact (perf z).2.2)
  rw [if_neg c13]
  exact stay _ _ _ _ (by unfold lkM; rw [if_neg c0, if_neg c1, if_neg c2, if_neg c3, if_neg c4, if_neg c5, if_neg c6, if_neg c7, if_neg c8, if_neg c10, if_neg c11, if_neg c12, if_neg c13])
theorem q_look {Km : Nat} (a1 a2 : Int) (h1 : r32 a1) (h2 : r32 a2) {K : zK} {F Fm : zF} {B Bm : zB} (h : IV cc Km K F B Fm Bm) : ∃ r1 F1 B1 K1 r2 F2 B2, f_S_look K 0 a1 a2 F B = some (r1, F1, B1, K1) ∧ f_M_look Km a1 a2 Fm Bm = some (r2, F2, B2) ∧ IV cc Km K1 F1 B1 F2 B2 ∧ r1 = r2 := by
  obtain ⟨r1, F1, B1, K1, r2, F2, B2, x1, x2, hI⟩ := p_look a1 a2 h1 h2 h
  obtain ⟨r, _, _, _, _, _, y1, y2⟩ := v_look a1 a2 h1 h2 h
  exact ⟨r1, F1, B1, K1, r2, F2, B2, x1, x2, hI, (sm4 x1 y1).trans (sm3 x2 y2).symm⟩
end
end
