section
/-! ===== groups and stems: they return ===== -/
theorem C_bm {K : zK} {q c i : Int} {m : Nat} {F : zF} {B : zB} (h : QN K q m c F B) (i0 : 0 ≤ i) (i1 : i < c) : ∃ r, f_Part_isBeamed K q i F B = some (r, F, B) ∧ (r = 0 ∨ r = 1) := by
  obtain ⟨r1, e1, z1, z2⟩ := C_rn h i0 i1
  obtain ⟨h4, ⟨h6, m1⟩, ⟨h10, c0, c1⟩, hc, hno, he, _⟩ := h
  have n4 := (hno i i0 i1).2.2.2
  unfold f_Part_isBeamed f_Part_isBeamed_24 f_Part_isBeamed_25
  rw [if_pos h4, e1, zb_s]
  rcases z1 with rfl | rfl
  · rw [if_pos (by decide), if_pos rfl, if_pos (by first | decide | omega), if_pos (by unfold r32; omega)]
    by_cases y : B 4 q 364 i < 3
    · rw [if_pos y, if_pos (Or.inl rfl)]; exact ⟨0, rfl, Or.inl rfl⟩
    · rw [if_neg y, if_pos (Or.inr rfl)]; exact ⟨1, rfl, Or.inr rfl⟩
  · rw [if_pos (by decide), if_neg (by decide), if_pos (Or.inl rfl)]; exact ⟨0, rfl, Or.inl rfl⟩
theorem C_bwi {K : zK} {q c i j b : Int} {m : Nat} {F : zF} {B : zB} (h : QN K q m c F B) (i0 : 0 ≤ i) (i1 : i < c) (j0 : 0 ≤ j) (j1 : j < c) (b0 : 0 < b) (b1 : b ≤ 1000000000000) : ∃ r, f_Part_beamsWith K q i j b F B = some (r, F, B) ∧ (r = 0 ∨ r = 1) := by
  obtain ⟨r1, e1, z1⟩ := C_bm h j0 j1
  obtain ⟨h4, ⟨h6, m1⟩, ⟨h10, c0, c1⟩, hc, hno, he, _⟩ := h
  have ni := hno i i0 i1
  have nj := hno j j0 j1
  have q1 : 0 ≤ B 4 q 9 i / b := Int.ediv_nonneg (by first | decide | omega) (by first | decide | omega)
  have q2 : B 4 q 9 i / b ≤ B 4 q 9 i := Int.ediv_le_self _ (by first | decide | omega)
  have q3 : 0 ≤ B 4 q 9 j / b := Int.ediv_nonneg (by first | decide | omega) (by first | decide | omega)
  have q4 : B 4 q 9 j / b ≤ B 4 q 9 j := Int.ediv_le_self _ (by first | decide | omega)
  unfold f_Part_beamsWith f_Part_beamsWith_59 f_Part_beamsWith_60
  rw [if_pos h4, if_pos (by unfold r32; omega), h10, if_pos (by unfold r32; omega), if_neg (by first | decide | omega), e1, zb_s]
  rcases z1 with rfl | rfl
  · rw [if_pos (by decide), if_pos rfl, if_pos (Or.inl rfl)]; exact ⟨0, rfl, Or.inl rfl⟩
  rw [if_pos (by decide), if_neg (by decide), if_pos (by first | decide | omega), if_pos (by first | decide | omega), if_pos (by unfold r32; omega), if_pos (by unfold r32; omega)]
  by_cases y : B 4 q 361 i = B 4 q 361 j
  · rw [if_pos y, if_pos (lI_n0 b0 (by unfold r64; omega)), zldv_e (by first | decide | omega) (by first | decide | omega) b0 (by first | decide | omega), zldv_e (by first | decide | omega) (by first | decide | omega) b0 (by first | decide | omega), if_pos (by unfold r64; omega), if_pos (by unfold r64; omega)]
    by_cases z : zcmp (B 4 q 9 i / b) (B 4 q 9 j / b) = 0
    · rw [if_pos z, if_pos (Or.inr rfl)]; exact ⟨1, rfl, Or.inr rfl⟩
    · rw [if_neg z, if_pos (Or.inl rfl)]; exact ⟨0, rfl, Or.inl rfl⟩
  · rw [if_neg y, if_pos (Or.inl rfl)]; exact ⟨0, rfl, Or.inl rfl⟩
def GB (q u : Int) (B : zB) : Prop := ∀ i, 0 ≤ i → i < u → (-1 ≤ B 4 q 369 i ∧ B 4 q 369 i ≤ 800) ∧ r32 (B 4 q 370 i)
/-- what is made of the notes, whole -/
def GBw (q u : Int) (B : zB) : Prop := ∀ i, 0 ≤ i → i < u → (-1 ≤ B 4 q 369 i ∧ B 4 q 369 i ≤ 800) ∧ r32 (B 4 q 370 i) ∧ r32 (B 4 q 366 i) ∧ r32 (B 4 q 367 i) ∧ r32 (B 4 q 368 i) ∧ r32 (B 4 q 371 i)
theorem C_g34 {K : zK} {q c no l5 gr b : Int} {m : Nat} {F : zF} {B : zB} {rec : Int → Int → Int → Int → Int → zF → zB → zO} (h : QN K q m c F B) (b0 : 0 < b) (b1 : b ≤ 1000000000000) (n0 : 0 ≤ no) : ∀ (r n : Nat) {s : Int}, 1 ≤ s → no + s ≤ c → c - no - s ≤ r → r < n → ∃ s', s ≤ s' ∧ no + s' ≤ c ∧ f_Part_group_34 rec K n s l5 no gr q b F B = f_Part_group_76 rec K s' l5 no gr q b F B := by
  have c1 := h.2.2.1.2.2
  intro r
  induction r with
  | zero =>
    intro n s s1 sc sr hn
    obtain ⟨n, rfl⟩ : ∃ k, n = k + 1 := ⟨n - 1, (by first | decide | omega)⟩
    obtain ⟨r1, e1, z1⟩ := C_bm h n0 (by first | decide | omega)
    refine ⟨s, Int.le_refl _, sc, ?_⟩
    rw [f_Part_group_34, if_pos h.1, e1, zb_s]
    rcases z1 with rfl | rfl
    · rw [if_pos (by decide), if_pos rfl]
    · rw [if_pos (by decide), if_neg (by decide), if_pos (by unfold r32; omega), h.2.2.1.1, if_pos (by unfold r32; omega), if_pos (by first | decide | omega)]
  | succ r ih =>
    intro n s s1 sc sr hn
    obtain ⟨n, rfl⟩ : ∃ k, n = k + 1 := ⟨n - 1, (by first | decide | omega)⟩
    obtain ⟨r1, e1, z1⟩ := C_bm h n0 (by first | decide | omega)
    rw [f_Part_group_34, if_pos h.1, e1, zb_s]
    rcases z1 with rfl | rfl
    · rw [if_pos (by decide), if_pos rfl]
      exact ⟨s, Int.le_refl _, sc, rfl⟩
    · rw [if_pos (by decide), if_neg (by decide), if_pos (by unfold r32; omega), h.2.2.1.1, if_pos (by unfold r32; omega)]
      by_cases y : c ≤ no + s
      · rw [if_pos y]; exact ⟨s, Int.le_refl _, sc, rfl⟩
      · obtain ⟨r2, e2, z2⟩ := C_bwi h n0 (by first | decide | omega) (j := no + s) (by first | decide | omega) (by first | decide | omega) b0 b1
        rw [if_neg y, e2, zb_s]
        rcases z2 with rfl | rfl
        · rw [if_pos (by decide), if_pos rfl]; exact ⟨s, Int.le_refl _, sc, rfl⟩
        · rw [if_pos (by decide), if_neg (by decide)]
          obtain ⟨s', t1, t2, t3⟩ := ih n (s := s + 1) (by first | decide | omega) (by first | decide | omega) (by first | decide | omega) (by first | decide | omega)
          exact ⟨s', (by first | decide | omega), t2, t3⟩
theorem C_g80 {K : zK} {q c no l5 gr b s : Int} {m : Nat} {F : zF} {rec : Int → Int → Int → Int → Int → zF → zB → zO} (n0 : 0 ≤ no) (s1 : 1 ≤ s) (sc : no + s ≤ c) (g0 : 0 ≤ gr ∧ gr ≤ 800) : ∀ (r n : Nat) {k : Int} {B : zB}, no ≤ k → k + r = no + s → r < n → QN K q m c F B → GB q k B → ∃ B' x, f_Part_group_80 rec K n k s l5 no gr q b F B = f_Part_group_192 rec K s l5 no q b gr x F B' ∧ (x = 0 ∨ x = 1) ∧ qB q B B' ∧ QN K q m c F B' ∧ GB q (no + s) B' ∧ qR q B B' := by
  intro r
  induction r with
  | zero =>
    intro n k B k0 kr hn h hg
    obtain ⟨n, rfl⟩ : ∃ k, n = k + 1 := ⟨n - 1, (by first | decide | omega)⟩
    have c1 := h.2.2.1.2.2
    rw [f_Part_group_80, if_pos (by unfold r32; omega), if_pos (by unfold r32; omega), if_pos (by first | decide | omega), if_pos (by unfold r32; omega)]
    have hg' : GB q (no + s) B := by rwa [show no + s = k by omega]
    by_cases y : s ≤ 1
    · rw [if_pos y]; exact ⟨B, 0, rfl, Or.inl rfl, qB_r, h, hg', qR_r⟩
    · rw [if_neg y]; exact ⟨B, 1, rfl, Or.inr rfl, qB_r, h, hg', qR_r⟩
  | succ r ih =>
    intro n k B k0 kr hn h hg
    obtain ⟨n, rfl⟩ : ∃ k, n = k + 1 := ⟨n - 1, (by first | decide | omega)⟩
    have c1 := h.2.2.1.2.2
    have h4 := h.1
    have put : ∀ (gv x : Int), -1 ≤ gv → gv ≤ 800 → r32 x → ∃ B' x', f_Part_group_173 rec (f_Part_group_80 rec K n) K k s l5 no gr q b q k x F (zup4 B 4 q 369 k gv) = f_Part_group_192 rec K s l5 no q b gr x' F B' ∧ (x' = 0 ∨ x' = 1) ∧ qB q B B' ∧ QN K q m c F B' ∧ GB q (no + s) B' ∧ qR q B B' := fun gv x g1 g2 hx => by
      obtain ⟨w1, w2⟩ := QN_w (k := 369) (i := k) (x := gv) h (by decide)
      obtain ⟨w3, w4⟩ := QN_w (k := 370) (i := k) (x := x) w1 (by decide)
      have gb : GB q (k + 1) (zup4 (zup4 B 4 q 369 k gv) 4 q 370 k x) := fun i a b' => by
        by_cases e : i = k
        · rw [e, zup4_v, if_neg (by first | decide | omega), zup4_v, if_pos ⟨rfl, rfl, rfl, rfl⟩, zup4_v, if_pos ⟨rfl, rfl, rfl, rfl⟩]
          exact ⟨⟨g1, g2⟩, hx⟩
        · rw [zup4_v, if_neg (by first | decide | omega), zup4_v, if_neg (by first | decide | omega), zup4_v, if_neg (by first | decide | omega), zup4_v, if_neg (by first | decide | omega)]
          exact hg i a (by first | decide | omega)
      obtain ⟨B', x', t1, t2, t3, t4, t5, t6⟩ := ih n (k := k + 1) (by first | decide | omega) (by first | decide | omega) (by first | decide | omega) w3 gb
      refine ⟨B', x', ?_, t2, qB_t w2 (qB_t w4 t3), t4, t5, qR_t (qR_w (by unfold r32; omega)) (qR_t (qR_w hx) t6)⟩
      unfold f_Part_group_173
      rw [if_pos h4, if_pos (by first | decide | omega)]
      exact t1
    have g129 : ∀ (hn' gv : Int), hn' = 0 ∨ (hn' = 1 ∧ k + 1 < no + s) → -1 ≤ gv → gv ≤ 800 → ∃ B' x', f_Part_group_129 rec (f_Part_group_80 rec K n) K hn' k s l5 no gr q b q k gv F B = f_Part_group_192 rec K s l5 no q b gr x' F B' ∧ (x' = 0 ∨ x' = 1) ∧ qB q B B' ∧ QN K q m c F B' ∧ GB q (no + s) B' ∧ qR q B B' := fun hn' gv hh g1 g2 => by
      unfold f_Part_group_129
      rw [if_pos h4, if_pos (by first | decide | omega), if_pos h4]
      rcases hh with rfl | ⟨rfl, hh⟩
      · rw [if_pos (by decide), if_pos rfl]
        exact put gv 0 g1 g2 (by decide)
      · have a1 := (h.2.2.2.2.1 k (by first | decide | omega) (by first | decide | omega)).2.2.2
        have a2 := (h.2.2.2.2.1 (k + 1) (by first | decide | omega) (by first | decide | omega)).2.2.2
        have e1 : ∀ j, (zup4 B 4 q 369 k gv) 4 q 364 j = B 4 q 364 j := fun j => by rw [zup4_v, if_neg (by first | decide | omega)]
        rw [if_pos (by decide), if_neg (by decide), if_pos (by first | decide | omega), if_pos (by first | decide | omega), e1, e1, if_pos (by unfold r32; omega), if_pos (by unfold r32; omega)]
        exact put gv _ g1 g2 (by unfold r32 zmin; split <;> omega)
    have g107 : ∀ (hn' : Int), hn' = 0 ∨ (hn' = 1 ∧ k + 1 < no + s) → ∃ B' x', f_Part_group_107 rec (f_Part_group_80 rec K n) K k s l5 no gr q b hn' F B = f_Part_group_192 rec K s l5 no q b gr x' F B' ∧ (x' = 0 ∨ x' = 1) ∧ qB q B B' ∧ QN K q m c F B' ∧ GB q (no + s) B' ∧ qR q B B' := fun hn' hh => by
      unfold f_Part_group_107
      rw [if_pos h4, if_pos (by unfold r32; omega)]
      by_cases y : s ≤ 1
      · rw [if_pos y]; exact g129 hn' (-1) hh (by decide) (by decide)
      · rw [if_neg y]; exact g129 hn' gr hh (by first | decide | omega) (by first | decide | omega)
    rw [f_Part_group_80, if_pos (by unfold r32; omega), if_pos (by unfold r32; omega), if_neg (by first | decide | omega), if_pos (by unfold r32; omega)]
    by_cases y : no + s ≤ k + 1
    · rw [if_pos y]; exact g107 0 (Or.inl rfl)
    · rw [if_neg y]; exact g107 1 (Or.inr ⟨rfl, (by first | decide | omega)⟩)
theorem C_grp {K : zK} {q c b : Int} {m : Nat} {F : zF} (hK : 3002 ≤ K.1) (b0 : 0 < b) (b1 : b ≤ 1000000000000) : ∀ (r n : Nat) {l5 no gr : Int} {B : zB}, 0 ≤ no → no ≤ c → c - no ≤ r → r < n → 0 ≤ gr → gr ≤ l5 → l5 ≤ no → QN K q m c F B → GB q no B → ∃ B', f_Part_group_8 K n l5 no gr q b F B = some (0, F, B') ∧ qB q B B' ∧ QN K q m c F B' ∧ GB q c B' ∧ qR q B B' := by
  intro r
  induction r with
  | zero =>
    intro n l5 no gr B n0 nc nr hn g0 g1 l1 h hg
    obtain ⟨n, rfl⟩ : ∃ k, n = k + 1 := ⟨n - 1, (by first | decide | omega)⟩
    have c1 := h.2.2.1.2.2
    have hg' : GB q c B := by rwa [show c = no by omega]
    refine ⟨B, ?_, qB_r, h, hg', qR_r⟩
    rw [f_Part_group_8, if_pos (by unfold r32; omega)]
    simp only [f_Part_group_207]
    by_cases y : 800 ≤ l5
    · rw [if_pos y]
    · rw [if_neg y, if_pos h.1, if_pos (by unfold r32; omega), h.2.2.1.1, if_pos (by unfold r32; omega), if_pos (by first | decide | omega)]
  | succ r ih =>
    intro n l5 no gr B n0 nc nr hn g0 g1 l1 h hg
    obtain ⟨n, rfl⟩ : ∃ k, n = k + 1 := ⟨n - 1, (by first | decide | omega)⟩
    have c1 := h.2.2.1.2.2
    by_cases e : no = c
    · have hg' : GB q c B := by rwa [← e]
      refine ⟨B, ?_, qB_r, h, hg', qR_r⟩
      rw [f_Part_group_8, if_pos (by unfold r32; omega)]
      simp only [f_Part_group_207]
      by_cases y : 800 ≤ l5
      · rw [if_pos y]
      · rw [if_neg y, if_pos h.1, if_pos (by unfold r32; omega), h.2.2.1.1, if_pos (by unfold r32; omega), if_pos (by first | decide | omega)]
    obtain ⟨s, t1, t2, t3⟩ := C_g34 (rec := f_Part_group_8 K n) (l5 := l5) (gr := gr) h b0 b1 n0 (c - no).toNat K.1 (s := 1) (Int.le_refl _) (by first | decide | omega) (by first | decide | omega) (by first | decide | omega)
    obtain ⟨B1, x, u1, u2, u3, u4, u5, u6⟩ := C_g80 (K := K) (q := q) (c := c) (no := no) (l5 := l5) (gr := gr) (b := b) (s := s) (m := m) (F := F) (rec := f_Part_group_8 K n) n0 t1 t2 (by first | decide | omega) s.toNat K.1 (k := no) (B := B) (Int.le_refl _) (by first | decide | omega) (by first | decide | omega) h hg
    rw [f_Part_group_8, if_pos (by unfold r32; omega), if_neg (by first | decide | omega), if_pos h.1, if_pos (by unfold r32; omega), h.2.2.1.1, if_pos (by unfold r32; omega), if_neg (by first | decide | omega), if_pos (by unfold r64; omega), if_neg (fun y => by have := zcmp_m.mp y; omega), t3, f_Part_group_76, u1, f_Part_group_192]
    obtain ⟨B', k1, k2, k3, k4, k5⟩ := ih n (l5 := l5 + 1) (no := no + s) (gr := gr + x) (B := B1) (by first | decide | omega) t2 (by first | decide | omega) (by first | decide | omega) (by first | decide | omega) (by first | decide | omega) (by first | decide | omega) u4 u5
    exact ⟨B', k1, qB_t u3 k2, k3, k4, qR_t u6 k5⟩
theorem GB_f {q c : Int} {B B' : zB} (h : GB q c B) (f : ∀ k i, k = 369 ∨ k = 370 → B' 4 q k i = B 4 q k i) : GB q c B' := fun i a b => by rw [f 369 i (Or.inl rfl), f 370 i (Or.inr rfl)]; exact h i a b
theorem C_st21 {K : zK} {q c no l2 : Int} {m : Nat} {F : zF} {B : zB} {rec : Int → Int → Int → zF → zB → zO} (h : QN K q m c F B) (hg : GB q c B) (n0 : 0 ≤ no) : ∀ (r n : Nat) {s : Int}, 1 ≤ s → no + s ≤ c → c - no - s ≤ r → r < n → ∃ s', s ≤ s' ∧ no + s' ≤ c ∧ f_Part_setStems_21 rec K n s l2 no q F B = f_Part_setStems_73 rec K s' l2 no q F B := by
  have c1 := h.2.2.1.2.2
  intro r
  induction r with
  | zero =>
    intro n s s1 sc sr hn
    obtain ⟨n, rfl⟩ : ∃ k, n = k + 1 := ⟨n - 1, (by first | decide | omega)⟩
    have g1 := hg no n0 (by first | decide | omega)
    refine ⟨s, Int.le_refl _, sc, ?_⟩
    rw [f_Part_setStems_21, if_pos h.1, if_pos (by first | decide | omega), if_pos (by unfold r32; omega)]
    by_cases y : B 4 q 369 no = -1
    · rw [if_pos y]
    · rw [if_neg y, if_pos (by unfold r32; omega), h.2.2.1.1, if_pos (by unfold r32; omega), if_pos (by first | decide | omega)]
  | succ r ih =>
    intro n s s1 sc sr hn
    obtain ⟨n, rfl⟩ : ∃ k, n = k + 1 := ⟨n - 1, (by first | decide | omega)⟩
    have g1 := hg no n0 (by first | decide | omega)
    rw [f_Part_setStems_21, if_pos h.1, if_pos (by first | decide | omega), if_pos (by unfold r32; omega)]
    by_cases y : B 4 q 369 no = -1
    · rw [if_pos y]; exact ⟨s, Int.le_refl _, sc, rfl⟩
    rw [if_neg y, if_pos (by unfold r32; omega), h.2.2.1.1, if_pos (by unfold r32; omega)]
    by_cases z : c ≤ no + s
    · rw [if_pos z]; exact ⟨s, Int.le_refl _, sc, rfl⟩
    have g2 := hg (no + s) (by first | decide | omega) (by first | decide | omega)
    rw [if_neg z, if_pos (by first | decide | omega), if_pos (by unfold r32; omega)]
    by_cases x : B 4 q 369 (no + s) = B 4 q 369 no
    · rw [if_pos x]
      obtain ⟨s', t1, t2, t3⟩ := ih n (s := s + 1) (by first | decide | omega) (by first | decide | omega) (by first | decide | omega) (by first | decide | omega)
      exact ⟨s', (by first | decide | omega), t2, t3⟩
    · rw [if_neg x]; exact ⟨s, Int.le_refl _, sc, rfl⟩
theorem C_st79 {K : zK} {q c no l2 s : Int} {m : Nat} {F : zF} {B : zB} {rec : Int → Int → Int → zF → zB → zO} (h : QN K q m c F B) (n0 : 0 ≤ no) (s1 : 1 ≤ s) (sc : no + s ≤ c) : ∀ (r n : Nat) {k u : Int}, no ≤ k → k + r = no + s → r < n → -(300 * (k - no)) ≤ u → u ≤ 300 * (k - no) → ∃ u', -300000 ≤ u' ∧ u' ≤ 300000 ∧ f_Part_setStems_79 rec K n k u s l2 no q F B = f_Part_setStems_130 rec K K.1 no u' s l2 no q F B := by
  have c1 := h.2.2.1.2.2
  intro r
  induction r with
  | zero =>
    intro n k u k0 kr hn u0 u1
    obtain ⟨n, rfl⟩ : ∃ k, n = k + 1 := ⟨n - 1, (by first | decide | omega)⟩
    refine ⟨u, (by first | decide | omega), (by first | decide | omega), ?_⟩
    rw [f_Part_setStems_79, if_pos (by unfold r32; omega), if_pos (by unfold r32; omega), if_pos (by first | decide | omega)]
  | succ r ih =>
    intro n k u k0 kr hn u0 u1
    obtain ⟨n, rfl⟩ : ∃ k, n = k + 1 := ⟨n - 1, (by first | decide | omega)⟩
    obtain ⟨r1, e1, z1, z2⟩ := C_rn h (i := k) (by first | decide | omega) (by first | decide | omega)
    rw [f_Part_setStems_79, if_pos (by unfold r32; omega), if_pos (by unfold r32; omega), if_neg (by first | decide | omega), if_pos h.1, e1, zb_s]
    rcases z1 with rfl | rfl
    · obtain ⟨y1, y2, y3⟩ := z2 rfl
      obtain ⟨a, b, ea, eb, ba, bb⟩ := C_hts h (i := k) (by first | decide | omega) (by first | decide | omega) y1 y2 y3
      rw [if_pos (by decide), if_pos rfl, ea, zb_s, eb, zb_s, f_Part_setStems_118]
      exact ih n (by first | decide | omega) (by first | decide | omega) (by first | decide | omega) (by first | decide | omega) (by first | decide | omega)
    · rw [if_pos (by decide), if_neg (by decide), f_Part_setStems_118]
      exact ih n (by first | decide | omega) (by first | decide | omega) (by first | decide | omega) (by first | decide | omega) (by first | decide | omega)
theorem C_st130 {K : zK} {q c no l2 s u : Int} {m : Nat} {F : zF} {rec : Int → Int → Int → zF → zB → zO} (n0 : 0 ≤ no) (s1 : 1 ≤ s) (sc : no + s ≤ c) (u0 : -300000 ≤ u ∧ u ≤ 300000) : ∀ (r n : Nat) {k : Int} {B : zB}, no ≤ k → k + r = no + s → r < n → QN K q m c F B → GB q c B → ∃ B', f_Part_setStems_130 rec K n k u s l2 no q F B = rec (l2 + 1) (no + s) q F B' ∧ qB q B B' ∧ QN K q m c F B' ∧ GB q c B' ∧ qR q B B' ∧ ∀ j, k ≤ j → j < no + s → r32 (B' 4 q 371 j) := by
  intro r
  induction r with
  | zero =>
    intro n k B k0 kr hn h hg
    obtain ⟨n, rfl⟩ : ∃ k, n = k + 1 := ⟨n - 1, (by first | decide | omega)⟩
    have c1 := h.2.2.1.2.2
    rw [f_Part_setStems_130, if_pos (by unfold r32; omega), if_pos (by unfold r32; omega), if_pos (by first | decide | omega)]
    exact ⟨B, rfl, qB_r, h, hg, qR_r, fun j a b => (by first | decide | omega)⟩
  | succ r ih =>
    intro n k B k0 kr hn h hg
    obtain ⟨n, rfl⟩ : ∃ k, n = k + 1 := ⟨n - 1, (by first | decide | omega)⟩
    have c1 := h.2.2.1.2.2
    have h4 := h.1
    obtain ⟨r1, e1, z1, z2⟩ := C_rn h (i := k) (by first | decide | omega) (by first | decide | omega)
    have put : ∀ x : Int, r32 x → ∃ B', f_Part_setStems_194 rec (f_Part_setStems_130 rec K n) K k u s l2 no q q k x F B = rec (l2 + 1) (no + s) q F B' ∧ qB q B B' ∧ QN K q m c F B' ∧ GB q c B' ∧ qR q B B' ∧ ∀ j, k ≤ j → j < no + s → r32 (B' 4 q 371 j) := fun x hx => by
      obtain ⟨w1, w2⟩ := QN_w (k := 371) (i := k) (x := x) h (by decide)
      obtain ⟨B', t1, t2, t3, t4, t5, t6⟩ := ih n (k := k + 1) (by first | decide | omega) (by first | decide | omega) (by first | decide | omega) w1 (GB_f hg (fun k' i hk => by rw [zup4_v, if_neg (by first | decide | omega)]))
      refine ⟨B', ?_, qB_t w2 t2, t3, t4, qR_t (qR_w hx) t5, fun j j0 j1 => by
        by_cases ej : j = k
        · rw [ej]
          exact t5 371 k (by decide) (by rw [zup4_v, if_pos ⟨rfl, rfl, rfl, rfl⟩]; exact hx)
        · exact t6 j (by first | decide | omega) j1⟩
      unfold f_Part_setStems_194
      rw [if_pos h4, if_pos (by first | decide | omega)]
      exact t1
    have bare : ∃ B', f_Part_setStems_159 rec (f_Part_setStems_130 rec K n) K k u s l2 no q F B = rec (l2 + 1) (no + s) q F B' ∧ qB q B B' ∧ QN K q m c F B' ∧ GB q c B' ∧ qR q B B' ∧ ∀ j, k ≤ j → j < no + s → r32 (B' 4 q 371 j) := by
      unfold f_Part_setStems_159 f_Part_setStems_164
      rw [if_pos h4, if_pos (by decide), if_neg (by decide)]
      exact put 0 (by decide)
    rw [f_Part_setStems_130, if_pos (by unfold r32; omega), if_pos (by unfold r32; omega), if_neg (by first | decide | omega), if_pos h4, e1, zb_s]
    rcases z1 with rfl | rfl
    · have n4 := (h.2.2.2.2.1 k (by first | decide | omega) (by first | decide | omega)).2.2.2
      rw [if_pos (by decide), if_pos rfl, if_pos (by first | decide | omega), if_pos (by unfold r32; omega)]
      by_cases y : B 4 q 364 k = 0
      · rw [if_pos y]; exact bare
      · rw [if_neg y]
        unfold f_Part_setStems_164
        rw [if_pos h4, if_pos (by decide), if_pos rfl, if_pos (by unfold r32; omega)]
        by_cases x : 0 ≤ u
        · rw [if_pos x]; exact put 2 (by decide)
        · rw [if_neg x]; exact put 1 (by decide)
    · rw [if_pos (by decide), if_neg (by decide)]
      exact bare
theorem C_stem {K : zK} {q c : Int} {m : Nat} {F : zF} (hK : 3002 ≤ K.1) : ∀ (r n : Nat) {l2 no : Int} {B : zB}, 0 ≤ no → no ≤ c → c - no ≤ r → r < n → 0 ≤ l2 → l2 ≤ no → QN K q m c F B → GB q c B → ∃ B', f_Part_setStems_4 K n l2 no q F B = some (0, F, B') ∧ qB q B B' ∧ QN K q m c F B' ∧ GB q c B' ∧ qR q B B' ∧ ∀ j, no ≤ j → j < c → r32 (B' 4 q 371 j) := by
  intro r
  induction r with
  | zero =>
    intro n l2 no B n0 nc nr hn l0 l1 h hg
    obtain ⟨n, rfl⟩ : ∃ k, n = k + 1 := ⟨n - 1, (by first | decide | omega)⟩
    have c1 := h.2.2.1.2.2
    refine ⟨B, ?_, qB_r, h, hg, qR_r, fun j a b => (by first | decide | omega)⟩
    rw [f_Part_setStems_4, if_pos (by unfold r32; omega)]
    simp only [f_Part_setStems_211]
    by_cases y : 800 ≤ l2
    · rw [if_pos y]
    · rw [if_neg y, if_pos h.1, if_pos (by unfold r32; omega), h.2.2.1.1, if_pos (by unfold r32; omega), if_pos (by first | decide | omega)]
  | succ r ih =>
    intro n l2 no B n0 nc nr hn l0 l1 h hg
    obtain ⟨n, rfl⟩ : ∃ k, n = k + 1 := ⟨n - 1, (by first | decide | omega)⟩
    have c1 := h.2.2.1.2.2
    by_cases e : no = c
    · refine ⟨B, ?_, qB_r, h, hg, qR_r, fun j a b => (by first | decide | omega)⟩
      rw [f_Part_setStems_4, if_pos (by unfold r32; omega)]
      simp only [f_Part_setStems_211]
      by_cases y : 800 ≤ l2
      · rw [if_pos y]
      · rw [if_neg y, if_pos h.1, if_pos (by unfold r32; omega), h.2.2.1.1, if_pos (by unfold r32; omega), if_pos (by first | decide | omega)]
    obtain ⟨s, t1, t2, t3⟩ := C_st21 (rec := f_Part_setStems_4 K n) (l2 := l2) h hg n0 (c - no).toNat K.1 (s := 1) (Int.le_refl _) (by first | decide | omega) (by first | decide | omega) (by first | decide | omega)
    obtain ⟨u, u1, u2, u3⟩ := C_st79 (rec := f_Part_setStems_4 K n) (l2 := l2) h n0 t1 t2 s.toNat K.1 (k := no) (u := 0) (Int.le_refl _) (by first | decide | omega) (by first | decide | omega) (by first | decide | omega) (by first | decide | omega)
    obtain ⟨B1, v1, v2, v3, v4, v5, v6⟩ := C_st130 (K := K) (q := q) (c := c) (no := no) (l2 := l2) (s := s) (u := u) (m := m) (F := F) (rec := f_Part_setStems_4 K n) n0 t1 t2 ⟨u1, u2⟩ s.toNat K.1 (k := no) (B := B) (Int.le_refl _) (by first | decide | omega) (by first | decide | omega) h hg
    rw [f_Part_setStems_4, if_pos (by unfold r32; omega), if_neg (by first | decide | omega), if_pos h.1, if_pos (by unfold r32; omega), h.2.2.1.1, if_pos (by unfold r32; omega), if_neg (by first | decide | omega), t3, f_Part_setStems_73, u3, v1]
    obtain ⟨B', k1, k2, k3, k4, k5, k6⟩ := ih n (l2 := l2 + 1) (no := no + s) (B := B1) (by first | decide | omega) t2 (by first | decide | omega) (by first | decide | omega) (by first | decide | omega) (by first | decide | omega) v3 v4
    refine ⟨B', k1, qB_t v2 k2, k3, k4, qR_t v5 k5, fun j j0 j1 => ?_⟩
    by_cases ej : j < no + s
    · exact k5 371 j (by decide) (v6 j j0 ej)
    · exact k6 j (by first | decide | omega) j1
theorem C_beat {K : zK} {p n d : Int} {F : zF} {B : zB} (hp : 0 ≤ p ∧ p < K.2 6) (h4 : F 6 p 4 = n) (h5 : F 6 p 5 = d) (hn : 1 ≤ n ∧ n ≤ 12) (hd : d = 2 ∨ d = 4 ∨ d = 8 ∨ d = 16) : ∃ b, f_Piece_beatLength K p F B = some (b, F, B) ∧ 0 < b ∧ b ≤ 1000000000000 := by
  have bb := bc_b (n := n) (d := d)
  have rb : r32 (bc n d) := by unfold r32; omega
  unfold f_Piece_beatLength
  rw [if_pos hp, h5, h4]
  have hb := C_bc (K := K) (F := F) (B := B) hn hd
  rcases hd with rfl | rfl | rfl | rfl
  · rw [if_pos (by decide), if_pos (by decide), if_pos (by decide), hb, zb_s, if_pos rb]
    exact ⟨_, rfl, by rw [show zldv 812851200 (zmax 2 1) = 406425600 by decide]; omega, by rw [show zldv 812851200 (zmax 2 1) = 406425600 by decide]; omega⟩
  · rw [if_pos (by decide), if_pos (by decide), if_pos (by decide), hb, zb_s, if_pos rb]
    exact ⟨_, rfl, by rw [show zldv 812851200 (zmax 4 1) = 203212800 by decide]; omega, by rw [show zldv 812851200 (zmax 4 1) = 203212800 by decide]; omega⟩
  · rw [if_pos (by decide), if_pos (by decide), if_pos (by decide), hb, zb_s, if_pos rb]
    exact ⟨_, rfl, by rw [show zldv 812851200 (zmax 8 1) = 101606400 by decide]; omega, by rw [show zldv 812851200 (zmax 8 1) = 101606400 by decide]; omega⟩
  · rw [if_pos (by decide), if_pos (by decide), if_pos (by decide), hb, zb_s, if_pos rb]
    exact ⟨_, rfl, by rw [show zldv 812851200 (zmax 16 1) = 50803200 by decide]; omega, by rw [show zldv 812851200 (zmax 16 1) = 50803200 by decide]; omega⟩
theorem C_101 {K : zK} {q p c n d : Int} {m : Nat} {F : zF} {B : zB} (hK : 3002 ≤ K.1) (hp : 0 ≤ p ∧ p < K.2 6) (e4 : F 6 p 4 = n) (e5 : F 6 p 5 = d) (hn : 1 ≤ n ∧ n ≤ 12) (hd : d = 2 ∨ d = 4 ∨ d = 8 ∨ d = 16) (e2 : -7 ≤ F 6 p 2 ∧ F 6 p 2 ≤ 7) (h11 : F 4 q 11 = 0) (h : QN K q m c F B) : ∃ B', f_Part_writeNotes_101 K q p F B = some (0, F, B') ∧ qB q B B' ∧ QN K q m c F B' ∧ GBw q c B' := by
  have c0 := h.2.2.1
  obtain ⟨B1, a1, a2, a3, a4, a5⟩ := C_hold hK c.toNat K.1 (i := 0) (B := B) (by decide) (by first | decide | omega) (by first | decide | omega) h
  obtain ⟨B2, b1, b2, b3, b4, b5⟩ := C_acc hK e2 c.toNat K.1 (i := 0) (b := -1) (B := B1) (by decide) (by first | decide | omega) (by first | decide | omega) (by decide) a3
  obtain ⟨B3, d1, d2, d3, d4, d5⟩ := C_ledg c.toNat K.1 (i := 0) (B := B2) (by decide) (by first | decide | omega) (by first | decide | omega) b3
  obtain ⟨b, f1, f2, f3⟩ := C_beat (K := K) (F := F) (B := B3) hp e4 e5 hn hd
  obtain ⟨B4, g1, g2, g3, g4, g5⟩ := C_grp hK f2 f3 c.toNat K.1 (l5 := 0) (no := 0) (gr := 0) (B := B3) (by decide) (by first | decide | omega) (by first | decide | omega) (by first | decide | omega) (by decide) (by decide) (by decide) d3 (fun i a b => (by first | decide | omega))
  obtain ⟨B5, k1, k2, k3, k4, k5, k6⟩ := C_stem hK c.toNat K.1 (l2 := 0) (no := 0) (B := B4) (by decide) (by first | decide | omega) (by first | decide | omega) (by first | decide | omega) (by decide) (by decide) g3 g4
  unfold f_Part_writeNotes_101 f_Part_hold f_Part_setAccidentals f_Part_setLedgers f_Part_group f_Part_setStems
  rw [if_pos h.1, h11, if_pos (by decide), if_pos rfl, a1, zb_s, if_pos hp, b1, zb_s, d1, zb_s, f1, zb_s, g1, zb_s, k1, zb_s, f_Part_writeNotes_136]
  exact ⟨B5, rfl, qB_t a2 (qB_t b2 (qB_t d2 (qB_t g2 k2))), k3, fun i i0 i1 => ⟨(k4 i i0 i1).1, (k4 i i0 i1).2, qR_t b4 (qR_t d4 (qR_t g5 k5)) 366 i (by decide) (a5 i i0 i1), qR_t d4 (qR_t g5 k5) 367 i (by decide) (b5 i i0 i1), qR_t g5 k5 368 i (by decide) (d5 i i0 i1), k6 i i0 i1⟩⟩
end
