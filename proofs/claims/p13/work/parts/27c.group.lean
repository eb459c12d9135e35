section
section
/-! ===== groups and stems: they return ===== -/
theorem C_bm {K : zK} {q c i : Int} {m : Nat} {F : zF} {B : zB} (h : QN K q m c F B) (i0 : 0 ≤ i) (i1 : i < c) : ∃ r, f_Part_isBeamed K q i F B = some (r, F, B) ∧ (r = 0 ∨ r = 1) := by
  obtain ⟨r1, e1, z1, z2⟩ := C_rn h i0 i1
  obtain ⟨h4, ⟨h6, m1⟩, ⟨h10, c0, c1⟩, hc, hno, he, _⟩ := h
  have n4 := (hno i i0 i1).2.2.2
  unfold f_Part_isBeamed f_Part_isBeamed_24 f_Part_isBeamed_25
  rw [if_pos h4, e1, zb_s]
  rcases z1 with rfl | rfl
  · rw [if_pos (by decide), if_pos rfl, if_pos (by first | decide | omega), if_pos (by unfold r32; omega)]
    by_cases y : B 4 q 364 i < 3
    · rw [if_pos y, if_pos (Or.inl rfl)]; exact ⟨0, rfl, Or.inl rfl⟩
    · rw [if_neg y, if_pos (Or.inr rfl)]; exact ⟨1, rfl, Or.inr rfl⟩
  · rw [if_pos (by decide), if_neg (by decide), if_pos (Or.inl rfl)]; exact ⟨0, rfl, Or.inl rfl⟩
theorem C_bwi {K : zK} {q c i j b : Int} {m : Nat} {F : zF} {B : zB} (h : QN K q m c F B) (i0 : 0 ≤ i) (i1 : i < c) (j0 : 0 ≤ j) (j1 : j < c) (b0 : 0 < b) (b1 : b ≤ 1000000000000) : ∃ r, f_Part_beamsWith K q i j b F B = some (r, F, B) ∧ (r = 0 ∨ r = 1) := by
  obtain ⟨r1, e1, z1⟩ := C_bm h j0 j1
  obtain ⟨h4, ⟨h6, m1⟩, ⟨h10, c0, c1⟩, hc, hno, he, _⟩ := h
  have ni := hno i i0 i1
  have nj := hno j j0 j1
  have q1 : 0 ≤ B 4 q 9 i / b := Int.ediv_nonneg (by first | decide | omega) (by first | decide | omega)
  have q2 : B 4 q 9 i / b ≤ B 4 q 9 i := Int.ediv_le_self _ (by first | decide | omega)
  have q3 : 0 ≤ B 4 q 9 j / b := Int.ediv_nonneg (by first | decide | omega) (by first | decide | omega)
  have q4 : B 4 q 9 j / b ≤ B 4 q 9 j := Int.ediv_le_self _ (by first | decide | omega)
  unfold f_Part_beamsWith f_Part_beamsWith_59 f_Part_beamsWith_60
  rw [if_pos h4, if_pos (by unfold r32; omega), h10, if_pos (by unfold r32; omega), if_neg (by first | decide | omega), e1, zb_s]
  rcases z1 with rfl | rfl
  · rw [if_pos (by decide), if_pos rfl, if_pos (Or.inl rfl)]; exact ⟨0, rfl, Or.inl rfl⟩
  rw [if_pos (by decide), if_neg (by decide), if_pos (by first | decide | omega), if_pos (by first | decide | omega), if_pos (by unfold r32; omega), if_pos (by unfold r32; omega)]
  by_cases y : B 4 q 361 i = B 4 q 361 j
  · rw [if_pos y, if_pos (lI_n0 b0 (by unfold r64; omega)), zldv_e (by first | decide | omega) (by first | decide | omega) b0 (by first | decide | omega), zldv_e (by first | decide | omega) (by first | decide | omega) b0 (by first | decide | omega), if_pos (by unfold r64; omega), if_pos (by unfold r64; omega)]
    by_cases z : zcmp (B 4 q 9 i / b) (B 4 q 9 j / b) = 0
    · rw [if_pos z, if_pos (Or.inr rfl)]; exact ⟨1, rfl, Or.inr rfl⟩
    · rw [if_neg z, if_pos (Or.inl rfl)]; exact ⟨0, rfl, Or.inl rfl⟩
  · rw [if_neg y, if_pos (Or.inl rfl)]; exact ⟨0, rfl, Or.inl rfl⟩
def GB (q u : Int) (B : zB) : Prop := ∀ i, 0 ≤ i → i < u → (-1 ≤ B 4 q 369 i ∧ B 4 q 369 i ≤ 800) ∧ r32 (B 4 q 370 i)
/-- what is made of the notes, whole -/
def GBw (q u : Int) (B : zB) : Prop := ∀ i, 0 ≤ i → i < u → (-1 ≤ B 4 q 369 i ∧ B 4 q 369 i ≤ 800) ∧ r32 (B 4 q 370 i) ∧ r32 (B 4 q 366 i) ∧ r32 (B 4 q 367 i) ∧ r32 (B 4 q 368 i) ∧ r32 (B 4 q 371 i)
theorem C_g34 {K : zK} {q c no l5 gr b : Int} {m : Nat} {F : zF} {B : zB} {rec : Int → Int → Int → Int → Int → zF → zB → zO} (h : QN K q m c F B) (b0 : 0 < b) (b1 : b ≤ 1000000000000) (n0 : 0 ≤ no) : ∀ (r n : Nat) {s : Int}, 1 ≤ s → no + s ≤ c → c - no - s ≤ r → r < n → ∃ s', s ≤ s' ∧ no + s' ≤ c ∧ f_Part_group_34 rec K n s l5 no gr q b F B = f_Part_group_76 rec K s' l5 no gr q b F B := by
  have c1 := h.2.2.1.2.2
  intro r
  induction r with
  | zero =>
    intro n s s1 sc sr hn
    obtain ⟨n, rfl⟩ : ∃ k, n = k + 1 := ⟨n - 1, (by first | decide | omega)⟩
    obtain ⟨r1, e1, z1⟩ := C_bm h n0 (by first | decide | omega)
    refine ⟨s, Int.le_refl _, sc, ?_⟩
    rw [f_Part_group_34, if_pos h.1, e1, zb_s]
    rcases z1 with rfl | rfl
    · rw [if_pos (by decide), if_pos rfl]
    · rw [if_pos (by decide), if_neg (by decide), if_pos (by unfold r32; omega), h.2.2.1.1, if_pos (by unfold r32; omega), if_pos (by first | decide | omega)]
  | succ r ih =>
    intro n s s1 sc sr hn
    obtain ⟨n, rfl⟩ : ∃ k, n = k + 1 := ⟨n - 1, (by first | decide | omega)⟩
    obtain ⟨r1, e1, z1⟩ := C_bm h n0 (by first | decide | omega)
    rw [f_Part_group_34, if_pos h.1, e1, zb_s]
    rcases z1 with rfl | rfl
    · rw [if_pos (by decide), if_pos rfl]
      exact ⟨s, Int.le_refl _, sc, rfl⟩
    · rw [if_pos (by decide), if_neg (by decide), if_pos (by unfold r32; omega), h.2.2.1.1, if_pos (by unfold r32; omega)]
      by_cases y : c ≤ no + s
      · rw [if_pos y]; exact ⟨s, Int.le_refl _, sc, rfl⟩
      · obtain ⟨r2, e2, z2⟩ := C_bwi h n0 (by first | decide | omega) (j := no + s) (by first | decide | omega) (by first | decide | omega) b0 b1
        rw [if_neg y, e2, zb_s]
        rcases z2 with rfl | rfl
        · rw [if_pos (by decide), if_pos rfl]; exact ⟨s, Int.le_refl _, sc, rfl⟩
        · rw [if_pos (by decide), if_neg (by decide)]
          obtain ⟨s', t1, t2, t3⟩ := ih n (s := s + 1) (by first | decide | omega) (by first | decide | omega) (by first | decide | omega) (by first | decide | omega)
          exact ⟨s', (by first | decide | omega), t2, t3⟩
theorem C_g80 {K : zK} {q c no l5 gr b s : Int} {m : Nat} {F : zF} {rec : Int → Int → Int → Int → Int → zF → zB → zO} (n0 : 0 ≤ no) (s1 : 1 ≤ s) (sc : no + s ≤ c) (g0 : 0 ≤ gr ∧ gr ≤ 800) : ∀ (r n : Nat) {k : Int} {B : zB}, no ≤ k → k + r = no + s → r < n → QN K q m c F B → GB q k B → ∃ B' x, f_Part_group_80 rec K n k s l5 no gr q b F B = f_Part_group_192 rec K s l5 no q b gr x F B' ∧ (x = 0 ∨ x = 1) ∧ qB q B B' ∧ QN K q m c F B' ∧ GB q (no + s) B' ∧ qR q B B' := by
  intro r
  induction r with
  | zero =>
    intro n k B k0 kr hn h hg
    obtain ⟨n, rfl⟩ : ∃ k, n = k + 1 := ⟨n - 1, (by first | decide | omega)⟩
    have c1 := h.2.2.1.2.2
    rw [f_Part_group_80, if_pos (by unfold r32; omega), if_pos (by unfold r32; omega), if_pos (by first | decide | omega), if_pos (by unfold r32; omega)]
    have hg' : GB q (no + s) B := by rwa [show no + s = k by omega]
    by_cases y : s ≤ 1
    · rw [if_pos y]; exact ⟨B, 0, rfl, Or.inl rfl, qB_r, h, hg', qR_r⟩
    · rw [if_neg y]; exact ⟨B, 1, rfl, Or.inr rfl, qB_r, h, hg', qR_r⟩
  | succ r ih =>
    intro n k B k0 kr hn h hg
    obtain ⟨n, rfl⟩ : ∃ k, n = k + 1 := ⟨n - 1, (by first | decide | omega)⟩
    have c1 := h.2.2.1.2.2
    have h4 := h.1
    have put : ∀ (gv x : Int), -1 ≤ gv → gv ≤ 800 → r32 x → ∃ B' x', f_Part_group_173 rec (f_Part_group_80 rec K n) K k s l5 no gr q b q k x F (zup4 B 4 q 369 k gv) = f_Part_group_192 rec K s l5 no q b gr x' F B' ∧ (x' = 0 ∨ x' = 1) ∧ qB q B B' ∧ QN K q m c F B' ∧ GB q (no + s) B' ∧ qR q B B' := fun gv x g1 g2 hx => by
      obtain ⟨w1, w2⟩ := QN_w (k := 369) (i := k) (x := gv) h (by decide)
      obtain ⟨w3, w4⟩ := QN_w (k := 370) (i := k) (x := x) w1 (by decide)
      have gb : GB q (k + 1) (zup4 (zup4 B 4 q 369 k gv) 4 q 370 k x) := fun i a b' => by
        by_cases e : i = k
        · rw [e, zup4_v, if_neg (by first | decide | omega), zup4_v, if_pos ⟨rfl, rfl, rfl, rfl⟩, zup4_v, if_pos ⟨rfl, rfl, rfl, rfl⟩]
          exact ⟨⟨g1, g2⟩, hx⟩
        · rw [zup4_v, if_neg (by first | decide | omega), zup4_v, if_neg (by first | decide | omega), zup4_v, if_neg (by first | decide | omega), zup4_v, if_neg (by first | decide | omega)]
          exact hg i a (by first | decide | omega)
      obtain ⟨B', x', t1, t2, t3, t4, t5, t6⟩ := ih n (k := k + 1) (by first | decide | omega) (by first | decide | omega) (by first | decide | omega) w3 gb
      refine ⟨B', x', ?_, t2, qB_t w2 (qB_t w4 t3), t4, t5, qR_t (qR_w (by unfold r32; omega)) (qR_t (qR_w hx) t6)⟩
      unfold f_Part_group_173
      rw [if_pos h4, if_pos (by first | decide | omega)]
      exact t1
    have g129 : ∀ (hn' gv : Int), hn' = 0 ∨ (hn' = 1 ∧ k + 1 < no + s) → -1 ≤ gv → gv ≤ 800 → ∃ B' x', f_Part_group_129 rec (f_Part_group_80 rec K n) K hn' k s l5 no gr q b q k gv F B = f_Part_group_192 rec K s l5 no q b gr x' F B' ∧ (x' = 0 ∨ x' = 1) ∧ qB q B B' ∧ QN K q m c F B' ∧ GB q (no + s) B' ∧ qR q B B' := fun hn' gv hh g1 g2 => by
      unfold f_Part_group_129
      rw [if_pos h4, if_pos (by first | decide | omega), if_pos h4]
      rcases hh with rfl | ⟨rfl, hh⟩
      · rw [if_pos (by decide), if_pos rfl]
        exact put gv 0 g1 g2 (by decide)
      · have a1 := (h.2.2.2.2.1 k (by first | decide | omega) (by first | decide | omega)).2.2.2
        have a2 := (h.2.2.2.2.1 (k + 1) (by first | decide | omega) (by first | decide | omega)).2.2.2
        have e1 : ∀ j, (zup4 B 4 q 369 k gv) 4 q 364 j = B 4 q 364 j := fun j => by rw [zup4_v, if_neg (by first | decide | omega)]
        rw [if_pos (by decide), if_neg (by decide), if_pos (by first | decide | omega), if_pos (by first | decide | omega), e1, e1, if_pos (by unfold r32; omega), if_pos (by unfold r32; omega)]
        exact put gv _ g1 g2 (by unfold r32 zmin; split <;> omega)
    have g107 : ∀ (hn' : Int), hn' = 0 ∨ (hn' = 1 ∧ k + 1 < no + s) → ∃ B' x', f_Part_group_107 rec (f_Part_group_80 rec K n) K k s l5 no gr q b hn' F B = f_Part_group_192 rec K s l5 no q b gr x' F B' ∧ (x' = 0 ∨ x' = 1) ∧ qB q B B' ∧ QN K q m c F B' ∧ GB q (no + s) B' ∧ qR q B B' := fun hn' hh => by
      unfold f_Part_group_107
      rw [if_pos h4, if_pos (by unfold r32; omega)]
      by_cases y : s ≤ 1
      · rw [if_pos y]; exact g129 hn' (-1) hh (by decide) (by decide)
      · rw [if_neg y]; exact g129 hn' gr hh (by first | decide | omega) (by first | decide | omega)
    rw [f_Part_group_80, if_pos (by unfold r32; omega), if_pos (by unfold r32; omega), if_neg (by first | decide | omega), if_pos (by unfold r32; omega)]
    by_cases y : no + s ≤ k + 1
    · rw [if_pos y]; exact g107 0 (Or.inl rfl)
    · rw [if_neg y]; exact g107 1 (Or.inr ⟨rfl, (by first | decide | omega)⟩)
theorem C_grp {K : zK} {q c b : Int} {m : Nat} {F : zF} (hK : 3002 ≤ K.1) (b0 : 0 < b) (b1 : b ≤ 1000000000000) : ∀ (r n : Nat) {l5 no gr : Int} {B : zB}, 0 ≤ no → no ≤ c → c - no ≤ r → r < n → 0 ≤ gr → gr ≤ l5 → l5 ≤ no → QN K q m c F B → GB q no B → ∃ B', f_Part_group_8 K n l5 no gr q b F B = some (0, F, B') ∧ qB q B B' ∧ QN K q m c F B' ∧ GB q c B' ∧ qR q B B' := by
  intro r
  induction r with
  | zero =>
    intro n l5 no gr B n0 nc nr hn g0 g1 l1 h hg
    obtain ⟨n, rfl⟩ : ∃ k, n = k + 1 := ⟨n - 1, (by first | decide | omega)⟩
    have c1 := h.2.2.1.2.2
    have hg' : GB q c B := by rwa [show c = no by omega]
    refine ⟨B, ?_, qB_r, h, hg', qR_r⟩
    rw [f_Part_group_8, if_pos (by unfold r32; omega)]
    simp only [f_Part_group_207]
    by_cases y : 800 ≤ l5
    · rw [if_pos y]
    · rw [if_neg y, if_pos h.1, if_pos (by unfold r32; omega), h.2.2.1.1, if_pos (by unfold r32; omega), if_pos (by first | decide | omega)]
  | succ r ih =>
    intro n l5 no gr B n0 nc nr hn g0 g1 l1 h hg
    obtain ⟨n, rfl⟩ : ∃ k, n = k + 1 := ⟨n - 1, (by first | decide | omega)⟩
    have c1 := h.2.2.1.2.2
    by_cases e : no = c
    · have hg' : GB q c B := by rwa [← e]
      refine ⟨B, ?_, qB_r, h, hg', qR_r⟩
      rw [f_Part_group_8, if_pos (by unfold r32; omega)]
      simp only [f_Part_group_207]
      by_cases y : 800 ≤ l5
      · rw [if_pos y]
      · rw [if_neg y, if_pos h.1, if_pos (by unfold r32; omega), h.2.2.1.1, if_pos (by unfold r32; omega), if_pos (by first | decide | omega)]
    obtain ⟨s, t1, t2, t3⟩ := C_g34 (rec := f_Part_group_8 K n) (l5 := l5) (gr := gr) h b0 b1 n0 (c - no).toNat K.1 (s := 1) (Int.le_refl _) (by first | decide | omega) (by first | decide | omega) (by first | decide | omega)
    obtain ⟨B1, x, u1, u2, u3, u4, u5, u6⟩ := C_g80 (K := K) (q := q) (c := c) (no := no) (l5 := l5) (gr := gr) (b := b) (s := s) (m := m) (F := F) (rec := f_Part_group_8 K n) n0 t1 t2 (by first | decide | omega) s.toNat K.1 (k := no) (B := B) (Int.le_refl _) (by first | decide | omega) (by first | decide | omega) h hg
    rw [f_Part_group_8, if_pos (by unfold r32; omega), if_neg (by first | decide | omega), if_pos h.1, if_pos (by unfold r32; omega), h.2.2.1.1, if_pos (by unfold r32; omega), if_neg (by first | decide | omega), if_pos (by unfold r64; omega), if_neg (fun y => by have := zcmp_m.mp y; omega), t3, f_Part_group_76, u1, f_Part_group_192]
    obtain ⟨B', k1, k2, k3, k4, k5⟩ := ih n (l5 := l5 + 1) (no := no + s) (gr := gr + x) (B := B1) (by first | decide | omega) t2 (by first | decide | omega) (by first | decide | omega) (by first | decide | omega) (by first | decide | omega) (by first | decide | omega) u4 u5
    exact ⟨B', k1, qB_t u3 k2, k3, k4, qR_t u6 k5⟩
theorem GB_f {q c : Int} {B B' : zB} (h : GB q c B) (f : ∀ k i, k = 369 ∨ k = 370 → B' 4 q k i = B 4 q k i) : GB q c B' := fun i a b => by rw [f 369 i (Or.inl rfl), f 370 i (Or.inr rfl)]; exact h i a b
theorem C_st21 {K : zK} {q c no l2 : Int} {m : Nat} {F : zF} {B : zB} {rec : Int → Int → Int → zF → zB → zO} (h : QN K q m c F B) (hg : GB q c B) (n0 : 0 ≤ no) : ∀ (r n : Nat) {s : Int}, 1 ≤ s → no + s ≤ c → c - no - s ≤ r → r < n → ∃ s', s ≤ s' ∧ no + s' ≤ c ∧ f_Part_setStems_21 rec K n s l2 no q F B = f_Part_setStems_73 rec K s' l2 no q F B := by
  have c1 := h.2.2.1.2.2
  intro r
  induction r with
  | zero =>
    intro n s s1 sc sr hn
    obtain ⟨n, rfl⟩ : ∃ k, n = k + 1 := ⟨n - 1, (by first | decide | omega)⟩
    have g1 := hg no n0 (by first | decide | omega)
    refine ⟨s, Int.le_refl _, sc, ?_⟩
    rw [f_Part_setStems_21, if_pos h.1, if_pos (by first | decide | omega), if_pos (by unfold r32; omega)]
    by_cases y : B 4 q 369 no = -1
    · rw [if_pos y]
    · rw [if_neg y, if_pos (by unfold r32; omega), h.2.2.1.1, if_pos (by unfold r32; omega), if_pos (by first | decide | omega)]
  | succ r ih =>
    intro n s s1 sc sr hn
    obtain ⟨n, rfl⟩ : ∃ k, n = k + 1 := ⟨n - 1, (by first | decide | omega)⟩
    have g1 := hg no n0 (by first | decide | omega)
    rw [f_Part_setStems_21, if_pos h.1, if_pos (by first | decide | omega), if_pos (by unfold r32; omega)]
    by_cases y : B 4 q 369 no = -1
    · rw [if_pos y]; exact ⟨s, Int.le_refl _, sc, rfl⟩
    rw [if_neg y, if_pos (by unfold r32; omega), h.2.2.1.1, if_pos (by unfold r32; omega)]
    by_cases z : c ≤ no + s
    · rw [if_pos z]; exact ⟨s, Int.le_refl _, sc, rfl⟩
    have g2 := hg (no + s) (by first | decide | omega) (by first | decide | omega)
    rw [if_neg z, if_pos (by first | decide | omega), if_pos (by unfold r32; omega)]
    by_cases x : B 4 q 369 (no + s) = B 4 q 369 no
    · rw [if_pos x]
      obtain ⟨s', t1, t2, t3⟩ := ih n (s := s + 1) (by first | decide | omega) (by first | decide | omega) (by first | decide | omega) (by first | decide | omega)
      exact ⟨s', (by first | decide | omega), t2, t3⟩
    · rw [if_neg x]; exact ⟨s, Int.le_refl _, sc, rfl⟩
theorem C_st79 {K : zK} {q c no l2 s : Int} {m : Nat} {F : zF} {B : zB} {rec : Int → Int → Int → zF → zB → zO} (h : QN K q m c F B) (n0 : 0 ≤ no) (s1 : 1 ≤ s) (sc : no + s ≤ c) : ∀ (r n : Nat) {k u : Int}, no ≤ k → k + r = no + s → r < n → -(300 * (k - no)) ≤ u → u ≤ 300 * (k - no) → ∃ u', -300000 ≤ u' ∧ u' ≤ 300000 ∧ f_Part_setStems_79 rec K n k u s l2 no q F B = f_Part_setStems_130 rec K K.1 no u' s l2 no q F B := by
  have c1 := h.2.2.1.2.2
  intro r
  induction r with
  | zero =>
    intro n k u k0 kr hn u0 u1
    obtain ⟨n, rfl⟩ : ∃ k, n = k + 1 := ⟨n - 1, (by first | decide | omega)⟩
    refine ⟨u, (by first | decide | omega), (by first | decide | omega), ?_⟩
    rw [f_Part_setStems_79, if_pos (by unfold r32; omega), if_pos (by unfold r32; omega), if_pos (by first | decide | omega)]
  | succ r ih =>
    intro n k u k0 kr hn u0 u1
    obtain ⟨n, rfl⟩ : ∃ k, n = k + 1 := ⟨n - 1, (by first | decide | omega)⟩
    obtain ⟨r1, e1, z1, z2⟩ := C_rn h (i := k) (by first | decide | omega) (by first | decide | omega)
    rw [f_Part_setStems_79, if_pos (by unfold r32; omega), if_pos (by unfold r32; omega), if_neg (by first | decide | omega), if_pos h.1, e1, zb_s]
    rcases z1 with rfl | rfl
    · obtain ⟨y1, y2, y3⟩ := z2 rfl
      obtain ⟨a, b, ea, eb, ba, bb⟩ := C_hts h (i := k) (by first | decide | omega) (by first | decide | omega) y1 y2 y3
      rw [if_pos (by decide), if_pos rfl, ea, zb_s, eb, zb_s, f_Part_setStems_118]
      exact ih n (by first | decide | omega) (by first | decide | omega) (by first | decide | omega) (by first | decide | omega) (by first | decide | omega)
    · rw [if_pos (by decide), if_neg (by decide), f_Part_setStems_118]
      exact ih n (by first | decide | omega) (by first | decide | omega) (by first | decide | omega) (by first | decide | omega) (by first | decide | omega)
theorem C_st130 {K : zK} {q c no l2 s u : Int} {m : Nat} {F : zF} {rec : Int → Int → Int → zF → zB → zO} (n0 : 0 ≤ no) (s1 : 1 ≤ s) (sc : no + s ≤ c) (u0 : -300000 ≤ u ∧ u ≤ 300000) : ∀ (r n : Nat) {k : Int} {B : zB}, no ≤ k → k + r = no + s → r < n → QN K q m c F B → GB q c B → ∃ B', f_Part_setStems_130 rec K n k u s l2 no q F B = rec (l2 + 1) (no + s) q F B' ∧ qB q B B' ∧ QN K q m c F B' ∧ GB q c B' ∧ qR q B B' ∧ ∀ j, k ≤ j → j < no + s → r32 (B' 4 q 371 j) := by
  intro r
  induction r with
  | zero =>
    intro n k B k0 kr hn h hg
    obtain ⟨n, rfl⟩ : ∃ k, n = k + 1 := ⟨n - 1, (by first | decide | omega)⟩
    have c1 := h.2.2.1.2.2
    rw [f_Part_setStems_130, if_pos (by unfold r32; omega), if_pos (by unfold r32; omega), if_pos (by first | decide | omega)]
    exact ⟨B, rfl, qB_r, h, hg, qR_r, fun j a b => (by first | decide | omega)⟩
  | succ r ih =>
    intro n k B k0 kr hn h hg
    obtain ⟨n, rfl⟩ : ∃ k, n = k + 1 := ⟨n - 1, (by first | decide | omega)⟩
    have c1 := h.2.2.1.2.2
    have h4 := h.1
    obtain ⟨r1, e1, z1, z2⟩ := C_rn h (i := k) (by first | decide | omega) (by first | decide | omega)
    have put : ∀ x : Int, r32 x → ∃ B', f_Part_setStems_194 rec (f_Part_setStems_130 rec K n) K k u s l2 no q q k x F B = rec (l2 + 1) (no + s) q F B' ∧ qB q B B' ∧ QN K q m c F B' ∧ GB q c B' ∧ qR q B B' ∧ ∀ j, k ≤ j → j < no + s → r32 (B' 4 q 371 j) := fun x hx => by
      obtain ⟨w1, w2⟩ := QN_w (k := 371) (i := k) (x := x) h (by decide)
      obtain ⟨B', t1, t2, t3, t4, t5, t6⟩ := ih n (k := k + 1) (by first | decide | omega) (by first | decide | omega) (by first | decide | omega) w1 (GB_f hg (fun k' i hk => by rw [zup4_v, if_neg (by first | decide | omega)]))
      refine ⟨B', ?_, qB_t w2 t2, t3, t4, qR_t (qR_w hx) t5, fun j j0 j1 => by
        by_cases ej : j = k
        · rw [ej]
          exact t5 371 k (by decide) (by rw [zup4_v, if_pos ⟨rfl, rfl, rfl, rfl⟩]; exact hx)
        · exact t6 j (by first | decide | omega) j1⟩
      unfold f_Part_setStems_194
      rw [if_pos h4, if_pos (by first | decide | omega)]
      exact t1
    have bare : ∃ B', f_Part_setStems_159 rec (f_Part_setStems_130 rec K n) K k u s l2 no q F B = rec (l2 + 1) (no + s) q F B' ∧ qB q B B' ∧ QN K q m c F B' ∧ GB q c B' ∧ qR q B B' ∧ ∀ j, k ≤ j → j < no + s → r32 (B' 4 q 371 j) := by
      unfold f_Part_setStems_159 f_Part_setStems_164
      rw [if_pos h4, if_pos (by decide), if_neg (by decide)]
      exact put 0 (by decide)
    rw [f_Part_setStems_130, if_pos (by unfold r32; omega), if_pos (by unfold r32; omega), if_neg (by first | decide | omega), if_pos h4, e1, zb_s]
    rcases z1 with rfl | rfl
    · have n4 := (h.2.2.2.2.1 k (by first | decide | omega) (by first | decide | omega)).2.2.2
      rw [if_pos (by decide), if_pos rfl, if_pos (by first | decide | omega), if_pos (by unfold r32; omega)]
      by_cases y : B 4 q 364 k = 0
      · rw [if_pos y]; exact bare
      · rw [if_neg y]
        unfold f_Part_setStems_164
        rw [if_pos h4, if_pos (by decide), if_pos rfl, if_pos (by unfold r32; omega)]
        by_cases x : 0 ≤ u
        · rw [if_pos x]; exact put 2 (by decide)
        · rw [if_neg x]; exact put 1 (by decide)
    · rw [if_pos (by decide), if_neg (by decide)]
      exact bare
theorem C_stem {K : zK} {q c : Int} {m : Nat} {F : zF} (hK : 3002 ≤ K.1) : ∀ (r n : Nat) {l2 no : Int} {B : zB}, 0 ≤ no → no ≤ c → c - no ≤ r → r < n → 0 ≤ l2 → l2 ≤ no → QN K q m c F B → GB q c B → ∃ B', f_Part_setStems_4 K n l2 no q F B = some (0, F, B') ∧ qB q B B' ∧ QN K q m c F B' ∧ GB q c B' ∧ qR q B B' ∧ ∀ j, no ≤ j → j < c → r32 (B' 4 q 371 j) := by
  intro r
  induction r with
  | zero =>
    intro n l2 no B n0 nc nr hn l0 l1 h hg
    obtain ⟨n, rfl⟩ : ∃ k, n = k + 1 := ⟨n - 1, (by first | decide | omega)⟩
    have c1 := h.2.2.1.2.2
    refine ⟨B, ?_, qB_r, h, hg, qR_r, fun j a b => (by first | decide | omega)⟩
    rw [f_Part_setStems_4, if_pos (by unfold r32; omega)]
    simp only [f_Part_setStems_211]
    by_cases y : 800 ≤ l2
    · rw [if_pos y]
    · rw [if_neg y, if_pos h.1, if_pos (by unfold r32; omega), h.2.2.1.1, if_pos (by unfold r32; omega), if_pos (by first | decide | omega)]
  | succ r ih =>
    intro n l2 no B n0 nc nr hn l0 l1 h hg
    obtain ⟨n, rfl⟩ : ∃ k, n = k + 1 := ⟨n - 1, (by first | decide | omega)⟩
    have c1 := h.2.2.1.2.2
    by_cases e : no = c
    · refine ⟨B, ?_, qB_r, h, hg, qR_r, fun j a b => (by first | decide | omega)⟩
      rw [f_Part_setStems_4, if_pos (by unfold r32; omega)]
      simp only [f_Part_setStems_211]
      by_cases y : 800 ≤ l2
      · rw [if_pos y]
      · rw [if_neg y, if_pos h.1, if_pos (by unfold r32; omega), h.2.2.1.1, if_pos (by unfold r32; omega), if_pos (by first | decide | omega)]
    obtain ⟨s, t1, t2, t3⟩ := C_st21 (rec := f_Part_setStems_4 K n) (l2 := l2) h hg n0 (c - no).toNat K.1 (s := 1) (Int.le_refl _) (by first | decide | omega) (by first | decide | omega) (by first | decide | omega)
    obtain ⟨u, u1, u2, u3⟩ := C_st79 (rec := f_Part_setStems_4 K n) (l2 := l2) h n0 t1 t2 s.toNat K.1 (k := no) (u := 0) (Int.le_refl _) (by first | decide | omega) (by first | decide | omega) (by first | decide | omega) (by first | decide | omega)
    obtain ⟨B1, v1, v2, v3, v4, v5, v6⟩ := C_st130 (K := K) (q := q) (c := c) (no := no) (l2 := l2) (s := s) (u := u) (m := m) (F := F) (rec := f_Part_setStems_4 K n) n0 t1 t2 ⟨u1, u2⟩ s.toNat K.1 (k := no) (B := B) (Int.le_refl _) (by first | decide | omega) (by first | decide | omega) h hg
    rw [f_Part_setStems_4, if_pos (by unfold r32; omega), if_neg (by first | decide | omega), if_pos h.1, if_pos (by unfold r32; omega), h.2.2.1.1, if_pos (by unfold r32; omega), if_neg (by first | decide | omega), t3, f_Part_setStems_73, u3, v1]
    obtain ⟨B', k1, k2, k3, k4, k5, k6⟩ := ih n (l2 := l2 + 1) (no := no + s) (B := B1) (by first | decide | omega) t2 (by first | decide | omega) (by first | decide | omega) (by first | decide | omega) (by first | decide | omega) v3 v4
    refine ⟨B', k1, qB_t v2 k2, k3, k4, qR_t v5 k5, fun j j0 j1 => ?_⟩
    by_cases ej : j < no + s
    · exact k5 371 j (by decide) (v6 j j0 ej)
    · exact k6 j (by first | decide | omega) j1
theorem C_beat {K : zK} {p n d : Int} {F : zF} {B : zB} (hp : 0 ≤ p ∧ p < K.2 6) (h4 : F 6 p 4 = n) (h5 : F 6 p 5 = d) (hn : 1 ≤ n ∧ n ≤ 12) (hd : d = 2 ∨ d = 4 ∨ d = 8 ∨ d = 16) : ∃ b, f_Piece_beatLength K p F B = some (b, F, B) ∧ 0 < b ∧ b ≤ 1000000000000 := by
  have bb := bc_b (n := n) (d := d)
  have rb : r32 (bc n d) := by unfold r32; omega
  unfold f_Piece_beatLength
  rw [if_pos hp, h5, h4]
  have hb := C_bc (K := K) (F := F) (B := B) hn hd
  rcases hd with rfl | rfl | rfl | rfl
  · rw [if_pos (by decide), if_pos (by decide), if_pos (by decide), hb, zb_s, if_pos rb]
    exact ⟨_, rfl, by rw [show zldv 812851200 (zmax 2 1) = 406425600 by decide]; omega, by rw [show zldv 812851200 (zmax 2 1) = 406425600 by decide]; omega⟩
  · rw [if_pos (by decide), if_pos (by decide), if_pos (by decide), hb, zb_s, if_pos rb]
    exact ⟨_, rfl, by rw [show zldv 812851200 (zmax 4 1) = 203212800 by decide]; omega, by rw [show zldv 812851200 (zmax 4 1) = 203212800 by decide]; omega⟩
  · rw [if_pos (by decide), if_pos (by decide), if_pos (by decide), hb, zb_s, if_pos rb]
    exact ⟨_, rfl, by rw [show zldv 812851200 (zmax 8 1) = 101606400 by decide]; omega, by rw [show zldv 812851200 (zmax 8 1) = 101606400 by decide]; omega⟩
  · rw [if_pos (by decide), if_pos (by decide), if_pos (by decide), hb, zb_s, if_pos rb]
    exact ⟨_, rfl, by rw [show zldv 812851200 (zmax 16 1) = 50803200 by decide]; omega, by rw [show zldv 812851200 (zmax 16 1) = 50803200 by decide]; omega⟩
theorem C_101 {K : zK} {q p c n d : Int} {m : Nat} {F : zF} {B : zB} (hK : 3002 ≤ K.1) (hp : 0 ≤ p ∧ p < K.2 6) (e4 : F 6 p 4 = n) (e5 : F 6 p 5 = d) (hn : 1 ≤ n ∧ n ≤ 12) (hd : d = 2 ∨ d = 4 ∨ d = 8 ∨ d = 16) (e2 : -7 ≤ F 6 p 2 ∧ F 6 p 2 ≤ 7) (h11 : F 4 q 11 = 0) (h : QN K q m c F B) : ∃ B', f_Part_writeNotes_101 K q p F B = some (0, F, B') ∧ qB q B B' ∧ QN K q m c F B' ∧ GBw q c B' := by
  have c0 := h.2.2.1
  obtain ⟨B1, a1, a2, a3, a4, a5⟩ := C_hold hK c.toNat K.1 (i := 0) (B := B) (by decide) (by first | decide | omega) (by first | decide | omega) h
  obtain ⟨B2, b1, b2, b3, b4, b5⟩ := C_acc hK e2 c.toNat K.1 (i := 0) (b := -1) (B := B1) (by decide) (by first | decide | omega) (by first | decide | omega) (by decide) a3
  obtain ⟨B3, d1, d2, d3, d4, d5⟩ := C_ledg c.toNat K.1 (i := 0) (B := B2) (by decide) (by first | decide | omega) (by first | decide | omega) b3
  obtain ⟨b, f1, f2, f3⟩ := C_beat (K := K) (F := F) (B := B3) hp e4 e5 hn hd
  obtain ⟨B4, g1, g2, g3, g4, g5⟩ := C_grp hK f2 f3 c.toNat K.1 (l5 := 0) (no := 0) (gr := 0) (B := B3) (by decide) (by first | decide | omega) (by first | decide | omega) (by first | decide | omega) (by decide) (by decide) (by decide) d3 (fun i a b => (by first | decide | omega))
  obtain ⟨B5, k1, k2, k3, k4, k5, k6⟩ := C_stem hK c.toNat K.1 (l2 := 0) (no := 0) (B := B4) (by decide) (by first | decide | omega) (by first | decide | omega) (by first | decide | omega) (by decide) (by decide) g3 g4
  unfold f_Part_writeNotes_101 f_Part_hold f_Part_setAccidentals f_Part_setLedgers f_Part_group f_Part_setStems
  rw [if_pos h.1, h11, if_pos (by decide), if_pos rfl, a1, zb_s, if_pos hp, b1, zb_s, d1, zb_s, f1, zb_s, g1, zb_s, k1, zb_s, f_Part_writeNotes_136]
  exact ⟨B5, rfl, qB_t a2 (qB_t b2 (qB_t d2 (qB_t g2 k2))), k3, fun i i0 i1 => ⟨(k4 i i0 i1).1, (k4 i i0 i1).2, qR_t b4 (qR_t d4 (qR_t g5 k5)) 366 i (by decide) (a5 i i0 i1), qR_t d4 (qR_t g5 k5) 367 i (by decide) (b5 i i0 i1), qR_t g5 k5 368 i (by decide) (d5 i i0 i1), k6 i i0 i1⟩⟩
end
end
section
section
/-! ===== the signs of the notes, exactly, on the one side ===== -/
variable {K : zK} {q c fi be : Int} {m : Nat} {F : zF} {D : zD}
/-- rows a to b change, from i0 on; and the row of what is known -/
def qW (q : Int) (a b : Nat) (i0 : Int) (B B' : zB) : Prop := ∀ c y k x, ¬ (c = 4 ∧ y = q ∧ (k = 12 ∨ (a ≤ k ∧ k ≤ b ∧ i0 ≤ x))) → B' c y k x = B c y k x
theorem qW_r {a b : Nat} {i0 : Int} {B : zB} : qW q a b i0 B B := fun _ _ _ _ _ => rfl
theorem qW_q {a b : Nat} {i0 : Int} {B B' : zB} (ha : 366 ≤ a) (h : qW q a b i0 B B') : qB q B B' := fun c y k x n => h c y k x (by first | decide | omega)
theorem cD_q {B B' : zB} (f : qB q B B') : cD q F B' fi be = cD q F B fi be := by
  have h1 : ∀ y j, B' 1 y 12 j = B 1 y 12 j := fun y j => f 1 y 12 j (by first | decide | omega)
  have h2 : ∀ y j, B' 1 y 13 j = B 1 y 13 j := fun y j => f 1 y 13 j (by first | decide | omega)
  have h3 : ∀ j, B' 4 q 5 j = B 4 q 5 j := fun j => f 4 q 5 j (by first | decide | omega)
  have h4 : ∀ j, B' 4 q 360 j = B 4 q 360 j := fun j => f 4 q 360 j (by first | decide | omega)
  have h5 : ∀ j, B' 4 q 361 j = B 4 q 361 j := fun j => f 4 q 361 j (by first | decide | omega)
  have h6 : ∀ j, B' 4 q 9 j = B 4 q 9 j := fun j => f 4 q 9 j (by first | decide | omega)
  have h7 : ∀ j, B' 4 q 364 j = B 4 q 364 j := fun j => f 4 q 364 j (by first | decide | omega)
  unfold cD
  simp only [h1, h2, h3, h4, h5, h6, h7]
theorem C_rnD {i : Int} {B : zB} (h : QN K q m c F B) (hD : cD q F B fi be = D) (i0 : 0 ≤ i) (i1 : i < c) : f_Part_isRestNote K q i F B = some (rsN D i, F, B) ∧ (rsN D i = 0 → D 0 i 0 = B 4 q 360 i ∧ 0 ≤ B 4 q 360 i ∧ B 4 q 360 i < m ∧ 1 ≤ F 1 (B 4 q 5 (B 4 q 360 i)) 10) := by
  obtain ⟨h4, ⟨h6, m1⟩, ⟨h10, c0, c1⟩, hc, hn, he, _⟩ := h
  obtain ⟨n1, n2, n3, n4⟩ := hn i i0 i1
  obtain ⟨d0, _⟩ := cD_n hD h10 i0 i1
  unfold f_Part_isRestNote f_Part_isRestNote_33 f_Part_isRestNote_38
  rw [if_pos h4, if_pos (by first | decide | omega), if_pos (by unfold r32; omega)]
  by_cases z : B 4 q 360 i < 0
  · have e : rsN D i = 1 := by unfold rsN; rw [d0, if_pos z]
    rw [e, if_pos z, if_pos (Or.inr rfl)]
    exact ⟨rfl, fun y => absurd y (by decide)⟩
  obtain ⟨e1, e2, e3, e4⟩ := he (B 4 q 360 i) (by first | decide | omega) n1.2
  obtain ⟨_, g5, _⟩ := cD_e hD h6 (t := B 4 q 360 i) (by first | decide | omega) n1.2
  rw [if_neg z, h6, if_pos (by unfold r32; omega), if_neg (by first | decide | omega), if_pos (by first | decide | omega), if_pos e1, if_pos (by unfold r32; omega)]
  by_cases y : F 1 (B 4 q 5 (B 4 q 360 i)) 10 = 0
  · have e : rsN D i = 1 := by unfold rsN; rw [d0, if_neg z, g5, if_pos y]
    rw [e, if_pos y, if_pos (Or.inr rfl)]
    exact ⟨rfl, fun y => absurd y (by decide)⟩
  · have e : rsN D i = 0 := by unfold rsN; rw [d0, if_neg z, g5, if_neg y]
    rw [e, if_neg y, if_pos (Or.inl rfl)]
    exact ⟨rfl, fun _ => ⟨d0, (by first | decide | omega), n1.2, (by first | decide | omega)⟩⟩
theorem C_ctD {i : Int} {B : zB} (h : QN K q m c F B) (hD : cD q F B fi be = D) (i0 : 0 ≤ i) (i1 : i ≤ 800) : f_Part_continues K q i F B = some (coN D i, F, B) := by
  obtain ⟨h4, ⟨h6, m1⟩, ⟨h10, c0, c1⟩, hc, hn, he, _⟩ := h
  obtain ⟨s0, _⟩ := cD_s hD
  unfold f_Part_continues f_Part_continues_37 f_Part_continues_38
  rw [if_pos (by unfold r32; omega)]
  by_cases z : i ≤ 0
  · have e : coN D i = 0 := by unfold coN; rw [if_neg (fun y => by have := y.1; omega)]
    rw [e, if_pos z, if_pos (Or.inl rfl)]
  rw [if_neg z, if_pos h4, h10, if_pos (by unfold r32; omega)]
  by_cases y : c ≤ i
  · have e : coN D i = 0 := by unfold coN; rw [s0, h10, if_neg (fun y => by have := y.2.1; omega)]
    rw [e, if_pos y, if_pos (Or.inl rfl)]
  have a := hn i (by first | decide | omega) (by first | decide | omega)
  have b := hn (i - 1) (by first | decide | omega) (by first | decide | omega)
  obtain ⟨d0, _⟩ := cD_n hD h10 (i := i) (by first | decide | omega) (by first | decide | omega)
  obtain ⟨d1, _⟩ := cD_n hD h10 (i := i - 1) (by first | decide | omega) (by first | decide | omega)
  rw [if_neg y, if_pos (by first | decide | omega), if_pos (by first | decide | omega), if_pos (by unfold r32; omega), if_pos (by unfold r32; omega)]
  by_cases x : B 4 q 360 i = B 4 q 360 (i - 1)
  · have e : coN D i = 1 := by unfold coN; rw [s0, h10, d0, d1, if_pos ⟨(by first | decide | omega), (by first | decide | omega), x⟩]
    rw [e, if_pos x, if_pos (Or.inr rfl)]
  · have e : coN D i = 0 := by unfold coN; rw [s0, h10, d0, d1, if_neg (fun y => x y.2.2)]
    rw [e, if_neg x, if_pos (Or.inl rfl)]
theorem C_tpD {t : Int} {B : zB} (hK : 3002 ≤ K.1) (h : QN K q m c F B) (t0 : 0 ≤ t) (t1 : t < m) : f_Part_tiedPitches K q t F B = some (if ¬ zand (F 1 (B 4 q 5 t) 7) 1 = 0 ∧ t + 1 < m then shM (shB (B 4 q 5 t) (B 4 q 5 (t + 1)) (F 1 (B 4 q 5 (t + 1)) 10) B) (F 1 (B 4 q 5 t) 10).toNat else 0, F, B) := by
  obtain ⟨h4, ⟨h6, m1⟩, _, hc, hn, he, _⟩ := h
  obtain ⟨e1, e2, e3, e4⟩ := he t t0 t1
  unfold f_Part_tiedPitches f_Part_tiedPitches_27
  rw [if_pos (show r32 t by unfold r32; omega), if_neg (show ¬ t < 0 by omega), if_pos h4, if_pos (show r32 (t + 1) by unfold r32; omega), h6, if_pos (show r32 (m : Int) by unfold r32; omega)]
  by_cases z : (m : Int) ≤ t + 1
  · rw [if_pos z, if_neg (fun y => by have := y.2; omega)]
  obtain ⟨d1, d2, d3, d4⟩ := he (t + 1) (by first | decide | omega) (by first | decide | omega)
  rw [if_neg z, if_pos (show 0 ≤ t ∧ t < 200 by omega), if_pos e1, C_has e1, zb_s]
  by_cases y : zand (F 1 (B 4 q 5 t) 7) 1 = 0
  · rw [if_pos y, if_pos (show r32 0 by decide), if_pos (show (0 : Int) = 0 from rfl), if_neg (fun x => x.1 y)]
  · have sh := C_shared (K := K) (F := F) (B := B) hK e1 d1 rfl e3 rfl d3 (fun k u s => by have := e4 k u s; unfold r32; omega) (fun k u s => by have := d4 k u s; unfold r32; omega)
    rw [if_neg y, if_pos (show r32 1 by decide), if_neg (show ¬ (1 : Int) = 0 by decide), if_pos (show 0 ≤ t + 1 ∧ t + 1 < 200 by omega), if_pos e1, if_pos d1, sh, zb_s, if_pos ⟨y, (by first | decide | omega)⟩]
theorem hdN_c {i : Int} (hr : rsN D i = 0) (hc : coN D (i + 1) = 1) (n0 : 0 ≤ D 5 (D 0 i 0) 0) (n1 : D 5 (D 0 i 0) 0 ≤ 6) : hdN D i = zshl 1 (D 5 (D 0 i 0) 0) - 1 := by
  unfold hdN
  rw [if_neg (by first | decide | omega), shM_c (h' := fun _ => true) _ (fun j _ _ => by unfold hbN; exact decide_eq_true (Or.inl hc))]
  have z := shM_1 ⟨(D 5 (D 0 i 0) 0).toNat, (by first | decide | omega)⟩
  rw [show (((⟨(D 5 (D 0 i 0) 0).toNat, (by first | decide | omega)⟩ : Fin 7).val : Nat) : Int) = D 5 (D 0 i 0) 0 by show (((D 5 (D 0 i 0) 0).toNat : Nat) : Int) = _; omega] at z
  exact z
theorem hdN_t {i : Int} {B : zB} (hD : cD q F B fi be = D) (h6 : F 4 q 6 = m) (hr : rsN D i = 0) (hc : coN D (i + 1) = 0) (t0 : 0 ≤ D 0 i 0) (t1 : D 0 i 0 < m) : hdN D i = if ¬ zand (F 1 (B 4 q 5 (D 0 i 0)) 7) 1 = 0 ∧ D 0 i 0 + 1 < m then shM (shB (B 4 q 5 (D 0 i 0)) (B 4 q 5 (D 0 i 0 + 1)) (F 1 (B 4 q 5 (D 0 i 0 + 1)) 10) B) (F 1 (B 4 q 5 (D 0 i 0)) 10).toNat else 0 := by
  obtain ⟨s0, s1, _⟩ := cD_s hD
  obtain ⟨g4, g5, g6⟩ := cD_e hD h6 t0 t1
  unfold hdN
  rw [if_neg (by first | decide | omega), g5]
  by_cases z : ¬ zand (F 1 (B 4 q 5 (D 0 i 0)) 7) 1 = 0 ∧ D 0 i 0 + 1 < m
  · rw [if_pos z]
    refine shM_c _ (fun j j0 j1 => ?_)
    obtain ⟨k6, k7⟩ := g6 j j0 (by first | decide | omega)
    unfold hbN shB
    rw [hc, g4, s1, h6, k6, k7, fpD_c hD h6 (by first | decide | omega) z.2]
    by_cases y : 0 ≤ fP (B 1 (B 4 q 5 (D 0 i 0 + 1)) 12) (B 1 (B 4 q 5 (D 0 i 0 + 1)) 13) (F 1 (B 4 q 5 (D 0 i 0 + 1)) 10) (B 1 (B 4 q 5 (D 0 i 0)) 12 j) (B 1 (B 4 q 5 (D 0 i 0)) 13 j) 7 0
    · rw [decide_eq_true y]; exact decide_eq_true (Or.inr ⟨z.1, z.2, y⟩)
    · rw [decide_eq_false y]; exact decide_eq_false (fun x => by
        rcases x with x | x
        · exact absurd x (by decide)
        · exact y x.2.2)
  · rw [if_neg z, shM_0]
    intro j j0 j1
    unfold hbN
    rw [hc, g4, s1, h6]
    exact decide_eq_false (fun x => by
      rcases x with x | x
      · exact absurd x (by decide)
      · exact z ⟨x.1, x.2.1⟩)
theorem C_hdD (hK : 3002 ≤ K.1) : ∀ (r n : Nat) {i : Int} {B : zB}, 0 ≤ i → i + r = c → r < n → QN K q m c F B → cD q F B fi be = D → ∃ B', f_Part_hold_2 K n i q F B = some (0, F, B') ∧ qW q 366 366 i B B' ∧ ∀ j, i ≤ j → j < c → B' 4 q 366 j = hdN D j := by
  intro r
  induction r with
  | zero =>
    intro n i B i0 ir hn h hD
    obtain ⟨n, rfl⟩ : ∃ k, n = k + 1 := ⟨n - 1, (by first | decide | omega)⟩
    obtain ⟨h4, ⟨h6, m1⟩, ⟨h10, c0, c1⟩, _⟩ := h
    rw [f_Part_hold_2, if_pos h4, if_pos (by unfold r32; omega), h10, if_pos (by unfold r32; omega), if_pos (by first | decide | omega)]
    exact ⟨B, rfl, qW_r, fun j a b => (by first | decide | omega)⟩
  | succ r ih =>
    intro n i B i0 ir hn h hD
    obtain ⟨n, rfl⟩ : ∃ k, n = k + 1 := ⟨n - 1, (by first | decide | omega)⟩
    have h' := h
    obtain ⟨h4, ⟨h6, m1⟩, ⟨h10, c0, c1⟩, hc, hno, he, _⟩ := h
    obtain ⟨e1, z2⟩ := C_rnD h' hD i0 (by first | decide | omega)
    rw [f_Part_hold_2, if_pos h4, if_pos (by unfold r32; omega), h10, if_pos (by unfold r32; omega), if_neg (by first | decide | omega), if_pos (by first | decide | omega), e1, zb_s]
    have go : ∀ x : Int, x = hdN D i → ∃ B', f_Part_hold_89 (f_Part_hold_2 K n) K i q F (zup4 B 4 q 366 i x) = some (0, F, B') ∧ qW q 366 366 i B B' ∧ ∀ j, i ≤ j → j < c → B' 4 q 366 j = hdN D j := fun x hx => by
      obtain ⟨w1, w2⟩ := QN_w (k := 366) (i := i) (x := x) h' (by decide)
      obtain ⟨B', a, b, e⟩ := ih n (i := i + 1) (by first | decide | omega) (by first | decide | omega) (by first | decide | omega) w1 (by rw [cD_q w2]; exact hD)
      refine ⟨B', a, fun c y k x' nn => by rw [b c y k x' (by first | decide | omega), zup4_v, if_neg (by first | decide | omega)], fun j j0 j1 => ?_⟩
      by_cases ej : j = i
      · rw [ej, b 4 q 366 i (by first | decide | omega), zup4_v, if_pos ⟨rfl, rfl, rfl, rfl⟩]
        exact hx
      · exact e j (by first | decide | omega) j1
    rcases rsN_b (D := D) (i := i) with z1 | z1
    · obtain ⟨y0, y1, y2, y3⟩ := z2 z1
      obtain ⟨g4, g5, _⟩ := cD_e hD h6 (t := D 0 i 0) (by first | decide | omega) (by first | decide | omega)
      have y4 := (he _ y1 y2).2.2.1
      rw [z1, if_pos (show r32 0 by decide), if_pos (show (0 : Int) = 0 from rfl), C_ctD h' hD (i := i + 1) (by first | decide | omega) (by first | decide | omega), zb_s]
      rcases coN_b (D := D) (i := i + 1) with z3 | z3
      · rw [z3, if_pos (show r32 0 by decide), if_pos (show (0 : Int) = 0 from rfl), C_tpD hK h' y1 y2, zb_s]
        refine go _ ?_
        rw [hdN_t hD h6 z1 z3 (by first | decide | omega) (by first | decide | omega), y0]
      · rw [z3, if_pos (show r32 1 by decide), if_neg (show ¬ (1 : Int) = 0 by decide), if_pos (by first | decide | omega), if_pos (he _ y1 y2).1]
        refine go _ ?_
        rw [hdN_c z1 z3 (by rw [g5, y0]; exact y4.1) (by rw [g5, y0]; exact y4.2), g5, y0]
    · rw [z1, if_pos (show r32 1 by decide), if_neg (show ¬ (1 : Int) = 0 by decide)]
      exact go 0 (by unfold hdN; rw [if_pos z1])
/-! accidentals -/
theorem tdN_b {t k : Int} : tdN D t k = 0 ∨ tdN D t k = 1 := by
  unfold tdN
  split
  · exact Or.inr rfl
  · exact Or.inl rfl
theorem C_tdD {t k : Int} {B : zB} (hK : 3002 ≤ K.1) (h : QN K q m c F B) (hD : cD q F B fi be = D) (t0 : 0 ≤ t) (t1 : t < m) (k0 : 0 ≤ k) (k1 : k < F 1 (B 4 q 5 t) 10) : f_Part_isTiedFrom K q t k F B = some (tdN D t k, F, B) := by
  obtain ⟨h4, ⟨h6, m1⟩, _, hc, hn, he, _⟩ := h
  obtain ⟨e1, e2, e3, e4⟩ := he t t0 t1
  obtain ⟨_, _, g6⟩ := cD_e hD h6 t0 t1
  obtain ⟨k6, k7⟩ := g6 k k0 k1
  unfold f_Part_isTiedFrom f_Part_isTiedFrom_56 f_Part_isTiedFrom_57
  rw [if_pos h4, if_pos (by first | decide | omega), if_pos (by unfold r32; omega)]
  by_cases z : t ≤ 0
  · have e : tdN D t k = 0 := by unfold tdN; rw [if_neg (fun y => by have := y.1; omega)]
    rw [e, if_pos z, if_pos (Or.inl rfl)]
  obtain ⟨d1, d2, d3, d4⟩ := he (t - 1) (by first | decide | omega) (by first | decide | omega)
  obtain ⟨g4, _, _⟩ := cD_e hD h6 (t := t - 1) (by first | decide | omega) (by first | decide | omega)
  have fp := fpD_c (s := D 6 t k) (a := D 7 t k) hD h6 (t := t - 1) (by first | decide | omega) (by first | decide | omega)
  rw [k6, k7] at fp
  rw [if_neg z, if_pos (by first | decide | omega), if_pos d1, C_has d1, zb_s]
  by_cases y : zand (F 1 (B 4 q 5 (t - 1)) 7) 1 = 0
  · have e : tdN D t k = 0 := by unfold tdN; rw [g4, if_neg (fun x => x.2.1 y)]
    rw [e, if_pos y, if_pos (show r32 0 by decide), if_pos (show (0 : Int) = 0 from rfl), if_pos (Or.inl rfl)]
  · have ek := e4 k k0 k1
    rw [if_neg y, if_pos (show r32 1 by decide), if_neg (show ¬ (1 : Int) = 0 by decide), if_pos e1, if_pos (by first | decide | omega), if_pos d1, C_hasP hK d1 rfl d3.2 d3.1 (fun j u s => by have := d4 j u s; unfold r32; omega) (by unfold r32; omega) (by unfold r32; omega), zb_s]
    by_cases x : fP (B 1 (B 4 q 5 (t - 1)) 12) (B 1 (B 4 q 5 (t - 1)) 13) (F 1 (B 4 q 5 (t - 1)) 10) (B 1 (B 4 q 5 t) 12 k) (B 1 (B 4 q 5 t) 13 k) 7 0 < 0
    · have e : tdN D t k = 0 := by unfold tdN; rw [g4, k6, k7, fp, if_neg (fun x' => by have := x'.2.2; omega)]
      rw [e, if_pos x, if_pos (show r32 0 by decide), if_pos (show (0 : Int) = 0 from rfl), if_pos (Or.inl rfl)]
    · have e : tdN D t k = 1 := by unfold tdN; rw [g4, k6, k7, fp, if_pos ⟨(by first | decide | omega), y, (by first | decide | omega)⟩]
      rw [e, if_neg x, if_pos (show r32 1 by decide), if_neg (show ¬ (1 : Int) = 0 by decide), if_pos (Or.inr rfl)]
/-- the row of what is known alone -/
def q12 (q : Int) (B B' : zB) : Prop := ∀ c y k x, ¬ (c = 4 ∧ y = q ∧ k = 12) → B' c y k x = B c y k x
theorem q12_q {B B' : zB} (h : q12 q B B') : qB q B B' := fun c y k x n => h c y k x (by first | decide | omega)
theorem C_acD12 {t e : Int} {f : Int → Int} (hK : 3002 ≤ K.1) (t0 : 0 ≤ t) (t1 : t < m) : ∀ (r n k : Nat) {x : Int} {B : zB}, B 4 q 5 t = e → (k : Int) + r = F 1 e 10 → r < n → QN K q m c F B → cD q F B fi be = D → x = (acS D t f k).2 → (∀ s, 0 ≤ s → s < 63 → B 4 q 12 s = (acS D t f k).1 s) → ∃ B', f_Part_accidentalsOf_12 K n k x e q t F B = some ((acS D t f (F 1 e 10).toNat).2, F, B') ∧ q12 q B B' ∧ QN K q m c F B' ∧ ∀ s, 0 ≤ s → s < 63 → B' 4 q 12 s = (acS D t f (F 1 e 10).toNat).1 s := by
  intro r
  induction r with
  | zero =>
    intro n k x B hE kr hn h hD hx hs
    obtain ⟨n, rfl⟩ : ∃ j, n = j + 1 := ⟨n - 1, (by first | decide | omega)⟩
    have h' := h
    obtain ⟨h4, ⟨h6, m1⟩, _, hc, hno, he, _⟩ := h
    obtain ⟨e1, e2, e3, e4⟩ := he t t0 t1
    rw [hE] at e1 e2 e3 e4
    rw [f_Part_accidentalsOf_12, if_pos e1, if_pos (by unfold r32; omega), if_pos (by unfold r32; omega), if_pos (by first | decide | omega), show (F 1 e 10).toNat = k by omega, hx]
    exact ⟨B, rfl, fun _ _ _ _ _ => rfl, h', hs⟩
  | succ r ih =>
    intro n k x B hE kr hn h hD hx hs
    obtain ⟨n, rfl⟩ : ∃ j, n = j + 1 := ⟨n - 1, (by first | decide | omega)⟩
    have h' := h
    obtain ⟨h4, ⟨h6, m1⟩, _, hc, hno, he, h12⟩ := h
    obtain ⟨e1, e2, e3, e4⟩ := he t t0 t1
    have ez := C_tdD hK h' hD t0 t1 (k := k) (by first | decide | omega) (by rw [hE]; omega)
    obtain ⟨_, _, g6⟩ := cD_e hD h6 t0 t1
    rw [hE] at e1 e2 e3 e4 g6
    obtain ⟨k6, k7⟩ := g6 k (by first | decide | omega) (by first | decide | omega)
    have ek := e4 k (by first | decide | omega) (by first | decide | omega)
    have ab := acS_b (D := D) (t := t) (f := f) k
    rw [f_Part_accidentalsOf_12, if_pos e1, if_pos (by unfold r32; omega), if_pos (by unfold r32; omega), if_neg (by first | decide | omega), if_pos (by first | decide | omega), if_pos h4, ez, zb_s]
    simp only [f_Part_accidentalsOf_78]
    have same : (tdN D t k = 1 ∨ (acS D t f k).1 (D 6 t k) = D 7 t k) → acS D t f (k + 1) = acS D t f k := fun y => by rw [acS, if_pos y]
    have kk : ((k + 1 : Nat) : Int) = (k : Int) + 1 := by omega
    rcases tdN_b (D := D) (t := t) (k := k) with zb | zb
    · rw [zb, if_pos (show r32 0 by decide), if_pos (show (0 : Int) = 0 from rfl), if_pos (by first | decide | omega), if_pos (h12 _ (by first | decide | omega) (by first | decide | omega)), if_pos (by unfold r32; omega)]
      have hk := hs (B 1 e 12 k) (by first | decide | omega) (by first | decide | omega)
      by_cases y : B 4 q 12 (B 1 e 12 k) = B 1 e 13 k
      · rw [if_pos y]
        have sm := same (Or.inr (by rw [k6, k7, ← hk]; exact y))
        have g := ih n (k + 1) (x := x) (B := B) hE (by first | decide | omega) (by first | decide | omega) h' hD (by rw [sm]; exact hx) (by rw [sm]; exact hs)
        rw [kk] at g
        exact g
      · rw [if_neg y]
        have nw : acS D t f (k + 1) = ((fun s => if s = D 6 t k then D 7 t k else (acS D t f k).1 s), (acS D t f k).2 + 2 ^ k) := by
          rw [acS, if_neg (fun x => by
            rcases x with x | x
            · omega
            · exact y (by rw [hk, ← k6, ← k7]; exact x))]
        generalize hC : zup4 B 4 q 12 (B 1 e 12 k) (B 1 e 13 k) = C
        have f12 : q12 q B C := fun d y j s nn => by rw [← hC, zup4_v, if_neg (by first | decide | omega)]
        have hC' : QN K q m c F C := QN_f h' (q12_q f12) (fun s a b => by
          rw [← hC, zup4_v]
          split
          · unfold r32; omega
          · exact h12 s a b)
        obtain ⟨zz, _⟩ := zsh_i (k := k) (by first | decide | omega) ab.1 ab.2
        obtain ⟨B', g1, g2, g3, g4⟩ := ih n (k + 1) (x := zor x (zshl 1 k)) (B := C) (by rw [f12 4 q 5 t (by first | decide | omega)]; exact hE) (by first | decide | omega) (by first | decide | omega) hC' (by rw [cD_q (q12_q f12)]; exact hD) (by rw [nw, hx, zz]) (fun s s0 s1 => by
          rw [nw, ← hC, zup4_v]
          by_cases es : s = B 1 e 12 k
          · rw [if_pos ⟨rfl, rfl, rfl, es⟩]
            show _ = if s = D 6 t k then D 7 t k else _
            rw [if_pos (by rw [k6]; exact es), k7]
          · rw [if_neg (fun z => es z.2.2.2)]
            show _ = if s = D 6 t k then D 7 t k else _
            rw [if_neg (by rw [k6]; exact es)]
            exact hs s s0 s1)
        rw [kk] at g1
        exact ⟨B', g1, fun c y k x n => by rw [g2 c y k x n, f12 c y k x n], g3, g4⟩
    · rw [zb, if_pos (show r32 1 by decide), if_neg (show ¬ (1 : Int) = 0 by decide)]
      have sm := same (Or.inl zb)
      have g := ih n (k + 1) (x := x) (B := B) hE (by first | decide | omega) (by first | decide | omega) h' hD (by rw [sm]; exact hx) (by rw [sm]; exact hs)
      rw [kk] at g
      exact g
theorem C_acD36 {f i b : Int} {rec : Int → Int → Int → Int → zF → zB → zO} (hf : -7 ≤ f ∧ f ≤ 7) : ∀ (r n : Nat) {s : Int} {B : zB}, 0 ≤ s → s + r = 63 → r < n → QN K q m c F B → ∃ B', f_Part_setAccidentals_36 rec K n s b i q f F B = f_Part_setAccidentals_65 rec K i b q f F B' ∧ q12 q B B' ∧ QN K q m c F B' ∧ (∀ x, x < s → B' 4 q 12 x = B 4 q 12 x) ∧ ∀ x, s ≤ x → x < 63 → B' 4 q 12 x = kaV f (x % 7) := by
  intro r
  induction r with
  | zero =>
    intro n s B s0 sr hn h
    obtain ⟨n, rfl⟩ : ∃ j, n = j + 1 := ⟨n - 1, (by first | decide | omega)⟩
    rw [f_Part_setAccidentals_36, if_pos (by unfold r32; omega), if_pos (by first | decide | omega)]
    exact ⟨B, rfl, fun _ _ _ _ _ => rfl, h, fun _ _ => rfl, fun x a b => (by first | decide | omega)⟩
  | succ r ih =>
    intro n s B s0 sr hn h
    obtain ⟨n, rfl⟩ : ∃ j, n = j + 1 := ⟨n - 1, (by first | decide | omega)⟩
    have h' := h
    obtain ⟨h4, _, _, _, _, _, h12⟩ := h
    have m1 := Int.emod_nonneg s (show (7 : Int) ≠ 0 by decide)
    have m2 := Int.emod_lt_of_pos s (show (0 : Int) < 7 by decide)
    have zb := kaV_b (f := f) (s := s % 7)
    rw [f_Part_setAccidentals_36, if_pos (by unfold r32; omega), if_neg (by first | decide | omega), if_pos h4, zrm_e s0 (by unfold r32; omega) (by decide) (by decide), C_kaV hf m1 (by first | decide | omega), zb_s, if_pos (by first | decide | omega)]
    generalize hC : zup4 B 4 q 12 s (kaV f (s % 7)) = C
    have f' : q12 q B C := fun d y j s nn => by rw [← hC, zup4_v, if_neg (by first | decide | omega)]
    have hC' : QN K q m c F C := QN_f h' (q12_q f') (fun s a b => by
      rw [← hC, zup4_v]
      split
      · unfold r32; omega
      · exact h12 s a b)
    obtain ⟨B', g1, g2, g3, g4, g5⟩ := ih n (s := s + 1) (B := C) (by first | decide | omega) (by first | decide | omega) (by first | decide | omega) hC'
    refine ⟨B', g1, fun c y k x n => by rw [g2 c y k x n, f' c y k x n], g3, fun x hx => by rw [g4 x (by first | decide | omega), ← hC, zup4_v, if_neg (by first | decide | omega)], fun x x0 x1 => ?_⟩
    by_cases ex : x = s
    · rw [ex, g4 s (by first | decide | omega), ← hC, zup4_v, if_pos ⟨rfl, rfl, rfl, rfl⟩]
    · exact g5 x (by first | decide | omega) x1
theorem C_acD {f : Int} (hK : 3002 ≤ K.1) (hf : -7 ≤ f ∧ f ≤ 7) (hfi : D 8 2 0 = f) : ∀ (r n i : Nat) {b : Int} {B : zB}, (i : Int) + r = c → r < n → r32 b → QN K q m c F B → cD q F B fi be = D → ((i = 0 ∧ b = -1) ∨ (0 < i ∧ b = D 1 ((i : Int) - 1) 0)) → (0 < i → ∀ s, 0 ≤ s → s < 63 → B 4 q 12 s = knN D i s) → ∃ B', f_Part_setAccidentals_4 K n i b q f F B = some (0, F, B') ∧ qW q 367 367 i B B' ∧ ∀ j, (i : Int) ≤ j → j < c → B' 4 q 367 j = acN D j := by
  intro r
  induction r with
  | zero =>
    intro n i b B ir hn rb h hD hb hs
    obtain ⟨n, rfl⟩ : ∃ k, n = k + 1 := ⟨n - 1, (by first | decide | omega)⟩
    obtain ⟨h4, ⟨h6, m1⟩, ⟨h10, c0, c1⟩, _⟩ := h
    rw [f_Part_setAccidentals_4, if_pos h4, if_pos (by unfold r32; omega), h10, if_pos (by unfold r32; omega), if_pos (by first | decide | omega)]
    exact ⟨B, rfl, qW_r, fun j a b => (by first | decide | omega)⟩
  | succ r ih =>
    intro n i b B ir hn rb h hD hb hs
    obtain ⟨n, rfl⟩ : ∃ k, n = k + 1 := ⟨n - 1, (by first | decide | omega)⟩
    have ii : ((i + 1 : Nat) : Int) = (i : Int) + 1 := by omega
    have kS : ∀ s, knN D (i + 1) s = (stN D i (kbN D i (knN D i))).1 s := fun s => rfl
    have aS : acN D i = (stN D i (kbN D i (knN D i))).2 := by unfold acN; rw [show (i : Int).toNat = i by omega]
    -- one note
    have note : ∀ (b' : Int) (C : zB), r32 b' → b' = D 1 i 0 → QN K q m c F C → cD q F C fi be = D → q12 q B C → (∀ s, 0 ≤ s → s < 63 → C 4 q 12 s = kbN D i (knN D i) s) → ∃ B', f_Part_setAccidentals_65 (f_Part_setAccidentals_4 K n) K i b' q f F C = some (0, F, B') ∧ qW q 367 367 i B B' ∧ ∀ j, (i : Int) ≤ j → j < c → B' 4 q 367 j = acN D j := by
      intro b' C rb' eb hC hCD fC hk
      have hC' := hC
      obtain ⟨h4, ⟨h6, m1⟩, ⟨h10, c0, c1⟩, hc, hno, he, _⟩ := hC
      have put : ∀ (x : Int) (E : zB), QN K q m c F E → q12 q B E → x = acN D i → (∀ s, 0 ≤ s → s < 63 → E 4 q 12 s = knN D (i + 1) s) → ∃ B', f_Part_setAccidentals_117 (f_Part_setAccidentals_4 K n) K i b' q f q i x F E = some (0, F, B') ∧ qW q 367 367 i B B' ∧ ∀ j, (i : Int) ≤ j → j < c → B' 4 q 367 j = acN D j := fun x E hE fE hx hkE => by
        obtain ⟨w1, w2⟩ := QN_w (k := 367) (i := (i : Int)) (x := x) hE (by decide)
        obtain ⟨B', g1, g2, g3⟩ := ih n (i + 1) (b := b') (B := zup4 E 4 q 367 i x) (by first | decide | omega) (by first | decide | omega) rb' w1 (by rw [cD_q w2, cD_q (q12_q fE)]; exact hD) (Or.inr ⟨(by first | decide | omega), by rw [eb, ii, show (i : Int) + 1 - 1 = i by omega]⟩) (fun _ s s0 s1 => by rw [zup4_v, if_neg (by first | decide | omega)]; exact hkE s s0 s1)
        rw [ii] at g1 g2 g3
        refine ⟨B', ?_, fun c y k x' nn => by rw [g2 c y k x' (by first | decide | omega), zup4_v, if_neg (by first | decide | omega), fE c y k x' (by first | decide | omega)], fun j j0 j1 => ?_⟩
        · unfold f_Part_setAccidentals_117
          rw [if_pos h4, if_pos (by first | decide | omega)]
          exact g1
        · by_cases ej : j = i
          · rw [ej, g2 4 q 367 i (by first | decide | omega), zup4_v, if_pos ⟨rfl, rfl, rfl, rfl⟩]
            exact hx
          · exact g3 j (by first | decide | omega) j1
      obtain ⟨e1, z2⟩ := C_rnD hC' hCD (i := (i : Int)) (by first | decide | omega) (by first | decide | omega)
      unfold f_Part_setAccidentals_65 f_Part_setAccidentals_85 f_Part_setAccidentals_86
      rw [if_pos h4, e1, zb_s]
      have bare : (rsN D i = 1 ∨ coN D i = 1) → acN D i = 0 ∧ ∀ s, knN D (i + 1) s = kbN D i (knN D i) s := fun y => by
        refine ⟨by rw [aS]; unfold stN; rw [if_pos y], fun s => by rw [kS]; unfold stN; rw [if_pos y]⟩
      rcases rsN_b (D := D) (i := (i : Int)) with z1 | z1
      · obtain ⟨y0, y1, y2, y3⟩ := z2 z1
        obtain ⟨_, g5, _⟩ := cD_e hCD h6 (t := D 0 i 0) (by first | decide | omega) (by first | decide | omega)
        have y4 := (he _ y1 y2).2.2.1
        rw [z1, if_pos (show r32 0 by decide), if_pos (show (0 : Int) = 0 from rfl), C_ctD hC' hCD (i := (i : Int)) (by first | decide | omega) (by first | decide | omega), zb_s]
        rcases coN_b (D := D) (i := (i : Int)) with z3 | z3
        · have fresh : stN D i (kbN D i (knN D i)) = acS D (D 0 i 0) (kbN D i (knN D i)) (D 5 (D 0 i 0) 0).toNat := by unfold stN; rw [if_neg (by first | decide | omega)]
          obtain ⟨E, g1, g2, g3, g4⟩ := C_acD12 (K := K) (q := q) (c := c) (fi := fi) (be := be) (m := m) (F := F) (D := D) (t := C 4 q 360 i) (e := C 4 q 5 (C 4 q 360 i)) (f := kbN D i (knN D i)) hK y1 y2 (F 1 (C 4 q 5 (C 4 q 360 i)) 10).toNat K.1 0 (x := 0) (B := C) rfl (by first | decide | omega) (by first | decide | omega) hC' hCD rfl hk
          rw [z3, if_pos (show r32 0 by decide), if_pos (show (0 : Int) = 0 from rfl), if_pos h4, if_pos (show r32 1 by decide), if_neg (show ¬ (1 : Int) = 0 by decide), if_pos (show 0 ≤ (i : Int) ∧ (i : Int) < 800 by omega), f_Part_accidentalsOf, if_pos h4, if_pos (show 0 ≤ C 4 q 360 i ∧ C 4 q 360 i < 200 by omega)]
          rw [show ((0 : Nat) : Int) = 0 from rfl] at g1
          rw [g1, zb_s]
          refine put _ E g3 (fun c y k x n => by rw [g2 c y k x n, fC c y k x n]) ?_ (fun s s0 s1 => ?_)
          · rw [aS, fresh, g5, y0]
          · rw [kS, fresh, g5, y0]; exact g4 s s0 s1
        · rw [z3, if_pos (show r32 1 by decide), if_neg (show ¬ (1 : Int) = 0 by decide), if_pos h4, if_pos (show r32 0 by decide), if_pos (show (0 : Int) = 0 from rfl)]
          obtain ⟨b1, b2⟩ := bare (Or.inr z3)
          exact put 0 C hC' fC b1.symm (fun s s0 s1 => by rw [b2]; exact hk s s0 s1)
      · rw [z1, if_pos (show r32 1 by decide), if_neg (show ¬ (1 : Int) = 0 by decide), if_pos h4, if_pos (show r32 0 by decide), if_pos (show (0 : Int) = 0 from rfl)]
        obtain ⟨b1, b2⟩ := bare (Or.inl z1)
        exact put 0 C hC' fC b1.symm (fun s s0 s1 => by rw [b2]; exact hk s s0 s1)
    have h' := h
    obtain ⟨h4, ⟨h6, m1⟩, ⟨h10, c0, c1⟩, hc, hno, he, _⟩ := h
    obtain ⟨n1, n2, n3, n4⟩ := hno i (by first | decide | omega) (by first | decide | omega)
    obtain ⟨_, d1, _⟩ := cD_n hD h10 (i := (i : Int)) (by first | decide | omega) (by first | decide | omega)
    rw [f_Part_setAccidentals_4, if_pos h4, if_pos (by unfold r32; omega), h10, if_pos (by unfold r32; omega), if_neg (by first | decide | omega), if_pos (by first | decide | omega), if_pos (by unfold r32; omega), if_pos rb]
    by_cases z : B 4 q 361 i = b
    · rw [if_pos z]
      have i0 : 0 < i := by
        rcases hb with ⟨_, y⟩ | y
        · omega
        · exact y.1
      refine note b B rb (by rw [d1]; exact z.symm) h' hD (fun _ _ _ _ _ => rfl) (fun s s0 s1 => ?_)
      rw [hs i0 s s0 s1]
      unfold kbN
      rw [if_neg (fun y => by
        rcases y with y | y
        · omega
        · rcases hb with ⟨y', _⟩ | ⟨_, y'⟩
          · omega
          · exact y (by rw [d1, z]; exact y'))]
    · rw [if_neg z]
      obtain ⟨C, g1, g2, g3, _, g5⟩ := C_acD36 (K := K) (q := q) (c := c) (m := m) (F := F) (rec := f_Part_setAccidentals_4 K n) (i := (i : Int)) (b := B 4 q 361 i) hf 63 K.1 (s := 0) (B := B) (by decide) (by decide) (by first | decide | omega) h'
      rw [g1]
      refine note (B 4 q 361 i) C (by unfold r32; omega) d1.symm g3 (by rw [cD_q (q12_q g2)]; exact hD) g2 (fun s s0 s1 => ?_)
      rw [g5 s s0 s1]
      unfold kbN
      rw [if_pos (by
        rcases hb with ⟨y', _⟩ | ⟨_, y'⟩
        · exact Or.inl (by first | decide | omega)
        · exact Or.inr (fun y => z (by rw [y', ← y, d1])))]
      unfold kyN
      rw [hfi]
end
end
section
section
/-! ===== ledgers, groups and stems, exactly, on the one side ===== -/
variable {K : zK} {q c fi be : Int} {m : Nat} {F : zF} {D : zD}
theorem zt8v : ∀ k : Fin 4, ztv 8 (k.val : Int) = lwV (k.val : Int) := by decide +kernel
theorem C_htD {i : Int} {B : zB} (h : QN K q m c F B) (hD : cD q F B fi be = D) (i0 : 0 ≤ i) (i1 : i < c) (hr : rsN D i = 0) : f_Part_leastHeight K q i F B = some (loN D i, F, B) ∧ f_Part_greatestHeight K q i F B = some (hiN D i, F, B) ∧ (-100 ≤ loN D i ∧ loN D i ≤ 62) ∧ (-100 ≤ hiN D i ∧ hiN D i ≤ 62) := by
  obtain ⟨y0, y1, y2, y3⟩ := (C_rnD h hD i0 i1).2 hr
  obtain ⟨h4, ⟨h6, m1⟩, ⟨h10, c0, c1⟩, hc, hno, he, _⟩ := h
  obtain ⟨e1, e2, e3, e4⟩ := he _ y1 y2
  obtain ⟨_, g5, g6⟩ := cD_e hD h6 y1 y2
  obtain ⟨_, _, _, s3, _⟩ := cD_s hD
  have z := zt8.2 ⟨(F 4 q 1).toNat, (by first | decide | omega)⟩
  have zv := zt8v ⟨(F 4 q 1).toNat, (by first | decide | omega)⟩
  rw [show (((⟨(F 4 q 1).toNat, (by first | decide | omega)⟩ : Fin 4).val : Nat) : Int) = F 4 q 1 by show (((F 4 q 1).toNat : Nat) : Int) = F 4 q 1; omega] at z zv
  have zm : zmax (F 1 (B 4 q 5 (B 4 q 360 i)) 10 - 1) 0 = F 1 (B 4 q 5 (B 4 q 360 i)) 10 - 1 := by unfold zmax; split <;> omega
  have k0 := (e4 0 (by decide) (by first | decide | omega)).1
  have k1 := (e4 (F 1 (B 4 q 5 (B 4 q 360 i)) 10 - 1) (by first | decide | omega) (by first | decide | omega)).1
  have l0 : loN D i = B 1 (B 4 q 5 (B 4 q 360 i)) 12 0 - ztv 8 (F 4 q 1) := by unfold loN; rw [y0, s3, (g6 0 (by decide) (by first | decide | omega)).1, zv]
  have l1 : hiN D i = B 1 (B 4 q 5 (B 4 q 360 i)) 12 (F 1 (B 4 q 5 (B 4 q 360 i)) 10 - 1) - ztv 8 (F 4 q 1) := by unfold hiN; rw [y0, s3, g5, (g6 (F 1 (B 4 q 5 (B 4 q 360 i)) 10 - 1) (by first | decide | omega) (by first | decide | omega)).1, zv]
  unfold f_Part_leastHeight f_Part_greatestHeight
  rw [l0, l1, if_pos h4, if_pos (by first | decide | omega), if_pos (by first | decide | omega), if_pos e1, zt8.1, if_pos hc, if_pos h4, if_pos (by first | decide | omega), if_pos (by first | decide | omega), if_pos e1, if_pos (by unfold r32; omega), zm, if_pos (by first | decide | omega), if_pos hc]
  exact ⟨rfl, rfl, (by first | decide | omega), (by first | decide | omega)⟩
theorem C_lgD : ∀ (r n : Nat) {i : Int} {B : zB}, 0 ≤ i → i + r = c → r < n → QN K q m c F B → cD q F B fi be = D → ∃ B', f_Part_setLedgers_2 K n i q F B = some (0, F, B') ∧ qW q 368 368 i B B' ∧ ∀ j, i ≤ j → j < c → B' 4 q 368 j = lgN D j := by
  intro r
  induction r with
  | zero =>
    intro n i B i0 ir hn h hD
    obtain ⟨n, rfl⟩ : ∃ k, n = k + 1 := ⟨n - 1, (by first | decide | omega)⟩
    obtain ⟨h4, ⟨h6, m1⟩, ⟨h10, c0, c1⟩, _⟩ := h
    rw [f_Part_setLedgers_2, if_pos h4, if_pos (by unfold r32; omega), h10, if_pos (by unfold r32; omega), if_pos (by first | decide | omega)]
    exact ⟨B, rfl, qW_r, fun j a b => (by first | decide | omega)⟩
  | succ r ih =>
    intro n i B i0 ir hn h hD
    obtain ⟨n, rfl⟩ : ∃ k, n = k + 1 := ⟨n - 1, (by first | decide | omega)⟩
    have h' := h
    obtain ⟨h4, ⟨h6, m1⟩, ⟨h10, c0, c1⟩, hc, hno, he, _⟩ := h
    have go : ∀ x : Int, x = lgN D i → ∃ B', f_Part_setLedgers_52 (f_Part_setLedgers_2 K n) K x i q F B = some (0, F, B') ∧ qW q 368 368 i B B' ∧ ∀ j, i ≤ j → j < c → B' 4 q 368 j = lgN D j := fun x hx => by
      obtain ⟨w1, w2⟩ := QN_w (k := 368) (i := i) (x := x) h' (by decide)
      obtain ⟨B', a, b, e⟩ := ih n (i := i + 1) (by first | decide | omega) (by first | decide | omega) (by first | decide | omega) w1 (by rw [cD_q w2]; exact hD)
      refine ⟨B', ?_, fun c y k x' nn => by rw [b c y k x' (by first | decide | omega), zup4_v, if_neg (by first | decide | omega)], fun j j0 j1 => ?_⟩
      · unfold f_Part_setLedgers_52
        rw [if_pos h4, if_pos (by first | decide | omega)]
        exact a
      · by_cases ej : j = i
        · rw [ej, b 4 q 368 i (by first | decide | omega), zup4_v, if_pos ⟨rfl, rfl, rfl, rfl⟩]
          exact hx
        · exact e j (by first | decide | omega) j1
    rw [f_Part_setLedgers_2, if_pos h4, if_pos (by unfold r32; omega), h10, if_pos (by unfold r32; omega), if_neg (by first | decide | omega), (C_rnD h' hD i0 (by first | decide | omega)).1, zb_s]
    rcases rsN_b (D := D) (i := i) with z1 | z1
    · obtain ⟨ea, eb, ba, bb⟩ := C_htD h' hD i0 (by first | decide | omega) z1
      rw [z1, if_pos (show r32 0 by decide), if_pos (show (0 : Int) = 0 from rfl), eb, zb_s, if_pos (by unfold r32; omega), ea, zb_s, if_pos (by unfold r32; omega)]
      refine go _ ?_
      have hz : ∀ t : Int, t ≤ 200 → zdv (zmax t 0) 2 = if 0 < t then t / 2 else 0 := fun t ht => by
        have q0 : 0 ≤ zmax t 0 ∧ zmax t 0 ≤ 200 := by unfold zmax; split <;> omega
        rw [zdv_e q0.1 (by unfold r32; omega) (by decide) (by decide)]
        unfold zmax
        split <;> split <;> omega
      unfold lgN
      rw [if_neg (by first | decide | omega), hz _ (by first | decide | omega), hz _ (by first | decide | omega)]
      congr 1
      · split <;> split <;> omega
      · split <;> split <;> omega
    · rw [z1, if_pos (show r32 1 by decide), if_neg (show ¬ (1 : Int) = 0 by decide)]
      exact go 0 (by unfold lgN; rw [if_pos z1])
theorem bmN_b {i : Int} : bmN D i = 0 ∨ bmN D i = 1 := by
  unfold bmN
  split
  · exact Or.inl rfl
  · split
    · exact Or.inl rfl
    · exact Or.inr rfl
theorem tgN_b {i j : Int} : tgN D i j = 0 ∨ tgN D i j = 1 := by
  unfold tgN
  split
  · exact Or.inr rfl
  · exact Or.inl rfl
theorem C_bmD {i : Int} {B : zB} (h : QN K q m c F B) (hD : cD q F B fi be = D) (i0 : 0 ≤ i) (i1 : i < c) : f_Part_isBeamed K q i F B = some (bmN D i, F, B) := by
  have e1 := (C_rnD h hD i0 i1).1
  obtain ⟨h4, ⟨h6, m1⟩, ⟨h10, c0, c1⟩, hc, hno, he, _⟩ := h
  have n4 := (hno i i0 i1).2.2.2
  obtain ⟨_, _, _, d3⟩ := cD_n hD h10 i0 i1
  unfold f_Part_isBeamed f_Part_isBeamed_24 f_Part_isBeamed_25
  rw [if_pos h4, e1, zb_s]
  rcases rsN_b (D := D) (i := i) with z1 | z1
  · rw [z1, if_pos (show r32 0 by decide), if_pos (show (0 : Int) = 0 from rfl), if_pos (by first | decide | omega), if_pos (by unfold r32; omega)]
    by_cases y : B 4 q 364 i < 3
    · have e : bmN D i = 0 := by unfold bmN; rw [if_neg (by first | decide | omega), d3, if_pos y]
      rw [e, if_pos y, if_pos (Or.inl rfl)]
    · have e : bmN D i = 1 := by unfold bmN; rw [if_neg (by first | decide | omega), d3, if_neg y]
      rw [e, if_neg y, if_pos (Or.inr rfl)]
  · have e : bmN D i = 0 := by unfold bmN; rw [if_pos z1]
    rw [z1, e, if_pos (show r32 1 by decide), if_neg (show ¬ (1 : Int) = 0 by decide), if_pos (Or.inl rfl)]
theorem C_bwD {i j : Int} {B : zB} (h : QN K q m c F B) (hD : cD q F B fi be = D) (i0 : 0 ≤ i) (i1 : i < c) (j0 : 0 ≤ j) (j1 : j < c) (b0 : 0 < be) (b1 : be ≤ 1000000000000) (hi : bmN D i = 1) : f_Part_beamsWith K q i j be F B = some (tgN D i j, F, B) := by
  have e1 := C_bmD h hD j0 j1
  obtain ⟨h4, ⟨h6, m1⟩, ⟨h10, c0, c1⟩, hc, hno, he, _⟩ := h
  obtain ⟨_, i1', i2', _⟩ := cD_n hD h10 i0 i1
  obtain ⟨_, j1', j2', _⟩ := cD_n hD h10 j0 j1
  obtain ⟨_, _, _, _, s4⟩ := cD_s hD
  have ni := hno i i0 i1
  have nj := hno j j0 j1
  have q1 : 0 ≤ B 4 q 9 i / be := Int.ediv_nonneg (by first | decide | omega) (by first | decide | omega)
  have q2 : B 4 q 9 i / be ≤ B 4 q 9 i := Int.ediv_le_self _ (by first | decide | omega)
  have q3 : 0 ≤ B 4 q 9 j / be := Int.ediv_nonneg (by first | decide | omega) (by first | decide | omega)
  have q4 : B 4 q 9 j / be ≤ B 4 q 9 j := Int.ediv_le_self _ (by first | decide | omega)
  unfold f_Part_beamsWith f_Part_beamsWith_59 f_Part_beamsWith_60
  rw [if_pos h4, if_pos (show r32 j by unfold r32; omega), h10, if_pos (show r32 c by unfold r32; omega), if_neg (show ¬ c ≤ j by omega), e1, zb_s]
  rcases bmN_b (D := D) (i := j) with z1 | z1
  · have e : tgN D i j = 0 := by unfold tgN; rw [if_neg (fun y => by have := y.2.1; omega)]
    rw [z1, e, if_pos (show r32 0 by decide), if_pos (show (0 : Int) = 0 from rfl), if_pos (Or.inl rfl)]
  rw [z1, if_pos (show r32 1 by decide), if_neg (show ¬ (1 : Int) = 0 by decide), if_pos (show 0 ≤ i ∧ i < 800 by omega), if_pos (show 0 ≤ j ∧ j < 800 by omega), if_pos (show r32 (B 4 q 361 i) by unfold r32; omega), if_pos (show r32 (B 4 q 361 j) by unfold r32; omega)]
  by_cases y : B 4 q 361 i = B 4 q 361 j
  · rw [if_pos y, if_pos (lI_n0 b0 (by unfold r64; omega)), zldv_e (by first | decide | omega) (by first | decide | omega) b0 (by first | decide | omega), zldv_e (by first | decide | omega) (by first | decide | omega) b0 (by first | decide | omega), if_pos (show r64 (B 4 q 9 i / be) by unfold r64; omega), if_pos (show r64 (B 4 q 9 j / be) by unfold r64; omega)]
    by_cases z : zcmp (B 4 q 9 i / be) (B 4 q 9 j / be) = 0
    · have e : tgN D i j = 1 := tgN_1.mpr ⟨hi, z1, by rw [i1', j1']; exact y, by rw [i2', j2', s4]; exact zcmp_0.mp z⟩
      rw [e, if_pos z, if_pos (Or.inr rfl)]
    · have e : tgN D i j = 0 := by
        rcases tgN_b (D := D) (i := i) (j := j) with e | e
        · exact e
        · have := (tgN_1.mp e).2.2.2
          rw [i2', j2', s4] at this
          exact absurd (zcmp_0.mpr this) z
      rw [e, if_neg z, if_pos (Or.inl rfl)]
  · have e : tgN D i j = 0 := by
      rcases tgN_b (D := D) (i := i) (j := j) with e | e
      · exact e
      · have := (tgN_1.mp e).2.2.1
        rw [i1', j1'] at this
        exact absurd this y
    rw [e, if_neg y, if_pos (Or.inl rfl)]
/-- ends of groups -/
theorem geN_b {i : Int} : ∀ (r : Nat) (e : Int), e ≤ D 8 0 0 → e ≤ geN D i r e ∧ geN D i r e ≤ D 8 0 0 := by
  intro r
  induction r with
  | zero => intro e h; exact ⟨Int.le_refl _, h⟩
  | succ r ih =>
    intro e h
    rw [geN]
    split
    · rename_i z
      have := ih (e + 1) (by first | decide | omega)
      omega
    · exact ⟨Int.le_refl _, h⟩
theorem geN_i {i : Int} : ∀ (r : Nat) (e : Int) (j : Int), e ≤ j → j < geN D i r e → tgN D i j = 1 := by
  intro r
  induction r with
  | zero => intro e j a b; rw [geN] at b; omega
  | succ r ih =>
    intro e j a b
    rw [geN] at b
    by_cases z : e < D 8 0 0 ∧ tgN D i e = 1
    · rw [if_pos z] at b
      by_cases y : j = e
      · rw [y]; exact z.2
      · exact ih (e + 1) j (by first | decide | omega) b
    · rw [if_neg z] at b; omega
theorem geN_x {i : Int} : ∀ (r : Nat) (e : Int), D 8 0 0 - e ≤ r → e ≤ D 8 0 0 → geN D i r e = D 8 0 0 ∨ ¬ tgN D i (geN D i r e) = 1 := by
  intro r
  induction r with
  | zero => intro e a b; rw [geN]; exact Or.inl (by first | decide | omega)
  | succ r ih =>
    intro e a b
    rw [geN]
    by_cases z : e < D 8 0 0 ∧ tgN D i e = 1
    · rw [if_pos z]; exact ih (e + 1) (by first | decide | omega) (by first | decide | omega)
    · rw [if_neg z]
      by_cases y : e = D 8 0 0
      · exact Or.inl y
      · exact Or.inr (fun x => z ⟨(by first | decide | omega), x⟩)
theorem ge1_b {i : Int} (h : i < D 8 0 0) : i + 1 ≤ ge1 D i ∧ ge1 D i ≤ D 8 0 0 := by
  unfold ge1
  exact geN_b _ _ (by first | decide | omega)
theorem C_gD34 {no l5 gr : Int} {B : zB} {rec : Int → Int → Int → Int → Int → zF → zB → zO} (h : QN K q m c F B) (hD : cD q F B fi be = D) (b0 : 0 < be) (b1 : be ≤ 1000000000000) (n0 : 0 ≤ no) (nc : no < c) : ∀ (r n : Nat) {s : Int}, 1 ≤ s → no + s ≤ c → c - (no + s) ≤ r → r < n → f_Part_group_34 rec K n s l5 no gr q be F B = f_Part_group_76 rec K (geN D no r (no + s) - no) l5 no gr q be F B := by
  have c1 := h.2.2.1.2.2
  have d8 : D 8 0 0 = c := by rw [(cD_s hD).1]; exact h.2.2.1.1
  intro r
  induction r with
  | zero =>
    intro n s s1 sc sr hn
    obtain ⟨n, rfl⟩ : ∃ k, n = k + 1 := ⟨n - 1, (by first | decide | omega)⟩
    rw [geN, f_Part_group_34, if_pos h.1, C_bmD h hD n0 nc, zb_s, show no + s - no = s by omega]
    rcases bmN_b (D := D) (i := no) with z1 | z1
    · rw [z1, if_pos (show r32 0 by decide), if_pos (show (0 : Int) = 0 from rfl)]
    · rw [z1, if_pos (show r32 1 by decide), if_neg (show ¬ (1 : Int) = 0 by decide), if_pos (by unfold r32; omega), h.2.2.1.1, if_pos (by unfold r32; omega), if_pos (by first | decide | omega)]
  | succ r ih =>
    intro n s s1 sc sr hn
    obtain ⟨n, rfl⟩ : ∃ k, n = k + 1 := ⟨n - 1, (by first | decide | omega)⟩
    rw [geN, f_Part_group_34, if_pos h.1, C_bmD h hD n0 nc, zb_s]
    rcases bmN_b (D := D) (i := no) with z1 | z1
    · have nt : ¬ (no + s < D 8 0 0 ∧ tgN D no (no + s) = 1) := fun y => by have := (tgN_1.mp y.2).1; omega
      rw [if_neg nt, z1, if_pos (show r32 0 by decide), if_pos (show (0 : Int) = 0 from rfl), show no + s - no = s by omega]
    · rw [z1, if_pos (show r32 1 by decide), if_neg (show ¬ (1 : Int) = 0 by decide), if_pos (show r32 (no + s) by unfold r32; omega), h.2.2.1.1, if_pos (show r32 c by unfold r32; omega)]
      by_cases y : c ≤ no + s
      · rw [if_pos y, if_neg (show ¬ (no + s < D 8 0 0 ∧ tgN D no (no + s) = 1) from fun x => by have := x.1; omega), show no + s - no = s by omega]
      · rw [if_neg y, C_bwD h hD n0 nc (j := no + s) (by first | decide | omega) (by first | decide | omega) b0 b1 z1, zb_s]
        rcases tgN_b (D := D) (i := no) (j := no + s) with z2 | z2
        · rw [z2, if_pos (show r32 0 by decide), if_pos (show (0 : Int) = 0 from rfl), if_neg (show ¬ (no + s < D 8 0 0 ∧ (0 : Int) = 1) from fun x => by have := x.2; omega), show no + s - no = s by omega]
        · have g := ih n (s := s + 1) (by first | decide | omega) (by first | decide | omega) (by first | decide | omega) (by first | decide | omega)
          rw [z2, if_pos (show r32 1 by decide), if_neg (show ¬ (1 : Int) = 0 by decide), if_pos (show no + s < D 8 0 0 ∧ (1 : Int) = 1 from ⟨(by first | decide | omega), rfl⟩), g, show no + (s + 1) = no + s + 1 by omega]
/-- one group written -/
theorem C_gD80 {no l5 gr s : Int} {rec : Int → Int → Int → Int → Int → zF → zB → zO} (n0 : 0 ≤ no) (s1 : 1 ≤ s) (sc : no + s ≤ c) (g0 : 0 ≤ gr ∧ gr ≤ 800) : ∀ (r n : Nat) {k : Int} {B : zB}, no ≤ k → k + r = no + s → r < n → QN K q m c F B → cD q F B fi be = D → ∃ B', f_Part_group_80 rec K n k s l5 no gr q be F B = f_Part_group_192 rec K s l5 no q be gr (if s ≤ 1 then 0 else 1) F B' ∧ qW q 369 370 k B B' ∧ (∀ j t, no + s ≤ t → B' 4 q j t = B 4 q j t) ∧ QN K q m c F B' ∧ ∀ j, k ≤ j → j < no + s → B' 4 q 369 j = (if s ≤ 1 then -1 else gr) ∧ B' 4 q 370 j = (if j + 1 < no + s then (if D 3 j 0 < D 3 (j + 1) 0 then D 3 j 0 else D 3 (j + 1) 0) - 2 else 0) := by
  intro r
  induction r with
  | zero =>
    intro n k B k0 kr hn h hD
    obtain ⟨n, rfl⟩ : ∃ k, n = k + 1 := ⟨n - 1, (by first | decide | omega)⟩
    have c1 := h.2.2.1.2.2
    rw [f_Part_group_80, if_pos (show r32 k by unfold r32; omega), if_pos (show r32 (no + s) by unfold r32; omega), if_pos (show no + s ≤ k by omega), if_pos (show r32 s by unfold r32; omega)]
    refine ⟨B, ?_, qW_r, fun _ _ _ => rfl, h, fun j a b => (by first | decide | omega)⟩
    by_cases y : s ≤ 1
    · rw [if_pos y, if_pos y]
    · rw [if_neg y, if_neg y]
  | succ r ih =>
    intro n k B k0 kr hn h hD
    obtain ⟨n, rfl⟩ : ∃ k, n = k + 1 := ⟨n - 1, (by first | decide | omega)⟩
    have c1 := h.2.2.1.2.2
    have h4 := h.1
    have h10 := h.2.2.1.1
    have put : ∀ (gv x : Int), gv = (if s ≤ 1 then -1 else gr) → x = (if k + 1 < no + s then (if D 3 k 0 < D 3 (k + 1) 0 then D 3 k 0 else D 3 (k + 1) 0) - 2 else 0) → ∃ B', f_Part_group_173 rec (f_Part_group_80 rec K n) K k s l5 no gr q be q k x F (zup4 B 4 q 369 k gv) = f_Part_group_192 rec K s l5 no q be gr (if s ≤ 1 then 0 else 1) F B' ∧ qW q 369 370 k B B' ∧ (∀ j t, no + s ≤ t → B' 4 q j t = B 4 q j t) ∧ QN K q m c F B' ∧ ∀ j, k ≤ j → j < no + s → B' 4 q 369 j = (if s ≤ 1 then -1 else gr) ∧ B' 4 q 370 j = (if j + 1 < no + s then (if D 3 j 0 < D 3 (j + 1) 0 then D 3 j 0 else D 3 (j + 1) 0) - 2 else 0) := fun gv x hgv hx => by
      obtain ⟨w1, w2⟩ := QN_w (k := 369) (i := k) (x := gv) h (by decide)
      obtain ⟨w3, w4⟩ := QN_w (k := 370) (i := k) (x := x) w1 (by decide)
      obtain ⟨B', t1, t2, t3, t4, t5⟩ := ih n (k := k + 1) (by first | decide | omega) (by first | decide | omega) (by first | decide | omega) w3 (by rw [cD_q w4, cD_q w2]; exact hD)
      refine ⟨B', ?_, fun c y k' x' nn => by rw [t2 c y k' x' (by first | decide | omega), zup4_v, if_neg (by first | decide | omega), zup4_v, if_neg (by first | decide | omega)], fun j t ht => by rw [t3 j t ht, zup4_v, if_neg (by first | decide | omega), zup4_v, if_neg (by first | decide | omega)], t4, fun j j0 j1 => ?_⟩
      · unfold f_Part_group_173
        rw [if_pos h4, if_pos (by first | decide | omega)]
        exact t1
      · by_cases ej : j = k
        · have e369 : B' 4 q 369 k = gv := by rw [t2 4 q 369 k (by first | decide | omega), zup4_v, if_neg (by first | decide | omega), zup4_v, if_pos ⟨rfl, rfl, rfl, rfl⟩]
          have e370 : B' 4 q 370 k = x := by rw [t2 4 q 370 k (by first | decide | omega), zup4_v, if_pos ⟨rfl, rfl, rfl, rfl⟩]
          rw [ej, e369, e370]
          exact ⟨hgv, hx⟩
        · exact t5 j (by first | decide | omega) j1
    have g129 : ∀ (hn' gv : Int), (hn' = 0 ∧ no + s ≤ k + 1) ∨ (hn' = 1 ∧ k + 1 < no + s) → gv = (if s ≤ 1 then -1 else gr) → ∃ B', f_Part_group_129 rec (f_Part_group_80 rec K n) K hn' k s l5 no gr q be q k gv F B = f_Part_group_192 rec K s l5 no q be gr (if s ≤ 1 then 0 else 1) F B' ∧ qW q 369 370 k B B' ∧ (∀ j t, no + s ≤ t → B' 4 q j t = B 4 q j t) ∧ QN K q m c F B' ∧ ∀ j, k ≤ j → j < no + s → B' 4 q 369 j = (if s ≤ 1 then -1 else gr) ∧ B' 4 q 370 j = (if j + 1 < no + s then (if D 3 j 0 < D 3 (j + 1) 0 then D 3 j 0 else D 3 (j + 1) 0) - 2 else 0) := fun hn' gv hh hgv => by
      unfold f_Part_group_129
      rw [if_pos h4, if_pos (show 0 ≤ k ∧ k < 800 by omega), if_pos h4]
      rcases hh with ⟨rfl, hh⟩ | ⟨rfl, hh⟩
      · rw [if_pos (show r32 0 by decide), if_pos (show (0 : Int) = 0 from rfl)]
        exact put gv 0 hgv (by rw [if_neg (by first | decide | omega)])
      · have a1 := (h.2.2.2.2.1 k (by first | decide | omega) (by first | decide | omega)).2.2.2
        have a2 := (h.2.2.2.2.1 (k + 1) (by first | decide | omega) (by first | decide | omega)).2.2.2
        have e1 : ∀ j, (zup4 B 4 q 369 k gv) 4 q 364 j = B 4 q 364 j := fun j => by rw [zup4_v, if_neg (by first | decide | omega)]
        obtain ⟨_, _, _, d3⟩ := cD_n hD h10 (i := k) (by first | decide | omega) (by first | decide | omega)
        obtain ⟨_, _, _, d3'⟩ := cD_n hD h10 (i := k + 1) (by first | decide | omega) (by first | decide | omega)
        rw [if_pos (show r32 1 by decide), if_neg (show ¬ (1 : Int) = 0 by decide), if_pos (show 0 ≤ k ∧ k < 800 by omega), if_pos (show 0 ≤ k + 1 ∧ k + 1 < 800 by omega), e1, e1, if_pos (show r32 (B 4 q 364 k) by unfold r32; omega), if_pos (show r32 (B 4 q 364 (k + 1)) by unfold r32; omega)]
        refine put gv _ hgv ?_
        rw [if_pos hh, d3, d3']
        unfold zmin
        split <;> split <;> omega
    have g107 : ∀ (hn' : Int), (hn' = 0 ∧ no + s ≤ k + 1) ∨ (hn' = 1 ∧ k + 1 < no + s) → ∃ B', f_Part_group_107 rec (f_Part_group_80 rec K n) K k s l5 no gr q be hn' F B = f_Part_group_192 rec K s l5 no q be gr (if s ≤ 1 then 0 else 1) F B' ∧ qW q 369 370 k B B' ∧ (∀ j t, no + s ≤ t → B' 4 q j t = B 4 q j t) ∧ QN K q m c F B' ∧ ∀ j, k ≤ j → j < no + s → B' 4 q 369 j = (if s ≤ 1 then -1 else gr) ∧ B' 4 q 370 j = (if j + 1 < no + s then (if D 3 j 0 < D 3 (j + 1) 0 then D 3 j 0 else D 3 (j + 1) 0) - 2 else 0) := fun hn' hh => by
      unfold f_Part_group_107
      rw [if_pos h4, if_pos (show r32 s by unfold r32; omega)]
      by_cases y : s ≤ 1
      · have g := g129 hn' (-1) hh (by rw [if_pos y])
        rw [if_pos y]; exact g
      · have g := g129 hn' gr hh (by rw [if_neg y])
        rw [if_neg y]; exact g
    rw [f_Part_group_80, if_pos (show r32 k by unfold r32; omega), if_pos (show r32 (no + s) by unfold r32; omega), if_neg (show ¬ no + s ≤ k by omega), if_pos (show r32 (k + 1) by unfold r32; omega)]
    by_cases y : no + s ≤ k + 1
    · rw [if_pos y]; exact g107 0 (Or.inl ⟨rfl, y⟩)
    · rw [if_neg y]; exact g107 1 (Or.inr ⟨rfl, (by first | decide | omega)⟩)
/-- what stands of the groups from no on -/
def GPn (D : zD) (r : Nat) (no gr : Int) : Prop := ∀ k, no ≤ k → k < D 8 0 0 → gpN D k = fgN D k (r + 1) no gr
theorem GPn_i {r : Nat} {no gr k : Int} (h : GPn D r no gr) (k0 : no ≤ k) (k1 : k < ge1 D no) (k2 : k < D 8 0 0) : gpN D k = (no, ge1 D no, gr) := by
  rw [h k k0 k2, fgN, if_pos k1]
theorem GPn_n {r : Nat} {no gr : Int} (h : GPn D (r + 1) no gr) (n1 : no < D 8 0 0) : GPn D r (ge1 D no) (gr + if 1 < ge1 D no - no then 1 else 0) := fun k k0 k1 => by
  have b := ge1_b (D := D) n1
  rw [h k (by first | decide | omega) k1, fgN, if_neg (by first | decide | omega)]
theorem GPn_0 : GPn D (D 8 0 0).toNat 0 0 := fun _ _ _ => rfl
theorem C_gpD (hK : 3002 ≤ K.1) (b0 : 0 < be) (b1 : be ≤ 1000000000000) : ∀ (r n : Nat) {l5 no gr : Int} {B : zB}, 0 ≤ no → no ≤ c → c - no ≤ r → r < n → 0 ≤ gr → gr ≤ l5 → l5 ≤ no → QN K q m c F B → cD q F B fi be = D → GPn D r no gr → ∃ B', f_Part_group_8 K n l5 no gr q be F B = some (0, F, B') ∧ qW q 369 370 no B B' ∧ ∀ j, no ≤ j → j < c → B' 4 q 369 j = grpN D j ∧ B' 4 q 370 j = bsN D j := by
  intro r
  induction r with
  | zero =>
    intro n l5 no gr B n0 nc nr hn g0 g1 l1 h hD hG
    obtain ⟨n, rfl⟩ : ∃ k, n = k + 1 := ⟨n - 1, (by first | decide | omega)⟩
    have c1 := h.2.2.1.2.2
    refine ⟨B, ?_, qW_r, fun j a b => (by first | decide | omega)⟩
    rw [f_Part_group_8, if_pos (show r32 l5 by unfold r32; omega)]
    simp only [f_Part_group_207]
    by_cases y : 800 ≤ l5
    · rw [if_pos y]
    · rw [if_neg y, if_pos h.1, if_pos (show r32 no by unfold r32; omega), h.2.2.1.1, if_pos (show r32 c by unfold r32; omega), if_pos (show c ≤ no by omega)]
  | succ r ih =>
    intro n l5 no gr B n0 nc nr hn g0 g1 l1 h hD hG
    obtain ⟨n, rfl⟩ : ∃ k, n = k + 1 := ⟨n - 1, (by first | decide | omega)⟩
    have c1 := h.2.2.1.2.2
    have d8 : D 8 0 0 = c := by rw [(cD_s hD).1]; exact h.2.2.1.1
    by_cases e : no = c
    · refine ⟨B, ?_, qW_r, fun j a b => (by first | decide | omega)⟩
      rw [f_Part_group_8, if_pos (show r32 l5 by unfold r32; omega)]
      simp only [f_Part_group_207]
      by_cases y : 800 ≤ l5
      · rw [if_pos y]
      · rw [if_neg y, if_pos h.1, if_pos (show r32 no by unfold r32; omega), h.2.2.1.1, if_pos (show r32 c by unfold r32; omega), if_pos (show c ≤ no by omega)]
    have gb := ge1_b (D := D) (i := no) (by first | decide | omega)
    have g34 := C_gD34 (rec := f_Part_group_8 K n) (l5 := l5) (gr := gr) h hD b0 b1 n0 (by first | decide | omega) c.toNat K.1 (s := 1) (by decide) (by first | decide | omega) (by first | decide | omega) (by first | decide | omega)
    have ge : geN D no c.toNat (no + 1) = ge1 D no := by unfold ge1; rw [d8]
    rw [ge] at g34
    obtain ⟨B1, u1, u2, u3, u4, u5⟩ := C_gD80 (K := K) (q := q) (c := c) (fi := fi) (be := be) (D := D) (no := no) (l5 := l5) (gr := gr) (s := ge1 D no - no) (m := m) (F := F) (rec := f_Part_group_8 K n) n0 (by first | decide | omega) (by first | decide | omega) (by first | decide | omega) (ge1 D no - no).toNat K.1 (k := no) (B := B) (Int.le_refl _) (by first | decide | omega) (by first | decide | omega) h hD
    rw [f_Part_group_8, if_pos (show r32 l5 by unfold r32; omega), if_neg (show ¬ 800 ≤ l5 by omega), if_pos h.1, if_pos (show r32 no by unfold r32; omega), h.2.2.1.1, if_pos (show r32 c by unfold r32; omega), if_neg (show ¬ c ≤ no by omega), if_pos (show r64 be by unfold r64; omega), if_neg (fun y => by have := zcmp_m.mp y; omega), g34, f_Part_group_76, u1, f_Part_group_192]
    have gx : (if ge1 D no - no ≤ 1 then (0 : Int) else 1) = if 1 < ge1 D no - no then 1 else 0 := by split <;> split <;> omega
    have q1 : qB q B B1 := qW_q (by decide) u2
    obtain ⟨B', k1, k2, k3⟩ := ih n (l5 := l5 + 1) (no := ge1 D no) (gr := gr + if 1 < ge1 D no - no then 1 else 0) (B := B1) (by first | decide | omega) (by first | decide | omega) (by first | decide | omega) (by first | decide | omega) (by split <;> omega) (by split <;> omega) (by first | decide | omega) u4 (by rw [cD_q q1]; exact hD) (GPn_n hG (by first | decide | omega))
    refine ⟨B', ?_, fun c y k x nn => by rw [k2 c y k x (by first | decide | omega), u2 c y k x (by first | decide | omega)], fun j j0 j1 => ?_⟩
    · rw [gx, show no + (ge1 D no - no) = ge1 D no by omega]; exact k1
    · by_cases ej : j < ge1 D no
      · obtain ⟨x1, x2⟩ := u5 j j0 (by first | decide | omega)
        rw [k2 4 q 369 j (by first | decide | omega), k2 4 q 370 j (by first | decide | omega), x1, x2]
        unfold grpN bsN
        rw [GPn_i hG j0 ej (by first | decide | omega), show no + (ge1 D no - no) = ge1 D no by omega]
        refine ⟨?_, rfl⟩
        show (if ge1 D no - no ≤ 1 then (-1 : Int) else gr) = if 1 < ge1 D no - no then gr else -1
        split <;> split <;> omega
      · exact k3 j (by first | decide | omega) j1
end
end
section
section
/-! ===== stems, exactly; and all signs of a voice's notes ===== -/
variable {K : zK} {q c fi be : Int} {m : Nat} {F : zF} {D : zD}
theorem C_sD21 {no l2 gr : Int} {r0 : Nat} {B : zB} {rec : Int → Int → Int → zF → zB → zO} (h : QN K q m c F B) (d8 : D 8 0 0 = c) (hR : ∀ j, 0 ≤ j → j < c → B 4 q 369 j = grpN D j) (hG : GPn D (r0 + 1) no gr) (g0 : 0 ≤ gr ∧ gr ≤ 800) (n0 : 0 ≤ no) (nc : no < c) : ∀ (r n : Nat) {s : Int}, 1 ≤ s → no + s ≤ ge1 D no → ge1 D no - (no + s) ≤ r → r < n → f_Part_setStems_21 rec K n s l2 no q F B = f_Part_setStems_73 rec K (ge1 D no - no) l2 no q F B := by
  have c1 := h.2.2.1.2.2
  have gb := ge1_b (D := D) (i := no) (by first | decide | omega)
  have r0' : B 4 q 369 no = if 1 < ge1 D no - no then gr else -1 := by
    rw [hR no n0 nc]
    unfold grpN
    rw [GPn_i hG (Int.le_refl _) (by first | decide | omega) (by first | decide | omega)]
  -- at the group's end
  have fin : ∀ (n : Nat) {s : Int}, no + s = ge1 D no → f_Part_setStems_21 rec K (n + 1) s l2 no q F B = f_Part_setStems_73 rec K (ge1 D no - no) l2 no q F B := fun n {s} hs => by
    have es : ge1 D no - no = s := by omega
    rw [f_Part_setStems_21, if_pos h.1, if_pos (show 0 ≤ no ∧ no < 800 by omega), if_pos (show r32 (B 4 q 369 no) by rw [r0']; unfold r32; split <;> omega)]
    by_cases y : B 4 q 369 no = -1
    · rw [if_pos y, es]
    · rw [if_neg y, if_pos (show r32 (no + s) by unfold r32; omega), h.2.2.1.1, if_pos (show r32 c by unfold r32; omega)]
      by_cases z : c ≤ no + s
      · rw [if_pos z, es]
      · have sz : 1 < ge1 D no - no := by
          rcases Int.lt_or_le 1 (ge1 D no - no) with x | x
          · exact x
          · exact absurd (by rw [r0', if_neg (by first | decide | omega)]) y
        have hn := GPn_n hG (by first | decide | omega)
        rw [if_pos sz] at hn
        have gb2 := ge1_b (D := D) (i := ge1 D no) (by first | decide | omega)
        have rn : B 4 q 369 (no + s) = if 1 < ge1 D (ge1 D no) - ge1 D no then gr + 1 else -1 := by
          rw [hs, hR _ (by first | decide | omega) (by first | decide | omega)]
          unfold grpN
          rw [GPn_i hn (Int.le_refl _) (by first | decide | omega) (by first | decide | omega)]
        have nq : ¬ B 4 q 369 (no + s) = B 4 q 369 no := by
          rw [rn, r0', if_pos sz]
          split <;> omega
        rw [if_neg z, if_pos (show 0 ≤ no + s ∧ no + s < 800 by omega), if_pos (show r32 (B 4 q 369 (no + s)) by rw [rn]; unfold r32; split <;> omega), if_neg nq, es]
  intro r
  induction r with
  | zero =>
    intro n s s1 sc sr hn
    obtain ⟨n, rfl⟩ : ∃ k, n = k + 1 := ⟨n - 1, (by first | decide | omega)⟩
    exact fin n (by first | decide | omega)
  | succ r ih =>
    intro n s s1 sc sr hn
    obtain ⟨n, rfl⟩ : ∃ k, n = k + 1 := ⟨n - 1, (by first | decide | omega)⟩
    by_cases e : no + s = ge1 D no
    · exact fin n e
    have sz : 1 < ge1 D no - no := by omega
    have rn : B 4 q 369 (no + s) = gr := by
      rw [hR _ (by first | decide | omega) (by first | decide | omega)]
      unfold grpN
      rw [GPn_i hG (by first | decide | omega) (by first | decide | omega) (by first | decide | omega)]
      show (if 1 < ge1 D no - no then gr else -1) = gr
      rw [if_pos sz]
    rw [if_pos sz] at r0'
    rw [f_Part_setStems_21, if_pos h.1, if_pos (show 0 ≤ no ∧ no < 800 by omega), if_pos (show r32 (B 4 q 369 no) by rw [r0']; unfold r32; omega), if_neg (show ¬ B 4 q 369 no = -1 by omega), if_pos (show r32 (no + s) by unfold r32; omega), h.2.2.1.1, if_pos (show r32 c by unfold r32; omega), if_neg (show ¬ c ≤ no + s by omega), if_pos (show 0 ≤ no + s ∧ no + s < 800 by omega), if_pos (show r32 (B 4 q 369 (no + s)) by rw [rn]; unfold r32; omega), if_pos (show B 4 q 369 (no + s) = B 4 q 369 no by omega)]
    exact ih n (s := s + 1) (by first | decide | omega) (by first | decide | omega) (by first | decide | omega) (by first | decide | omega)
theorem suN_b {no : Int} {B : zB} (h : QN K q m c F B) (hD : cD q F B fi be = D) (n0 : 0 ≤ no) : ∀ d : Nat, no + d ≤ c → -(300 * (d : Int)) ≤ suN D no d ∧ suN D no d ≤ 300 * d := by
  intro d
  induction d with
  | zero => intro _; rw [suN]; omega
  | succ d ih =>
    intro hd
    have := ih (by first | decide | omega)
    rw [suN]
    rcases rsN_b (D := D) (i := no + d) with z | z
    · obtain ⟨_, _, b1, b2⟩ := C_htD h hD (i := no + d) (by first | decide | omega) (by first | decide | omega) z
      rw [if_neg (by first | decide | omega)]
      omega
    · rw [if_pos z]; omega
theorem C_sD79 {no l2 s : Int} {B : zB} {rec : Int → Int → Int → zF → zB → zO} (h : QN K q m c F B) (hD : cD q F B fi be = D) (n0 : 0 ≤ no) (s1 : 1 ≤ s) (sc : no + s ≤ c) : ∀ (r n : Nat) (d : Nat) {k u : Int}, k = no + d → k + r = no + s → r < n → u = suN D no d → f_Part_setStems_79 rec K n k u s l2 no q F B = f_Part_setStems_130 rec K K.1 no (suN D no s.toNat) s l2 no q F B := by
  have c1 := h.2.2.1.2.2
  intro r
  induction r with
  | zero =>
    intro n d k u hk kr hn hu
    obtain ⟨n, rfl⟩ : ∃ k, n = k + 1 := ⟨n - 1, (by first | decide | omega)⟩
    rw [f_Part_setStems_79, if_pos (show r32 k by unfold r32; omega), if_pos (show r32 (no + s) by unfold r32; omega), if_pos (show no + s ≤ k by omega), hu, show s.toNat = d by omega]
  | succ r ih =>
    intro n d k u hk kr hn hu
    obtain ⟨n, rfl⟩ : ∃ k, n = k + 1 := ⟨n - 1, (by first | decide | omega)⟩
    have sd : suN D no (d + 1) = suN D no d + (if rsN D k = 1 then 0 else loN D k + hiN D k - 8) := by rw [suN, hk]
    rw [f_Part_setStems_79, if_pos (show r32 k by unfold r32; omega), if_pos (show r32 (no + s) by unfold r32; omega), if_neg (show ¬ no + s ≤ k by omega), if_pos h.1, (C_rnD h hD (i := k) (by first | decide | omega) (by first | decide | omega)).1, zb_s]
    rcases rsN_b (D := D) (i := k) with z1 | z1
    · obtain ⟨ea, eb, _, _⟩ := C_htD h hD (i := k) (by first | decide | omega) (by first | decide | omega) z1
      rw [if_neg (by first | decide | omega)] at sd
      rw [z1, if_pos (show r32 0 by decide), if_pos (show (0 : Int) = 0 from rfl), ea, zb_s, eb, zb_s, f_Part_setStems_118]
      exact ih n (d + 1) (by first | decide | omega) (by first | decide | omega) (by first | decide | omega) (by rw [sd, hu])
    · rw [if_pos z1] at sd
      rw [z1, if_pos (show r32 1 by decide), if_neg (show ¬ (1 : Int) = 0 by decide), f_Part_setStems_118]
      exact ih n (d + 1) (by first | decide | omega) (by first | decide | omega) (by first | decide | omega) (by rw [sd, hu])
theorem C_sD130 {no l2 s u : Int} {rec : Int → Int → Int → zF → zB → zO} (n0 : 0 ≤ no) (s1 : 1 ≤ s) (sc : no + s ≤ c) (u0 : -300000 ≤ u ∧ u ≤ 300000) : ∀ (r n : Nat) {k : Int} {B : zB}, no ≤ k → k + r = no + s → r < n → QN K q m c F B → cD q F B fi be = D → ∃ B', f_Part_setStems_130 rec K n k u s l2 no q F B = rec (l2 + 1) (no + s) q F B' ∧ qW q 371 371 k B B' ∧ QN K q m c F B' ∧ ∀ j, k ≤ j → j < no + s → B' 4 q 371 j = if rsN D j = 1 ∨ D 3 j 0 = 0 then 0 else if u < 0 then 1 else 2 := by
  intro r
  induction r with
  | zero =>
    intro n k B k0 kr hn h hD
    obtain ⟨n, rfl⟩ : ∃ k, n = k + 1 := ⟨n - 1, (by first | decide | omega)⟩
    have c1 := h.2.2.1.2.2
    rw [f_Part_setStems_130, if_pos (show r32 k by unfold r32; omega), if_pos (show r32 (no + s) by unfold r32; omega), if_pos (show no + s ≤ k by omega)]
    exact ⟨B, rfl, qW_r, h, fun j a b => (by first | decide | omega)⟩
  | succ r ih =>
    intro n k B k0 kr hn h hD
    obtain ⟨n, rfl⟩ : ∃ k, n = k + 1 := ⟨n - 1, (by first | decide | omega)⟩
    have c1 := h.2.2.1.2.2
    have h4 := h.1
    have put : ∀ x : Int, x = (if rsN D k = 1 ∨ D 3 k 0 = 0 then 0 else if u < 0 then 1 else 2) → ∃ B', f_Part_setStems_194 rec (f_Part_setStems_130 rec K n) K k u s l2 no q q k x F B = rec (l2 + 1) (no + s) q F B' ∧ qW q 371 371 k B B' ∧ QN K q m c F B' ∧ ∀ j, k ≤ j → j < no + s → B' 4 q 371 j = if rsN D j = 1 ∨ D 3 j 0 = 0 then 0 else if u < 0 then 1 else 2 := fun x hx => by
      obtain ⟨w1, w2⟩ := QN_w (k := 371) (i := k) (x := x) h (by decide)
      obtain ⟨B', t1, t2, t3, t4⟩ := ih n (k := k + 1) (by first | decide | omega) (by first | decide | omega) (by first | decide | omega) w1 (by rw [cD_q w2]; exact hD)
      refine ⟨B', ?_, fun c y k' x' nn => by rw [t2 c y k' x' (by first | decide | omega), zup4_v, if_neg (by first | decide | omega)], t3, fun j j0 j1 => ?_⟩
      · unfold f_Part_setStems_194
        rw [if_pos h4, if_pos (by first | decide | omega)]
        exact t1
      · by_cases ej : j = k
        · rw [ej, t2 4 q 371 k (by first | decide | omega), zup4_v, if_pos ⟨rfl, rfl, rfl, rfl⟩]
          exact hx
        · exact t4 j (by first | decide | omega) j1
    have bare : (rsN D k = 1 ∨ D 3 k 0 = 0) → ∃ B', f_Part_setStems_159 rec (f_Part_setStems_130 rec K n) K k u s l2 no q F B = rec (l2 + 1) (no + s) q F B' ∧ qW q 371 371 k B B' ∧ QN K q m c F B' ∧ ∀ j, k ≤ j → j < no + s → B' 4 q 371 j = if rsN D j = 1 ∨ D 3 j 0 = 0 then 0 else if u < 0 then 1 else 2 := fun hb => by
      unfold f_Part_setStems_159 f_Part_setStems_164
      rw [if_pos h4, if_pos (show r32 1 by decide), if_neg (show ¬ (1 : Int) = 0 by decide)]
      exact put 0 (by rw [if_pos hb])
    obtain ⟨_, _, _, d3⟩ := cD_n hD h.2.2.1.1 (i := k) (by first | decide | omega) (by first | decide | omega)
    rw [f_Part_setStems_130, if_pos (show r32 k by unfold r32; omega), if_pos (show r32 (no + s) by unfold r32; omega), if_neg (show ¬ no + s ≤ k by omega), if_pos h4, (C_rnD h hD (i := k) (by first | decide | omega) (by first | decide | omega)).1, zb_s]
    rcases rsN_b (D := D) (i := k) with z1 | z1
    · have n4 := (h.2.2.2.2.1 k (by first | decide | omega) (by first | decide | omega)).2.2.2
      rw [z1, if_pos (show r32 0 by decide), if_pos (show (0 : Int) = 0 from rfl), if_pos (show 0 ≤ k ∧ k < 800 by omega), if_pos (show r32 (B 4 q 364 k) by unfold r32; omega)]
      by_cases y : B 4 q 364 k = 0
      · rw [if_pos y]; exact bare (Or.inr (by rw [d3]; exact y))
      · rw [if_neg y]
        unfold f_Part_setStems_164
        have nb : ¬ (rsN D k = 1 ∨ D 3 k 0 = 0) := fun x => by
          rcases x with x | x
          · omega
          · rw [d3] at x; exact y x
        rw [if_pos h4, if_pos (show r32 0 by decide), if_pos (show (0 : Int) = 0 from rfl), if_pos (show r32 u by unfold r32; omega)]
        by_cases x : 0 ≤ u
        · rw [if_pos x]; exact put 2 (by rw [if_neg nb, if_neg (by first | decide | omega)])
        · rw [if_neg x]; exact put 1 (by rw [if_neg nb, if_pos (by first | decide | omega)])
    · rw [z1, if_pos (show r32 1 by decide), if_neg (show ¬ (1 : Int) = 0 by decide)]
      exact bare (Or.inl z1)
theorem C_stD (hK : 3002 ≤ K.1) : ∀ (r n : Nat) {l2 no gr : Int} {B : zB}, 0 ≤ no → no ≤ c → c - no ≤ r → r < n → 0 ≤ l2 → l2 ≤ no → 0 ≤ gr → gr ≤ no → QN K q m c F B → cD q F B fi be = D → (∀ j, 0 ≤ j → j < c → B 4 q 369 j = grpN D j) → GPn D r no gr → ∃ B', f_Part_setStems_4 K n l2 no q F B = some (0, F, B') ∧ qW q 371 371 no B B' ∧ ∀ j, no ≤ j → j < c → B' 4 q 371 j = smN D j := by
  intro r
  induction r with
  | zero =>
    intro n l2 no gr B n0 nc nr hn l0 l1 g0 g1 h hD hR hG
    obtain ⟨n, rfl⟩ : ∃ k, n = k + 1 := ⟨n - 1, (by first | decide | omega)⟩
    have c1 := h.2.2.1.2.2
    refine ⟨B, ?_, qW_r, fun j a b => (by first | decide | omega)⟩
    rw [f_Part_setStems_4, if_pos (show r32 l2 by unfold r32; omega)]
    simp only [f_Part_setStems_211]
    by_cases y : 800 ≤ l2
    · rw [if_pos y]
    · rw [if_neg y, if_pos h.1, if_pos (show r32 no by unfold r32; omega), h.2.2.1.1, if_pos (show r32 c by unfold r32; omega), if_pos (show c ≤ no by omega)]
  | succ r ih =>
    intro n l2 no gr B n0 nc nr hn l0 l1 g0 g1 h hD hR hG
    obtain ⟨n, rfl⟩ : ∃ k, n = k + 1 := ⟨n - 1, (by first | decide | omega)⟩
    have c1 := h.2.2.1.2.2
    have d8 : D 8 0 0 = c := by rw [(cD_s hD).1]; exact h.2.2.1.1
    by_cases e : no = c
    · refine ⟨B, ?_, qW_r, fun j a b => (by first | decide | omega)⟩
      rw [f_Part_setStems_4, if_pos (show r32 l2 by unfold r32; omega)]
      simp only [f_Part_setStems_211]
      by_cases y : 800 ≤ l2
      · rw [if_pos y]
      · rw [if_neg y, if_pos h.1, if_pos (show r32 no by unfold r32; omega), h.2.2.1.1, if_pos (show r32 c by unfold r32; omega), if_pos (show c ≤ no by omega)]
    have gb := ge1_b (D := D) (i := no) (by first | decide | omega)
    have sb := suN_b h hD n0 (ge1 D no - no).toNat (by first | decide | omega)
    obtain ⟨B1, v1, v2, v3, v4⟩ := C_sD130 (K := K) (q := q) (c := c) (fi := fi) (be := be) (D := D) (no := no) (l2 := l2) (s := ge1 D no - no) (u := suN D no (ge1 D no - no).toNat) (m := m) (F := F) (rec := f_Part_setStems_4 K n) n0 (by first | decide | omega) (by first | decide | omega) (by first | decide | omega) (ge1 D no - no).toNat K.1 (k := no) (B := B) (Int.le_refl _) (by first | decide | omega) (by first | decide | omega) h hD
    rw [f_Part_setStems_4, if_pos (show r32 l2 by unfold r32; omega), if_neg (show ¬ 800 ≤ l2 by omega), if_pos h.1, if_pos (show r32 no by unfold r32; omega), h.2.2.1.1, if_pos (show r32 c by unfold r32; omega), if_neg (show ¬ c ≤ no by omega), C_sD21 (rec := f_Part_setStems_4 K n) (l2 := l2) h d8 hR hG ⟨g0, (by first | decide | omega)⟩ n0 (by first | decide | omega) c.toNat K.1 (s := 1) (by decide) (by first | decide | omega) (by first | decide | omega) (by first | decide | omega), f_Part_setStems_73, C_sD79 (rec := f_Part_setStems_4 K n) (l2 := l2) h hD n0 (by first | decide | omega) (by first | decide | omega) (ge1 D no - no).toNat K.1 0 (k := no) (u := 0) (by first | decide | omega) (by first | decide | omega) (by first | decide | omega) rfl, v1]
    have q1 : qB q B B1 := qW_q (by decide) v2
    obtain ⟨B', k1, k2, k3⟩ := ih n (l2 := l2 + 1) (no := ge1 D no) (gr := gr + if 1 < ge1 D no - no then 1 else 0) (B := B1) (by first | decide | omega) (by first | decide | omega) (by first | decide | omega) (by first | decide | omega) (by first | decide | omega) (by first | decide | omega) (by split <;> omega) (by split <;> omega) v3 (by rw [cD_q q1]; exact hD) (fun j j0 j1 => by rw [v2 4 q 369 j (by first | decide | omega)]; exact hR j j0 j1) (GPn_n hG (by first | decide | omega))
    refine ⟨B', ?_, fun c y k x nn => by rw [k2 c y k x (by first | decide | omega), v2 c y k x (by first | decide | omega)], fun j j0 j1 => ?_⟩
    · rw [show no + (ge1 D no - no) = ge1 D no by omega]; exact k1
    · by_cases ej : j < ge1 D no
      · rw [k2 4 q 371 j (by first | decide | omega), v4 j j0 (by first | decide | omega)]
        unfold smN
        rw [GPn_i hG j0 ej (by first | decide | omega)]
      · exact k3 j (by first | decide | omega) j1
/-- how long a beat is -/
def btV (n d : Int) : Int := 812851200 / d * bc n d
theorem C_btD {p n d : Int} {B : zB} (hp : 0 ≤ p ∧ p < K.2 6) (h4 : F 6 p 4 = n) (h5 : F 6 p 5 = d) (hn : 1 ≤ n ∧ n ≤ 12) (hd : d = 2 ∨ d = 4 ∨ d = 8 ∨ d = 16) : f_Piece_beatLength K p F B = some (btV n d, F, B) ∧ 0 < btV n d ∧ btV n d ≤ 1000000000000 := by
  have bb := bc_b (n := n) (d := d)
  have rb : r32 (bc n d) := by unfold r32; omega
  unfold f_Piece_beatLength btV
  rw [if_pos hp, h5, h4]
  have hb := C_bc (K := K) (F := F) (B := B) hn hd
  rcases hd with rfl | rfl | rfl | rfl
  · rw [if_pos (by decide), if_pos (by decide), if_pos (by decide), hb, zb_s, if_pos rb, show zldv 812851200 (zmax 2 1) = 406425600 by decide, show (812851200 : Int) / 2 = 406425600 by decide]
    exact ⟨rfl, (by first | decide | omega), (by first | decide | omega)⟩
  · rw [if_pos (by decide), if_pos (by decide), if_pos (by decide), hb, zb_s, if_pos rb, show zldv 812851200 (zmax 4 1) = 203212800 by decide, show (812851200 : Int) / 4 = 203212800 by decide]
    exact ⟨rfl, (by first | decide | omega), (by first | decide | omega)⟩
  · rw [if_pos (by decide), if_pos (by decide), if_pos (by decide), hb, zb_s, if_pos rb, show zldv 812851200 (zmax 8 1) = 101606400 by decide, show (812851200 : Int) / 8 = 101606400 by decide]
    exact ⟨rfl, (by first | decide | omega), (by first | decide | omega)⟩
  · rw [if_pos (by decide), if_pos (by decide), if_pos (by decide), hb, zb_s, if_pos rb, show zldv 812851200 (zmax 16 1) = 50803200 by decide, show (812851200 : Int) / 16 = 50803200 by decide]
    exact ⟨rfl, (by first | decide | omega), (by first | decide | omega)⟩
/-- all signs of a voice's notes -/
theorem C_101D {p n d : Int} {B B' : zB} (hK : 3002 ≤ K.1) (hp : 0 ≤ p ∧ p < K.2 6) (e4 : F 6 p 4 = n) (e5 : F 6 p 5 = d) (hn : 1 ≤ n ∧ n ≤ 12) (hd : d = 2 ∨ d = 4 ∨ d = 8 ∨ d = 16) (e2 : -7 ≤ F 6 p 2 ∧ F 6 p 2 ≤ 7) (h11 : F 4 q 11 = 0) (h : QN K q m c F B) (hf : f_Part_writeNotes_101 K q p F B = some (0, F, B')) : GSD q (cD q F B (F 6 p 2) (btV n d)) B' := by
  have c0 := h.2.2.1
  obtain ⟨D, hD⟩ : ∃ D, cD q F B (F 6 p 2) (btV n d) = D := ⟨_, rfl⟩
  rw [hD]
  have d8 : D 8 0 0 = c := by rw [(cD_s hD).1]; exact c0.1
  have d2 : D 8 2 0 = F 6 p 2 := (cD_s hD).2.2.1
  -- held
  obtain ⟨B1, a1, a2, a3⟩ := C_hdD hK c.toNat K.1 (i := 0) (B := B) (by decide) (by first | decide | omega) (by first | decide | omega) h hD
  obtain ⟨B1', a1', _, q1, _, _⟩ := C_hold hK c.toNat K.1 (i := 0) (B := B) (by decide) (by first | decide | omega) (by first | decide | omega) h
  obtain rfl : B1' = B1 := by rw [a1'] at a1; cases a1; rfl
  have D1 : cD q F B1' (F 6 p 2) (btV n d) = D := by rw [cD_q (qW_q (by decide) a2)]; exact hD
  -- accidentals
  obtain ⟨B2, b1, b2, b3⟩ := C_acD hK e2 d2 c.toNat K.1 0 (b := -1) (B := B1') (by first | decide | omega) (by first | decide | omega) (by decide) q1 D1 (Or.inl ⟨rfl, rfl⟩) (fun z => absurd z (by decide))
  rw [show ((0 : Nat) : Int) = 0 from rfl] at b1 b2 b3
  obtain ⟨B2', b1', _, q2, _, _⟩ := C_acc hK e2 c.toNat K.1 (i := 0) (b := -1) (B := B1') (by decide) (by first | decide | omega) (by first | decide | omega) (by decide) q1
  obtain rfl : B2' = B2 := by rw [b1'] at b1; cases b1; rfl
  have D2 : cD q F B2' (F 6 p 2) (btV n d) = D := by rw [cD_q (qW_q (by decide) b2)]; exact D1
  -- ledgers
  obtain ⟨B3, f1, f2, f3⟩ := C_lgD c.toNat K.1 (i := 0) (B := B2') (by decide) (by first | decide | omega) (by first | decide | omega) q2 D2
  obtain ⟨B3', f1', _, q3, _, _⟩ := C_ledg c.toNat K.1 (i := 0) (B := B2') (by decide) (by first | decide | omega) (by first | decide | omega) q2
  obtain rfl : B3' = B3 := by rw [f1'] at f1; cases f1; rfl
  have D3 : cD q F B3' (F 6 p 2) (btV n d) = D := by rw [cD_q (qW_q (by decide) f2)]; exact D2
  -- groups
  obtain ⟨t1, t2, t3⟩ := C_btD (K := K) (F := F) (B := B3') hp e4 e5 hn hd
  obtain ⟨B4, g1, g2, g3⟩ := C_gpD hK t2 t3 c.toNat K.1 (l5 := 0) (no := 0) (gr := 0) (B := B3') (by decide) (by first | decide | omega) (by first | decide | omega) (by first | decide | omega) (by decide) (by decide) (by decide) q3 D3 (by rw [← d8]; exact GPn_0)
  obtain ⟨B4', g1', _, q4, _, _⟩ := C_grp hK t2 t3 c.toNat K.1 (l5 := 0) (no := 0) (gr := 0) (B := B3') (by decide) (by first | decide | omega) (by first | decide | omega) (by first | decide | omega) (by decide) (by decide) (by decide) q3 (fun i a b => (by first | decide | omega))
  obtain rfl : B4' = B4 := by rw [g1'] at g1; cases g1; rfl
  have D4 : cD q F B4' (F 6 p 2) (btV n d) = D := by rw [cD_q (qW_q (by decide) g2)]; exact D3
  -- stems
  obtain ⟨B5, k1, k2, k3⟩ := C_stD hK c.toNat K.1 (l2 := 0) (no := 0) (gr := 0) (B := B4') (by decide) (by first | decide | omega) (by first | decide | omega) (by first | decide | omega) (by decide) (by decide) (by decide) (by decide) q4 D4 (fun j j0 j1 => (g3 j j0 j1).1) (by rw [← d8]; exact GPn_0)
  unfold f_Part_writeNotes_101 f_Part_hold f_Part_setAccidentals f_Part_setLedgers f_Part_group f_Part_setStems at hf
  rw [if_pos h.1, h11, if_pos (by decide), if_pos rfl, a1, zb_s, if_pos hp, b1, zb_s, f1, zb_s, t1, zb_s, g1, zb_s, k1, zb_s, f_Part_writeNotes_136] at hf
  cases hf
  intro i i0 i1
  rw [d8] at i1
  refine ⟨?_, ?_, ?_, ?_, ?_, k3 i i0 i1⟩
  · rw [k2 4 q 366 i (by first | decide | omega), g2 4 q 366 i (by first | decide | omega), f2 4 q 366 i (by first | decide | omega), b2 4 q 366 i (by first | decide | omega)]; exact a3 i i0 i1
  · rw [k2 4 q 367 i (by first | decide | omega), g2 4 q 367 i (by first | decide | omega), f2 4 q 367 i (by first | decide | omega)]; exact b3 i i0 i1
  · rw [k2 4 q 368 i (by first | decide | omega), g2 4 q 368 i (by first | decide | omega)]; exact f3 i i0 i1
  · rw [k2 4 q 369 i (by first | decide | omega)]; exact (g3 i i0 i1).1
  · rw [k2 4 q 370 i (by first | decide | omega)]; exact (g3 i i0 i1).2
/-- the signs of a voice, and the order of its notes' events -/
def NSq (fi be q : Int) (F : zF) (B : zB) : Prop := EO q B (F 4 q 10) ∧ GSD q (cD q F B fi be) B
theorem EO_f {q c : Int} {B B' : zB} (h : EO q B c) (f : ∀ k, k = 9 ∨ k = 360 ∨ k = 361 → ∀ i, B' 4 q k i = B 4 q k i) : EO q B' c := fun i i0 i1 => by
  have e : lE q B' i = lE q B i := by unfold lE; rw [f 360 (by first | decide | omega)]
  rw [f 360 (by first | decide | omega), e, f 361 (by first | decide | omega), f 361 (by first | decide | omega), f 9 (by first | decide | omega), f 9 (by first | decide | omega)]
  exact h i i0 i1
/-- a voice's signs stay where its part and its events do -/
theorem NSq_f {fi be q : Int} {F F' : zF} {B B' : zB} (h : NSq fi be q F B) (m0 : 0 ≤ F 4 q 6 ∧ F 4 q 6 ≤ 200) (f4 : ∀ k, F' 4 q k = F 4 q k) (b4 : ∀ k x, B' 4 q k x = B 4 q k x) (f1 : ∀ i : Int, 0 ≤ i → i < 200 → ∀ k, F' 1 (B 4 q 5 i) k = F 1 (B 4 q 5 i) k) (b1 : ∀ i : Int, 0 ≤ i → i < 200 → ∀ k x, B' 1 (B 4 q 5 i) k x = B 1 (B 4 q 5 i) k x) : NSq fi be q F' B' := by
  have e : cD q F' B' fi be = cD q F B fi be := by
    funext k i j
    unfold cD
    simp only [f4, b4]
    by_cases z : 0 ≤ i ∧ i < F 4 q 6
    · rw [f1 i z.1 (by first | decide | omega), f1 i z.1 (by first | decide | omega), b1 i z.1 (by first | decide | omega), b1 i z.1 (by first | decide | omega)]
    · simp only [if_neg z]
  obtain ⟨h1, h2⟩ := h
  refine ⟨by rw [f4]; exact EO_f h1 (fun k _ i => b4 k i), ?_⟩
  rw [e]
  intro i i0 i1
  simp only [b4]
  exact h2 i i0 i1
end
end
section
section
/-! ===== a voice judged, both sides ===== -/
def inW (v w : Int) (c : Nat) (i : Int) (k : Nat) (x : Int) : Prop := c = 13 ∧ i = w ∧ (((k = 12 ∨ k = 13) ∧ x = v) ∨ (14 ≤ k ∧ k ≤ 27 ∧ 1000 * v ≤ x ∧ x < 1000 * v + 1000) ∨ (28 ≤ k ∧ k ≤ 29 ∧ 6000 * v ≤ x ∧ x < 6000 * v + 6000) ∨ (30 ≤ k ∧ k ≤ 35 ∧ 800 * v ≤ x ∧ x < 800 * v + 800))
/-- what a voice's walk and judgement may change -/
def VFR (q v w : Int) (F : zF) (B : zB) (Fm : zF) (Bm : zB) (F' : zF) (B' : zB) (Fm' : zF) (Bm' : zB) : Prop :=
  (∀ c y k, ¬ (c = 11 ∧ y = 0) → ¬ (c = 4 ∧ y = q ∧ 6 ≤ k) → ¬ (c = 1 ∧ ownE B q y) → F' c y k = F c y k) ∧
  (∀ c y k x, ¬ (c = 11 ∧ y = 0) → ¬ (c = 4 ∧ y = q ∧ 5 ≤ k) → ¬ (c = 1 ∧ ownE B q y) → B' c y k x = B c y k x) ∧
  (∀ y, ownE B' q y ↔ ownE B q y) ∧
  (∀ c i k, ¬ (c = 14 ∧ i = 0 ∧ (k ≤ 1 ∨ k = 17 ∨ k = 18 ∨ (36 ≤ k ∧ k ≤ 57))) → ¬ (c = 13 ∧ i = w ∧ k = 7) → Fm' c i k = Fm c i k) ∧
  (∀ c i k x, ¬ (c = 14 ∧ i = 0 ∧ 42 ≤ k ∧ k ≤ 51) → ¬ inW v w c i k x → Bm' c i k x = Bm c i k x) ∧
  (inJ q B → inJ q B')
theorem VFR_t {q v w : Int} {F F1 F2 : zF} {B B1 B2 : zB} {Fm Fm1 Fm2 : zF} {Bm Bm1 Bm2 : zB} (h : VFR q v w F B Fm Bm F1 B1 Fm1 Bm1) (h' : VFR q v w F1 B1 Fm1 Bm1 F2 B2 Fm2 Bm2) : VFR q v w F B Fm Bm F2 B2 Fm2 Bm2 :=
  ⟨fun c y k a b d => by rw [h'.1 c y k a b (fun z => d ⟨z.1, (h.2.2.1 y).mp z.2⟩), h.1 c y k a b d], fun c y k x a b d => by rw [h'.2.1 c y k x a b (fun z => d ⟨z.1, (h.2.2.1 y).mp z.2⟩), h.2.1 c y k x a b d], fun y => (h'.2.2.1 y).trans (h.2.2.1 y), fun c i k a b => by rw [h'.2.2.2.1 c i k a b, h.2.2.2.1 c i k a b], fun c i k x a b => by rw [h'.2.2.2.2.1 c i k x a b, h.2.2.2.2.1 c i k x a b], fun z => h'.2.2.2.2.2 (h.2.2.2.2.2 z)⟩
theorem VFR_5 {q v w : Int} {F F' : zF} {B B' : zB} {Fm Fm' : zF} {Bm Bm' : zB} (h : WF5 q v w F B Fm Bm F' B' Fm' Bm') : VFR q v w F B Fm Bm F' B' Fm' Bm' := by
  obtain ⟨a1, a2, a3, a4, a5, a6⟩ := h
  exact ⟨fun c y k a b d => a1 c y k a (by first | decide | omega) d, fun c y k x a b d => a2 c y k x a (by first | decide | omega) d, a3, fun c i k a b => a4 c i k (by first | decide | omega), fun c i k x a b => a5 c i k x a (by unfold inV; unfold inW at b; omega), fun _ => a6⟩
/-- frames with the rows of events as they were -/
theorem VFR_s {q v w : Int} {F F' : zF} {B B' : zB} {Fm Fm' : zF} {Bm Bm' : zB} (f1 : ∀ c y k, ¬ (c = 4 ∧ y = q ∧ 6 ≤ k) → ¬ (c = 1 ∧ ownE B q y) → F' c y k = F c y k) (f2 : ∀ c y k x, ¬ (c = 4 ∧ y = q ∧ 6 ≤ k) → B' c y k x = B c y k x) (f4 : ∀ c i k, ¬ (c = 14 ∧ i = 0 ∧ (k ≤ 1 ∨ k = 17 ∨ k = 18 ∨ (36 ≤ k ∧ k ≤ 57))) → ¬ (c = 13 ∧ i = w ∧ k = 7) → Fm' c i k = Fm c i k) (f5 : ∀ c i k x, ¬ inW v w c i k x → Bm' c i k x = Bm c i k x) : VFR q v w F B Fm Bm F' B' Fm' Bm' := by
  have e5 : ∀ t, B' 4 q 5 t = B 4 q 5 t := fun t => f2 4 q 5 t (by first | decide | omega)
  refine ⟨fun c y k a b d => f1 c y k b d, fun c y k x a b d => f2 c y k x (by first | decide | omega), fun y => ?_, f4, fun c i k x a b => f5 c i k x b, fun h t t' a b a' b' e => ?_⟩
  · unfold ownE
    simp only [e5]
  · rw [e5, e5] at e
    exact h t t' a b a' b' e
/-- a note stands within its bar, and the bar within the voice -/
def zZ (T E b p : Int) : Prop := p < T ∧ b < E
def VD (K : zK) (q v w : Int) (m : Nat) (bar : Int) (g : Int → Int) (F : zF) (B Bm : zB) : Prop := (F 4 q 6 = m ∧ 1 ≤ m ∧ m ≤ 200) ∧ Bm 13 w 12 v = m ∧ (∀ j : Int, 0 ≤ j → j < m → 1 ≤ g j) ∧ sumZ g m ≤ 100 * bar ∧ F 4 q 7 = sumZ g m ∧ (∀ i : Nat, i < m → EVW w (B 4 q 5 i) (1000 * v + i) F B Bm ∧ F 1 (B 4 q 5 i) 0 = sumZ g i ∧ Bm 13 w 14 (1000 * v + i) = nu (sumZ g i) ∧ Bm 13 w 15 (1000 * v + i) = de (sumZ g i) ∧ F 1 (B 4 q 5 i) 1 = g i) ∧ SLs q v w m B F Bm ∧ BW q m bar g F B ∧ ∃ c, NW q v w m (zZ bar (clB (sumZ g m) bar)) c F B Bm ∧ QN K q m c F B ∧ GBw q c B
/-- what judging a voice comes to -/
def JO (K : zK) (q v w bar fi be : Int) (F : zF) (B : zB) (Fm : zF) (Bm : zB) (r : Int) (F' : zF) (B' : zB) (Fm' : zF) (Bm' : zB) : Prop := VFR q v w F B Fm Bm F' B' Fm' Bm' ∧ (∀ s, 0 ≤ s → s < 63 → r32 (B' 4 q 12 s)) ∧ ((r = 0 ∧ Fm' 14 0 17 = 0 ∧ ∃ m g, VD K q v w m bar g F' B' Bm' ∧ Fm' 13 w 7 = clB (F' 4 q 7) bar ∧ NSq fi be q F' B') ∨ (bad Fm' ∧ r = Fm' 14 0 17 + 16 * Fm' 14 0 18 ∧ 0 ≤ Fm' 14 0 18 ∧ Fm' 14 0 18 ≤ 3000))
theorem P_judge {K : zK} {Km : Nat} {q p v w n d : Int} {F : zF} {B : zB} {Fm : zF} {Bm : zB} (hK : 3002 ≤ K.1) (hKm : 70000000000 < Km) (h4 : 0 ≤ q ∧ q < K.2 4) (hp : 0 ≤ p ∧ p < K.2 6) (v0 : 0 ≤ v ∧ v < 4) (w0 : 0 ≤ w ∧ w < 3) (hn : 1 ≤ n ∧ n ≤ 12) (hd : d = 2 ∨ d = 4 ∨ d = 8 ∨ d = 16) (e4 : F 6 p 4 = n) (e5 : F 6 p 5 = d) (e2 : -7 ≤ F 6 p 2 ∧ F 6 p 2 ≤ 7) (m4 : Fm 13 w 4 = n) (m5 : Fm 13 w 5 = d) (hV : ∀ t, 0 ≤ t → t < 200 → 0 ≤ B 4 q 5 t ∧ B 4 q 5 t < K.2 1) (hI : inJ q B) (hcl : 0 ≤ F 4 q 1 ∧ F 4 q 1 < 4) (h12 : ∀ s, 0 ≤ s → s < 63 → r32 (B 4 q 12 s)) (htk : F 4 q 3 = Bm 14 0 8 (Bm 14 0 28 v)) (h28 : 0 ≤ Bm 14 0 28 v ∧ Bm 14 0 28 v ≤ 3000) (htb : 0 ≤ F 4 q 3 ∧ F 4 q 3 ≤ 3000) (hS : WS q v w (barV n d) 0 F B Fm Bm) (hsum : sumZ (fun j => F 1 (B 4 q 5 j) 1) (F 4 q 6).toNat ≤ 100 * barV n d) (hm12 : Bm 13 w 12 v = Fm 14 0 36) : zP (f_Part_judge K q p F B) (f_M_judge Km Fm Bm) (fun r F' B' _ Fm' Bm' => JO K q v w (barV n d) (F 6 p 2) (btV n d) F B Fm Bm r F' B' Fm' Bm') := by
  obtain ⟨⟨_, _, _, a4⟩, ⟨b1, b2, _, _⟩, _, _, _, _, _, _, _, _, _, _, ⟨o1, o2, o3, o4⟩⟩ := hS
  obtain ⟨bv1, _, bv3, bv4, bv5⟩ := bar_v hn hd
  obtain ⟨m, hm⟩ : ∃ m : Nat, F 4 q 6 = m := ⟨(F 4 q 6).toNat, (by first | decide | omega)⟩
  have rm : r32 (m : Int) := by unfold r32; omega
  have tp : 0 ≤ Bm 14 0 8 (Bm 14 0 28 v) ∧ Bm 14 0 8 (Bm 14 0 28 v) ≤ 3000 := by rw [← htk]; exact htb
  unfold f_Part_judge f_M_judge
  rw [if_pos h4, hm, if_pos rm, ← o1, hm, if_pos rm]
  by_cases mz : (m : Int) = 0
  · rw [if_pos mz, if_pos mz, b1, if_pos v0, L_failAt a4 (by first | decide | omega), zb_s]
    refine zP_s ⟨VFR_s (fun _ _ _ _ _ => rfl) (fun _ _ _ _ _ => rfl) (fun c i k h _ => by rw [flM_n (by first | decide | omega)]) (fun _ _ _ _ _ => rfl), h12, Or.inr ⟨flM_b (by decide) (by decide), by rw [flM_17, flM_18, htk], by rw [flM_18]; exact tp⟩⟩
  rw [if_neg mz, if_neg mz, b2, if_pos w0, b1]
  -- the places
  have hg : ∀ j : Int, 0 ≤ j → j < m → 1 ≤ (fun j => F 1 (B 4 q 5 j) 1) j := fun j j0 j1 => by
    have := (o4 j j0 (by first | decide | omega)).2.2.2.2.1.2.2.1
    exact this
  have hs' : sumZ (fun j => F 1 (B 4 q 5 j) 1) m ≤ 100 * barV n d := by
    rw [hm] at hsum
    exact hsum
  have hgd : (fun j => F 1 (B 4 q 5 j) 1) = (fun j => F 1 (B 4 q 5 j) 1) := rfl
  generalize hgg : (fun j : Int => F 1 (B 4 q 5 j) 1) = g at hg hs'
  have gv : ∀ j : Int, g j = F 1 (B 4 q 5 j) 1 := fun j => by rw [← hgg]
  obtain ⟨r1, F1, B1, r1', Fm1, Bm1, y1, y2, eB, f7, pl, pf1, pf2, pf3⟩ := P_places (K := K) (Km := Km) (m := m) (q := q) (v := v) (w := w) (B := B) (g := g) (F := F) (Fm := Fm) (Bm := Bm) hK (by first | decide | omega) h4 v0 w0 hV hI (by first | decide | omega) hg (by first | decide | omega) hm (by rw [hm12, ← o1]; exact hm) (fun j j0 j1 => by
    have ev := o4 j j0 (by first | decide | omega)
    have l := ev.2.2.2.2.1
    exact ⟨(gv j).symm, by rw [l.1, gv], by rw [l.2.1, gv]⟩)
  subst eB
  rw [y1, y2, zb_s, zb_s]
  have own : ∀ y, (∃ j : Int, 0 ≤ j ∧ j < m ∧ B1 4 q 5 j = y) → ownE B1 q y := fun y ⟨j, j0, j1, j2⟩ => ⟨j, j0, (by first | decide | omega), j2⟩
  have fA : VFR q v w F B1 Fm Bm F1 B1 Fm1 Bm1 := by
    refine VFR_s (fun c y k h h' => pf1 c y k (by first | decide | omega) (fun z => h' ⟨z.1, own y (by obtain ⟨j, j0, j1, j2⟩ := z.2.2; exact ⟨j, j0, j1, j2⟩)⟩)) (fun _ _ _ _ _ => rfl) (fun c i k h _ => pf2 c i k (by first | decide | omega)) (fun c i k x h => pf3 c i k x (fun z => h ?_))
    unfold inW
    omega
  have hJ : JS K q v w m (barV n d) g F1 B1 Fm1 Bm1 := by
    refine ⟨⟨by rw [pf1 4 q 6 (by first | decide | omega) (by first | decide | omega)]; exact hm, by rw [pf2 14 0 36 (by first | decide | omega), ← o1]; exact hm, by rw [pf2 14 0 35 (by first | decide | omega)]; exact b1, by rw [pf2 14 0 6 (by first | decide | omega)]; exact b2, (by first | decide | omega), (by first | decide | omega)⟩, hg, hs', fun i hi => ?_, hV⟩
    obtain ⟨q1, q2, q3⟩ := pl i hi
    have ev := o4 i (by first | decide | omega) (by first | decide | omega)
    refine ⟨EVW_h ev (fun k h h' => pf1 1 _ k (by first | decide | omega) (fun z => (by first | decide | omega))) (fun _ _ => rfl) (fun k h h' => pf3 13 w k _ (by first | decide | omega)) (fun k y h h' _ _ => pf3 13 w k y (by first | decide | omega)) (fun y => pf3 14 0 8 y (by first | decide | omega)), q1, q2, q3, ?_⟩
    rw [pf1 1 _ 1 (by first | decide | omega) (by first | decide | omega), gv]
  -- the frames of judging, as frames of the voice
  have fJ : ∀ {F2 : zF} {Fm2 : zF} {Bm2 : zB}, JFr q v w m B1 F1 Fm1 Bm1 F2 Fm2 Bm2 → VFR q v w F B1 Fm Bm F2 B1 Fm2 Bm2 := fun {F2 Fm2 Bm2} hf => by
    refine VFR_t fA (VFR_s (fun c y k h h' => hf.1 c y k (fun z => h' ⟨z.1, own y z.2.2⟩)) (fun _ _ _ _ _ => rfl) (fun c i k h _ => hf.2.1 c i k (by first | decide | omega)) (fun c i k x h => hf.2.2 c i k x (fun z => h ?_)))
    unfold inW
    omega
  refine P_jl (K := K) (Km := Km) (m := m) (q := q) (p := p) (v := v) (w := w) (n := n) (d := d) (g := g) (B := B1) (F0 := F1) (Fm0 := Fm1) (Bm0 := Bm1) hK (by first | decide | omega) h4 hp v0 w0 hn hd (by rw [pf1 6 p 4 (by first | decide | omega) (by first | decide | omega)]; exact e4) (by rw [pf1 6 p 5 (by first | decide | omega) (by first | decide | omega)]; exact e5) (by rw [pf2 13 w 4 (by first | decide | omega)]; exact m4) (by rw [pf2 13 w 5 (by first | decide | omega)]; exact m5) hI ?_ ?_ m K.1 Km 0 (by first | decide | omega) (by first | decide | omega) (by first | decide | omega) (Or.inl rfl) hJ (by rw [pf2 14 0 17 (by first | decide | omega)]; exact a4) JFr_r (fun j hj => (by first | decide | omega)) (fun t ht => (by first | decide | omega))
  · -- behind the last event
    intro n1 n2 op F2 Fm2 Bm2 hop hJ2 h17 hf hsl hbs
    have hJ2' := hJ2
    obtain ⟨⟨c6, c36, c35, cw, mm0, mm1⟩, _, _, he2, _⟩ := hJ2
    have tk2 : F2 4 q 3 = Bm2 14 0 8 (Bm2 14 0 28 v) := by
      rw [hf.1 4 q 3 (by first | decide | omega), pf1 4 q 3 (by first | decide | omega) (by first | decide | omega), hf.2.2 14 0 28 v (by first | decide | omega), pf3 14 0 28 v (by first | decide | omega), hf.2.2 14 0 8 _ (by first | decide | omega), pf3 14 0 8 _ (by first | decide | omega)]
      exact htk
    have t28 : Bm2 14 0 28 v = Bm 14 0 28 v := by rw [hf.2.2 14 0 28 v (by first | decide | omega), pf3 14 0 28 v (by first | decide | omega)]
    have tp2 : 0 ≤ Bm2 14 0 8 (Bm2 14 0 28 v) ∧ Bm2 14 0 8 (Bm2 14 0 28 v) ≤ 3000 := by
      rw [t28, hf.2.2 14 0 8 _ (by first | decide | omega), pf3 14 0 8 _ (by first | decide | omega)]
      exact tp
    have F6k : ∀ k, F2 6 p k = F 6 p k := fun k => by rw [hf.1 6 p k (by first | decide | omega), pf1 6 p k (by first | decide | omega) (by first | decide | omega)]
    have M4 : Fm2 13 w 4 = n := by rw [hf.2.1 13 w 4 (by first | decide | omega), pf2 13 w 4 (by first | decide | omega)]; exact m4
    have M5 : Fm2 13 w 5 = d := by rw [hf.2.1 13 w 5 (by first | decide | omega), pf2 13 w 5 (by first | decide | omega)]; exact m5
    rw [f_Part_judge_26, if_pos h4, if_pos rm, c6, if_pos rm, if_pos (Int.le_refl _), joS_e, if_pos rm, c36, if_pos rm, if_pos (Int.le_refl _)]
    unfold f_M_judge_265
    rcases hop with rfl | rfl
    case inr =>
      have bd : bad (flM Fm2 Bm2 11 (Bm2 14 0 28 v)) := flM_b (by decide) (by decide)
      unfold f_M_judge_284 f_M_judge_325
      rw [if_pos (show r32 1 by decide), if_neg (show ¬ (1 : Int) = 0 by decide), if_pos (show r32 1 by decide), if_neg (show ¬ (1 : Int) = 0 by decide), c35, if_pos v0, L_failAt h17 (by rw [t28]; omega), zb_s, L_goodB bd, zb_s, if_pos (show r32 0 by decide), if_pos (show (0 : Int) = 0 from rfl)]
      refine zP_s ⟨VFR_t (fJ hf) (VFR_s (fun _ _ _ _ _ => rfl) (fun _ _ _ _ _ => rfl) (fun c i k h _ => by rw [flM_n (by first | decide | omega)]) (fun _ _ _ _ _ => rfl)), h12, Or.inr ⟨bd, by rw [flM_17, flM_18, tk2], by rw [flM_18]; exact tp2⟩⟩
    rw [if_pos (show r32 0 by decide), if_pos (show (0 : Int) = 0 from rfl), if_pos (show r32 0 by decide), if_pos (show (0 : Int) = 0 from rfl)]
    unfold f_M_judge_284 f_M_judge_325
    rw [L_good h17, zb_s, if_pos (show r32 1 by decide), if_neg (show ¬ (1 : Int) = 0 by decide), cw, if_pos w0, c35]
    have h0 : ∀ i : Nat, i < m → F2 1 (B1 4 q 5 i) 5 = 0 → g i % 6350400 = 0 := fun i hi hz => by
      obtain ⟨ev, _, _, _, gi⟩ := he2 i hi
      obtain ⟨z, z1, z2⟩ := ev.2.2.2.1
      obtain ⟨t1, t2⟩ := ev.2.2.2.2.2.2.1.2.2.2 hz
      rw [t1, Int.one_mul] at z1
      rw [t2, Int.mul_one, ← z1, gi] at z2
      omega
    obtain ⟨w1, w2⟩ := BS_all bv4 hg h0 (fun i hi => (hbs i hi).1)
    have hW : BW q m (barV n d) g F2 B1 := ⟨w1, h0, w2, fun i hi => (hbs i hi).2⟩
    have h12' : Bm2 13 w 12 v = m := by rw [hf.2.2 13 w 12 v (by first | decide | omega), pf3 13 w 12 v (by first | decide | omega), hm12, ← o1]; exact hm
    have h7' : F2 4 q 7 = sumZ g m := by rw [hf.1 4 q 7 (by first | decide | omega)]; exact f7
    obtain ⟨F3, B3, Fm3, Bm3, rr, x1, x2, x3, x4, x5, x6, x7⟩ := P_writeN (K := K) (Km := Km) (m := m) (q := q) (p := p) (v := v) (w := w) (n := n) (d := d) (g := g) (F := F2) (B := B1) (Fm := Fm2) (Bm := Bm2) hK hKm h4 hp v0 w0 hn hd (by rw [F6k]; exact e4) (by rw [F6k]; exact e5) M4 M5 h12' h7' hJ2' hW (Z := zZ (barV n d) (clB (sumZ g m) (barV n d))) (fun nb y _ a _ b => ⟨b, a⟩)
    rw [x1, x2, zb_s]
    have fW : VFR q v w F2 B1 Fm2 Bm2 F3 B3 Fm3 Bm3 := by
      refine VFR_s (fun c y k h h' => x3 c y k (by first | decide | omega)) (fun c y k x h => x4 c y k x (by first | decide | omega)) (fun c i k h h' => x5 c i k (by first | decide | omega) h') (fun c i k x h => x6 c i k x (fun z => h ?_) (fun z => h ?_))
      · unfold inW; omega
      · unfold inW; omega
    have e35 : Fm3 14 0 35 = v := by rw [x5 14 0 35 (by first | decide | omega) (by first | decide | omega)]; exact c35
    have f3 : F3 4 q 3 = Bm3 14 0 8 (Bm3 14 0 28 v) := by
      rw [x3 4 q 3 (by first | decide | omega), x6 14 0 28 v (by first | decide | omega) (by first | decide | omega), x6 14 0 8 _ (by first | decide | omega) (by first | decide | omega)]
      exact tk2
    rcases x7 with ⟨hNW, hbars, hEO⟩ | ⟨rfl, hX⟩
    · -- the notes fit
      have hJ3 := JS_n hJ2' x3 x4 (fun k h => x5 14 0 k (by first | decide | omega) (by first | decide | omega)) x6
      obtain ⟨⟨c6', _⟩, _, _, he3, hV3⟩ := hJ3
      have hQ : QN K q m rr F3 B3 := by
        refine ⟨h4, ⟨c6', mm1⟩, ⟨hNW.2.1, hNW.1⟩, by rw [x3 4 q 1 (by first | decide | omega), hf.1 4 q 1 (by first | decide | omega), pf1 4 q 1 (by first | decide | omega) (by first | decide | omega)]; exact hcl, fun i i0 i1 => ?_, fun t t0 t1 => ?_, fun s s0 s1 => by rw [x4 4 q 12 s (by first | decide | omega)]; exact h12 s s0 s1⟩
        · obtain ⟨n1', n2', n3', n4', n5'⟩ := hNW.2.2.2.2 i i0 i1
          exact ⟨n1'.2, n2'.2, ⟨n3'.1, n3'.2.1⟩, n4'.2⟩
        · obtain ⟨k, hk⟩ : ∃ k : Nat, t = k := ⟨t.toNat, (by first | decide | omega)⟩
          rw [hk]
          obtain ⟨ev, _⟩ := he3 k (by first | decide | omega)
          have ep := ev.2.2.2.2.2.2.2.2.2.2.2
          exact ⟨hV3 k (by first | decide | omega) (by first | decide | omega), ev.2.2.2.2.2.2.2.2.1.2, ep.2.2.1, fun j j0 j1 => (ep.2.2.2.1 j j0 j1).2.2⟩
      obtain ⟨B4, u1, u2, u3, u4⟩ := C_101 (p := p) (n := n) (d := d) hK hp (by rw [x3 6 p 4 (by first | decide | omega), F6k]; exact e4) (by rw [x3 6 p 5 (by first | decide | omega), F6k]; exact e5) hn hd (by rw [x3 6 p 2 (by first | decide | omega), F6k]; exact e2) hNW.2.2.1 hQ
      have ns : NSq (F 6 p 2) (btV n d) q F3 B4 := by
        have e62 : F3 6 p 2 = F 6 p 2 := by rw [x3 6 p 2 (by first | decide | omega), F6k]
        have gs := C_101D (p := p) (n := n) (d := d) hK hp (by rw [x3 6 p 4 (by first | decide | omega), F6k]; exact e4) (by rw [x3 6 p 5 (by first | decide | omega), F6k]; exact e5) hn hd (by rw [e62]; exact e2) hNW.2.2.1 hQ u1
        rw [e62] at gs
        refine ⟨?_, by rw [cD_q u2]; exact gs⟩
        rw [hNW.2.1]
        exact EO_f hEO (fun k hk i => u2 4 q k i (by first | decide | omega))
      rw [u1, zb_s, hNW.2.2.1, if_pos (show r32 0 by decide), if_pos (show (0 : Int) = 0 from rfl), f_Part_judge_227, if_pos (show r32 rr by have := hNW.1; unfold r32; omega), if_pos (show rr ≤ 800 by have := hNW.1; omega)]
      have fQ : VFR q v w F3 B3 Fm3 Bm3 F3 B4 Fm3 Bm3 := VFR_s (fun _ _ _ _ _ => rfl) (fun c y k x h => u2 c y k x (by first | decide | omega)) (fun _ _ _ _ _ => rfl) (fun _ _ _ _ _ => rfl)
      refine zP_s ⟨VFR_t (fJ hf) (VFR_t fW fQ), u3.2.2.2.2.2.2, Or.inl ⟨rfl, by rw [x5 14 0 17 (by first | decide | omega) (by first | decide | omega)]; exact h17, m, g, ?_, by rw [hbars, x5 13 w 4 (by first | decide | omega) (by first | decide | omega), x5 13 w 5 (by first | decide | omega) (by first | decide | omega), M4, M5], ns⟩⟩
      have b5 : ∀ i, B4 4 q 5 i = B3 4 q 5 i := fun i => u2 4 q 5 i (by first | decide | omega)
      have bx5 : ∀ i, B3 4 q 5 i = B1 4 q 5 i := fun i => x4 4 q 5 i (by first | decide | omega)
      refine ⟨⟨c6', mm0, mm1⟩, by rw [x6 13 w 12 v (by first | decide | omega) (by first | decide | omega)]; exact h12', hg, hs', by rw [x3 4 q 7 (by first | decide | omega)]; exact h7', fun i hi => ?_, fun j hj => ?_, ?_, rr, ⟨hNW.1, hNW.2.1, hNW.2.2.1, hNW.2.2.2.1, fun i i0 i1 => ?_⟩, u3, u4⟩
      · obtain ⟨ev, q1, q2, q3, q4⟩ := he3 i hi
        rw [b5]
        exact ⟨EVW_h ev (fun _ _ _ => rfl) (fun k y => u2 1 _ k y (by first | decide | omega)) (fun _ _ _ => rfl) (fun _ _ _ _ _ _ => rfl) (fun _ => rfl), q1, q2, q3, q4⟩
      · rw [b5, bx5, x3 1 _ 11 (by first | decide | omega), x6 13 w 27 _ (by first | decide | omega) (by first | decide | omega)]
        exact hsl j hj
      · have := BW_n hW x3 x4
        unfold BW TIk at this ⊢
        simp only [b5]
        exact this
      · have := hNW.2.2.2.2 i i0 i1
        unfold NE at this ⊢
        rw [u2 4 q 360 i (by first | decide | omega), u2 4 q 361 i (by first | decide | omega), u2 4 q 9 i (by first | decide | omega), u2 4 q 364 i (by first | decide | omega), u2 4 q 365 i (by first | decide | omega)]
        exact this
    · -- too many
      have x17 : Fm3 14 0 17 = 0 := by rw [x5 14 0 17 (by first | decide | omega) (by first | decide | omega)]; exact h17
      have bd : bad (flM Fm3 Bm3 14 (Bm3 14 0 28 v)) := flM_b (by decide) (by decide)
      have b28 : Bm3 14 0 28 v = Bm 14 0 28 v := by rw [x6 14 0 28 v (by first | decide | omega) (by first | decide | omega)]; exact t28
      unfold f_Part_writeNotes_101 f_Part_writeNotes_136
      rw [if_pos h4, hX.2.1, if_pos (show r32 1 by decide), if_neg (show ¬ (1 : Int) = 0 by decide), zb_s, hX.2.1, if_pos (show r32 1 by decide), if_neg (show ¬ (1 : Int) = 0 by decide), f_Part_judge_227, if_pos (show r32 801 by decide), if_neg (show ¬ (801 : Int) ≤ 800 by decide), e35, if_pos v0, L_failAt x17 (by rw [b28]; omega), zb_s]
      refine zP_s ⟨VFR_t (fJ hf) (VFR_t fW (VFR_s (fun _ _ _ _ _ => rfl) (fun _ _ _ _ _ => rfl) (fun c i k h _ => by rw [flM_n (by first | decide | omega)]) (fun _ _ _ _ _ => rfl))), fun s s0 s1 => by rw [x4 4 q 12 s (by first | decide | omega)]; exact h12 s s0 s1, Or.inr ⟨bd, by rw [flM_17, flM_18, f3], ?_⟩⟩
      rw [flM_18, b28, x6 14 0 8 _ (by first | decide | omega) (by first | decide | omega), hf.2.2 14 0 8 _ (by first | decide | omega), pf3 14 0 8 _ (by first | decide | omega)]
      exact tp
  · -- a fault in the loop
    intro rr F2 r' Fm2 Bm2 hf bd er hr
    exact ⟨fJ hf, h12, Or.inr ⟨bd, er, hr.1, hr.2⟩⟩
end
end
section
section
/-! ===== what one voice's reading leaves of the others ===== -/
theorem GS_v {K : zK} {q v w : Int} {F F' : zF} {B B' : zB} {Fm Fm' : zF} {Bm Bm' : zB} (h : GS K B) (q0 : 0 ≤ q ∧ q < K.2 4) (hI : inJ q B) (f : VFR q v w F B Fm Bm F' B' Fm' Bm') : GS K B' := by
  obtain ⟨g1, g2, g3, g4, g5⟩ := h
  have e6 : ∀ y u, B' 6 y 0 u = B 6 y 0 u := fun y u => f.2.1 6 y 0 u (by first | decide | omega) (by first | decide | omega) (by first | decide | omega)
  have e4 : ∀ y x, y ≠ q → B' 4 y 5 x = B 4 y 5 x := fun y x n => f.2.1 4 y 5 x (by first | decide | omega) (by first | decide | omega) (by first | decide | omega)
  have own : ∀ x, 0 ≤ x → x < 200 → ∃ y, 0 ≤ y ∧ y < 200 ∧ B 4 q 5 y = B' 4 q 5 x := fun x a b => (f.2.2.1 _).mp ⟨x, a, b, rfl⟩
  have iJ := f.2.2.2.2.2 hI
  refine ⟨g1, fun p u a b c d => by rw [e6]; exact g2 p u a b c d, fun p u p' u' a b c d a' b' c' d' z e => ?_, fun y x a b c d => ?_, fun y x y' x' a b c d a' b' c' d' e => ?_⟩
  · rw [e6] at z e
    rw [e6] at e
    exact g3 p u p' u' a b c d a' b' c' d' z e
  · by_cases n : y = q
    · rw [n]
      obtain ⟨t, t0, t1, t2⟩ := own x c d
      rw [← t2]
      exact g4 q t q0.1 q0.2 t0 t1
    · rw [e4 y x n]; exact g4 y x a b c d
  · by_cases n : y = q
    · by_cases n' : y' = q
      · rw [n, n'] at e
        exact ⟨by rw [n, n'], iJ x x' c d c' d' e⟩
      · exfalso
        obtain ⟨t, t0, t1, t2⟩ := own x c d
        rw [n, e4 y' x' n', ← t2] at e
        exact n' (g5 q t y' x' q0.1 q0.2 t0 t1 a' b' c' d' e).1.symm
    · by_cases n' : y' = q
      · exfalso
        obtain ⟨t, t0, t1, t2⟩ := own x' c' d'
        rw [n', e4 y x n, ← t2] at e
        exact n (g5 y x q t a b c d q0.1 q0.2 t0 t1 e).1
      · rw [e4 y x n, e4 y' x' n'] at e
        exact g5 y x y' x' a b c d a' b' c' d' e
theorem VD_f {K : zK} {q q' v v' w bar : Int} {m : Nat} {g : Int → Int} {F F' : zF} {B B' : zB} {Fm Fm' : zF} {Bm Bm' : zB} (hv : ¬ v' = v) (v0 : 0 ≤ v ∧ v < 4) (v0' : 0 ≤ v' ∧ v' < 4) (hq : ¬ q' = q) (hd : ∀ i : Int, 0 ≤ i → i < 200 → ¬ ownE B q (B 4 q' 5 i)) (h : VD K q' v' w m bar g F B Bm) (f : VFR q v w F B Fm Bm F' B' Fm' Bm') : VD K q' v' w m bar g F' B' Bm' := by
  obtain ⟨⟨a1, a2, a3⟩, a4, a5, a6, a7, a8, a9, a10, c, nw, qn, gb⟩ := h
  have f4 : ∀ k, F' 4 q' k = F 4 q' k := fun k => f.1 4 q' k (by first | decide | omega) (by first | decide | omega) (by first | decide | omega)
  have b4 : ∀ k x, B' 4 q' k x = B 4 q' k x := fun k x => f.2.1 4 q' k x (by first | decide | omega) (by first | decide | omega) (by first | decide | omega)
  have f1 : ∀ i : Int, 0 ≤ i → i < 200 → ∀ k, F' 1 (B 4 q' 5 i) k = F 1 (B 4 q' 5 i) k := fun i i0 i1 k => f.1 1 _ k (by first | decide | omega) (by first | decide | omega) (fun z => hd i i0 i1 z.2)
  have b1 : ∀ i : Int, 0 ≤ i → i < 200 → ∀ k x, B' 1 (B 4 q' 5 i) k x = B 1 (B 4 q' 5 i) k x := fun i i0 i1 k x => f.2.1 1 _ k x (by first | decide | omega) (by first | decide | omega) (fun z => hd i i0 i1 z.2)
  have m13 : ∀ (k : Nat) x, ¬ inW v w 13 w k x → Bm' 13 w k x = Bm 13 w k x := fun k x n => f.2.2.2.2.1 13 w k x (by first | decide | omega) n
  have m8 : ∀ y, Bm' 14 0 8 y = Bm 14 0 8 y := fun y => f.2.2.2.2.1 14 0 8 y (by first | decide | omega) (by unfold inW; omega)
  have r1 : ∀ (k : Nat) (i : Int), 14 ≤ k → k ≤ 27 → 0 ≤ i → i < 200 → Bm' 13 w k (1000 * v' + i) = Bm 13 w k (1000 * v' + i) := fun k i h0 h1 i0 i1 => m13 k _ (by unfold inW; omega)
  have rE : ∀ i : Nat, i < m → EVW w (B 4 q' 5 i) (1000 * v' + i) F B Bm → EVW w (B 4 q' 5 i) (1000 * v' + i) F' B' Bm' := fun i hi ev => EVW_h ev (fun k _ _ => f1 i (by first | decide | omega) (by first | decide | omega) k) (fun k y => b1 i (by first | decide | omega) (by first | decide | omega) k y) (fun k h0 h1 => r1 k i (by first | decide | omega) (by first | decide | omega) (by first | decide | omega) (by first | decide | omega)) (fun k y h0 h1 y0 y1 => m13 k y (by unfold inW; omega)) m8
  refine ⟨⟨by rw [f4]; exact a1, a2, a3⟩, by rw [m13 12 v' (by unfold inW; omega)]; exact a4, a5, a6, by rw [f4]; exact a7, fun i hi => ?_, fun j hj => ?_, ?_, c, ⟨nw.1, by rw [f4]; exact nw.2.1, by rw [f4]; exact nw.2.2.1, by rw [m13 13 v' (by unfold inW; omega)]; exact nw.2.2.2.1, fun i i0 i1 => ?_⟩, ?_, fun i i0 i1 => by simp only [b4]; exact gb i i0 i1⟩
  · obtain ⟨ev, q1, q2, q3, q4⟩ := a8 i hi
    rw [b4, f1 i (by first | decide | omega) (by first | decide | omega), f1 i (by first | decide | omega) (by first | decide | omega), r1 14 i (by decide) (by decide) (by first | decide | omega) (by first | decide | omega), r1 15 i (by decide) (by decide) (by first | decide | omega) (by first | decide | omega)]
    exact ⟨rE i hi ev, q1, q2, q3, q4⟩
  · rw [b4, f1 j (by first | decide | omega) (by first | decide | omega), r1 27 j (by decide) (by decide) (by first | decide | omega) (by first | decide | omega)]
    exact a9 j hj
  · obtain ⟨w1, w2, w3, w4⟩ := a10
    refine ⟨fun i hi hz => w1 i hi ?_, fun i hi hz => w2 i hi ?_, fun i hi hz => w3 i hi ?_, fun i hi => ?_⟩
    · rcases hz with hz | hz
      · exact Or.inl hz
      · by_cases e : i = m
        · exact Or.inl e
        · rw [b4, f1 i (by first | decide | omega) (by first | decide | omega)] at hz
          exact Or.inr hz
    · rw [b4, f1 i (by first | decide | omega) (by first | decide | omega)] at hz
      exact hz
    · rw [b4, f1 i (by first | decide | omega) (by first | decide | omega)] at hz
      exact hz
    · have := w4 i hi
      unfold TIk at this ⊢
      rw [b4, f1 i (by first | decide | omega) (by first | decide | omega)]
      exact this
  · have := nw.2.2.2.2 i i0 i1
    have c8 := nw.1.2
    unfold NE at this ⊢
    rw [b4, b4, b4, b4, b4, m13 30 _ (by unfold inW; omega), m13 31 _ (by unfold inW; omega), m13 32 _ (by unfold inW; omega), m13 33 _ (by unfold inW; omega), m13 34 _ (by unfold inW; omega), m13 35 _ (by unfold inW; omega)]
    exact this
  · obtain ⟨k1, k2, k3, k4, k5, k6, k7⟩ := qn
    refine ⟨k1, by rw [f4]; exact k2, by rw [f4]; exact k3, by rw [f4]; exact k4, fun i i0 i1 => by rw [b4, b4, b4, b4]; exact k5 i i0 i1, fun t t0 t1 => ?_, fun s s0 s1 => by rw [b4]; exact k7 s s0 s1⟩
    rw [b4, f1 t t0 (by first | decide | omega), f1 t t0 (by first | decide | omega)]
    obtain ⟨j1, j2, j3, j4⟩ := k6 t t0 t1
    refine ⟨j1, j2, j3, fun k h0 h1 => ?_⟩
    rw [b1 t t0 (by first | decide | omega), b1 t t0 (by first | decide | omega)]
    exact j4 k h0 h1
end
end
section
section
/-! ===== one voice read, both sides ===== -/
theorem WS_12 {q v w bar x : Int} {D : Nat} {F : zF} {B : zB} {Fm : zF} {Bm : zB} (h : WS q v w bar D F B Fm Bm) : WS q v w bar D F B Fm (zup4 Bm 13 w 12 v x) := by
  obtain ⟨s1, s2, s3, s4, s5, s6, s7, s8, s9, s10, s11, s12, s13⟩ := h
  have m14 : ∀ k y, (zup4 Bm 13 w 12 v x) 14 0 k y = Bm 14 0 k y := fun k y => by rw [zup4_v, if_neg (by first | decide | omega)]
  refine ⟨s1, s2, s3, s4, s5, s6, s7, by rw [m14]; exact s8, TPL_c s9 (fun k _ _ => ⟨m14 46 k, m14 47 k⟩), s10, fun k u t => by rw [m14]; exact s11 k u t, ⟨s12.1, s12.2.1, s12.2.2.1, fun k u t => ?_⟩, s13.1, s13.2.1, s13.2.2.1, fun i i0 i1 => ?_⟩
  · have := s12.2.2.2 k u t
    unfold CRk at this ⊢
    rw [m14, m14, m14]
    exact this
  · exact EVW_f (s13.2.2.2 i i0 i1) (fun _ => rfl) (fun _ _ => rfl) (fun k h0 h1 => by rw [zup4_v, if_neg (by first | decide | omega)]) (fun k y h0 h1 _ _ => by rw [zup4_v, if_neg (by first | decide | omega)]) (fun y => m14 8 y)
/-- the voices before v are read; what stands for the others -/
def VLS (K : zK) (Km : Nat) (N L V p w n d v : Int) (B0 Bm0 : zB) (F : zF) (B : zB) (Fm : zF) (Bm : zB) : Prop :=
  (3002 ≤ K.1 ∧ 70000000000 < Km ∧ 0 < K.2 11 ∧ 0 < K.2 3 ∧ (0 ≤ p ∧ p < K.2 6) ∧ (0 ≤ w ∧ w < 3) ∧ (1 ≤ n ∧ n ≤ 12) ∧ (d = 2 ∨ d = 4 ∨ d = 8 ∨ d = 16) ∧ (0 ≤ v ∧ v ≤ V ∧ V ≤ 4)) ∧
  (F 6 p 1 = V ∧ Fm 13 w 1 = V ∧ F 6 p 4 = n ∧ F 6 p 5 = d ∧ Fm 13 w 4 = n ∧ Fm 13 w 5 = d ∧ (-7 ≤ F 6 p 2 ∧ F 6 p 2 ≤ 7) ∧ Fm 14 0 6 = w ∧ Fm 14 0 35 = v ∧ Fm 14 0 27 = L) ∧
  (TK B Bm N ∧ WT N B0 Bm0 B Bm ∧ MW Bm0 ∧ LTW L B0 Bm0 ∧ GS K B) ∧
  (∀ u, 0 ≤ u → u < V → (0 ≤ B 6 p 0 u ∧ B 6 p 0 u < K.2 4) ∧ (F 4 (B 6 p 0 u) 3 = Bm 14 0 8 (Bm 14 0 28 u) ∧ 0 ≤ F 4 (B 6 p 0 u) 3 ∧ F 4 (B 6 p 0 u) 3 ≤ 3000) ∧ (0 ≤ F 4 (B 6 p 0 u) 1 ∧ F 4 (B 6 p 0 u) 1 < 4) ∧ (0 ≤ Bm 14 0 28 u ∧ Bm 14 0 28 u ≤ 3000) ∧ (0 ≤ F 4 (B 6 p 0 u) 4 ∧ F 4 (B 6 p 0 u) 4 < 3000) ∧ (0 ≤ Bm 14 0 29 u ∧ Bm 14 0 29 u < 3000) ∧ BKf (IRd L 7) B0 Bm0 (F 4 (B 6 p 0 u) 4) (Bm 14 0 29 u) ∧ (v ≤ u → F 4 (B 6 p 0 u) 6 = 0) ∧ (∀ s, 0 ≤ s → s < 63 → r32 (B 4 (B 6 p 0 u) 12 s))) ∧
  (∀ u, 0 ≤ u → u < v → ∃ m g, VD K (B 6 p 0 u) u w m (barV n d) g F B Bm ∧ (u + 1 = v → Fm 13 w 7 = clB (F 4 (B 6 p 0 u) 7) (barV n d)) ∧ NSq (F 6 p 2) (btV n d) (B 6 p 0 u) F B) ∧
  (F 12 0 7 = p ∧ F 12 0 5 = 0 ∧ F 12 0 4 = 0 ∧ 0 < K.2 12)
theorem P_vstep {K : zK} {Km a b : Nat} {N L V p w n d v l1 : Int} {B0 Bm0 : zB} {F : zF} {B : zB} {Fm : zF} {Bm : zB} (h : VLS K Km N L V p w n d v B0 Bm0 F B Fm Bm) (h17 : Fm 14 0 17 = 0) (vV : v < V) : ∃ r F' B' Fm' Bm', f_S_read_54 (a + 1) K v 0 0 l1 F B = f_S_read_54 a K (v + 1) r 0 l1 F' B' ∧ f_M_through_5 Km (b + 1) Fm Bm = f_M_through_5 Km b (zup3 Fm' 14 0 35 (v + 1)) Bm' ∧ VFR (B 6 p 0 v) v w F B Fm Bm F' B' Fm' Bm' ∧ (∀ s, 0 ≤ s → s < 63 → r32 (B' 4 (B 6 p 0 v) 12 s)) ∧ ((r = 0 ∧ Fm' 14 0 17 = 0 ∧ ∃ m g, VD K (B 6 p 0 v) v w m (barV n d) g F' B' Bm' ∧ Fm' 13 w 7 = clB (F' 4 (B 6 p 0 v) 7) (barV n d) ∧ NSq (F 6 p 2) (btV n d) (B 6 p 0 v) F' B') ∨ (bad Fm' ∧ r = Fm' 14 0 17 + 16 * Fm' 14 0 18 ∧ 0 ≤ Fm' 14 0 18 ∧ Fm' 14 0 18 ≤ 3000)) := by
  obtain ⟨⟨hK, hKm, h11, h3, hp, w0, hn, hd, v0⟩, ⟨c1, c2, c3, c4, c5, c6, c7, c8, c9, c10⟩, ⟨hTK, hT, hMW, hLT, hGS⟩, hU, _, ⟨o7, o5, o4, h12k⟩⟩ := h
  obtain ⟨u1, ⟨u2, u2', u2''⟩, u3, u4, u5, u6, u7, u8, u9⟩ := hU v v0.1 vV
  generalize hq : B 6 p 0 v = q at *
  have hV : ∀ t, 0 ≤ t → t < 200 → 0 ≤ B 4 q 5 t ∧ B 4 q 5 t < K.2 1 := fun t t0 t1 => by have := hGS.2.2.2.1 q t u1.1 u1.2 t0 t1; omega
  have hI : inJ q B := fun t t' a0 a1 b0 b1 e => (hGS.2.2.2.2 q t q t' u1.1 u1.2 a0 a1 u1.1 u1.2 b0 b1 e).2
  obtain ⟨r, F1, B1, r', Fm1, Bm1, y1, y2, er, f5, s⟩ := P_walkV (K := K) (Km := Km) (N := N) (nl := L) (p := p) (q := q) (v := v) (w := w) (n := n) (d := d) (x := F 4 q 4) (a := Bm 14 0 29 v) (B0 := B0) (Bm0 := Bm0) (F := F) (B := B) (Fm := Fm) (Bm := Bm) hK (by first | decide | omega) h11 h3 u1 hp (by first | decide | omega) w0 hTK hV hI c3 c4 c5 c6 hn hd hT hMW hLT c10 h17 c9 c8 rfl u5 (u8 (Int.le_refl _)) rfl u6 u7
  have rv : r32 v := by unfold r32; omega
  have rV : r32 V := by unfold r32; omega
  have mE : f_M_through_5 Km (b + 1) Fm Bm = f_M_through_73 (f_M_through_5 Km b) Km Km 0 (vzF Fm) Bm := by
    rw [f_M_through_5, c8, if_pos w0, c9, if_pos rv, c2, if_pos rV, if_neg (by first | decide | omega), L_good h17, zb_s, if_pos (by decide), if_neg (by decide)]
    rfl
  rw [mE, L_t73 (v := v) (a := Bm 14 0 29 v) (by first | decide | omega) (by rw [vzF_n (by first | decide | omega)]; exact c9) (by first | decide | omega) rfl u6, y2, zb_s]
  rw [f_S_read_54, if_pos ⟨Int.le_refl _, h12k⟩, o7, if_pos hp, if_pos rv, c1, if_pos rV, if_neg (by first | decide | omega), if_pos (show r32 0 by decide), if_pos (show (0 : Int) = 0 from rfl), if_pos (show 0 ≤ v ∧ v < 4 by omega), o5, if_pos ⟨Int.le_refl _, h11⟩, o4, if_pos ⟨Int.le_refl _, h3⟩, hq, if_pos u1, y1, zbN_s]
  have fA := VFR_5 f5
  have g6 : Fm1 14 0 6 = w := by rw [f5.2.2.2.1 14 0 6 (by first | decide | omega)]; exact c8
  have g35 : Fm1 14 0 35 = v := by rw [f5.2.2.2.1 14 0 35 (by first | decide | omega)]; exact c9
  have fB : VFR q v w F1 B1 Fm1 Bm1 F1 B1 Fm1 (zup4 Bm1 13 w 12 v (Fm1 14 0 36)) := VFR_s (fun _ _ _ _ _ => rfl) (fun _ _ _ _ _ => rfl) (fun _ _ _ _ _ => rfl) (fun c i k x hh => by rw [zup4_v, if_neg (fun z => hh (by unfold inW; omega))])
  have k12 : ∀ s, 0 ≤ s → s < 63 → r32 (B1 4 q 12 s) := fun s s0 s1 => by rw [f5.2.1 4 q 12 s (by first | decide | omega) (by first | decide | omega) (by first | decide | omega)]; exact u9 s s0 s1
  unfold thT
  rw [g6, if_pos w0, g35, if_pos (show 0 ≤ v ∧ v < 4 by omega)]
  rcases s with ⟨s, hsum⟩ | s
  · have r0 : r = 0 := by rw [er]; exact s.1.2.2.1
    have a17 := s.1.2.2.2
    have p7 : F1 12 0 7 = p := by rw [f5.1 12 0 7 (by first | decide | omega) (by first | decide | omega) (by first | decide | omega)]; exact o7
    have b6 : B1 6 p 0 v = q := by rw [f5.2.1 6 p 0 v (by first | decide | omega) (by first | decide | omega) (by first | decide | omega)]; exact hq
    have F6 : ∀ k, F1 6 p k = F 6 p k := fun k => f5.1 6 p k (by first | decide | omega) (by first | decide | omega) (by first | decide | omega)
    have F4 : ∀ k, k < 6 → F1 4 q k = F 4 q k := fun k hk => f5.1 4 q k (by first | decide | omega) (by first | decide | omega) (by first | decide | omega)
    have m8 : ∀ k y, k < 42 → (zup4 Bm1 13 w 12 v (Fm1 14 0 36)) 14 0 k y = Bm 14 0 k y := fun k y hk => by rw [zup4_v, if_neg (by first | decide | omega), f5.2.2.2.2.1 14 0 k y (by first | decide | omega) (by unfold inV; omega)]
    obtain ⟨r2, F2, B2, r2', Fm2, Bm2, z1, z2, j1, j2, j3⟩ := P_judge (K := K) (Km := Km) (q := q) (p := p) (v := v) (w := w) (n := n) (d := d) (F := F1) (B := B1) (Fm := Fm1) (Bm := zup4 Bm1 13 w 12 v (Fm1 14 0 36)) hK hKm u1 hp (by first | decide | omega) w0 hn hd (by rw [F6]; exact c3) (by rw [F6]; exact c4) (by rw [F6]; exact c7) (by rw [f5.2.2.2.1 13 w 4 (by first | decide | omega)]; exact c5) (by rw [f5.2.2.2.1 13 w 5 (by first | decide | omega)]; exact c6) (fun t t0 t1 => by
      obtain ⟨j, j0, j1, j2⟩ := (f5.2.2.1 _).mp ⟨t, t0, t1, rfl⟩
      rw [← j2]
      exact hV j j0 j1) f5.2.2.2.2.2 (by rw [F4 1 (by decide)]; exact u3) k12 (by rw [F4 3 (by decide), m8 28 v (by decide), m8 8 _ (by decide)]; exact u2) (by rw [m8 28 v (by decide)]; exact u4) (by rw [F4 3 (by decide)]; exact ⟨u2', u2''⟩) (WS_12 s) hsum (by rw [zup4_v, if_pos (by first | decide | omega)])
    rw [r0, if_pos (show r32 0 by decide), if_pos (show (0 : Int) = 0 from rfl), p7, if_pos hp, b6, if_pos u1, z1, zbN_s, f_S_read_115, L_good a17, zb_s, if_pos (show r32 1 by decide), if_neg (show ¬ (1 : Int) = 0 by decide), z2, zb_s, f_M_through_148]
    have g35' : Fm2 14 0 35 = v := by rw [j1.2.2.2.1 14 0 35 (by first | decide | omega) (by first | decide | omega)]; exact g35
    rw [g35']
    rw [F6] at j3
    exact ⟨r2, F2, B2, Fm2, Bm2, rfl, rfl, VFR_t fA (VFR_t fB j1), j2, j3⟩
  · obtain ⟨n1, n2⟩ := WE_n s
    rw [er, if_pos n1, if_neg n2, f_S_read_115, L_goodB s.2.2.2.1, zb_s, if_pos (show r32 0 by decide), if_pos (show (0 : Int) = 0 from rfl), f_M_through_148, g35]
    exact ⟨_, F1, B1, Fm1, _, rfl, rfl, VFR_t fA fB, k12, Or.inr ⟨s.2.2.2.1, s.2.2.1, s.2.2.2.2.1⟩⟩
end
end
section
section
/-! ===== all voices read, both sides ===== -/
def VTF (p w : Int) (F : zF) (B : zB) (Fm : zF) (Bm : zB) (F' : zF) (B' : zB) (Fm' : zF) (Bm' : zB) : Prop :=
  (∀ c y k, ¬ (c = 11 ∧ y = 0) → ¬ (c = 4 ∧ 6 ≤ k ∧ ∃ u, 0 ≤ u ∧ u < 4 ∧ 0 ≤ B 6 p 0 u ∧ y = B 6 p 0 u) → ¬ (c = 1 ∧ ∃ u, 0 ≤ u ∧ u < 4 ∧ 0 ≤ B 6 p 0 u ∧ ownE B (B 6 p 0 u) y) → F' c y k = F c y k) ∧
  (∀ c y k x, ¬ (c = 11 ∧ y = 0) → ¬ (c = 4 ∧ 5 ≤ k ∧ ∃ u, 0 ≤ u ∧ u < 4 ∧ 0 ≤ B 6 p 0 u ∧ y = B 6 p 0 u) → ¬ (c = 1 ∧ ∃ u, 0 ≤ u ∧ u < 4 ∧ 0 ≤ B 6 p 0 u ∧ ownE B (B 6 p 0 u) y) → B' c y k x = B c y k x) ∧
  (∀ u y, 0 ≤ u → u < 4 → (ownE B' (B 6 p 0 u) y ↔ ownE B (B 6 p 0 u) y)) ∧
  (∀ c i k, ¬ (c = 14 ∧ i = 0 ∧ (k ≤ 1 ∨ k = 17 ∨ k = 18 ∨ (35 ≤ k ∧ k ≤ 57))) → ¬ (c = 13 ∧ i = w ∧ k = 7) → Fm' c i k = Fm c i k) ∧
  (∀ c i k x, ¬ (c = 14 ∧ i = 0 ∧ 42 ≤ k ∧ k ≤ 51) → ¬ (c = 13 ∧ i = w ∧ 12 ≤ k ∧ k ≤ 35) → Bm' c i k x = Bm c i k x) ∧
  (∀ q, (∀ s, 0 ≤ s → s < 63 → r32 (B 4 q 12 s)) → ∀ s, 0 ≤ s → s < 63 → r32 (B' 4 q 12 s))
theorem VTF_r {p w : Int} {F : zF} {B : zB} {Fm : zF} {Bm : zB} : VTF p w F B Fm Bm F B Fm Bm := ⟨fun _ _ _ _ _ _ => rfl, fun _ _ _ _ _ _ _ => rfl, fun _ _ _ _ => Iff.rfl, fun _ _ _ _ _ => rfl, fun _ _ _ _ _ _ => rfl, fun _ h => h⟩
theorem VTF_t {p w : Int} {F F1 F2 : zF} {B B1 B2 : zB} {Fm Fm1 Fm2 : zF} {Bm Bm1 Bm2 : zB} (h : VTF p w F B Fm Bm F1 B1 Fm1 Bm1) (h' : VTF p w F1 B1 Fm1 Bm1 F2 B2 Fm2 Bm2) : VTF p w F B Fm Bm F2 B2 Fm2 Bm2 := by
  have e6 : ∀ u, B1 6 p 0 u = B 6 p 0 u := fun u => h.2.1 6 p 0 u (by first | decide | omega) (by first | decide | omega) (by first | decide | omega)
  refine ⟨fun c y k a b d => ?_, fun c y k x a b d => ?_, fun u y u0 u1 => ?_, fun c i k a b => by rw [h'.2.2.2.1 c i k a b, h.2.2.2.1 c i k a b], fun c i k x a b => by rw [h'.2.2.2.2.1 c i k x a b, h.2.2.2.2.1 c i k x a b], fun q hq => h'.2.2.2.2.2 q (h.2.2.2.2.2 q hq)⟩
  · rw [h'.1 c y k a (fun ⟨z1, z2, u, z3, z4, z5⟩ => b ⟨z1, z2, u, z3, z4, by rw [← e6]; exact z5⟩) (fun ⟨z1, u, z2, z3, z4⟩ => d ⟨z1, u, z2, z3, by rw [← e6]; exact z4.1, (h.2.2.1 u y z2 z3).mp (by rw [← e6]; exact z4.2)⟩), h.1 c y k a b d]
  · rw [h'.2.1 c y k x a (fun ⟨z1, z2, u, z3, z4, z5⟩ => b ⟨z1, z2, u, z3, z4, by rw [← e6]; exact z5⟩) (fun ⟨z1, u, z2, z3, z4⟩ => d ⟨z1, u, z2, z3, by rw [← e6]; exact z4.1, (h.2.2.1 u y z2 z3).mp (by rw [← e6]; exact z4.2)⟩), h.2.1 c y k x a b d]
  · have := h'.2.2.1 u y u0 u1
    rw [e6] at this
    exact this.trans (h.2.2.1 u y u0 u1)
theorem VTF_v {p v w : Int} {F F' : zF} {B B' : zB} {Fm Fm' : zF} {Bm Bm' : zB} (v0 : 0 ≤ v ∧ v < 4) (hq : 0 ≤ B 6 p 0 v) (k12 : ∀ s, 0 ≤ s → s < 63 → r32 (B' 4 (B 6 p 0 v) 12 s)) (h : VFR (B 6 p 0 v) v w F B Fm Bm F' B' Fm' Bm') : VTF p w F B Fm Bm F' B' (zup3 Fm' 14 0 35 (v + 1)) Bm' := by
  refine ⟨fun c y k a b d => h.1 c y k a (fun z => b ⟨z.1, z.2.2, v, v0.1, v0.2, hq, z.2.1⟩) (fun z => d ⟨z.1, v, v0.1, v0.2, hq, z.2⟩), fun c y k x a b d => h.2.1 c y k x a (fun z => b ⟨z.1, z.2.2, v, v0.1, v0.2, hq, z.2.1⟩) (fun z => d ⟨z.1, v, v0.1, v0.2, hq, z.2⟩), fun u y u0 u1 => ?_, fun c i k a b => by rw [zup3_v, if_neg (by first | decide | omega)]; exact h.2.2.2.1 c i k (by first | decide | omega) b, fun c i k x a b => h.2.2.2.2.1 c i k x a (fun z => b ?_), fun q hh s s0 s1 => ?_⟩
  · by_cases e : B 6 p 0 u = B 6 p 0 v
    · rw [e]; exact h.2.2.1 y
    · unfold ownE
      have : ∀ t, B' 4 (B 6 p 0 u) 5 t = B 4 (B 6 p 0 u) 5 t := fun t => h.2.1 4 _ 5 t (by first | decide | omega) (fun z => e z.2.1) (by first | decide | omega)
      simp only [this]
  · unfold inW at z
    omega
  · by_cases e : q = B 6 p 0 v
    · rw [e]; exact k12 s s0 s1
    · rw [h.2.1 4 q 12 s (by first | decide | omega) (fun z => e z.2.1) (by first | decide | omega)]; exact hh s s0 s1
theorem VLS_n {K : zK} {Km : Nat} {N L V p w n d v : Int} {B0 Bm0 : zB} {F F' : zF} {B B' : zB} {Fm Fm' : zF} {Bm Bm' : zB} {m : Nat} {g : Int → Int} (h : VLS K Km N L V p w n d v B0 Bm0 F B Fm Bm) (vV : v < V) (f : VFR (B 6 p 0 v) v w F B Fm Bm F' B' Fm' Bm') (k12 : ∀ s, 0 ≤ s → s < 63 → r32 (B' 4 (B 6 p 0 v) 12 s)) (hD : VD K (B 6 p 0 v) v w m (barV n d) g F' B' Bm') (hbar : Fm' 13 w 7 = clB (F' 4 (B 6 p 0 v) 7) (barV n d)) (hns : NSq (F 6 p 2) (btV n d) (B 6 p 0 v) F' B') : VLS K Km N L V p w n d (v + 1) B0 Bm0 F' B' (zup3 Fm' 14 0 35 (v + 1)) Bm' := by
  obtain ⟨⟨hK, hKm, h11, h3, hp, w0, hn, hd, v0⟩, ⟨c1, c2, c3, c4, c5, c6, c7, c8, c9, c10⟩, ⟨⟨t0, t1, t2⟩, hT, hMW, hLT, hGS⟩, hU, hDs, ⟨o7, o5, o4, h12k⟩⟩ := h
  have u1 := (hU v v0.1 vV).1
  have hI : inJ (B 6 p 0 v) B := fun t t' a0 a1 b0 b1 e => (hGS.2.2.2.2 _ t _ t' u1.1 u1.2 a0 a1 u1.1 u1.2 b0 b1 e).2
  have e6 : ∀ u, B' 6 p 0 u = B 6 p 0 u := fun u => f.2.1 6 p 0 u (by first | decide | omega) (by first | decide | omega) (by first | decide | omega)
  have F6 : ∀ k, F' 6 p k = F 6 p k := fun k => f.1 6 p k (by first | decide | omega) (by first | decide | omega) (by first | decide | omega)
  have F12 : ∀ k, F' 12 0 k = F 12 0 k := fun k => f.1 12 0 k (by first | decide | omega) (by first | decide | omega) (by first | decide | omega)
  have gm : ∀ c i k, ¬ (c = 14 ∧ i = 0 ∧ (k ≤ 1 ∨ k = 17 ∨ k = 18 ∨ (35 ≤ k ∧ k ≤ 57))) → ¬ (c = 13 ∧ i = w ∧ k = 7) → zup3 Fm' 14 0 35 (v + 1) c i k = Fm c i k := fun c i k a b => by rw [zup3_v, if_neg (by first | decide | omega)]; exact f.2.2.2.1 c i k (by first | decide | omega) b
  have b3 : ∀ k y, B' 3 0 k y = B 3 0 k y := fun k y => f.2.1 3 0 k y (by first | decide | omega) (by first | decide | omega) (by first | decide | omega)
  have b10 : ∀ k y, B' 10 0 k y = B 10 0 k y := fun k y => f.2.1 10 0 k y (by first | decide | omega) (by first | decide | omega) (by first | decide | omega)
  have m14 : ∀ (k : Nat) y, k < 42 → Bm' 14 0 k y = Bm 14 0 k y := fun k y hk => f.2.2.2.2.1 14 0 k y (by first | decide | omega) (by unfold inW; omega)
  have neq : ∀ u, 0 ≤ u → u < V → ¬ u = v → ¬ B 6 p 0 u = B 6 p 0 v := fun u u0 u1' n e => n (hGS.2.2.1 p u p v hp.1 hp.2 u0 (by first | decide | omega) hp.1 hp.2 v0.1 (by first | decide | omega) (hU u u0 u1').1.1 e).2
  have own : ∀ u, 0 ≤ u → u < V → ¬ u = v → ∀ i : Int, 0 ≤ i → i < 200 → ¬ ownE B (B 6 p 0 v) (B 4 (B 6 p 0 u) 5 i) := fun u u0 u1' n i i0 i1 ⟨j, j0, j1, j2⟩ => neq u u0 u1' n (hGS.2.2.2.2 _ j _ i u1.1 u1.2 j0 j1 (hU u u0 u1').1.1 (hU u u0 u1').1.2 i0 i1 j2).1.symm
  refine ⟨⟨hK, hKm, h11, h3, hp, w0, hn, hd, (by first | decide | omega)⟩, ⟨by rw [F6]; exact c1, by rw [gm 13 w 1 (by first | decide | omega) (by first | decide | omega)]; exact c2, by rw [F6]; exact c3, by rw [F6]; exact c4, by rw [gm 13 w 4 (by first | decide | omega) (by first | decide | omega)]; exact c5, by rw [gm 13 w 5 (by first | decide | omega) (by first | decide | omega)]; exact c6, by rw [F6]; exact c7, by rw [gm 14 0 6 (by first | decide | omega) (by first | decide | omega)]; exact c8, by rw [zup3_v, if_pos (by first | decide | omega)], by rw [gm 14 0 27 (by first | decide | omega) (by first | decide | omega)]; exact c10⟩, ⟨⟨t0, t1, fun j a b => ?_⟩, ⟨fun k y => by rw [b3]; exact hT.1 k y, fun k y hk => by rw [m14 k y (by first | decide | omega)]; exact hT.2.1 k y hk, fun k y h0 h1 h2 => by rw [m14 k y (by first | decide | omega)]; exact hT.2.2.1 k y h0 h1 h2, hT.2.2.2⟩, hMW, hLT, GS_v hGS u1 hI f⟩, fun u u0 u1' => ?_, fun u u0 u1' => ?_, by rw [F12, F12, F12]; exact ⟨o7, o5, o4, h12k⟩⟩
  · have := t2 j a b
    unfold TKj at this ⊢
    simp only [b10, m14 7 _ (by decide), m14 8 _ (by decide), m14 9 _ (by decide), m14 10 _ (by decide), m14 11 _ (by decide)]
    exact this
  · obtain ⟨r1, r2, r3, r4, r5, r6, r7, r8, r9⟩ := hU u u0 u1'
    have F4 : ∀ k, k < 6 → F' 4 (B 6 p 0 u) k = F 4 (B 6 p 0 u) k := fun k hk => f.1 4 _ k (by first | decide | omega) (by first | decide | omega) (by first | decide | omega)
    rw [e6, F4 3 (by decide), F4 1 (by decide), F4 4 (by decide), m14 28 u (by decide), m14 29 u (by decide), m14 8 _ (by decide)]
    refine ⟨r1, r2, r3, r4, r5, r6, r7, fun hu => ?_, fun s s0 s1 => ?_⟩
    · rw [f.1 4 _ 6 (by first | decide | omega) (fun z => neq u u0 u1' (by first | decide | omega) z.2.1) (by first | decide | omega)]
      exact r8 (by first | decide | omega)
    · by_cases e : u = v
      · rw [e]; exact k12 s s0 s1
      · rw [f.2.1 4 _ 12 s (by first | decide | omega) (fun z => neq u u0 u1' e z.2.1) (by first | decide | omega)]
        exact r9 s s0 s1
  · rw [e6]
    by_cases e : u = v
    · rw [e, F6]; exact ⟨m, g, hD, fun _ => by rw [zup3_v, if_neg (by first | decide | omega)]; exact hbar, hns⟩
    · obtain ⟨m', g', hD', _, ns'⟩ := hDs u u0 (by first | decide | omega)
      have nq := neq u u0 (by first | decide | omega) e
      have ow := own u u0 (by first | decide | omega) e
      exact ⟨m', g', VD_f e (by omega) (by omega) (neq u u0 (by omega) e) (own u u0 (by omega) e) hD' f, fun y => by omega, by
        rw [F6]
        exact NSq_f ns' (by rw [hD'.1.1]; have := hD'.1.2; omega) (fun k => f.1 4 _ k (by first | decide | omega) (fun z => nq z.2.1) (by first | decide | omega)) (fun k x => f.2.1 4 _ k x (by first | decide | omega) (fun z => nq z.2.1) (by first | decide | omega)) (fun i i0 i1 k => f.1 1 _ k (by first | decide | omega) (by first | decide | omega) (fun z => ow i i0 i1 z.2)) (fun i i0 i1 k x => f.2.1 1 _ k x (by first | decide | omega) (by first | decide | omega) (fun z => ow i i0 i1 z.2))⟩
theorem P_vs {K : zK} {Km : Nat} {N L V p w n d l1 : Int} {B0 Bm0 : zB} : ∀ (r a b : Nat) {v : Int} {F : zF} {B : zB} {Fm : zF} {Bm : zB}, v + r = V → r + 1 < a → r + 1 < b → VLS K Km N L V p w n d v B0 Bm0 F B Fm Bm → Fm 14 0 17 = 0 → ∃ fl F' B' Fm' Bm', f_S_read_54 a K v 0 0 l1 F B = f_S_read_121 K fl 0 l1 F' B' ∧ f_M_through_5 Km b Fm Bm = f_M_through_161 Km Fm' Bm' ∧ VTF p w F B Fm Bm F' B' Fm' Bm' ∧ (∀ u, 0 ≤ u → u < V → ∀ s, 0 ≤ s → s < 63 → r32 (B' 4 (B 6 p 0 u) 12 s)) ∧ GS K B' ∧ ((fl = 0 ∧ Fm' 14 0 17 = 0 ∧ VLS K Km N L V p w n d V B0 Bm0 F' B' Fm' Bm') ∨ (bad Fm' ∧ fl = Fm' 14 0 17 + 16 * Fm' 14 0 18 ∧ 0 ≤ Fm' 14 0 18 ∧ Fm' 14 0 18 ≤ 3000)) := by
  intro r
  induction r with
  | zero =>
    intro a b v F B Fm Bm vr ha hb h h17
    obtain ⟨a, rfl⟩ : ∃ k, a = k + 1 := ⟨a - 1, (by first | decide | omega)⟩
    obtain ⟨b, rfl⟩ : ∃ k, b = k + 1 := ⟨b - 1, (by first | decide | omega)⟩
    have h' := h
    obtain ⟨⟨hK, hKm, h11, h3, hp, w0, hn, hd, v0⟩, ⟨c1, c2, c3, c4, c5, c6, c7, c8, c9, c10⟩, ⟨_, _, _, _, hGS⟩, hU, _, ⟨o7, o5, o4, h12k⟩⟩ := h
    have ev : v = V := by omega
    have rv : r32 v := by unfold r32; omega
    have rV : r32 V := by unfold r32; omega
    refine ⟨0, F, B, Fm, Bm, ?_, ?_, VTF_r, fun u u0 u1 => (hU u u0 u1).2.2.2.2.2.2.2.2, hGS, Or.inl ⟨rfl, h17, by rw [← ev]; rw [← ev] at h'; exact h'⟩⟩
    · rw [f_S_read_54, if_pos ⟨Int.le_refl _, h12k⟩, o7, if_pos hp, if_pos rv, c1, if_pos rV, if_pos (by first | decide | omega)]
    · rw [f_M_through_5, c8, if_pos w0, c9, if_pos rv, c2, if_pos rV, if_pos (by first | decide | omega)]
  | succ r ih =>
    intro a b v F B Fm Bm vr ha hb h h17
    obtain ⟨a, rfl⟩ : ∃ k, a = k + 1 := ⟨a - 1, (by first | decide | omega)⟩
    obtain ⟨b, rfl⟩ : ∃ k, b = k + 1 := ⟨b - 1, (by first | decide | omega)⟩
    have h' := h
    obtain ⟨⟨hK, hKm, h11, h3, hp, w0, hn, hd, v0⟩, ⟨c1, c2, c3, c4, c5, c6, c7, c8, c9, c10⟩, ⟨_, _, _, _, hGS⟩, hU, _, ⟨o7, o5, o4, h12k⟩⟩ := h
    have vV : v < V := by omega
    obtain ⟨fl, F1, B1, Fm1, Bm1, x1, x2, x3, x4, x5⟩ := P_vstep (a := a) (b := b) (l1 := l1) h' h17 vV
    have u1 := (hU v v0.1 vV).1
    have ft := VTF_v (p := p) (by first | decide | omega) u1.1 x4 x3
    have hI : inJ (B 6 p 0 v) B := fun t t' a0 a1 b0 b1 e => (hGS.2.2.2.2 _ t _ t' u1.1 u1.2 a0 a1 u1.1 u1.2 b0 b1 e).2
    have e6 : ∀ u, B1 6 p 0 u = B 6 p 0 u := fun u => x3.2.1 6 p 0 u (by first | decide | omega) (by first | decide | omega) (by first | decide | omega)
    rw [x1, x2]
    rcases x5 with ⟨rfl, k17, m, g, hD, hbar, hns⟩ | ⟨bd, efl, q0, q1⟩
    · have hn' := VLS_n h' vV x3 x4 hD hbar hns
      obtain ⟨fl', F2, B2, Fm2, Bm2, y1, y2, y3, y4, y5, y6⟩ := ih a b (v := v + 1) (by first | decide | omega) (by first | decide | omega) (by first | decide | omega) hn' (by rw [zup3_v, if_neg (by first | decide | omega)]; exact k17)
      refine ⟨fl', F2, B2, Fm2, Bm2, y1, y2, VTF_t ft y3, fun u u0 u1 => ?_, y5, y6⟩
      have := y4 u u0 u1
      rw [e6] at this
      exact this
    · obtain ⟨a, rfl⟩ : ∃ k, a = k + 1 := ⟨a - 1, (by first | decide | omega)⟩
      obtain ⟨b, rfl⟩ : ∃ k, b = k + 1 := ⟨b - 1, (by first | decide | omega)⟩
      have rv : r32 (v + 1) := by unfold r32; omega
      have rV : r32 V := by unfold r32; omega
      have bd' : bad (zup3 Fm1 14 0 35 (v + 1)) := by unfold bad at bd ⊢; rw [zup3_v, if_neg (by first | decide | omega)]; exact bd
      have p7 : F1 12 0 7 = p := by rw [x3.1 12 0 7 (by first | decide | omega) (by first | decide | omega) (by first | decide | omega)]; exact o7
      have p1 : F1 6 p 1 = V := by rw [x3.1 6 p 1 (by first | decide | omega) (by first | decide | omega) (by first | decide | omega)]; exact c1
      have rf : r32 fl ∧ ¬ fl = 0 := by unfold bad at bd; unfold r32; omega
      refine ⟨fl, F1, B1, _, Bm1, ?_, ?_, ft, fun u u0 u1' s s0 s1 => ?_, GS_v hGS u1 hI x3, Or.inr ⟨bd', by rw [zup3_v, if_neg (by first | decide | omega), zup3_v, if_neg (by first | decide | omega)]; exact efl, by rw [zup3_v, if_neg (by first | decide | omega)]; exact ⟨q0, q1⟩⟩⟩
      · rw [f_S_read_54, if_pos ⟨Int.le_refl _, h12k⟩, p7, if_pos hp, if_pos rv, p1, if_pos rV]
        by_cases z : V ≤ v + 1
        · rw [if_pos z]
        · rw [if_neg z, if_pos rf.1, if_neg rf.2]
      · have g6 : zup3 Fm1 14 0 35 (v + 1) 14 0 6 = w := by rw [zup3_v, if_neg (by first | decide | omega), x3.2.2.2.1 14 0 6 (by first | decide | omega) (by first | decide | omega)]; exact c8
        have g35 : zup3 Fm1 14 0 35 (v + 1) 14 0 35 = v + 1 := by rw [zup3_v, if_pos (by first | decide | omega)]
        have gV : zup3 Fm1 14 0 35 (v + 1) 13 w 1 = V := by rw [zup3_v, if_neg (by first | decide | omega), x3.2.2.2.1 13 w 1 (by first | decide | omega) (by first | decide | omega)]; exact c2
        rw [f_M_through_5, g6, if_pos w0, g35, if_pos rv, gV, if_pos rV]
        by_cases z : V ≤ v + 1
        · rw [if_pos z]
        · rw [if_neg z, L_goodB bd', zb_s, if_pos (by decide), if_pos rfl]
      · by_cases e : B 6 p 0 u = B 6 p 0 v
        · rw [e]; exact x4 s s0 s1
        · rw [x3.2.1 4 _ 12 s (by first | decide | omega) (fun z => e z.2.1) (by first | decide | omega)]
          exact (hU u u0 u1').2.2.2.2.2.2.2.2 s s0 s1
end
end
section
section
/-! ===== where the voices end, both sides ===== -/
theorem L_vend {K : zK} {Km : Nat} {q v w bar : Int} {m : Nat} {g : Int → Int} {F : zF} {B Bm : zB} {G : zF} (hKm : 812851200 < Km) (hb : 100 * bar ≤ 1000000000000) (h : VD K q v w m bar g F B Bm) : f_M_plus Km (Bm 13 w 14 (1000 * v + m - 1)) (Bm 13 w 15 (1000 * v + m - 1)) (Bm 13 w 16 (1000 * v + m - 1)) (Bm 13 w 17 (1000 * v + m - 1)) G Bm = some (0, fr G (F 4 q 7), Bm) ∧ 0 ≤ F 4 q 7 ∧ F 4 q 7 ≤ 1000000000000 := by
  obtain ⟨⟨a1, a2, a3⟩, a4, a5, a6, a7, a8, _⟩ := h
  obtain ⟨k, rfl⟩ : ∃ k, m = k + 1 := ⟨m - 1, (by first | decide | omega)⟩
  obtain ⟨ev, q1, q2, q3, q4⟩ := a8 k (by first | decide | omega)
  have l := ev.2.2.2.2.1
  have s0 := sumZ_0 a5 k (by first | decide | omega)
  have gk := a5 k (by first | decide | omega) (by first | decide | omega)
  have e : sumZ g (k + 1) = sumZ g k + g k := rfl
  rw [show 1000 * v + ((k + 1 : Nat) : Int) - 1 = 1000 * v + k by omega, q2, q3, l.1, l.2.1, q4, L_plusR hKm (FR_r s0) (FR_r (by first | decide | omega)) (by first | decide | omega), ← e, a7]
  exact ⟨rfl, (by first | decide | omega), (by first | decide | omega)⟩
theorem clB_e {S bar : Int} (h : 0 < bar) : (S + bar - 1) / bar = clB S bar := by
  have e1 := Int.mul_ediv_add_emod S bar
  have e2 := Int.emod_nonneg S (show bar ≠ 0 by omega)
  have e3 := Int.emod_lt_of_pos S h
  unfold clB
  by_cases z : S % bar = 0
  · rw [if_pos z]
    have e : S + bar - 1 = (bar - 1) + bar * (S / bar) := by omega
    rw [e, Int.add_mul_ediv_left _ _ (by first | decide | omega), Int.ediv_eq_zero_of_lt (by first | decide | omega) (by first | decide | omega)]
    omega
  · rw [if_neg z]
    have e : S + bar - 1 = (S % bar - 1) + bar * (S / bar + 1) := by rw [Int.mul_add, Int.mul_one]; omega
    rw [e, Int.add_mul_ediv_left _ _ (by first | decide | omega), Int.ediv_eq_zero_of_lt (by first | decide | omega) (by first | decide | omega)]
    omega
theorem P_ends {K : zK} {Km : Nat} {N L V p w n d : Int} {B0 Bm0 : zB} {F : zF} {B : zB} {Bm : zB} : ∀ (r a b : Nat) {k : Int} {Fm : zF}, k + r = V → 1 ≤ k → (∀ u, 0 ≤ u → u < k → F 4 (B 6 p 0 u) 7 = F 4 (B 6 p 0 0) 7) → r < a → r + 1 < b → VLS K Km N L V p w n d V B0 Bm0 F B Fm Bm → Fm 14 0 17 = 0 → ∃ fl F' Fm', f_Piece_judgeEnds_2 K a k p F B = some (fl, F', B) ∧ f_M_through_163 Km b k Fm Bm = some (0, Fm', Bm) ∧ (∀ c y j, ¬ (c = 6 ∧ y = p ∧ j = 7) → F' c y j = F c y j) ∧ (∀ c y j, ¬ (c = 14 ∧ y = 0 ∧ (j ≤ 1 ∨ j = 17 ∨ j = 18)) → Fm' c y j = Fm c y j) ∧ ((fl = 0 ∧ Fm' 14 0 17 = 0 ∧ (F' 6 p 7 = Fm' 13 w 7 ∧ 0 ≤ F' 6 p 7 ∧ F' 6 p 7 ≤ 100 ∧ ∀ u, 0 ≤ u → u < V → Fm' 13 w 7 = clB (F 4 (B 6 p 0 u) 7) (barV n d))) ∨ (bad Fm' ∧ fl = Fm' 14 0 17 + 16 * Fm' 14 0 18 ∧ 0 ≤ Fm' 14 0 18 ∧ Fm' 14 0 18 ≤ 3000)) := by
  intro r
  induction r with
  | zero =>
    intro a b k Fm kr k1 heq ha hb h h17
    obtain ⟨a, rfl⟩ : ∃ j, a = j + 1 := ⟨a - 1, (by first | decide | omega)⟩
    obtain ⟨b, rfl⟩ : ∃ j, b = j + 1 := ⟨b - 1, (by first | decide | omega)⟩
    obtain ⟨⟨hK, hKm, h11, h3, hp, w0, hn, hd, v0⟩, ⟨c1, c2, c3, c4, c5, c6, c7, c8, c9, c10⟩, _, hU, hD, _⟩ := h
    obtain ⟨bv1, _, bv3, bv4, bv5⟩ := bar_v hn hd
    obtain ⟨m, g, hd0, _⟩ := hD 0 (by decide) (by first | decide | omega)
    have q0 := (hU 0 (by decide) (by first | decide | omega)).1
    obtain ⟨_, s0, s1⟩ := L_vend (Km := Km) (G := Fm) (by first | decide | omega) (by first | decide | omega) hd0
    have s2 : F 4 (B 6 p 0 0) 7 ≤ 100 * barV n d := by rw [hd0.2.2.2.2.1]; exact hd0.2.2.2.1
    have rk : r32 k := by unfold r32; omega
    have rV : r32 V := by unfold r32; omega
    have zm : zmax (barV n d) 1 = barV n d := by unfold zmax; rw [if_neg (by first | decide | omega)]
    refine ⟨0, _, Fm, by rw [f_Piece_judgeEnds_2, if_pos hp, if_pos rk, c1, if_pos rV, if_pos (by first | decide | omega), C_bar hp c3 c4 hn hd, zb_s, if_pos (show r64 (barV n d) by unfold r64; omega), if_pos q0, zm, if_pos (lI_n0 bv4 (by unfold r64; omega))], by rw [f_M_through_163, c8, if_pos w0, if_pos rk, c2, if_pos rV, if_pos (by first | decide | omega), f_M_through_339], fun c y j hh => by rw [zup3_v, if_neg hh], fun _ _ _ _ => rfl, Or.inl ⟨rfl, h17, ?_⟩⟩
    obtain ⟨_, _, _, hbar⟩ := hD (V - 1) (by first | decide | omega) (by first | decide | omega)
    have hb7 := hbar.1 (by first | decide | omega)
    rw [heq (V - 1) (by first | decide | omega) (by first | decide | omega)] at hb7
    rw [zup3_v, if_pos (by first | decide | omega), zldv_e (by first | decide | omega) (by first | decide | omega) bv4 (by first | decide | omega), hb7]
    exact ⟨clB_e bv4, Int.ediv_nonneg (by first | decide | omega) (by first | decide | omega), Int.le_of_lt_add_one (Int.ediv_lt_of_lt_mul bv4 (by first | decide | omega)), fun u u0 u1 => by rw [heq u u0 (by first | decide | omega)]⟩
  | succ r ih =>
    intro a b k Fm kr k1 heq ha hb h h17
    obtain ⟨a, rfl⟩ : ∃ j, a = j + 1 := ⟨a - 1, (by first | decide | omega)⟩
    obtain ⟨b, rfl⟩ : ∃ j, b = j + 1 + 1 := ⟨b - 2, (by first | decide | omega)⟩
    have h' := h
    obtain ⟨⟨hK, hKm, h11, h3, hp, w0, hn, hd, v0⟩, ⟨c1, c2, c3, c4, c5, c6, c7, c8, c9, c10⟩, hS, hU, hD, hO⟩ := h
    obtain ⟨bv1, _, bv3, bv4, bv5⟩ := bar_v hn hd
    obtain ⟨m0, g0, d0, _⟩ := hD 0 (by decide) (by first | decide | omega)
    obtain ⟨mk, gk, dk, _⟩ := hD k (by first | decide | omega) (by first | decide | omega)
    have q0 := (hU 0 (by decide) (by first | decide | omega)).1
    obtain ⟨qk, tk, _, t28, _⟩ := hU k (by first | decide | omega) (by first | decide | omega)
    obtain ⟨e1, s0, s1⟩ := L_vend (Km := Km) (G := Fm) (by first | decide | omega) (by first | decide | omega) dk
    obtain ⟨e2, z0, z1⟩ := L_vend (Km := Km) (G := fr Fm (F 4 (B 6 p 0 k) 7)) (by first | decide | omega) (by first | decide | omega) d0
    have rk : r32 k := by unfold r32; omega
    have rk1 : r32 (k + 1) := by unfold r32; omega
    have rV : r32 V := by unfold r32; omega
    have mk0 := dk.1
    have m00 := d0.1
    have e12k := dk.2.1
    have e120 := d0.2.1
    have g6 : fr Fm (F 4 (B 6 p 0 k) 7) 14 0 6 = w := by rw [fr_n (by first | decide | omega)]; exact c8
    have mE : f_M_through_163 Km (b + 1 + 1) k Fm Bm = if F 4 (B 6 p 0 k) 7 = F 4 (B 6 p 0 0) 7 then f_M_through_163 Km (b + 1) (k + 1) (fr (fr Fm (F 4 (B 6 p 0 k) 7)) (F 4 (B 6 p 0 0) 7)) Bm else f_M_through_163 Km (b + 1) (k + 1) (flM (fr (fr Fm (F 4 (B 6 p 0 k) 7)) (F 4 (B 6 p 0 0) 7)) Bm 6 (Bm 14 0 28 k)) Bm := by
      have i17 : fr (fr Fm (F 4 (B 6 p 0 k) 7)) (F 4 (B 6 p 0 0) 7) 14 0 17 = 0 := by rw [fr_n (by first | decide | omega), fr_n (by first | decide | omega)]; exact h17
      rw [show 1000 * 0 + (m0 : Int) - 1 = (m0 : Int) - 1 by omega] at e2
      rw [f_M_through_163, c8, if_pos w0, if_pos rk, c2, if_pos rV, if_neg (show ¬ V ≤ k by omega), L_good h17, zb_s, if_pos (show r32 1 by decide), if_neg (show ¬ (1 : Int) = 0 by decide), c8, if_pos w0, if_pos (show 0 ≤ k ∧ k < 4 by omega), e12k, if_pos (show 0 ≤ 1000 * k + (mk : Int) - 1 ∧ 1000 * k + (mk : Int) - 1 < 4000 by omega), e1, zb_s, g6, if_pos w0, e120, if_pos (show 0 ≤ (m0 : Int) - 1 ∧ (m0 : Int) - 1 < 4000 by omega), e2, zb_s, fr_0, fr_1, fr_0, fr_1, L_cmpR (by first | decide | omega) (FR_r s0) (FR_r z0) (by first | decide | omega) (by first | decide | omega), zb_s]
      simp only [f_M_through_333]
      by_cases y : F 4 (B 6 p 0 k) 7 = F 4 (B 6 p 0 0) 7
      · rw [if_pos y, if_neg (show ¬ F 4 (B 6 p 0 k) 7 < F 4 (B 6 p 0 0) 7 by omega), if_pos y, if_pos (show r32 0 by decide), if_pos (show (0 : Int) = 0 from rfl)]
      · rw [if_neg y, if_neg y]
        have nz : r32 (if F 4 (B 6 p 0 k) 7 < F 4 (B 6 p 0 0) 7 then (-1 : Int) else 1) ∧ ¬ (if F 4 (B 6 p 0 k) 7 < F 4 (B 6 p 0 0) 7 then (-1 : Int) else 1) = 0 := by
          by_cases x : F 4 (B 6 p 0 k) 7 < F 4 (B 6 p 0 0) 7
          · rw [if_pos x]; decide
          · rw [if_neg x]; decide
        rw [if_pos nz.1, if_neg nz.2, L_failAt i17 (by first | decide | omega), zb_s]
    have cE : f_Piece_judgeEnds_2 K (a + 1) k p F B = if F 4 (B 6 p 0 k) 7 = F 4 (B 6 p 0 0) 7 then f_Piece_judgeEnds_2 K a (k + 1) p F B else some (6 + 16 * F 4 (B 6 p 0 k) 3, F, B) := by
      rw [f_Piece_judgeEnds_2, if_pos hp, if_pos rk, c1, if_pos rV, if_neg (show ¬ V ≤ k by omega), if_pos (show 0 ≤ k ∧ k < 4 by omega), if_pos qk, if_pos q0, if_pos (show r64 (F 4 (B 6 p 0 k) 7) by unfold r64; omega), if_pos (show r64 (F 4 (B 6 p 0 0) 7) by unfold r64; omega)]
      by_cases y : F 4 (B 6 p 0 k) 7 = F 4 (B 6 p 0 0) 7
      · rw [if_pos y, if_pos (zcmp_0.mpr y)]
      · rw [if_neg y, if_neg (fun z => y (zcmp_0.mp z))]
    rw [mE, cE]
    have gn : ∀ c y j, ¬ (c = 14 ∧ y = 0 ∧ j ≤ 1) → fr (fr Fm (F 4 (B 6 p 0 k) 7)) (F 4 (B 6 p 0 0) 7) c y j = Fm c y j := fun c y j hh => by rw [fr_n hh, fr_n hh]
    by_cases y : F 4 (B 6 p 0 k) 7 = F 4 (B 6 p 0 0) 7
    · rw [if_pos y, if_pos y]
      have h2 : VLS K Km N L V p w n d V B0 Bm0 F B (fr (fr Fm (F 4 (B 6 p 0 k) 7)) (F 4 (B 6 p 0 0) 7)) Bm := ⟨⟨hK, hKm, h11, h3, hp, w0, hn, hd, v0⟩, ⟨c1, by rw [gn 13 w 1 (by first | decide | omega)]; exact c2, c3, c4, by rw [gn 13 w 4 (by first | decide | omega)]; exact c5, by rw [gn 13 w 5 (by first | decide | omega)]; exact c6, c7, by rw [gn 14 0 6 (by first | decide | omega)]; exact c8, by rw [gn 14 0 35 (by first | decide | omega)]; exact c9, by rw [gn 14 0 27 (by first | decide | omega)]; exact c10⟩, hS, hU, fun u u0 u1 => by
        obtain ⟨m, g, x, y⟩ := hD u u0 u1
        exact ⟨m, g, x, fun e => by rw [gn 13 w 7 (by first | decide | omega)]; exact y.1 e, y.2⟩, hO⟩
      obtain ⟨fl, F', Fm', x1, x2, x3, x4, x5⟩ := ih a (b + 1) (k := k + 1) (Fm := fr (fr Fm (F 4 (B 6 p 0 k) 7)) (F 4 (B 6 p 0 0) 7)) (by first | decide | omega) (by first | decide | omega) (fun u u0 u1 => by
        by_cases e : u = k
        · rw [e]; exact y
        · exact heq u u0 (by first | decide | omega)) (by first | decide | omega) (by first | decide | omega) h2 (by rw [gn _ _ _ (by first | decide | omega)]; exact h17)
      exact ⟨fl, F', Fm', x1, x2, x3, fun c y' j hh => by rw [x4 c y' j hh, gn c y' j (by first | decide | omega)], x5⟩
    · rw [if_neg y, if_neg y]
      have bd : bad (flM (fr (fr Fm (F 4 (B 6 p 0 k) 7)) (F 4 (B 6 p 0 0) 7)) Bm 6 (Bm 14 0 28 k)) := flM_b (by decide) (by decide)
      refine ⟨_, F, flM (fr (fr Fm (F 4 (B 6 p 0 k) 7)) (F 4 (B 6 p 0 0) 7)) Bm 6 (Bm 14 0 28 k), rfl, ?_, fun _ _ _ _ => rfl, fun c y' j hh => by rw [flM_n (by first | decide | omega), gn c y' j (by first | decide | omega)], Or.inr ⟨bd, by rw [flM_17, flM_18, tk.1], by rw [flM_18, ← tk.1]; exact tk.2⟩⟩
      have i6 : flM (fr (fr Fm (F 4 (B 6 p 0 k) 7)) (F 4 (B 6 p 0 0) 7)) Bm 6 (Bm 14 0 28 k) 14 0 6 = w := by rw [flM_n (by decide), gn _ _ _ (by first | decide | omega)]; exact c8
      have i1 : flM (fr (fr Fm (F 4 (B 6 p 0 k) 7)) (F 4 (B 6 p 0 0) 7)) Bm 6 (Bm 14 0 28 k) 13 w 1 = V := by rw [flM_n (by first | decide | omega), gn _ _ _ (by first | decide | omega)]; exact c2
      rw [f_M_through_163, i6, if_pos w0, if_pos rk1, i1, if_pos rV]
      simp only [f_M_through_339]
      by_cases z : V ≤ k + 1
      · rw [if_pos z]
      · rw [if_neg z, L_goodB bd, zb_s, if_pos (show r32 0 by decide), if_pos (show (0 : Int) = 0 from rfl)]
end
end
section
section
/-! ===== a text parsed: the voices can be walked ===== -/
def byB (N : Int) (Bm : zB) : zB := fun c i k y => if c = 14 ∧ i = 0 ∧ (k = 30 ∨ k = 31) ∧ N ≤ y then y else Bm c i k y
theorem byB_n {N : Int} {Bm : zB} {c k : Nat} {i y : Int} (h : ¬ (c = 14 ∧ i = 0 ∧ (k = 30 ∨ k = 31) ∧ N ≤ y)) : byB N Bm c i k y = Bm c i k y := by
  unfold byB
  rw [if_neg h]
theorem VLS_0 {K : zK} {Km : Nat} {N L V p w : Int} {F : zF} {B : zB} {Fm : zF} {Bm : zB} (h : VI K Km N L V N p w F B Fm Bm) (hKm : 70000000000 < Km) (h11 : 0 < K.2 11) (h12 : 0 < K.2 12) (o7 : F 12 0 7 = p) (o5 : F 12 0 5 = 0) (o4 : F 12 0 4 = 0) (hr : ∀ u, 0 ≤ u → u < V → ∀ s, 0 ≤ s → s < 63 → r32 (B 4 (B 6 p 0 u) 12 s)) : VLS K Km N L V p w (F 6 p 4) (F 6 p 5) 0 B (byB N Bm) F B (zup3 Fm 14 0 35 0) Bm := by
  obtain ⟨⟨hE, hS, hP, hLT, _, _, _, hSL⟩, hGS, hV1, hV2, hV3, hVv⟩ := h
  obtain ⟨hTK, hMW, _, k3, _, hK, _⟩ := hE
  obtain ⟨hp, w0, h6, h2, _, ⟨e4, n0, n1⟩, ⟨e5, hd⟩, _⟩ := hP
  obtain ⟨_, l27, l6, hl⟩ := hLT
  have am : agM L 0 N Bm (byB N Bm) := ⟨fun k y _ _ _ h4 => byB_n (by first | decide | omega), fun k h0 h1 => by funext y; exact byB_n (by first | decide | omega), fun q _ _ => byB_n (by first | decide | omega)⟩
  have gn : ∀ c i k, ¬ (c = 14 ∧ i = 0 ∧ k = 35) → zup3 Fm 14 0 35 0 c i k = Fm c i k := fun c i k hh => by rw [zup3_v, if_neg hh]
  have row : ∀ k : Nat, ¬ (k = 30 ∨ k = 31) → byB N Bm 14 0 k = Bm 14 0 k := fun k hk => by funext y; exact byB_n (fun z => hk z.2.2.1)
  refine ⟨⟨hK, hKm, h11, k3, hp, w0, ⟨n0, n1⟩, hd, (by first | decide | omega)⟩, ⟨hV1, by rw [gn 13 w 1 (by first | decide | omega)]; exact hV2, rfl, rfl, by rw [gn 13 w 4 (by first | decide | omega)]; exact e4.symm, by rw [gn 13 w 5 (by first | decide | omega)]; exact e5.symm, h2.2, by rw [gn 14 0 6 (by first | decide | omega)]; exact h6, by rw [zup3_v, if_pos (by first | decide | omega)], by rw [gn 14 0 27 (by first | decide | omega)]; exact l27⟩, ⟨hTK, ⟨fun _ _ => rfl, fun k y hk => (byB_n (by first | decide | omega)).symm, fun k y _ _ hy => (byB_n (by first | decide | omega)).symm, fun y hy => ?_⟩, ?_, ⟨l6, fun q q0 q1 => ?_⟩, hGS⟩, fun u u0 u1 => ?_, fun u u0 u1 => (by first | decide | omega), o7, o5, o4, h12⟩
  · unfold byB
    rw [if_pos (by first | decide | omega), if_pos (by first | decide | omega)]
    exact ⟨Int.le_refl _, Int.le_refl _⟩
  · unfold MW at hMW ⊢
    rw [row 13 (by decide), row 14 (by decide), row 15 (by decide)]
    exact hMW
  · obtain ⟨q2, q3, q4, q5⟩ := hl q q0 q1
    obtain ⟨s1, s2⟩ := hSL q q0 q1 B (byB N Bm) agB_r am (fun r _ _ => byB_n (by first | decide | omega))
    refine ⟨⟨q4, q5⟩, by rw [byB_n (by first | decide | omega), ← q2]; exact q3, s1, s2⟩
  · obtain ⟨⟨r1, r2, r3, r4, r5, r6, r7, r8, r9, r10, r11⟩, sv⟩ := hVv u u0 u1
    exact ⟨r1, r6, r4.2, r7, r8, r9, sv B (byB N Bm) agB_r am, fun _ => r10, hr u u0 u1⟩
end
end
section
section
/-! ===== the voices of a text, both sides, up to what is kept of the piece ===== -/
theorem VLS_F {K : zK} {Km : Nat} {N L V p w n d v : Int} {B0 Bm0 : zB} {F F' : zF} {B : zB} {Fm : zF} {Bm : zB} (h : VLS K Km N L V p w n d v B0 Bm0 F B Fm Bm) (f : ∀ c y k, ¬ c = 0 → F' c y k = F c y k) : VLS K Km N L V p w n d v B0 Bm0 F' B Fm Bm := by
  have e1 : F' 1 = F 1 := by funext y k; exact f 1 y k (by decide)
  have e4 : F' 4 = F 4 := by funext y k; exact f 4 y k (by decide)
  have e6 : F' 6 = F 6 := by funext y k; exact f 6 y k (by decide)
  have e12 : F' 12 = F 12 := by funext y k; exact f 12 y k (by decide)
  unfold VLS VD EVW EPR SLs BW TIk NW QN NSq cD at h ⊢
  rw [e1, e4, e6, e12]
  exact h
theorem P_thr {K : zK} {Km : Nat} {N L V p w l1 : Int} {F : zF} {B : zB} {Fm : zF} {Bm : zB} (h : VI K Km N L V N p w F B Fm Bm) (V1 : 1 ≤ V) (hKm : 70000000000 < Km) (h0 : 0 < K.2 0) (h11 : 0 < K.2 11) (h12 : 0 < K.2 12) (o0 : F 12 0 0 = 0) (o7 : F 12 0 7 = p) (o5 : F 12 0 5 = 0) (o4 : F 12 0 4 = 0) (h17 : Fm 14 0 17 = 0) (hr : ∀ u, 0 ≤ u → u < V → ∀ s, 0 ≤ s → s < 63 → r32 (B 4 (B 6 p 0 u) 12 s)) : ∃ fl F1 F' B' Fm1 Fm' Bm', f_S_read_54 K.1 K 0 0 0 l1 F B = f_S_read_140 K fl 0 l1 F' B' ∧ f_M_through Km Fm Bm = some (0, Fm', Bm') ∧ VTF p w F B (zup3 Fm 14 0 35 0) Bm F1 B' Fm1 Bm' ∧ (∀ c y k, ¬ (c = 0 ∧ y = 0 ∧ (k = 1 ∨ k = 2)) → ¬ (c = 6 ∧ y = p ∧ k = 7) → F' c y k = F1 c y k) ∧ (F' 0 0 1 = 0 ∧ F' 0 0 2 = 0) ∧ (∀ c y j, ¬ (c = 14 ∧ y = 0 ∧ (j ≤ 1 ∨ j = 17 ∨ j = 18)) → Fm' c y j = Fm1 c y j) ∧ (∀ u, 0 ≤ u → u < V → ∀ s, 0 ≤ s → s < 63 → r32 (B' 4 (B 6 p 0 u) 12 s)) ∧ GS K B' ∧ r32 fl ∧ ((fl = 0 ∧ Fm' 14 0 17 = 0 ∧ (F' 6 p 7 = Fm' 13 w 7 ∧ 0 ≤ F' 6 p 7 ∧ F' 6 p 7 ≤ 100 ∧ ∀ u, 0 ≤ u → u < V → Fm' 13 w 7 = clB (F1 4 (B' 6 p 0 u) 7) (barV (F 6 p 4) (F 6 p 5))) ∧ VLS K Km N L V p w (F 6 p 4) (F 6 p 5) V B (byB N Bm) F1 B' Fm1 Bm') ∨ (bad Fm' ∧ fl = Fm' 14 0 17 + 16 * Fm' 14 0 18 ∧ 0 ≤ Fm' 14 0 18 ∧ Fm' 14 0 18 ≤ 3000)) := by
  have hS := VLS_0 h hKm h11 h12 o7 o5 o4 hr
  have hK := hS.1.1
  have hp := hS.1.2.2.2.2.1
  have w0 := hS.1.2.2.2.2.2.1
  have v4 := hS.1.2.2.2.2.2.2.2.2
  obtain ⟨fl, F1, B1, Fm1, Bm1, x1, x2, x3, x4, x5, x6⟩ := P_vs (l1 := l1) V.toNat K.1 Km (v := 0) (by first | decide | omega) (by first | decide | omega) (by first | decide | omega) hS (by rw [zup3_v, if_neg (by first | decide | omega)]; exact h17)
  have F12 : ∀ k, F1 12 0 k = F 12 0 k := fun k => x3.1 12 0 k (by first | decide | omega) (by first | decide | omega) (by first | decide | omega)
  have cn : ∀ c y k, ¬ (c = 0 ∧ y = 0 ∧ (k = 1 ∨ k = 2)) → zup3 (zup3 F1 0 0 1 0) 0 0 2 0 c y k = F1 c y k := fun c y k hh => by rw [zup3_v, if_neg (by first | decide | omega), zup3_v, if_neg (by first | decide | omega)]
  have cl : f_ByteRow_clear K 0 F1 B1 = some (0, zup3 (zup3 F1 0 0 1 0) 0 0 2 0, B1) := by
    unfold f_ByteRow_clear
    rw [if_pos ⟨Int.le_refl _, h0⟩]
  have z1 : zup3 (zup3 F1 0 0 1 0) 0 0 2 0 0 0 1 = 0 := by rw [zup3_v, if_neg (by first | decide | omega), zup3_v, if_pos (by first | decide | omega)]
  have z2 : zup3 (zup3 F1 0 0 1 0) 0 0 2 0 0 0 2 = 0 := by rw [zup3_v, if_pos (by first | decide | omega)]
  have z7 : zup3 (zup3 F1 0 0 1 0) 0 0 2 0 12 0 7 = p := by rw [cn 12 0 7 (by first | decide | omega), F12]; exact o7
  have c121 : f_S_read_121 K fl 0 l1 F1 B1 = if r32 fl then (if fl = 0 then zbindN (f_Piece_judgeEnds K p (zup3 (zup3 F1 0 0 1 0) 0 0 2 0) B1) (fun r41 F41 B41 => f_S_read_140 K r41 0 l1 F41 B41) else f_S_read_140 K fl 0 l1 (zup3 (zup3 F1 0 0 1 0) 0 0 2 0) B1) else none := by
    unfold f_S_read_121
    rw [if_pos ⟨Int.le_refl _, h12⟩, F12, o0, if_pos ⟨Int.le_refl _, h0⟩, cl, zbN_s, z7, if_pos hp]
  have tE : f_M_through Km Fm Bm = f_M_through_163 Km Km 1 Fm1 Bm1 := by
    unfold f_M_through
    rw [x2, f_M_through_161]
  rw [x1, c121, tE]
  rcases x6 with ⟨rfl, k17, hV⟩ | ⟨bd, efl, q0, q1⟩
  · obtain ⟨r2, F2, Fm2, y1, y2, y3, y4, y5⟩ := P_ends (V.toNat - 1) K.1 Km (k := 1) (by first | decide | omega) (by decide) (fun u u0 u1 => by rw [show u = 0 by omega]) (by first | decide | omega) (by first | decide | omega) (VLS_F hV (F' := zup3 (zup3 F1 0 0 1 0) 0 0 2 0) (fun c y k hc => cn c y k (by first | decide | omega))) k17
    rw [if_pos (by decide), if_pos rfl, f_Piece_judgeEnds, y1, zbN_s, y2]
    refine ⟨r2, F1, F2, B1, Fm1, Fm2, Bm1, rfl, rfl, x3, fun c y k a b => by rw [y3 c y k b, cn c y k a], ⟨by rw [y3 0 0 1 (by first | decide | omega)]; exact z1, by rw [y3 0 0 2 (by first | decide | omega)]; exact z2⟩, y4, x4, x5, ?_, ?_⟩
    · rcases y5 with ⟨rfl, _⟩ | ⟨bd, e, q0, q1⟩
      · decide
      · unfold bad at bd; unfold r32; omega
    · rcases y5 with ⟨a, b, c⟩ | hb
      · refine Or.inl ⟨a, b, ⟨c.1, c.2.1, c.2.2.1, fun u u0 u1 => ?_⟩, hV⟩
        have := c.2.2.2 u u0 u1
        rw [cn 4 _ 7 (by first | decide | omega)] at this
        exact this
      · exact Or.inr hb
  · have rf : r32 fl ∧ ¬ fl = 0 := by unfold bad at bd; unfold r32; omega
    rw [if_pos rf.1, if_neg rf.2]
    refine ⟨fl, F1, _, B1, Fm1, Fm1, Bm1, rfl, ?_, x3, fun c y k a _ => cn c y k a, ⟨z1, z2⟩, fun _ _ _ _ => rfl, x4, x5, rf.1, Or.inr ⟨bd, efl, q0, q1⟩⟩
    have g6 : Fm1 14 0 6 = w := by rw [x3.2.2.2.1 14 0 6 (by first | decide | omega) (by first | decide | omega)]; exact hS.2.1.2.2.2.2.2.2.2.1
    have gV : Fm1 13 w 1 = V := by rw [x3.2.2.2.1 13 w 1 (by first | decide | omega) (by first | decide | omega)]; exact hS.2.1.2.1
    obtain ⟨j, hj⟩ : ∃ j, Km = j + 1 := ⟨Km - 1, (by first | decide | omega)⟩
    rw [show f_M_through_163 Km Km = f_M_through_163 Km (j + 1) by rw [← hj], f_M_through_163, g6, if_pos w0, if_pos (by decide), gV, if_pos (by unfold r32; omega)]
    simp only [f_M_through_339]
    by_cases z : V ≤ 1
    · rw [if_pos z]
    · rw [if_neg z, L_goodB bd, zb_s, if_pos (by decide), if_pos rfl]
end
end
section
section
/-! ===== a text with a fault: the class's read ends ===== -/
theorem C_rdX {K : zK} {p r l1 : Int} {F : zF} {B : zB} (hK : 3002 ≤ K.1) (h0 : 0 < K.2 0) (h12 : 0 < K.2 12) (hp : 0 ≤ p ∧ p < K.2 6) (o7 : F 12 0 7 = p) (o0 : F 12 0 0 = 0) (rV : r32 (F 6 p 1)) (rr : r32 r) (rz : ¬ r = 0) : f_S_read_54 K.1 K 0 r 0 l1 F B = some (r, zup3 (zup3 F 0 0 1 0) 0 0 2 0, B, K) := by
  obtain ⟨k, hk⟩ : ∃ k, K.1 = k + 1 := ⟨K.1 - 1, (by first | decide | omega)⟩
  have c121 : f_S_read_121 K r 0 l1 F B = some (r, zup3 (zup3 F 0 0 1 0) 0 0 2 0, B, K) := by
    unfold f_S_read_121 f_ByteRow_clear f_S_read_140
    rw [if_pos ⟨Int.le_refl _, h12⟩, o0, if_pos ⟨Int.le_refl _, h0⟩, if_pos ⟨Int.le_refl _, h0⟩, zbN_s, if_pos rr, if_neg rz, if_pos rr, if_neg rz]
  rw [show f_S_read_54 K.1 = f_S_read_54 (k + 1) by rw [← hk], f_S_read_54, if_pos ⟨Int.le_refl _, h12⟩, o7, if_pos hp, if_pos (by decide), if_pos rV]
  by_cases z : F 6 p 1 ≤ 0
  · rw [if_pos z, c121]
  · rw [if_neg z, if_pos rr, if_neg rz, c121]
end
end
section
section
/-! ===== the reference's events learn the places of their tokens ===== -/
theorem L_r70 {K m : Nat} {rec : Int → Int → zF → zB → zO} {u w l1 : Int} {F : zF} (w0 : 0 ≤ w ∧ w < 3) (h6 : F 14 0 6 = w) (u0 : 0 ≤ u ∧ u < 4) (m1 : m ≤ 200) : ∀ (r n k : Nat) {B : zB}, k + r = m → r < n → B 13 w 12 u = m → (∀ i : Nat, k ≤ i → i < m → 0 ≤ B 13 w 20 (1000 * u + i) ∧ B 13 w 20 (1000 * u + i) ≤ 3000) → ∃ B', f_M_read_70 rec K n k u l1 F B = rec (u + 1) l1 F B' ∧ (∀ i : Nat, k ≤ i → i < m → B' 13 w 20 (1000 * u + i) = B 14 0 8 (B 13 w 20 (1000 * u + i))) ∧ (∀ c y j x, ¬ (c = 13 ∧ y = w ∧ j = 20 ∧ 1000 * u + k ≤ x ∧ x < 1000 * u + m) → B' c y j x = B c y j x) := by
  intro r
  induction r with
  | zero =>
    intro n k B kr hn h12 ht
    obtain ⟨n, rfl⟩ : ∃ j, n = j + 1 := ⟨n - 1, (by first | decide | omega)⟩
    have rk : r32 (k : Int) := by unfold r32; omega
    have rm : r32 (m : Int) := by unfold r32; omega
    rw [f_M_read_70, h6, if_pos w0, if_pos u0, if_pos rk, h12, if_pos rm, if_pos (by first | decide | omega)]
    exact ⟨B, rfl, fun i a b => (by first | decide | omega), fun _ _ _ _ _ => rfl⟩
  | succ r ih =>
    intro n k B kr hn h12 ht
    obtain ⟨n, rfl⟩ : ∃ j, n = j + 1 := ⟨n - 1, (by first | decide | omega)⟩
    have rk : r32 (k : Int) := by unfold r32; omega
    have rm : r32 (m : Int) := by unfold r32; omega
    have tk := ht k (Nat.le_refl _) (by first | decide | omega)
    rw [f_M_read_70, h6, if_pos w0, if_pos u0, if_pos rk, h12, if_pos rm, if_neg (by first | decide | omega), if_pos (by first | decide | omega), if_pos (by first | decide | omega)]
    generalize hC : zup4 B 13 w 20 (1000 * u + k) (B 14 0 8 (B 13 w 20 (1000 * u + k))) = C
    have cn : ∀ c y j x, ¬ (c = 13 ∧ y = w ∧ j = 20 ∧ x = 1000 * u + k) → C c y j x = B c y j x := fun c y j x hh => by rw [← hC, zup4_v, if_neg hh]
    have cv : C 13 w 20 (1000 * u + k) = B 14 0 8 (B 13 w 20 (1000 * u + k)) := by rw [← hC, zup4_v, if_pos (by first | decide | omega)]
    obtain ⟨B', g1, g2, g3⟩ := ih n (k + 1) (B := C) (by first | decide | omega) (by first | decide | omega) (by rw [cn 13 w 12 u (by first | decide | omega)]; exact h12) (fun i a b => by rw [cn 13 w 20 _ (by first | decide | omega)]; exact ht i (by first | decide | omega) b)
    rw [show ((k + 1 : Nat) : Int) = (k : Int) + 1 by omega] at g1
    refine ⟨B', g1, fun i a b => ?_, fun c y j x hh => by rw [g3 c y j x (by first | decide | omega), cn c y j x (by first | decide | omega)]⟩
    by_cases e : i = k
    · rw [e, g3 13 w 20 _ (by first | decide | omega), cv]
    · rw [g2 i (by first | decide | omega) b, cn 14 0 8 _ (by first | decide | omega), cn 13 w 20 _ (by first | decide | omega)]
end
end
section
section
/-! ===== the same, for all voices ===== -/
theorem L_r57 {K : Nat} {w V l1 : Int} {F : zF} (hK : 3002 ≤ K) (w0 : 0 ≤ w ∧ w < 3) (h6 : F 14 0 6 = w) (hV : F 13 w 1 = V) (V4 : V ≤ 4) : ∀ (r n : Nat) {u : Int} {B : zB}, u + r = V → 0 ≤ u → r < n → (∀ t, u ≤ t → t < V → ∃ m : Nat, B 13 w 12 t = m ∧ m ≤ 200 ∧ ∀ i : Nat, i < m → 0 ≤ B 13 w 20 (1000 * t + i) ∧ B 13 w 20 (1000 * t + i) ≤ 3000) → ∃ B' n', 0 < n' ∧ f_M_read_57 K n u l1 F B = f_M_read_57 K n' V l1 F B' ∧ (∀ (t : Int) (m i : Nat), u ≤ t → t < V → B 13 w 12 t = m → i < m → B' 13 w 20 (1000 * t + i) = B 14 0 8 (B 13 w 20 (1000 * t + i))) ∧ (∀ c y j x, ¬ (c = 13 ∧ y = w ∧ j = 20 ∧ 1000 * u ≤ x) → B' c y j x = B c y j x) := by
  intro r
  induction r with
  | zero =>
    intro n u B ur u0 hn ht
    rw [show u = V by omega]
    exact ⟨B, n, (by first | decide | omega), rfl, fun t m i a b => (by first | decide | omega), fun _ _ _ _ _ => rfl⟩
  | succ r ih =>
    intro n u B ur u0 hn ht
    obtain ⟨n, rfl⟩ : ∃ j, n = j + 1 := ⟨n - 1, (by first | decide | omega)⟩
    have ru : r32 u := by unfold r32; omega
    have rV : r32 V := by unfold r32; omega
    obtain ⟨m, e12, m1, hb⟩ := ht u (Int.le_refl _) (by first | decide | omega)
    obtain ⟨C, g1, g2, g3⟩ := L_r70 (K := K) (rec := f_M_read_57 K n) (l1 := l1) (F := F) w0 h6 (by first | decide | omega) m1 m K 0 (B := B) (by first | decide | omega) (by first | decide | omega) e12 (fun i _ b => hb i b)
    rw [f_M_read_57, h6, if_pos w0, if_pos ru, hV, if_pos rV, if_neg (by first | decide | omega)]
    have g1' : f_M_read_70 (f_M_read_57 K n) K K 0 u l1 F B = f_M_read_57 K n (u + 1) l1 F C := g1
    rw [g1']
    obtain ⟨B', n', n0, k1, k2, k3⟩ := ih n (u := u + 1) (B := C) (by first | decide | omega) (by first | decide | omega) (by first | decide | omega) (fun t a b => by
      obtain ⟨m', x1, x2, x3⟩ := ht t (by first | decide | omega) b
      refine ⟨m', by rw [g3 13 w 12 t (by first | decide | omega)]; exact x1, x2, fun i hi => ?_⟩
      rw [g3 13 w 20 _ (by first | decide | omega)]
      exact x3 i hi)
    refine ⟨B', n', n0, k1, fun t m' i a b c hi => ?_, fun c y j x hh => by rw [k3 c y j x (by first | decide | omega), g3 c y j x (by first | decide | omega)]⟩
    by_cases e : t = u
    · subst e
      have em : m' = m := by omega
      subst em
      have kf : B' 13 w 20 (1000 * t + i) = C 13 w 20 (1000 * t + i) := by
        exact k3 13 w 20 _ (by first | decide | omega)
      rw [kf]
      exact g2 i (by first | decide | omega) hi
    · obtain ⟨m'', x1, x2, x3⟩ := ht t (by first | decide | omega) b
      rw [k2 t m' i (by first | decide | omega) b (by rw [g3 13 w 12 t (by first | decide | omega)]; exact c) hi, g3 13 w 20 _ (by first | decide | omega), g3 14 0 8 _ (by first | decide | omega)]
end
end
section
section
/-! ===== a function returns: one side alone ===== -/
def zS (x : zO) (Q : Int → zF → zB → Prop) : Prop := ∃ r F B, x = some (r, F, B) ∧ Q r F B
theorem zS_s {r : Int} {F : zF} {B : zB} {Q : Int → zF → zB → Prop} (h : Q r F B) : zS (some (r, F, B)) Q := ⟨r, F, B, rfl, h⟩
theorem zS_g {c : Prop} [Decidable c] {x : zO} {Q : Int → zF → zB → Prop} (h : c) (hx : zS x Q) : zS (if c then x else none) Q := by rw [if_pos h]; exact hx
theorem zS_i {c : Prop} [Decidable c] {x y : zO} {Q : Int → zF → zB → Prop} (h1 : c → zS x Q) (h2 : ¬ c → zS y Q) : zS (if c then x else y) Q := by
  by_cases h : c
  · rw [if_pos h]; exact h1 h
  · rw [if_neg h]; exact h2 h
theorem zS_b {x : zO} {k : Int → zF → zB → zO} {P Q : Int → zF → zB → Prop} (h : zS x P) (hk : ∀ r F B, P r F B → zS (k r F B) Q) : zS (zbind x k) Q := by
  obtain ⟨r, F, B, e, hp⟩ := h
  rw [e, zb_s]
  exact hk r F B hp
theorem zS_m {x : zO} {P Q : Int → zF → zB → Prop} (h : zS x P) (hk : ∀ r F B, P r F B → Q r F B) : zS x Q := by
  obtain ⟨r, F, B, e, hp⟩ := h
  exact ⟨r, F, B, e, hk r F B hp⟩
theorem zS_e {x : zO} {r : Int} {F : zF} {B : zB} {P : Int → Prop} (e : x = some (r, F, B)) (h : P r) : zS x (fun r F' B' => F' = F ∧ B' = B ∧ P r) := ⟨r, F, B, e, rfl, rfl, h⟩
theorem zand_R (a b : Int) : r32 (zand a b) := toI_r _
theorem zor_R (a b : Int) : r32 (zor a b) := toI_r _
theorem zshl_R (a b : Int) : r32 (zshl a b) := toI_r _
theorem zdv_R (a b : Int) : r32 (zdv a b) := toI_r _
theorem zrm_R (a b : Int) : r32 (zrm a b) := toI_r _
theorem zshr_R (a b : Int) : r32 (zshr a b) := toI_r _
/-! ===== a piece that has been read, as the reference keeps it ===== -/
/-- event x of voice u -/
def RE (u w : Int) (B : zB) (x : Int) : Prop := (0 ≤ B 13 w 18 x ∧ B 13 w 18 x < 128) ∧ (0 ≤ B 13 w 19 x ∧ B 13 w 19 x ≤ 7) ∧ (0 ≤ B 13 w 21 x ∧ B 13 w 21 x ≤ 6) ∧ (B 13 w 27 x = 0 ∨ B 13 w 27 x = 1) ∧ (zand (B 13 w 18 x) 1 ≤ 0 ∨ x + 1 < 1000 * u + B 13 w 12 u)
def RP (w : Int) (B : zB) (x : Int) : Prop := ∀ k, 0 ≤ k → k < B 13 w 21 x → (0 ≤ B 13 w 28 (6 * x + k) ∧ B 13 w 28 (6 * x + k) ≤ 62) ∧ (-2 ≤ B 13 w 29 (6 * x + k) ∧ B 13 w 29 (6 * x + k) ≤ 2)
def RF (w : Int) (B : zB) (x : Int) : Prop := ∃ p g : Int, (0 ≤ p ∧ 1 ≤ g ∧ p + g ≤ 1000000000000) ∧ B 13 w 14 x = nu p ∧ B 13 w 15 x = de p ∧ B 13 w 16 x = nu g ∧ B 13 w 17 x = de g
/-- note y of voice u -/
def RN (u w T E : Int) (B : zB) (y : Int) : Prop := (-1 ≤ B 13 w 30 y ∧ B 13 w 30 y < B 13 w 12 u) ∧ (0 ≤ B 13 w 31 y ∧ B 13 w 31 y < E) ∧ (0 ≤ B 13 w 34 y ∧ B 13 w 34 y ≤ 9) ∧ (0 ≤ B 13 w 35 y ∧ B 13 w 35 y ≤ 2) ∧ ∃ p, (0 ≤ p ∧ p < T) ∧ B 13 w 32 y = nu p ∧ B 13 w 33 y = de p
def RDW (V w : Int) (F : zF) (B : zB) : Prop := (0 ≤ w ∧ w < 3) ∧ (F 13 w 1 = V ∧ 1 ≤ V ∧ V ≤ 4) ∧ (-7 ≤ F 13 w 2 ∧ F 13 w 2 ≤ 7) ∧ (1 ≤ F 13 w 4 ∧ F 13 w 4 ≤ 12) ∧ (F 13 w 5 = 2 ∨ F 13 w 5 = 4 ∨ F 13 w 5 = 8 ∨ F 13 w 5 = 16) ∧ (0 ≤ F 13 w 7 ∧ F 13 w 7 ≤ 100) ∧ ∀ u, 0 ≤ u → u < V → ((1 ≤ B 13 w 12 u ∧ B 13 w 12 u ≤ 200) ∧ (0 ≤ B 13 w 13 u ∧ B 13 w 13 u ≤ 800) ∧ (0 ≤ B 13 w 8 u ∧ B 13 w 8 u < 4)) ∧ (∀ x, 1000 * u ≤ x → x < 1000 * u + B 13 w 12 u → RE u w B x ∧ RP w B x ∧ RF w B x) ∧ (∀ y, 800 * u ≤ y → y < 800 * u + B 13 w 13 u → RN u w (barV (F 13 w 4) (F 13 w 5)) (F 13 w 7) B y)
theorem rd_5 {V w : Int} {F : zF} {B : zB} (h : RDW V w F B) : F 13 w 5 = 2 ∨ F 13 w 5 = 4 ∨ F 13 w 5 = 8 ∨ F 13 w 5 = 16 := h.2.2.2.2.1
theorem rd_0 {V w : Int} {F : zF} {B : zB} (h : RDW V w F B) : (0 ≤ w ∧ w < 3) ∧ (F 13 w 1 = V ∧ 1 ≤ V ∧ V ≤ 4) ∧ (-7 ≤ F 13 w 2 ∧ F 13 w 2 ≤ 7) ∧ (1 ≤ F 13 w 4 ∧ F 13 w 4 ≤ 12) ∧ (2 ≤ F 13 w 5 ∧ F 13 w 5 ≤ 16) ∧ (0 ≤ F 13 w 7 ∧ F 13 w 7 ≤ 100) := ⟨h.1, h.2.1, h.2.2.1, h.2.2.2.1, by have := rd_5 h; omega, h.2.2.2.2.2.1⟩
theorem rd_v {V w u : Int} {F : zF} {B : zB} (h : RDW V w F B) (u0 : 0 ≤ u) (u1 : u < V) : (1 ≤ B 13 w 12 u ∧ B 13 w 12 u ≤ 200) ∧ (0 ≤ B 13 w 13 u ∧ B 13 w 13 u ≤ 800) ∧ (0 ≤ B 13 w 8 u ∧ B 13 w 8 u < 4) := (h.2.2.2.2.2.2 u u0 u1).1
theorem rd_e {V w u x : Int} {F : zF} {B : zB} (h : RDW V w F B) (u0 : 0 ≤ u) (u1 : u < V) (x0 : 1000 * u ≤ x) (x1 : x < 1000 * u + B 13 w 12 u) : (0 ≤ B 13 w 18 x ∧ B 13 w 18 x < 128) ∧ (0 ≤ B 13 w 19 x ∧ B 13 w 19 x ≤ 7) ∧ (0 ≤ B 13 w 21 x ∧ B 13 w 21 x ≤ 6) ∧ (0 ≤ B 13 w 27 x ∧ B 13 w 27 x ≤ 1) := by
  obtain ⟨a, b, c, d, _⟩ := ((h.2.2.2.2.2.2 u u0 u1).2.1 x x0 x1).1
  exact ⟨a, b, c, (by first | decide | omega)⟩
theorem rd_t {V w u x : Int} {F : zF} {B : zB} (h : RDW V w F B) (u0 : 0 ≤ u) (u1 : u < V) (x0 : 1000 * u ≤ x) (x1 : x < 1000 * u + B 13 w 12 u) : zand (B 13 w 18 x) 1 ≤ 0 ∨ x + 1 < 1000 * u + B 13 w 12 u := ((h.2.2.2.2.2.2 u u0 u1).2.1 x x0 x1).1.2.2.2.2
theorem rd_p {V w u x k : Int} {F : zF} {B : zB} (h : RDW V w F B) (u0 : 0 ≤ u) (u1 : u < V) (x0 : 1000 * u ≤ x) (x1 : x < 1000 * u + B 13 w 12 u) (k0 : 0 ≤ k) (k1 : k < B 13 w 21 x) : (0 ≤ B 13 w 28 (6 * x + k) ∧ B 13 w 28 (6 * x + k) ≤ 62) ∧ (-2 ≤ B 13 w 29 (6 * x + k) ∧ B 13 w 29 (6 * x + k) ≤ 2) := ((h.2.2.2.2.2.2 u u0 u1).2.1 x x0 x1).2.1 k k0 k1
theorem rd_f {V w u x : Int} {F : zF} {B : zB} (h : RDW V w F B) (u0 : 0 ≤ u) (u1 : u < V) (x0 : 1000 * u ≤ x) (x1 : x < 1000 * u + B 13 w 12 u) : ∃ p g : Int, (0 ≤ p ∧ 1 ≤ g ∧ p + g ≤ 1000000000000) ∧ B 13 w 14 x = nu p ∧ B 13 w 15 x = de p ∧ B 13 w 16 x = nu g ∧ B 13 w 17 x = de g := ((h.2.2.2.2.2.2 u u0 u1).2.1 x x0 x1).2.2
theorem rd_n {V w u y : Int} {F : zF} {B : zB} (h : RDW V w F B) (u0 : 0 ≤ u) (u1 : u < V) (y0 : 800 * u ≤ y) (y1 : y < 800 * u + B 13 w 13 u) : (-1 ≤ B 13 w 30 y ∧ B 13 w 30 y < B 13 w 12 u) ∧ (0 ≤ B 13 w 31 y ∧ B 13 w 31 y < F 13 w 7) ∧ (0 ≤ B 13 w 34 y ∧ B 13 w 34 y ≤ 9) ∧ (0 ≤ B 13 w 35 y ∧ B 13 w 35 y ≤ 2) := by
  obtain ⟨a, b, c, d, _⟩ := (h.2.2.2.2.2.2 u u0 u1).2.2 y y0 y1
  exact ⟨a, b, c, d⟩
theorem rd_q {V w u y : Int} {F : zF} {B : zB} (h : RDW V w F B) (u0 : 0 ≤ u) (u1 : u < V) (y0 : 800 * u ≤ y) (y1 : y < 800 * u + B 13 w 13 u) : ∃ p, (0 ≤ p ∧ p < barV (F 13 w 4) (F 13 w 5)) ∧ B 13 w 32 y = nu p ∧ B 13 w 33 y = de p := by
  obtain ⟨_, _, _, _, h⟩ := (h.2.2.2.2.2.2 u u0 u1).2.2 y y0 y1
  exact h
/-- only these rows and fields matter -/
theorem RDW_f {V w : Int} {F F' : zF} {B B' : zB} (h : RDW V w F B) (f : ∀ k, 1 ≤ k → k ≤ 7 → F' 13 w k = F 13 w k) (b : ∀ k x, 8 ≤ k → k ≤ 35 → B' 13 w k x = B 13 w k x) : RDW V w F' B' := by
  obtain ⟨a1, a2, a3, a4, a5, a6, a7⟩ := h
  unfold RDW RE RP RF RN at *
  have b8 := fun x => b 8 x (by decide) (by decide)
  have b12 := fun x => b 12 x (by decide) (by decide)
  have b13 := fun x => b 13 x (by decide) (by decide)
  have b14 := fun x => b 14 x (by decide) (by decide)
  have b15 := fun x => b 15 x (by decide) (by decide)
  have b16 := fun x => b 16 x (by decide) (by decide)
  have b17 := fun x => b 17 x (by decide) (by decide)
  have b18 := fun x => b 18 x (by decide) (by decide)
  have b19 := fun x => b 19 x (by decide) (by decide)
  have b21 := fun x => b 21 x (by decide) (by decide)
  have b27 := fun x => b 27 x (by decide) (by decide)
  have b28 := fun x => b 28 x (by decide) (by decide)
  have b29 := fun x => b 29 x (by decide) (by decide)
  have b30 := fun x => b 30 x (by decide) (by decide)
  have b31 := fun x => b 31 x (by decide) (by decide)
  have b32 := fun x => b 32 x (by decide) (by decide)
  have b33 := fun x => b 33 x (by decide) (by decide)
  have b34 := fun x => b 34 x (by decide) (by decide)
  have b35 := fun x => b 35 x (by decide) (by decide)
  rw [f 1 (by decide) (by decide), f 2 (by decide) (by decide), f 4 (by decide) (by decide), f 5 (by decide) (by decide), f 7 (by decide) (by decide)]
  refine ⟨a1, a2, a3, a4, a5, a6, fun u u0 u1 => ?_⟩
  have := a7 u u0 u1
  simp only [b8, b12, b13, b14, b15, b16, b17, b18, b19, b21, b27, b28, b29, b30, b31, b32, b33, b34, b35]
  exact this
theorem RDW_u {V w i j v : Int} {c k : Nat} {F : zF} {B : zB} (h : RDW V w F B) (hk : ¬ (c = 13 ∧ i = w ∧ k ≤ 35)) : RDW V w F (zup4 B c i k j v) := RDW_f h (fun _ _ _ => rfl) (fun k' x _ h' => by rw [zup4_v, if_neg (by first | decide | omega)])
theorem RDW_F {V w i v : Int} {c k : Nat} {F : zF} {B : zB} (h : RDW V w F B) (hk : ¬ (c = 13 ∧ i = w ∧ k ≤ 7)) : RDW V w (zup3 F c i k v) B := RDW_f h (fun k' _ h' => by rw [zup3_v, if_neg (by first | decide | omega)]) (fun _ _ _ _ => rfl)
theorem RDW_fr {V w p : Int} {F : zF} {B : zB} (h : RDW V w F B) : RDW V w (fr F p) B := RDW_f h (fun k _ _ => fr_n (by first | decide | omega)) (fun _ _ _ _ => rfl)
/-- rows that hold whole ints -/
def XS (B : zB) : Prop := (∀ s, r32 (B 14 0 58 s)) ∧ ∀ i x, r32 (B 13 i 36 x) ∧ r32 (B 13 i 37 x) ∧ r32 (B 13 i 38 x) ∧ r32 (B 13 i 39 x) ∧ r32 (B 13 i 40 x) ∧ r32 (B 13 i 41 x)
/-- what the staves change -/
def SQ (w : Int) (B B' : zB) : Prop := XS B' ∧ ∀ c i k x, ¬ (c = 13 ∧ i = w ∧ 36 ≤ k ∧ k ≤ 41) → ¬ (c = 14 ∧ i = 0 ∧ k = 58) → B' c i k x = B c i k x
theorem SQ_r {w : Int} {B : zB} (h : XS B) : SQ w B B := ⟨h, fun _ _ _ _ _ _ => rfl⟩
theorem SQ_t {w : Int} {B B1 B2 : zB} (h : SQ w B B1) (h' : SQ w B1 B2) : SQ w B B2 := ⟨h'.1, fun c i k x a b => by rw [h'.2 c i k x a b, h.2 c i k x a b]⟩
theorem SQ_u {w j v : Int} {k : Nat} {B B1 : zB} (h : SQ w B B1) (k0 : 36 ≤ k) (k1 : k ≤ 41) (hv : r32 v) : SQ w B (zup4 B1 13 w k j v) := by
  refine ⟨⟨fun s => by rw [zup4_v, if_neg (by first | decide | omega)]; exact h.1.1 s, fun i x => ?_⟩, fun c i k' x a b => by rw [zup4_v, if_neg (by first | decide | omega)]; exact h.2 c i k' x a b⟩
  have key : ∀ k', r32 (B1 13 i k' x) → r32 (zup4 B1 13 w k j v 13 i k' x) := fun k' hh => by
    rw [zup4_v]
    split
    · exact hv
    · exact hh
  obtain ⟨a1, a2, a3, a4, a5, a6⟩ := h.1.2 i x
  exact ⟨key _ a1, key _ a2, key _ a3, key _ a4, key _ a5, key _ a6⟩
theorem SQ_8 {w j v : Int} {B B1 : zB} (h : SQ w B B1) (hv : r32 v) : SQ w B (zup4 B1 14 0 58 j v) := by
  refine ⟨⟨fun s => ?_, fun i x => ?_⟩, fun c i k' x a b => by rw [zup4_v, if_neg (by first | decide | omega)]; exact h.2 c i k' x a b⟩
  · rw [zup4_v]
    split
    · exact hv
    · exact h.1.1 s
  · rw [zup4_v, if_neg (by first | decide | omega), zup4_v, if_neg (by first | decide | omega), zup4_v, if_neg (by first | decide | omega), zup4_v, if_neg (by first | decide | omega), zup4_v, if_neg (by first | decide | omega), zup4_v, if_neg (by first | decide | omega)]
    exact h.1.2 i x
theorem RDW_q {V w : Int} {F : zF} {B B' : zB} (h : RDW V w F B) (q : SQ w B B') : RDW V w F B' := RDW_f h (fun _ _ _ => rfl) (fun k x _ h' => q.2 13 w k x (by first | decide | omega) (by first | decide | omega))
end
end
section
section
/-! ===== the staves of a read piece, reference: holds, accidentals, ledgers ===== -/
theorem s_sounding {K : Nat} {V w u : Int} {F : zF} {B : zB} (hR : RDW V w F B) (u0 : 0 ≤ u) (u1 : u < V) {i : Int} (i0 : 0 ≤ i) (i1 : i < B 13 w 13 u) : zS (f_M_sounding K w u i F B) (fun r F' B' => F' = F ∧ B' = B ∧ (r = -1 ∨ (1000 * u ≤ r ∧ r < 1000 * u + B 13 w 12 u ∧ 1 ≤ B 13 w 21 r))) := by
  have b0 := rd_0 hR
  have bv := rd_v hR u0 u1
  unfold f_M_sounding
  refine zS_g (by first | decide | omega) ?_ -- 1
  refine zS_g (by first | decide | omega) ?_ -- 2
  have a1 := rd_n (u := u) (y := ((800 * u) + i)) hR (by first | decide | omega) (by first | decide | omega) (by first | decide | omega) (by first | decide | omega)
  refine zS_g (by unfold r32; omega) ?_ -- 3
  refine zS_i (fun h2 => ?_) (fun h2 => ?_) -- 4: ((B 13 w 30 ((800 * u) + i)) < 0)
  · unfold f_M_sounding_32
    unfold f_M_sounding_43
    exact zS_s ⟨rfl, rfl, (by first | decide | omega)⟩
  · refine zS_g (by first | decide | omega) ?_ -- 8
    have a3 := rd_e (u := u) (x := ((1000 * u) + (B 13 w 30 ((800 * u) + i)))) hR (by first | decide | omega) (by first | decide | omega) (by first | decide | omega) (by first | decide | omega)
    refine zS_g (by unfold r32; omega) ?_ -- 9
    refine zS_i (fun h4 => ?_) (fun h4 => ?_) -- 10: ((B 13 w 21 ((1000 * u) + (B 13 w 30 ((800 * u) + i)))) = 0)
    · unfold f_M_sounding_32
      unfold f_M_sounding_43
      exact zS_s ⟨rfl, rfl, (by first | decide | omega)⟩
    · unfold f_M_sounding_43
      exact zS_s ⟨rfl, rfl, (by first | decide | omega)⟩
theorem s_height {K : Nat} {V w u : Int} {F : zF} {B : zB} (hR : RDW V w F B) (u0 : 0 ≤ u) (u1 : u < V) {s : Int} : zS (f_M_height K w u s F B) (fun r F' B' => F' = F ∧ B' = B ∧ (s - 30 ≤ r ∧ r ≤ s - 18)) := by
  have b0 := rd_0 hR
  have bv := rd_v hR u0 u1
  unfold f_M_height
  refine zS_g (by first | decide | omega) ?_ -- 1
  refine zS_g (by first | decide | omega) ?_ -- 2
  refine zS_g (by unfold r32; omega) ?_ -- 3
  refine zS_i (fun h1 => ?_) (fun h1 => ?_) -- 4: ((B 13 w 8 u) = 0)
  · unfold f_M_height_39
    exact zS_s ⟨rfl, rfl, (by first | decide | omega)⟩
  · refine zS_i (fun h2 => ?_) (fun h2 => ?_) -- 7: ((B 13 w 8 u) = 1)
    · unfold f_M_height_39
      exact zS_s ⟨rfl, rfl, (by first | decide | omega)⟩
    · refine zS_i (fun h3 => ?_) (fun h3 => ?_) -- 10: ((B 13 w 8 u) = 2)
      · unfold f_M_height_39
        exact zS_s ⟨rfl, rfl, (by first | decide | omega)⟩
      · unfold f_M_height_39
        exact zS_s ⟨rfl, rfl, (by first | decide | omega)⟩
theorem s_lowest {K : Nat} {V w u : Int} {F : zF} {B : zB} (hR : RDW V w F B) (u0 : 0 ≤ u) (u1 : u < V) {x : Int} (x0 : 1000 * u ≤ x) (x1 : x < 1000 * u + B 13 w 12 u) (x2 : 1 ≤ B 13 w 21 x) : zS (f_M_lowest K w u x F B) (fun r F' B' => F' = F ∧ B' = B ∧ (-30 ≤ r ∧ r ≤ 44)) := by
  have b0 := rd_0 hR
  have bv := rd_v hR u0 u1
  unfold f_M_lowest
  refine zS_g (by first | decide | omega) ?_ -- 1
  refine zS_g (by first | decide | omega) ?_ -- 2
  have a1 := rd_p (u := u) (x := x) (k := (6 * x) - 6 * x) hR (by first | decide | omega) (by first | decide | omega) (by first | decide | omega) (by first | decide | omega) (by first | decide | omega) (by first | decide | omega)
  have a1e : 6 * x + ((6 * x) - 6 * x) = (6 * x) := by omega
  rw [a1e] at a1
  refine zS_b (s_height (K := K) (s := (B 13 w 28 (6 * x))) hR u0 u1) ?_
  rintro r3 F B ⟨rfl, rfl, q2⟩
  exact zS_s ⟨rfl, rfl, (by first | decide | omega)⟩
theorem s_highest {K : Nat} {V w u : Int} {F : zF} {B : zB} (hR : RDW V w F B) (u0 : 0 ≤ u) (u1 : u < V) {x : Int} (x0 : 1000 * u ≤ x) (x1 : x < 1000 * u + B 13 w 12 u) (x2 : 1 ≤ B 13 w 21 x) : zS (f_M_highest K w u x F B) (fun r F' B' => F' = F ∧ B' = B ∧ (-30 ≤ r ∧ r ≤ 44)) := by
  have b0 := rd_0 hR
  have bv := rd_v hR u0 u1
  unfold f_M_highest
  refine zS_g (by first | decide | omega) ?_ -- 1
  refine zS_g (by first | decide | omega) ?_ -- 2
  have a1 := rd_e (u := u) (x := x) hR (by first | decide | omega) (by first | decide | omega) (by first | decide | omega) (by first | decide | omega)
  refine zS_g (by first | decide | omega) ?_ -- 3
  have a2 := rd_p (u := u) (x := x) (k := (((6 * x) + (B 13 w 21 x)) - 1) - 6 * x) hR (by first | decide | omega) (by first | decide | omega) (by first | decide | omega) (by first | decide | omega) (by first | decide | omega) (by first | decide | omega)
  have a2e : 6 * x + ((((6 * x) + (B 13 w 21 x)) - 1) - 6 * x) = (((6 * x) + (B 13 w 21 x)) - 1) := by omega
  rw [a2e] at a2
  refine zS_b (s_height (K := K) (s := (B 13 w 28 (((6 * x) + (B 13 w 21 x)) - 1))) hR u0 u1) ?_
  rintro r4 F B ⟨rfl, rfl, q3⟩
  exact zS_s ⟨rfl, rfl, (by first | decide | omega)⟩
theorem s_has3 {K : Nat} {V w u : Int} {F : zF} {B : zB} (hR : RDW V w F B) (u0 : 0 ≤ u) (u1 : u < V) {x : Int} (x0 : 1000 * u ≤ x) (x1 : x < 1000 * u + B 13 w 12 u) {a b : Int} (ra : r32 a) (rb : r32 b) : ∀ (n : Nat) (k : Int), 0 ≤ k → k ≤ B 13 w 21 x → B 13 w 21 x - k < n → zS (f_M_has_3 K n k w x a b F B) (fun r F' B' => F' = F ∧ B' = B ∧ -1 ≤ r ∧ r < B 13 w 21 x) := by
  intro n
  induction n with
  | zero => intro k k0 k1 hk; exfalso; omega
  | succ n ih =>
    intro k k0 k1 hk
    have b0 := rd_0 hR
    have bv := rd_v hR u0 u1
    have be := rd_e hR u0 u1 x0 x1
    rw [f_M_has_3]
    refine zS_g (by first | decide | omega) ?_ -- 1
    refine zS_g (by first | decide | omega) ?_ -- 2
    refine zS_g (by unfold r32; omega) ?_ -- 3
    refine zS_g (by unfold r32; omega) ?_ -- 4
    refine zS_i (fun h1 => ?_) (fun h1 => ?_) -- 5: ((B 13 w 21 x) ≤ k)
    · exact zS_s ⟨rfl, rfl, (by first | decide | omega), (by first | decide | omega)⟩
    · refine zS_g (by first | decide | omega) ?_ -- 7
      have a2 := rd_p (u := u) (x := x) (k := ((6 * x) + k) - 6 * x) hR (by first | decide | omega) (by first | decide | omega) (by first | decide | omega) (by first | decide | omega) (by first | decide | omega) (by first | decide | omega)
      have a2e : 6 * x + (((6 * x) + k) - 6 * x) = ((6 * x) + k) := by omega
      rw [a2e] at a2
      refine zS_g (by unfold r32; omega) ?_ -- 8
      refine zS_g (by unfold r32; omega) ?_ -- 9
      refine zS_i (fun h3 => ?_) (fun h3 => ?_) -- 10: ((B 13 w 28 ((6 * x) + k)) = a)
      · refine zS_g (by unfold r32; omega) ?_ -- 11
        refine zS_g (by unfold r32; omega) ?_ -- 12
        refine zS_i (fun h5 => ?_) (fun h5 => ?_) -- 13: ((B 13 w 29 ((6 * x) + k)) = b)
        · exact zS_s ⟨rfl, rfl, (by first | decide | omega), (by first | decide | omega)⟩
        · unfold f_M_has_49
          exact ih (k + 1) (by first | decide | omega) (by first | decide | omega) (by first | decide | omega) -- 16 f_M_has_3
      · unfold f_M_has_49
        exact ih (k + 1) (by first | decide | omega) (by first | decide | omega) (by first | decide | omega) -- 18 f_M_has_3
theorem s_has {K : Nat} {V w u : Int} {F : zF} {B : zB} (hR : RDW V w F B) (u0 : 0 ≤ u) (u1 : u < V) {x : Int} (x0 : 1000 * u ≤ x) (x1 : x < 1000 * u + B 13 w 12 u) {a b : Int} (ra : r32 a) (rb : r32 b) (hK : 7 ≤ K) : zS (f_M_has K w x a b F B) (fun r F' B' => F' = F ∧ B' = B ∧ -1 ≤ r ∧ r < B 13 w 21 x) := by
  have be := rd_e hR u0 u1 x0 x1
  exact s_has3 hR u0 u1 x0 x1 ra rb K 0 (by first | decide | omega) (by first | decide | omega) (by first | decide | omega)
theorem s_comesOn {K : Nat} {V w u : Int} {F : zF} {B : zB} (hR : RDW V w F B) (u0 : 0 ≤ u) (u1 : u < V) {i a b : Int} (i0 : 0 ≤ i) (i1 : i < B 13 w 13 u) (ra : r32 a) (rb : r32 b) (hK : 7 ≤ K) : zS (f_M_comesOn K w u i a b F B) (fun r F' B' => F' = F ∧ B' = B ∧ (r = 0 ∨ r = 1)) := by
  have b0 := rd_0 hR
  have bv := rd_v hR u0 u1
  unfold f_M_comesOn
  refine zS_g (by unfold r32; omega) ?_ -- 1
  refine zS_i (fun h1 => ?_) (fun h1 => ?_) -- 2: (i ≤ 0)
  · unfold f_M_comesOn_16
    refine zS_g (by unfold r32; omega) ?_ -- 4
    refine zS_i (fun h2 => ?_) (fun h2 => ?_) -- 5: (0 ≤ (-1))
    · refine zS_b (s_has (K := K) hR u0 u1 (x := (-1)) (a := a) (b := b) (by first | decide | omega) (by first | decide | omega) (by unfold r32; omega) (by unfold r32; omega) (by first | decide | omega)) ?_
      rintro r4 F B ⟨rfl, rfl, q3⟩
      have lkr4 := rd_e (x := (-1)) hR u0 u1 (by first | decide | omega) (by first | decide | omega)
      unfold f_M_comesOn_37
      refine zS_g (by unfold r32; omega) ?_ -- 8
      refine zS_i (fun h6 => ?_) (fun h6 => ?_) -- 9: (r4 < 0)
      · unfold f_M_comesOn_71
        unfold f_M_comesOn_72
        refine zS_g (by first | decide | omega) ?_ -- 12
        exact zS_s ⟨rfl, rfl, (by first | decide | omega)⟩
      · refine zS_g (by first | decide | omega) ?_ -- 14
        refine zS_g (by first | decide | omega) ?_ -- 15
        have z7 := zshr_R (B 13 w 36 (((800 * u) + i) - 1)) r4
        have z8 := zand_R (zshr (B 13 w 36 (((800 * u) + i) - 1)) r4) 1
        refine zS_g (by unfold r32; omega) ?_ -- 16
        refine zS_i (fun h9 => ?_) (fun h9 => ?_) -- 17: ((zand (zshr (B 13 w 36 (((800 * u) + i) - 1)) r4) 1) = 1)
        · unfold f_M_comesOn_72
          refine zS_g (by first | decide | omega) ?_ -- 19
          exact zS_s ⟨rfl, rfl, (by first | decide | omega)⟩
        · unfold f_M_comesOn_71
          unfold f_M_comesOn_72
          refine zS_g (by first | decide | omega) ?_ -- 23
          exact zS_s ⟨rfl, rfl, (by first | decide | omega)⟩
    · unfold f_M_comesOn_37
      refine zS_g (by unfold r32; omega) ?_ -- 26
      refine zS_i (fun h10 => ?_) (fun h10 => ?_) -- 27: ((-1) < 0)
      · unfold f_M_comesOn_71
        unfold f_M_comesOn_72
        refine zS_g (by first | decide | omega) ?_ -- 30
        exact zS_s ⟨rfl, rfl, (by first | decide | omega)⟩
      · refine zS_g (by first | decide | omega) ?_ -- 32
        refine zS_g (by first | decide | omega) ?_ -- 33
        have z11 := zshr_R (B 13 w 36 (((800 * u) + i) - 1)) (-1)
        have z12 := zand_R (zshr (B 13 w 36 (((800 * u) + i) - 1)) (-1)) 1
        refine zS_g (by unfold r32; omega) ?_ -- 34
        refine zS_i (fun h13 => ?_) (fun h13 => ?_) -- 35: ((zand (zshr (B 13 w 36 (((800 * u) + i) - 1)) (-1)) 1) = 1)
        · unfold f_M_comesOn_72
          refine zS_g (by first | decide | omega) ?_ -- 37
          exact zS_s ⟨rfl, rfl, (by first | decide | omega)⟩
        · unfold f_M_comesOn_71
          unfold f_M_comesOn_72
          refine zS_g (by first | decide | omega) ?_ -- 41
          exact zS_s ⟨rfl, rfl, (by first | decide | omega)⟩
  · refine zS_b (s_sounding (K := K) (i := (i - 1)) hR u0 u1 (by first | decide | omega) (by first | decide | omega)) ?_
    rintro r15 F B ⟨rfl, rfl, q14⟩
    unfold f_M_comesOn_16
    refine zS_g (by unfold r32; omega) ?_ -- 45
    refine zS_i (fun h17 => ?_) (fun h17 => ?_) -- 46: (0 ≤ r15)
    · refine zS_b (s_has (K := K) hR u0 u1 (x := r15) (a := a) (b := b) (by first | decide | omega) (by first | decide | omega) (by unfold r32; omega) (by unfold r32; omega) (by first | decide | omega)) ?_
      rintro r19 F B ⟨rfl, rfl, q18⟩
      have lkr19 := rd_e (x := r15) hR u0 u1 (by first | decide | omega) (by first | decide | omega)
      unfold f_M_comesOn_37
      refine zS_g (by unfold r32; omega) ?_ -- 49
      refine zS_i (fun h21 => ?_) (fun h21 => ?_) -- 50: (r19 < 0)
      · unfold f_M_comesOn_71
        unfold f_M_comesOn_72
        refine zS_g (by first | decide | omega) ?_ -- 53
        exact zS_s ⟨rfl, rfl, (by first | decide | omega)⟩
      · refine zS_g (by first | decide | omega) ?_ -- 55
        refine zS_g (by first | decide | omega) ?_ -- 56
        have z22 := zshr_R (B 13 w 36 (((800 * u) + i) - 1)) r19
        have z23 := zand_R (zshr (B 13 w 36 (((800 * u) + i) - 1)) r19) 1
        refine zS_g (by unfold r32; omega) ?_ -- 57
        refine zS_i (fun h24 => ?_) (fun h24 => ?_) -- 58: ((zand (zshr (B 13 w 36 (((800 * u) + i) - 1)) r19) 1) = 1)
        · unfold f_M_comesOn_72
          refine zS_g (by first | decide | omega) ?_ -- 60
          exact zS_s ⟨rfl, rfl, (by first | decide | omega)⟩
        · unfold f_M_comesOn_71
          unfold f_M_comesOn_72
          refine zS_g (by first | decide | omega) ?_ -- 64
          exact zS_s ⟨rfl, rfl, (by first | decide | omega)⟩
    · unfold f_M_comesOn_37
      refine zS_g (by unfold r32; omega) ?_ -- 67
      refine zS_i (fun h25 => ?_) (fun h25 => ?_) -- 68: ((-1) < 0)
      · unfold f_M_comesOn_71
        unfold f_M_comesOn_72
        refine zS_g (by first | decide | omega) ?_ -- 71
        exact zS_s ⟨rfl, rfl, (by first | decide | omega)⟩
      · refine zS_g (by first | decide | omega) ?_ -- 73
        refine zS_g (by first | decide | omega) ?_ -- 74
        have z26 := zshr_R (B 13 w 36 (((800 * u) + i) - 1)) (-1)
        have z27 := zand_R (zshr (B 13 w 36 (((800 * u) + i) - 1)) (-1)) 1
        refine zS_g (by unfold r32; omega) ?_ -- 75
        refine zS_i (fun h28 => ?_) (fun h28 => ?_) -- 76: ((zand (zshr (B 13 w 36 (((800 * u) + i) - 1)) (-1)) 1) = 1)
        · unfold f_M_comesOn_72
          refine zS_g (by first | decide | omega) ?_ -- 78
          exact zS_s ⟨rfl, rfl, (by first | decide | omega)⟩
        · unfold f_M_comesOn_71
          unfold f_M_comesOn_72
          refine zS_g (by first | decide | omega) ?_ -- 82
          exact zS_s ⟨rfl, rfl, (by first | decide | omega)⟩
theorem s_hol105 {K : Nat} {V w u : Int} {F : zF} {B0 : zB} (hR0 : RDW V w F B0) (u0 : 0 ≤ u) (u1 : u < V) (hK : 1000 ≤ K) {i x : Int} (i0 : 0 ≤ i) (i1 : i < B0 13 w 13 u) (x0 : 1000 * u ≤ x) (x1 : x < 1000 * u + B0 13 w 12 u) {rec : Int → Int → Int → zF → zB → zO} {Q : Int → zF → zB → Prop} (hrec : ∀ B, SQ w B0 B → zS (rec (i + 1) w u F B) Q) {t h : Int} (t0 : t = 0 ∨ (t = 1 ∧ x + 1 < 1000 * u + B0 13 w 12 u)) (h0 : h = 0 ∨ h = 1) : ∀ (n : Nat) (k : Int) (B : zB), SQ w B0 B → 0 ≤ k → k ≤ B0 13 w 21 x → B0 13 w 21 x - k < n → zS (f_M_holds_105 rec K n k t h x (800*u+i) i w u F B) (Q) := by
  intro n
  induction n with
  | zero => intro k B hq k0 k1 hk; exfalso; omega
  | succ n ih =>
    intro k B hq k0 k1 hk
    have b0 := rd_0 hR0
    have bv := rd_v hR0 u0 u1
    have be := rd_e hR0 u0 u1 x0 x1
    rw [f_M_holds_105]
    refine zS_g (by first | decide | omega) ?_ -- 1
    refine zS_g (by first | decide | omega) ?_ -- 2
    refine zS_g (by unfold r32; omega) ?_ -- 3
    have a1 := hq.2 13 w 21 x (by first | decide | omega) (by first | decide | omega)
    refine zS_g (by unfold r32; omega) ?_ -- 4
    refine zS_i (fun h2 => ?_) (fun h2 => ?_) -- 5: ((B 13 w 21 x) ≤ k)
    · unfold f_M_holds_196
      exact hrec _ hq -- 7 rec
    · refine zS_g (by unfold r32; omega) ?_ -- 8
      refine zS_i (fun h3 => ?_) (fun h3 => ?_) -- 9: (t = 0)
      · unfold f_M_holds_163
        unfold f_M_holds_164
        refine zS_g (by unfold r32; omega) ?_ -- 12
        refine zS_i (fun h4 => ?_) (fun h4 => ?_) -- 13: (h = 0)
        · refine zS_g (by unfold r32; omega) ?_ -- 14
          refine zS_i (fun h5 => ?_) (fun h5 => ?_) -- 15: (0 = 0)
          · unfold f_M_holds_190
            exact ih (k + 1) _ hq (by first | decide | omega) (by first | decide | omega) (by first | decide | omega) -- 17 f_M_holds_105
          · unfold f_M_holds_176
            refine zS_g (by first | decide | omega) ?_ -- 19
            refine zS_g (by first | decide | omega) ?_ -- 20
            have a6 := hq.1.2 w ((800 * u) + i)
            have z7 := zshl_R 1 k
            have z8 := zor_R (B 13 w 36 ((800 * u) + i)) (zshl 1 k)
            unfold f_M_holds_190
            exact ih (k + 1) _ (SQ_u (k := 36) (j := ((800 * u) + i)) (v := (zor (B 13 w 36 ((800 * u) + i)) (zshl 1 k))) hq (by decide) (by decide) (zor_R _ _)) (by first | decide | omega) (by first | decide | omega) (by first | decide | omega) -- 22 f_M_holds_105
        · unfold f_M_holds_176
          refine zS_g (by first | decide | omega) ?_ -- 24
          refine zS_g (by first | decide | omega) ?_ -- 25
          have a9 := hq.1.2 w ((800 * u) + i)
          have z10 := zshl_R 1 k
          have z11 := zor_R (B 13 w 36 ((800 * u) + i)) (zshl 1 k)
          unfold f_M_holds_190
          exact ih (k + 1) _ (SQ_u (k := 36) (j := ((800 * u) + i)) (v := (zor (B 13 w 36 ((800 * u) + i)) (zshl 1 k))) hq (by decide) (by decide) (zor_R _ _)) (by first | decide | omega) (by first | decide | omega) (by first | decide | omega) -- 27 f_M_holds_105
      · refine zS_g (by first | decide | omega) ?_ -- 28
        have a13 := hq.2 13 w 28 ((6 * x) + k) (by first | decide | omega) (by first | decide | omega)
        have a12 := rd_p (u := u) (x := x) (k := ((6 * x) + k) - 6 * x) hR0 (by first | decide | omega) (by first | decide | omega) (by first | decide | omega) (by first | decide | omega) (by first | decide | omega) (by first | decide | omega)
        have a12e : 6 * x + (((6 * x) + k) - 6 * x) = ((6 * x) + k) := by omega
        rw [a12e] at a12
        have a14 := hq.2 13 w 29 ((6 * x) + k) (by first | decide | omega) (by first | decide | omega)
        refine zS_b (s_has (K := K) (RDW_q hR0 hq) u0 u1 (x := (x + 1)) (a := (B 13 w 28 ((6 * x) + k))) (b := (B 13 w 29 ((6 * x) + k))) (by first | decide | omega) (by have := hq.2 13 w 12 u (by first | decide | omega) (by first | decide | omega); omega) (by unfold r32; omega) (by unfold r32; omega) (by first | decide | omega)) ?_
        rintro r16 F B ⟨rfl, rfl, q15⟩
        have lkar16 := hq.2 13 w 21 (x + 1) (by first | decide | omega) (by first | decide | omega)
        have lkcr16 := rd_e (x := (x + 1)) hR0 u0 u1 (by first | decide | omega) (by first | decide | omega)
        refine zS_g (by unfold r32; omega) ?_ -- 30
        refine zS_i (fun h18 => ?_) (fun h18 => ?_) -- 31: (r16 < 0)
        · unfold f_M_holds_163
          unfold f_M_holds_164
          refine zS_g (by unfold r32; omega) ?_ -- 34
          refine zS_i (fun h19 => ?_) (fun h19 => ?_) -- 35: (h = 0)
          · refine zS_g (by unfold r32; omega) ?_ -- 36
            refine zS_i (fun h20 => ?_) (fun h20 => ?_) -- 37: (0 = 0)
            · unfold f_M_holds_190
              exact ih (k + 1) _ hq (by first | decide | omega) (by first | decide | omega) (by first | decide | omega) -- 39 f_M_holds_105
            · unfold f_M_holds_176
              refine zS_g (by first | decide | omega) ?_ -- 41
              refine zS_g (by first | decide | omega) ?_ -- 42
              have a21 := hq.1.2 w ((800 * u) + i)
              have z22 := zshl_R 1 k
              have z23 := zor_R (B 13 w 36 ((800 * u) + i)) (zshl 1 k)
              unfold f_M_holds_190
              exact ih (k + 1) _ (SQ_u (k := 36) (j := ((800 * u) + i)) (v := (zor (B 13 w 36 ((800 * u) + i)) (zshl 1 k))) hq (by decide) (by decide) (zor_R _ _)) (by first | decide | omega) (by first | decide | omega) (by first | decide | omega) -- 44 f_M_holds_105
          · unfold f_M_holds_176
            refine zS_g (by first | decide | omega) ?_ -- 46
            refine zS_g (by first | decide | omega) ?_ -- 47
            have a24 := hq.1.2 w ((800 * u) + i)
            have z25 := zshl_R 1 k
            have z26 := zor_R (B 13 w 36 ((800 * u) + i)) (zshl 1 k)
            unfold f_M_holds_190
            exact ih (k + 1) _ (SQ_u (k := 36) (j := ((800 * u) + i)) (v := (zor (B 13 w 36 ((800 * u) + i)) (zshl 1 k))) hq (by decide) (by decide) (zor_R _ _)) (by first | decide | omega) (by first | decide | omega) (by first | decide | omega) -- 49 f_M_holds_105
        · unfold f_M_holds_164
          refine zS_g (by unfold r32; omega) ?_ -- 51
          refine zS_i (fun h27 => ?_) (fun h27 => ?_) -- 52: (h = 0)
          · refine zS_g (by unfold r32; omega) ?_ -- 53
            refine zS_i (fun h28 => ?_) (fun h28 => ?_) -- 54: (1 = 0)
            · unfold f_M_holds_190
              exact ih (k + 1) _ hq (by first | decide | omega) (by first | decide | omega) (by first | decide | omega) -- 56 f_M_holds_105
            · unfold f_M_holds_176
              refine zS_g (by first | decide | omega) ?_ -- 58
              refine zS_g (by first | decide | omega) ?_ -- 59
              have a29 := hq.1.2 w ((800 * u) + i)
              have z30 := zshl_R 1 k
              have z31 := zor_R (B 13 w 36 ((800 * u) + i)) (zshl 1 k)
              unfold f_M_holds_190
              exact ih (k + 1) _ (SQ_u (k := 36) (j := ((800 * u) + i)) (v := (zor (B 13 w 36 ((800 * u) + i)) (zshl 1 k))) hq (by decide) (by decide) (zor_R _ _)) (by first | decide | omega) (by first | decide | omega) (by first | decide | omega) -- 61 f_M_holds_105
          · unfold f_M_holds_176
            refine zS_g (by first | decide | omega) ?_ -- 63
            refine zS_g (by first | decide | omega) ?_ -- 64
            have a32 := hq.1.2 w ((800 * u) + i)
            have z33 := zshl_R 1 k
            have z34 := zor_R (B 13 w 36 ((800 * u) + i)) (zshl 1 k)
            unfold f_M_holds_190
            exact ih (k + 1) _ (SQ_u (k := 36) (j := ((800 * u) + i)) (v := (zor (B 13 w 36 ((800 * u) + i)) (zshl 1 k))) hq (by decide) (by decide) (zor_R _ _)) (by first | decide | omega) (by first | decide | omega) (by first | decide | omega) -- 66 f_M_holds_105
theorem s_hol2 {K : Nat} {V w u : Int} {F : zF} {B0 : zB} (hR0 : RDW V w F B0) (u0 : 0 ≤ u) (u1 : u < V) (hK : 1000 ≤ K) : ∀ (n : Nat) (i : Int) (B : zB), SQ w B0 B → 0 ≤ i → i ≤ B0 13 w 13 u → B0 13 w 13 u - i < n → zS (f_M_holds_2 K n i w u F B) (fun _ F' B' => F' = F ∧ SQ w B0 B') := by
  intro n
  induction n with
  | zero => intro i B hq i0 i1 hk; exfalso; omega
  | succ n ih =>
    intro i B hq i0 i1 hk
    have b0 := rd_0 hR0
    have bv := rd_v hR0 u0 u1
    rw [f_M_holds_2]
    refine zS_g (by first | decide | omega) ?_ -- 1
    refine zS_g (by first | decide | omega) ?_ -- 2
    refine zS_g (by unfold r32; omega) ?_ -- 3
    have a1 := hq.2 13 w 13 u (by first | decide | omega) (by first | decide | omega)
    refine zS_g (by unfold r32; omega) ?_ -- 4
    refine zS_i (fun h2 => ?_) (fun h2 => ?_) -- 5: ((B 13 w 13 u) ≤ i)
    · exact zS_s ⟨rfl, hq⟩
    · refine zS_b (s_sounding (K := K) (i := i) (RDW_q hR0 hq) u0 u1 (by first | decide | omega) (by have := hq.2 13 w 13 u (by first | decide | omega) (by first | decide | omega); omega)) ?_
      rintro r4 F B ⟨rfl, rfl, q3⟩
      have lkar4 := hq.2 13 w 12 u (by first | decide | omega) (by first | decide | omega)
      have lkbr4 := hq.2 13 w 21 r4 (by first | decide | omega) (by first | decide | omega)
      refine zS_g (by first | decide | omega) ?_ -- 8
      refine zS_g (by unfold r32; omega) ?_ -- 9
      refine zS_i (fun h6 => ?_) (fun h6 => ?_) -- 10: (0 ≤ r4)
      · refine zS_g (by unfold r32; omega) ?_ -- 11
        have a7 := (SQ_u (k := 36) (j := ((800 * u) + i)) (v := 0) hq (by decide) (by decide) (by decide)).2 13 w 13 u (by first | decide | omega) (by first | decide | omega)
        refine zS_g (by unfold r32; omega) ?_ -- 12
        refine zS_i (fun h8 => ?_) (fun h8 => ?_) -- 13: (((zup4 B 13 w 36 ((800 * u) + i) 0) 13 w 13 u) ≤ (i + 1))
        · unfold f_M_holds_80
          unfold f_M_holds_81
          refine zS_g (by first | decide | omega) ?_ -- 16
          refine zS_g (by first | decide | omega) ?_ -- 17
          have a9 := (SQ_u (k := 36) (j := ((800 * u) + i)) (v := 0) hq (by decide) (by decide) (by decide)).2 13 w 18 r4 (by first | decide | omega) (by first | decide | omega)
          have a10 := rd_e (u := u) (x := r4) hR0 (by first | decide | omega) (by first | decide | omega) (by first | decide | omega) (by first | decide | omega)
          have z11 := zand_R ((zup4 B 13 w 36 ((800 * u) + i) 0) 13 w 18 r4) 1
          have z12 : (zand ((zup4 B 13 w 36 ((800 * u) + i) 0) 13 w 18 r4) 1) = (zand (B0 13 w 18 r4) 1) := by rw [show ((zup4 B 13 w 36 ((800 * u) + i) 0) 13 w 18 r4) = (B0 13 w 18 r4) from (SQ_u (k := 36) (j := ((800 * u) + i)) (v := 0) hq (by decide) (by decide) (by decide)).2 13 w 18 r4 (by first | decide | omega) (by first | decide | omega)]
          refine zS_g (by unfold r32; omega) ?_ -- 18
          refine zS_i (fun h13 => ?_) (fun h13 => ?_) -- 19: ((zand ((zup4 B 13 w 36 ((800 * u) + i) 0) 13 w 18 r4) 1) ≤ 0)
          · unfold f_M_holds_100
            have be := rd_e (x := r4) hR0 u0 u1 (by first | decide | omega) (by first | decide | omega)
            have bt := rd_t (x := r4) hR0 u0 u1 (by first | decide | omega) (by first | decide | omega)
            refine s_hol105 hR0 u0 u1 hK (i := i) (by first | decide | omega) (by first | decide | omega) (by first | decide | omega) (by first | decide | omega) (fun B hB => ih _ B hB (by first | decide | omega) (by first | decide | omega) (by first | decide | omega)) (by first | decide | omega) (by first | decide | omega) _ _ _ (SQ_u (k := 36) (j := ((800 * u) + i)) (v := 0) hq (by decide) (by decide) (by decide)) (by first | decide | omega) (by first | decide | omega) (by first | decide | omega) -- 21 f_M_holds_105
          · unfold f_M_holds_100
            have be := rd_e (x := r4) hR0 u0 u1 (by first | decide | omega) (by first | decide | omega)
            have bt := rd_t (x := r4) hR0 u0 u1 (by first | decide | omega) (by first | decide | omega)
            refine s_hol105 hR0 u0 u1 hK (i := i) (by first | decide | omega) (by first | decide | omega) (by first | decide | omega) (by first | decide | omega) (fun B hB => ih _ B hB (by first | decide | omega) (by first | decide | omega) (by first | decide | omega)) (by first | decide | omega) (by first | decide | omega) _ _ _ (SQ_u (k := 36) (j := ((800 * u) + i)) (v := 0) hq (by decide) (by decide) (by decide)) (by first | decide | omega) (by first | decide | omega) (by first | decide | omega) -- 23 f_M_holds_105
        · refine zS_g (by first | decide | omega) ?_ -- 24
          have a14 := (SQ_u (k := 36) (j := ((800 * u) + i)) (v := 0) hq (by decide) (by decide) (by decide)).2 13 w 30 (((800 * u) + i) + 1) (by first | decide | omega) (by first | decide | omega)
          have a15 := rd_n (u := u) (y := (((800 * u) + i) + 1)) hR0 (by first | decide | omega) (by first | decide | omega) (by first | decide | omega) (by first | decide | omega)
          refine zS_g (by unfold r32; omega) ?_ -- 25
          have a16 := (SQ_u (k := 36) (j := ((800 * u) + i)) (v := 0) hq (by decide) (by decide) (by decide)).2 13 w 30 ((800 * u) + i) (by first | decide | omega) (by first | decide | omega)
          have a17 := rd_n (u := u) (y := ((800 * u) + i)) hR0 (by first | decide | omega) (by first | decide | omega) (by first | decide | omega) (by first | decide | omega)
          refine zS_g (by unfold r32; omega) ?_ -- 26
          refine zS_i (fun h18 => ?_) (fun h18 => ?_) -- 27: (((zup4 B 13 w 36 ((800 * u) + i) 0) 13 w 30 (((800 * u) + i) + 1)) = ((zup4 B 13 w 36 ((800 * u) + 
          · unfold f_M_holds_81
            refine zS_g (by first | decide | omega) ?_ -- 29
            refine zS_g (by first | decide | omega) ?_ -- 30
            have a19 := (SQ_u (k := 36) (j := ((800 * u) + i)) (v := 0) hq (by decide) (by decide) (by decide)).2 13 w 18 r4 (by first | decide | omega) (by first | decide | omega)
            have a20 := rd_e (u := u) (x := r4) hR0 (by first | decide | omega) (by first | decide | omega) (by first | decide | omega) (by first | decide | omega)
            have z21 := zand_R ((zup4 B 13 w 36 ((800 * u) + i) 0) 13 w 18 r4) 1
            have z22 : (zand ((zup4 B 13 w 36 ((800 * u) + i) 0) 13 w 18 r4) 1) = (zand (B0 13 w 18 r4) 1) := by rw [show ((zup4 B 13 w 36 ((800 * u) + i) 0) 13 w 18 r4) = (B0 13 w 18 r4) from (SQ_u (k := 36) (j := ((800 * u) + i)) (v := 0) hq (by decide) (by decide) (by decide)).2 13 w 18 r4 (by first | decide | omega) (by first | decide | omega)]
            refine zS_g (by unfold r32; omega) ?_ -- 31
            refine zS_i (fun h23 => ?_) (fun h23 => ?_) -- 32: ((zand ((zup4 B 13 w 36 ((800 * u) + i) 0) 13 w 18 r4) 1) ≤ 0)
            · unfold f_M_holds_100
              have be := rd_e (x := r4) hR0 u0 u1 (by first | decide | omega) (by first | decide | omega)
              have bt := rd_t (x := r4) hR0 u0 u1 (by first | decide | omega) (by first | decide | omega)
              refine s_hol105 hR0 u0 u1 hK (i := i) (by first | decide | omega) (by first | decide | omega) (by first | decide | omega) (by first | decide | omega) (fun B hB => ih _ B hB (by first | decide | omega) (by first | decide | omega) (by first | decide | omega)) (by first | decide | omega) (by first | decide | omega) _ _ _ (SQ_u (k := 36) (j := ((800 * u) + i)) (v := 0) hq (by decide) (by decide) (by decide)) (by first | decide | omega) (by first | decide | omega) (by first | decide | omega) -- 34 f_M_holds_105
            · unfold f_M_holds_100
              have be := rd_e (x := r4) hR0 u0 u1 (by first | decide | omega) (by first | decide | omega)
              have bt := rd_t (x := r4) hR0 u0 u1 (by first | decide | omega) (by first | decide | omega)
              refine s_hol105 hR0 u0 u1 hK (i := i) (by first | decide | omega) (by first | decide | omega) (by first | decide | omega) (by first | decide | omega) (fun B hB => ih _ B hB (by first | decide | omega) (by first | decide | omega) (by first | decide | omega)) (by first | decide | omega) (by first | decide | omega) _ _ _ (SQ_u (k := 36) (j := ((800 * u) + i)) (v := 0) hq (by decide) (by decide) (by decide)) (by first | decide | omega) (by first | decide | omega) (by first | decide | omega) -- 36 f_M_holds_105
          · unfold f_M_holds_80
            unfold f_M_holds_81
            refine zS_g (by first | decide | omega) ?_ -- 39
            refine zS_g (by first | decide | omega) ?_ -- 40
            have a24 := (SQ_u (k := 36) (j := ((800 * u) + i)) (v := 0) hq (by decide) (by decide) (by decide)).2 13 w 18 r4 (by first | decide | omega) (by first | decide | omega)
            have a25 := rd_e (u := u) (x := r4) hR0 (by first | decide | omega) (by first | decide | omega) (by first | decide | omega) (by first | decide | omega)
            have z26 := zand_R ((zup4 B 13 w 36 ((800 * u) + i) 0) 13 w 18 r4) 1
            have z27 : (zand ((zup4 B 13 w 36 ((800 * u) + i) 0) 13 w 18 r4) 1) = (zand (B0 13 w 18 r4) 1) := by rw [show ((zup4 B 13 w 36 ((800 * u) + i) 0) 13 w 18 r4) = (B0 13 w 18 r4) from (SQ_u (k := 36) (j := ((800 * u) + i)) (v := 0) hq (by decide) (by decide) (by decide)).2 13 w 18 r4 (by first | decide | omega) (by first | decide | omega)]
            refine zS_g (by unfold r32; omega) ?_ -- 41
            refine zS_i (fun h28 => ?_) (fun h28 => ?_) -- 42: ((zand ((zup4 B 13 w 36 ((800 * u) + i) 0) 13 w 18 r4) 1) ≤ 0)
            · unfold f_M_holds_100
              have be := rd_e (x := r4) hR0 u0 u1 (by first | decide | omega) (by first | decide | omega)
              have bt := rd_t (x := r4) hR0 u0 u1 (by first | decide | omega) (by first | decide | omega)
              refine s_hol105 hR0 u0 u1 hK (i := i) (by first | decide | omega) (by first | decide | omega) (by first | decide | omega) (by first | decide | omega) (fun B hB => ih _ B hB (by first | decide | omega) (by first | decide | omega) (by first | decide | omega)) (by first | decide | omega) (by first | decide | omega) _ _ _ (SQ_u (k := 36) (j := ((800 * u) + i)) (v := 0) hq (by decide) (by decide) (by decide)) (by first | decide | omega) (by first | decide | omega) (by first | decide | omega) -- 44 f_M_holds_105
            · unfold f_M_holds_100
              have be := rd_e (x := r4) hR0 u0 u1 (by first | decide | omega) (by first | decide | omega)
              have bt := rd_t (x := r4) hR0 u0 u1 (by first | decide | omega) (by first | decide | omega)
              refine s_hol105 hR0 u0 u1 hK (i := i) (by first | decide | omega) (by first | decide | omega) (by first | decide | omega) (by first | decide | omega) (fun B hB => ih _ B hB (by first | decide | omega) (by first | decide | omega) (by first | decide | omega)) (by first | decide | omega) (by first | decide | omega) _ _ _ (SQ_u (k := 36) (j := ((800 * u) + i)) (v := 0) hq (by decide) (by decide) (by decide)) (by first | decide | omega) (by first | decide | omega) (by first | decide | omega) -- 46 f_M_holds_105
      · unfold f_M_holds_196
        exact ih (i + 1) _ (SQ_u (k := 36) (j := ((800 * u) + i)) (v := 0) hq (by decide) (by decide) (by decide)) (by first | decide | omega) (by first | decide | omega) (by first | decide | omega) -- 48 f_M_holds_2
theorem s_holds {K : Nat} {V w u : Int} {F : zF} {B0 : zB} (hR0 : RDW V w F B0) (u0 : 0 ≤ u) (u1 : u < V) (hK : 1000 ≤ K) (hX : XS B0) : zS (f_M_holds K w u F B0) (fun _ F' B' => F' = F ∧ SQ w B0 B') := by
  have bv := rd_v hR0 u0 u1
  exact s_hol2 hR0 u0 u1 hK K 0 B0 (SQ_r hX) (by first | decide | omega) (by first | decide | omega) (by first | decide | omega)
theorem s_inKey {K : Nat} {a s : Int} {F : zF} {B : zB} (a0 : -7 ≤ a) (a1 : a ≤ 7) (s0 : 0 ≤ s) (s1 : s ≤ 6) : zS (f_M_inKey K a s F B) (fun r F' B' => F' = F ∧ B' = B ∧ -1 ≤ r ∧ r ≤ 1) := by
  unfold f_M_inKey
  rw [L_mod (show r32 (2 * s - 6) by unfold r32; omega) (by decide) (by decide)]
  rw [zb_s]
  have m0 := Int.emod_nonneg (2 * s - 6) (show (7 : Int) ≠ 0 by decide)
  have m1 := Int.emod_lt_of_pos (2 * s - 6) (show (0 : Int) < 7 by decide)
  refine zS_g (by unfold r32; omega) ?_
  refine zS_i (fun h1 => ?_) (fun h1 => ?_)
  · refine zS_g (by unfold r32; omega) ?_
    refine zS_g (by unfold r32; omega) ?_
    refine zS_i (fun h2 => ?_) (fun h2 => ?_)
    · unfold f_M_inKey_43
      exact zS_s ⟨rfl, rfl, (by first | decide | omega)⟩
    · unfold f_M_inKey_43
      exact zS_s ⟨rfl, rfl, (by first | decide | omega)⟩
  · refine zS_g (by unfold r32; omega) ?_
    refine zS_i (fun h2 => ?_) (fun h2 => ?_)
    · unfold f_M_inKey_31
      exact zS_s ⟨rfl, rfl, (by first | decide | omega)⟩
    · unfold f_M_inKey_31
      exact zS_s ⟨rfl, rfl, (by first | decide | omega)⟩
theorem s_acc100 {K : Nat} {V w u : Int} {F : zF} {B0 : zB} (hR0 : RDW V w F B0) (u0 : 0 ≤ u) (u1 : u < V) (hK : 1000 ≤ K) {rec : Int → Int → Int → Int → zF → zB → zO} {Q : Int → zF → zB → Prop} {i l3 : Int} (i0 : 0 ≤ i) (i1 : i < B0 13 w 13 u) (hrec : ∀ l3 B, r32 l3 → SQ w B0 B → zS (rec (i + 1) l3 w u F B) Q) (r3 : r32 l3) {x : Int} (x0 : x = -1 ∨ (1000 * u ≤ x ∧ x < 1000 * u + B0 13 w 12 u)) : ∀ (n : Nat) (k : Int) (B : zB), SQ w B0 B → 0 ≤ k → k ≤ 6 → 6 - k < n → zS (f_M_accidentals_100 rec K n k x (800*u+i) i l3 w u F B) (Q) := by
  intro n
  induction n with
  | zero => intro k B hq k0 k1 hk; exfalso; omega
  | succ n ih =>
    intro k B hq k0 k1 hk
    have b0 := rd_0 hR0
    have bv := rd_v hR0 u0 u1
    rw [f_M_accidentals_100]
    refine zS_g (by unfold r32; omega) ?_ -- 1
    refine zS_i (fun h1 => ?_) (fun h1 => ?_) -- 2: (x < 0)
    · unfold f_M_accidentals_206
      exact hrec _ _ r3 hq -- 4 rec
    · refine zS_g (by first | decide | omega) ?_ -- 5
      refine zS_g (by first | decide | omega) ?_ -- 6
      refine zS_g (by unfold r32; omega) ?_ -- 7
      have a2 := hq.2 13 w 21 x (by first | decide | omega) (by first | decide | omega)
      have a3 := rd_e (u := u) (x := x) hR0 (by first | decide | omega) (by first | decide | omega) (by first | decide | omega) (by first | decide | omega)
      refine zS_g (by unfold r32; omega) ?_ -- 8
      refine zS_i (fun h4 => ?_) (fun h4 => ?_) -- 9: ((B 13 w 21 x) ≤ k)
      · unfold f_M_accidentals_206
        exact hrec _ _ r3 hq -- 11 rec
      · refine zS_g (by first | decide | omega) ?_ -- 12
        have a6 := hq.2 13 w 28 ((6 * x) + k) (by first | decide | omega) (by first | decide | omega)
        have a5 := rd_p (u := u) (x := x) (k := ((6 * x) + k) - 6 * x) hR0 (by first | decide | omega) (by first | decide | omega) (by first | decide | omega) (by first | decide | omega) (by first | decide | omega) (by first | decide | omega)
        have a5e : 6 * x + (((6 * x) + k) - 6 * x) = ((6 * x) + k) := by omega
        rw [a5e] at a5
        have a7 := hq.2 13 w 29 ((6 * x) + k) (by first | decide | omega) (by first | decide | omega)
        refine zS_b (s_comesOn (K := K) (i := i) (RDW_q hR0 hq) u0 u1 (by first | decide | omega) (by have := hq.2 13 w 13 u (by first | decide | omega) (by first | decide | omega); omega) (by unfold r32; omega) (by unfold r32; omega) (by first | decide | omega)) ?_
        rintro r9 F B ⟨rfl, rfl, q8⟩
        refine zS_g (by unfold r32; omega) ?_ -- 14
        refine zS_i (fun h11 => ?_) (fun h11 => ?_) -- 15: (r9 = 0)
        · refine zS_g (by first | decide | omega) ?_ -- 16
          have a12 := hq.1.1 (B 13 w 28 ((6 * x) + k))
          refine zS_g (by unfold r32; omega) ?_ -- 17
          refine zS_g (by unfold r32; omega) ?_ -- 18
          refine zS_i (fun h13 => ?_) (fun h13 => ?_) -- 19: ((B 14 0 58 (B 13 w 28 ((6 * x) + k))) = (B 13 w 29 ((6 * x) + k)))
          · unfold f_M_accidentals_200
            exact ih (k + 1) _ hq (by first | decide | omega) (by first | decide | omega) (by first | decide | omega) -- 21 f_M_accidentals_100
          · refine zS_g (by first | decide | omega) ?_ -- 22
            have a14 := hq.1.2 w ((800 * u) + i)
            have z15 := zshl_R 1 k
            have z16 := zor_R (B 13 w 37 ((800 * u) + i)) (zshl 1 k)
            unfold f_M_accidentals_200
            exact ih (k + 1) _ (SQ_8 (j := (B 13 w 28 ((6 * x) + k))) (v := (B 13 w 29 ((6 * x) + k))) (SQ_u (k := 37) (j := ((800 * u) + i)) (v := (zor (B 13 w 37 ((800 * u) + i)) (zshl 1 k))) hq (by decide) (by decide) (zor_R _ _)) (by unfold r32; omega)) (by first | decide | omega) (by first | decide | omega) (by first | decide | omega) -- 24 f_M_accidentals_100
        · unfold f_M_accidentals_200
          exact ih (k + 1) _ hq (by first | decide | omega) (by first | decide | omega) (by first | decide | omega) -- 26 f_M_accidentals_100
theorem s_acc80 {K : Nat} {V w u : Int} {F : zF} {B0 : zB} (hR0 : RDW V w F B0) (u0 : 0 ≤ u) (u1 : u < V) (hK : 1000 ≤ K) {rec : Int → Int → Int → Int → zF → zB → zO} {Q : Int → zF → zB → Prop} {i l3 : Int} (i0 : 0 ≤ i) (i1 : i < B0 13 w 13 u) (hrec : ∀ l3 B, r32 l3 → SQ w B0 B → zS (rec (i + 1) l3 w u F B) Q) (r3 : r32 l3) {B : zB} (hq : SQ w B0 B) : zS (f_M_accidentals_80 rec K (800*u+i) i l3 w u F B) Q := by
  have b0 := rd_0 hR0
  have bv := rd_v hR0 u0 u1
  unfold f_M_accidentals_80
  refine zS_g (by first | decide | omega) ?_
  refine zS_g (by first | decide | omega) ?_
  have h2 : SQ w B0 (zup4 B 13 w 37 (800*u+i) 0) := SQ_u hq (by decide) (by decide) (by decide)
  refine zS_b (s_sounding (K := K) (i := i) (RDW_q hR0 h2) u0 u1 (by first | decide | omega) (by have := h2.2 13 w 13 u (by first | decide | omega) (by first | decide | omega); omega)) ?_
  rintro r _ _ ⟨rfl, rfl, q⟩
  have e := h2.2 13 w 12 u (by first | decide | omega) (by first | decide | omega)
  exact s_acc100 hR0 u0 u1 hK i0 i1 hrec r3 (by first | decide | omega) K 0 _ h2 (by first | decide | omega) (by first | decide | omega) (by first | decide | omega)
theorem s_acc40 {K : Nat} {V w u : Int} {F : zF} {B0 : zB} (hR0 : RDW V w F B0) (u0 : 0 ≤ u) (u1 : u < V) (hK : 1000 ≤ K) {rec : Int → Int → Int → Int → zF → zB → zO} {Q : Int → zF → zB → Prop} {i l3 : Int} (i0 : 0 ≤ i) (i1 : i < B0 13 w 13 u) (hrec : ∀ l3 B, r32 l3 → SQ w B0 B → zS (rec (i + 1) l3 w u F B) Q) : ∀ (n : Nat) (k : Int) (B : zB), SQ w B0 B → 0 ≤ k → k ≤ 63 → 63 - k < n → zS (f_M_accidentals_40 rec K n k (800*u+i) i w u F B) (Q) := by
  intro n
  induction n with
  | zero => intro k B hq k0 k1 hk; exfalso; omega
  | succ n ih =>
    intro k B hq k0 k1 hk
    have b0 := rd_0 hR0
    have bv := rd_v hR0 u0 u1
    have zk : k < 63 → zrm k 7 = k % 7 := fun h => zrm_e k0 (by unfold r32; omega) (by decide) (by decide)
    have zk2 : 0 ≤ k % 7 ∧ k % 7 < 7 := by omega
    rw [f_M_accidentals_40]
    refine zS_g (by unfold r32; omega) ?_ -- 1
    refine zS_i (fun h1 => ?_) (fun h1 => ?_) -- 2: (63 ≤ k)
    · refine zS_g (by first | decide | omega) ?_ -- 3
      refine zS_g (by first | decide | omega) ?_ -- 4
      have a2 := hq.2 13 w 31 ((800 * u) + i) (by first | decide | omega) (by first | decide | omega)
      have a3 := rd_n (u := u) (y := ((800 * u) + i)) hR0 (by first | decide | omega) (by first | decide | omega) (by first | decide | omega) (by first | decide | omega)
      exact s_acc80 hR0 u0 u1 hK i0 i1 hrec (by unfold r32; omega) hq -- 5 f_M_accidentals_80
    · refine zS_g (by first | decide | omega) ?_ -- 6
      have z4 := zrm_R k 7
      refine zS_b (s_inKey (K := K) (a := (F 13 w 2)) (s := (zrm k 7)) (by first | decide | omega) (by first | decide | omega) (by first | decide | omega) (by first | decide | omega)) ?_
      rintro r6 F B ⟨rfl, rfl, q5⟩
      refine zS_g (by first | decide | omega) ?_ -- 8
      exact ih (k + 1) _ (SQ_8 (j := k) (v := r6) hq (by unfold r32; omega)) (by first | decide | omega) (by first | decide | omega) (by first | decide | omega) -- 9 f_M_accidentals_40
theorem s_acc5 {K : Nat} {V w u : Int} {F : zF} {B0 : zB} (hR0 : RDW V w F B0) (u0 : 0 ≤ u) (u1 : u < V) (hK : 1000 ≤ K) : ∀ (n : Nat) (i l3 : Int) (B : zB), r32 l3 → SQ w B0 B → 0 ≤ i → i ≤ B0 13 w 13 u → B0 13 w 13 u - i < n → zS (f_M_accidentals_5 K n i l3 w u F B) (fun _ F' B' => F' = F ∧ SQ w B0 B') := by
  intro n
  induction n with
  | zero => intro i l3 B r3 hq i0 i1 hk; exfalso; omega
  | succ n ih =>
    intro i l3 B r3 hq i0 i1 hk
    have b0 := rd_0 hR0
    have bv := rd_v hR0 u0 u1
    rw [f_M_accidentals_5]
    refine zS_g (by first | decide | omega) ?_ -- 1
    refine zS_g (by first | decide | omega) ?_ -- 2
    refine zS_g (by unfold r32; omega) ?_ -- 3
    have a1 := hq.2 13 w 13 u (by first | decide | omega) (by first | decide | omega)
    refine zS_g (by unfold r32; omega) ?_ -- 4
    refine zS_i (fun h2 => ?_) (fun h2 => ?_) -- 5: ((B 13 w 13 u) ≤ i)
    · exact zS_s ⟨rfl, hq⟩
    · refine zS_g (by first | decide | omega) ?_ -- 7
      have a3 := hq.2 13 w 31 ((800 * u) + i) (by first | decide | omega) (by first | decide | omega)
      have a4 := rd_n (u := u) (y := ((800 * u) + i)) hR0 (by first | decide | omega) (by first | decide | omega) (by first | decide | omega) (by first | decide | omega)
      refine zS_g (by unfold r32; omega) ?_ -- 8
      refine zS_g (by unfold r32; omega) ?_ -- 9
      refine zS_i (fun h5 => ?_) (fun h5 => ?_) -- 10: ((B 13 w 31 ((800 * u) + i)) = l3)
      · exact s_acc80 hR0 u0 u1 hK (i := i) (by first | decide | omega) (by first | decide | omega) (fun l3 B h3 hB => ih _ _ B h3 hB (by first | decide | omega) (by first | decide | omega) (by first | decide | omega)) r3 hq -- 11 f_M_accidentals_80
      · exact s_acc40 (l3 := 0) hR0 u0 u1 hK (i := i) (by first | decide | omega) (by first | decide | omega) (fun l3 B h3 hB => ih _ _ B h3 hB (by first | decide | omega) (by first | decide | omega) (by first | decide | omega)) K 0 _ hq (by first | decide | omega) (by first | decide | omega) (by first | decide | omega) -- 12 f_M_accidentals_40
theorem s_accidentals {K : Nat} {V w u : Int} {F : zF} {B0 : zB} (hR0 : RDW V w F B0) (u0 : 0 ≤ u) (u1 : u < V) (hK : 1000 ≤ K) (hX : XS B0) : zS (f_M_accidentals K w u F B0) (fun _ F' B' => F' = F ∧ SQ w B0 B') := by
  have bv := rd_v hR0 u0 u1
  exact s_acc5 hR0 u0 u1 hK K 0 (-1) B0 (by decide) (SQ_r hX) (by first | decide | omega) (by first | decide | omega) (by first | decide | omega)
theorem s_ledgers {K : Nat} {V w u : Int} {F : zF} {B : zB} (hR : RDW V w F B) (u0 : 0 ≤ u) (u1 : u < V) {i : Int} (i0 : 0 ≤ i) (i1 : i < B 13 w 13 u) : zS (f_M_ledgers K w u i F B) (fun r F' B' => F' = F ∧ B' = B ∧ (r32 r)) := by
  have b0 := rd_0 hR
  have bv := rd_v hR u0 u1
  unfold f_M_ledgers
  refine zS_b (s_sounding (K := K) (i := i) hR u0 u1 (by first | decide | omega) (by first | decide | omega)) ?_
  rintro r2 F B ⟨rfl, rfl, q1⟩
  refine zS_g (by unfold r32; omega) ?_ -- 2
  refine zS_i (fun h4 => ?_) (fun h4 => ?_) -- 3: (0 ≤ r2)
  · refine zS_b (s_highest (K := K) (x := r2) hR u0 u1 (by first | decide | omega) (by first | decide | omega) (by first | decide | omega)) ?_
    rintro r6 F B ⟨rfl, rfl, q5⟩
    refine zS_b (s_lowest (K := K) (x := r2) hR u0 u1 (by first | decide | omega) (by first | decide | omega) (by first | decide | omega)) ?_
    rintro r9 F B ⟨rfl, rfl, q8⟩
    refine zS_g (by unfold r32; omega) ?_ -- 6
    refine zS_i (fun h11 => ?_) (fun h11 => ?_) -- 7: (r6 ≤ 8)
    · unfold f_M_ledgers_51
      refine zS_g (by unfold r32; omega) ?_ -- 9
      refine zS_i (fun h12 => ?_) (fun h12 => ?_) -- 10: (0 ≤ r9)
      · unfold f_M_ledgers_65
        exact zS_s ⟨rfl, rfl, by unfold r32; omega⟩
      · have a13 := zdv_e (a := (-r9)) (b := 2) (by first | decide | omega) (by unfold r32; omega) (by decide) (by decide)
        unfold f_M_ledgers_65
        exact zS_s ⟨rfl, rfl, by unfold r32; omega⟩
    · have a14 := zdv_e (a := (r6 - 8)) (b := 2) (by first | decide | omega) (by unfold r32; omega) (by decide) (by decide)
      unfold f_M_ledgers_51
      refine zS_g (by unfold r32; omega) ?_ -- 16
      refine zS_i (fun h15 => ?_) (fun h15 => ?_) -- 17: (0 ≤ r9)
      · unfold f_M_ledgers_65
        exact zS_s ⟨rfl, rfl, by unfold r32; omega⟩
      · have a16 := zdv_e (a := (-r9)) (b := 2) (by first | decide | omega) (by unfold r32; omega) (by decide) (by decide)
        unfold f_M_ledgers_65
        exact zS_s ⟨rfl, rfl, by unfold r32; omega⟩
  · exact zS_s ⟨rfl, rfl, by unfold r32; omega⟩
end
end
