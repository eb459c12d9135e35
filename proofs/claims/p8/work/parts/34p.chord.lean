section
/-! ===== chords, reference ===== -/
def crdF (F F' : zF) : Prop := ∀ c y k, ¬ (c = 14 ∧ y = 0 ∧ 100 ≤ k ∧ k ≤ 105) → F' c y k = F c y k
def crdB (B B' : zB) : Prop := ∀ c y k x, ¬ (c = 14 ∧ y = 0 ∧ (k = 98 ∨ k = 99)) → B' c y k x = B c y k x
theorem crdF_t {F F1 F2 : zF} (h : crdF F F1) (h' : crdF F1 F2) : crdF F F2 := fun c y k n => by rw [h' c y k n, h c y k n]
theorem crdB_t {B B1 B2 : zB} (h : crdB B B1) (h' : crdB B1 B2) : crdB B B2 := fun c y k x n => by rw [h' c y k x n, h c y k x n]
theorem crdF_w {F : zF} {k : Nat} {x : Int} (h0 : 100 ≤ k) (h1 : k ≤ 105) : crdF F (zup3 F 14 0 k x) := fun c y j n => by rw [zup3_v, if_neg (by first | decide | omega)]
theorem crdB_w {B : zB} {k : Nat} {i x : Int} (hk : k = 98 ∨ k = 99) : crdB B (zup4 B 14 0 k i x) := fun c y j z n => by rw [zup4_v, if_neg (by first | decide | omega)]
/-- the classes told so far -/
def CLs (n : Int) (F : zF) (B : zB) : Prop := (F 14 0 100 = n ∧ 0 ≤ n ∧ n ≤ 24) ∧ ∀ i, 0 ≤ i → i < n → (0 ≤ B 14 0 98 i ∧ B 14 0 98 i ≤ 6) ∧ (-2 ≤ B 14 0 99 i ∧ B 14 0 99 i ≤ 2)
section
variable {K : Nat}
theorem L_cls2 {a b n : Int} {F : zF} {B : zB} (ha : 0 ≤ a ∧ a ≤ 6) (hb : -2 ≤ b ∧ b ≤ 2) (h : CLs n F B) (n1 : n ≤ 23) : ∀ (d N : Nat) (i : Int), i + d = n → 0 ≤ i → d < N → ∃ F' B' n', f_M_classOf_2 K N i a b F B = some (0, F', B') ∧ crdF F F' ∧ crdB B B' ∧ CLs n' F' B' ∧ (1 ≤ n' ∧ n' ≤ n + 1) ∧ ∀ k, ¬ k = 100 → F' 14 0 k = F 14 0 k := by
  obtain ⟨⟨h0, h1, h2⟩, h3⟩ := h
  intro d
  induction d with
  | zero =>
    intro N i hi i0 hN
    obtain ⟨m, rfl⟩ : ∃ m, N = m + 1 := ⟨N - 1, (by first | decide | omega)⟩
    rw [f_M_classOf_2, if_pos (by unfold r32; omega), h0, if_pos (by unfold r32; omega), if_pos (by first | decide | omega), if_pos (by first | decide | omega)]
    refine ⟨_, _, n + 1, rfl, crdF_w (by decide) (by decide), crdB_t (crdB_w (by first | decide | omega)) (crdB_w (by first | decide | omega)), ⟨⟨by rw [zup3_v, if_pos ⟨rfl, rfl, rfl⟩], (by first | decide | omega), (by first | decide | omega)⟩, fun j j0 j1 => ?_⟩, (by first | decide | omega), fun k hk => by rw [zup3_v, if_neg (by first | decide | omega)]⟩
    by_cases e : j = n
    · rw [e, zup4_v, if_neg (by first | decide | omega), zup4_v, if_pos ⟨rfl, rfl, rfl, rfl⟩, zup4_v, if_pos ⟨rfl, rfl, rfl, rfl⟩]
      exact ⟨ha, hb⟩
    · rw [zup4_v, if_neg (by first | decide | omega), zup4_v, if_neg (by first | decide | omega), zup4_v, if_neg (by first | decide | omega), zup4_v, if_neg (by first | decide | omega)]
      exact h3 j j0 (by first | decide | omega)
  | succ d ih =>
    intro N i hi i0 hN
    obtain ⟨m, rfl⟩ : ∃ m, N = m + 1 := ⟨N - 1, (by first | decide | omega)⟩
    have k := h3 i i0 (by first | decide | omega)
    rw [f_M_classOf_2, if_pos (by unfold r32; omega), h0, if_pos (by unfold r32; omega), if_neg (by first | decide | omega), if_pos (by first | decide | omega), if_pos (by unfold r32; omega), if_pos (by unfold r32; omega)]
    by_cases c : B 14 0 98 i = a
    · rw [if_pos c, if_pos (by unfold r32; omega), if_pos (by unfold r32; omega)]
      by_cases c1 : B 14 0 99 i = b
      · rw [if_pos c1]
        exact ⟨F, B, n, rfl, fun _ _ _ _ => rfl, fun _ _ _ _ _ => rfl, ⟨⟨h0, h1, h2⟩, h3⟩, (by first | decide | omega), fun _ _ => rfl⟩
      · rw [if_neg c1]; exact ih m (i + 1) (by first | decide | omega) (by first | decide | omega) (by first | decide | omega)
    · rw [if_neg c]; exact ih m (i + 1) (by first | decide | omega) (by first | decide | omega) (by first | decide | omega)
/-- the lowest tone told so far -/
def CLo (F : zF) : Prop := (F 14 0 100 = 0 ∧ F 14 0 101 = 1000) ∨ ((0 ≤ F 14 0 101 ∧ F 14 0 101 ≤ 200) ∧ 0 ≤ F 14 0 102 ∧ F 14 0 102 ≤ 62)
def CLq (n : Int) (F0 : zF) (B0 : zB) (F : zF) (B : zB) : Prop := crdF F0 F ∧ crdB B0 B ∧ (∃ m, CLs m F B ∧ m ≤ n) ∧ CLo F
theorem L_ca47 {V w u x j : Int} {F0 : zF} {B0 : zB} {rec : Int → Int → Int → zF → zB → zO} {Q : zO → Prop} (hK : 200 ≤ K) (hR : RDW V w F0 B0) (u0 : 0 ≤ u) (u1 : u < V) (x0 : 1000 * u ≤ x) (x1 : x < 1000 * u + B0 13 w 12 u) (go : ∀ F B, CLq (6 * (u + 1)) F0 B0 F B → Q (rec (u + 1) w j F B)) : ∀ (d N : Nat) (l : Int) (F : zF) (B : zB), l + d = 6 * x + B0 13 w 21 x → 6 * x ≤ l → d < N → CLq (6 * u + (l - 6 * x)) F0 B0 F B → Q (f_M_classesAt_47 rec K N l x u w j F B) := by
  have w0 := hR.1
  have hV := hR.2.1
  have hv := (rd_v hR u0 u1).1
  have he := (rd_e hR u0 u1 x0 x1).2.2.1
  intro d
  induction d with
  | zero =>
    intro N l F B hl l0 hN h
    obtain ⟨m, rfl⟩ : ∃ m, N = m + 1 := ⟨N - 1, (by first | decide | omega)⟩
    obtain ⟨f, b, ⟨m', hm, ml⟩, lo⟩ := h
    rw [f_M_classesAt_47, if_pos w0, if_pos (by first | decide | omega), if_pos (by unfold r32; omega), b 13 w 21 x (by first | decide | omega), if_pos (by unfold r32; omega), if_pos (by first | decide | omega)]
    exact go F B ⟨f, b, ⟨m', hm, (by first | decide | omega)⟩, lo⟩
  | succ d ih =>
    intro N l F B hl l0 hN h
    obtain ⟨m, rfl⟩ : ∃ m, N = m + 1 := ⟨N - 1, (by first | decide | omega)⟩
    obtain ⟨f, b, ⟨m', hm, ml⟩, lo⟩ := h
    have pp := rd_p hR u0 u1 x0 x1 (k := l - 6 * x) (by first | decide | omega) (by first | decide | omega)
    rw [show 6 * x + (l - 6 * x) = l by omega] at pp
    have m0 := hm.1
    have e28 : B 13 w 28 l = B0 13 w 28 l := b 13 w 28 l (by first | decide | omega)
    have e29 : B 13 w 29 l = B0 13 w 29 l := b 13 w 29 l (by first | decide | omega)
    have ez : zrm (B0 13 w 28 l) 7 = B0 13 w 28 l % 7 := zrm_e pp.1.1 (by unfold r32; omega) (by decide) (by decide)
    obtain ⟨F1, B1, n1, e1, f1, b1, c1, c2, c3⟩ := L_cls2 (K := K) (a := B0 13 w 28 l % 7) (b := B0 13 w 29 l) (F := F) (B := B) (by first | decide | omega) pp.2 hm (by first | decide | omega) m'.toNat K 0 (by first | decide | omega) (by decide) (by first | decide | omega)
    have e1' : f_M_classOf K (B0 13 w 28 l % 7) (B0 13 w 29 l) F B = some (0, F1, B1) := e1
    have g28 : B1 13 w 28 l = B0 13 w 28 l := by rw [b1 13 w 28 l (by first | decide | omega), e28]
    have g29 : B1 13 w 29 l = B0 13 w 29 l := by rw [b1 13 w 29 l (by first | decide | omega), e29]
    obtain ⟨r, F2, B2, e2, rfl, rfl, r0, r1⟩ := s_tone (K := K) (s := B0 13 w 28 l) (a := B0 13 w 29 l) (F := F1) (B := B1) pp.1.1 pp.1.2 pp.2.1 pp.2.2
    have k101 : F2 14 0 101 = F 14 0 101 := c3 101 (by decide)
    have k102 : F2 14 0 102 = F 14 0 102 := c3 102 (by decide)
    have r101 : r32 (F2 14 0 101) := by rw [k101]; unfold CLo at lo; unfold r32; omega
    have n100 := c1.1.1
    have fB := crdF_t f f1
    have bB := crdB_t b b1
    have nx : CLo F2 → Q (f_M_classesAt_168 rec (f_M_classesAt_47 rec K m) K l x u w j F2 B2) := fun lo2 => ih m (l + 1) F2 B2 (by first | decide | omega) (by first | decide | omega) (by first | decide | omega) ⟨fB, bB, ⟨n1, c1, (by first | decide | omega)⟩, lo2⟩
    have o140 : Q (f_M_classesAt_140 rec (f_M_classesAt_47 rec K m) K r l x u w j F2 B2) := by
      unfold f_M_classesAt_140
      rw [if_pos w0, if_pos (by first | decide | omega), g28, g29]
      refine ih m (l + 1) _ B2 (by first | decide | omega) (by first | decide | omega) (by first | decide | omega) ⟨crdF_t fB (crdF_t (crdF_w (by decide) (by decide)) (crdF_t (crdF_w (by decide) (by decide)) (crdF_w (by decide) (by decide)))), bB, ⟨n1, ⟨⟨by rw [zup3_v, if_neg (by first | decide | omega), zup3_v, if_neg (by first | decide | omega), zup3_v, if_neg (by first | decide | omega)]; exact n100, c1.1.2⟩, c1.2⟩, (by first | decide | omega)⟩, Or.inr ?_⟩
      rw [zup3_v, if_neg (by first | decide | omega), zup3_v, if_neg (by first | decide | omega), zup3_v, if_pos ⟨rfl, rfl, rfl⟩, zup3_v, if_neg (by first | decide | omega), zup3_v, if_pos ⟨rfl, rfl, rfl⟩]
      exact ⟨(by first | decide | omega), pp.1⟩
    rw [f_M_classesAt_47, if_pos w0, if_pos (by first | decide | omega), if_pos (by unfold r32; omega), b 13 w 21 x (by first | decide | omega), if_pos (by unfold r32; omega), if_neg (by first | decide | omega), if_pos (by first | decide | omega), e28, e29, ez, e1', zb_s, g28, g29, e2, zb_s, if_pos (by unfold r32; omega), if_pos r101]
    have lo' : F2 14 0 101 < r ∨ r = F2 14 0 101 → CLo F2 ∧ r32 (F2 14 0 102) := fun q => by
      unfold CLo at lo ⊢
      rw [k101] at q
      rw [k101, k102]
      have : (0 ≤ F 14 0 101 ∧ F 14 0 101 ≤ 200) ∧ 0 ≤ F 14 0 102 ∧ F 14 0 102 ≤ 62 := by
        rcases lo with z | z
        · omega
        · exact z
      exact ⟨Or.inr this, by unfold r32; omega⟩
    by_cases q1 : F2 14 0 101 < r
    · rw [if_pos q1]; exact nx (lo' (Or.inl q1)).1
    rw [if_neg q1]
    by_cases q2 : r = F2 14 0 101
    · rw [if_pos q2, g28, if_pos (by unfold r32; omega), if_pos (lo' (Or.inr q2)).2]
      by_cases q3 : B0 13 w 28 l < F2 14 0 102
      · rw [if_pos q3]; exact o140
      · rw [if_neg q3]; exact nx (lo' (Or.inr q2)).1
    · rw [if_neg q2]; exact o140
theorem L_ca14 {V w j : Int} {F0 : zF} {B0 : zB} (hK : 200 ≤ K) (hR : RDW V w F0 B0) (hM : MW5 V w F0 B0) (hj : 0 ≤ j ∧ j < F0 13 w 72) : ∀ (d N : Nat) (u : Int) (F : zF) (B : zB), u + d = V → 0 ≤ u → d < N → CLq (6 * u) F0 B0 F B → ∃ F' B', f_M_classesAt_14 K N u w j F B = some (0, F', B') ∧ CLq 24 F0 B0 F' B' := by
  have w0 := hR.1
  have hV := hR.2.1
  have h72 := hM.1
  intro d
  induction d with
  | zero =>
    intro N u F B hu u0 hN h
    obtain ⟨m, rfl⟩ : ∃ m, N = m + 1 := ⟨N - 1, (by first | decide | omega)⟩
    obtain ⟨f, b, ⟨m', hm, ml⟩, lo⟩ := h
    rw [f_M_classesAt_14, if_pos w0, if_pos (by unfold r32; omega), f 13 w 1 (by first | decide | omega), if_pos (by unfold r32; omega), if_pos (by first | decide | omega)]
    exact ⟨F, B, rfl, f, b, ⟨m', hm, (by first | decide | omega)⟩, lo⟩
  | succ d ih =>
    intro N u F B hu u0 hN h
    obtain ⟨m, rfl⟩ : ∃ m, N = m + 1 := ⟨N - 1, (by first | decide | omega)⟩
    have h' := h
    obtain ⟨f, b, ⟨m', hm, ml⟩, lo⟩ := h
    have k75 := hM.2.2 u j u0 (by first | decide | omega) hj.1 hj.2
    have he := (rd_e hR u0 (by first | decide | omega) (x := 1000 * u + B0 13 w 75 (4 * j + u)) (by first | decide | omega) (by first | decide | omega)).2.2.1
    rw [f_M_classesAt_14, if_pos w0, if_pos (by unfold r32; omega), f 13 w 1 (by first | decide | omega), if_pos (by unfold r32; omega), if_neg (by first | decide | omega), if_pos (by first | decide | omega), b 13 w 75 _ (by first | decide | omega)]
    exact L_ca47 (Q := fun x => ∃ F' B', x = some (0, F', B') ∧ CLq 24 F0 B0 F' B') (rec := f_M_classesAt_14 K m) hK hR u0 (by first | decide | omega) (by first | decide | omega) (by first | decide | omega) (fun F B q => ih m (u + 1) F B (by first | decide | omega) (by first | decide | omega) (by first | decide | omega) q) (B0 13 w 21 (1000 * u + B0 13 w 75 (4 * j + u))).toNat K (6 * (1000 * u + B0 13 w 75 (4 * j + u))) F B (by first | decide | omega) (Int.le_refl _) (by first | decide | omega) (by rw [show 6 * u + (6 * (1000 * u + B0 13 w 75 (4 * j + u)) - 6 * (1000 * u + B0 13 w 75 (4 * j + u))) = 6 * u by omega]; exact h')
theorem L_abv {n a b : Int} {F : zF} {B : zB} (h : CLs n F B) (ha : 0 ≤ a ∧ a < n) (hb : 0 ≤ b ∧ b < n) : ∃ r, f_M_above K a b F B = some (r, F, B) ∧ 0 ≤ r ∧ r < 12 := by
  have m0 := h.1
  have ka := h.2 a ha.1 ha.2
  have kb := h.2 b hb.1 hb.2
  obtain ⟨r, F1, B1, e, rfl, rfl, r0, r1⟩ := s_tone (K := K) (s := B 14 0 98 b) (a := B 14 0 99 b) (F := F) (B := B) kb.1.1 (by first | decide | omega) kb.2.1 kb.2.2
  obtain ⟨s, F2, B2, e2, rfl, rfl, s0, s1⟩ := s_tone (K := K) (s := B1 14 0 98 a) (a := B1 14 0 99 a) (F := F1) (B := B1) ka.1.1 (by first | decide | omega) ka.2.1 ka.2.2
  obtain ⟨m, F3, B3, e3, rfl, rfl, m1, m2⟩ := s_mod (K := K) (a := r - s) (b := 12) (F := F2) (B := B2) (by unfold r32; omega) (by decide) (by decide)
  unfold f_M_above
  rw [if_pos (by first | decide | omega), e, zb_s, if_pos (by first | decide | omega), e2, zb_s, e3, zb_s]
  exact ⟨m, rfl, m1, m2⟩
theorem L_ogt {a b : Int} {F : zF} {B : zB} (ha : r32 a) (hb : r32 b) : ∃ r, f_M_ofGreatThird K a b F B = some (r, F, B) ∧ -1 ≤ r ∧ r ≤ 9 := by
  have k28 : ∃ r, f_M_ofGreatThird_28 K b F B = some (r, F, B) ∧ -1 ≤ r ∧ r ≤ 9 := by
    unfold f_M_ofGreatThird_28 f_M_ofGreatThird_57
    rw [if_pos hb]
    by_cases c : 0 ≤ b
    · rw [if_pos c]
      by_cases c1 : b = 10
      · rw [if_pos c1]; exact ⟨_, rfl, by decide, by decide⟩
      · rw [if_neg c1]
        by_cases c2 : b = 11
        · rw [if_pos c2]; exact ⟨_, rfl, by decide, by decide⟩
        · rw [if_neg c2]; exact ⟨_, rfl, by decide, by decide⟩
    · rw [if_neg c]; exact ⟨_, rfl, by decide, by decide⟩
  unfold f_M_ofGreatThird f_M_ofGreatThird_15
  rw [if_pos ha]
  by_cases c : a = 8
  · rw [if_pos c, if_pos hb]
    by_cases c1 : 0 ≤ b
    · rw [if_pos c1]; exact ⟨_, rfl, by decide, by decide⟩
    · rw [if_neg c1]; exact ⟨_, rfl, by decide, by decide⟩
  rw [if_neg c]
  by_cases c1 : a < 0
  · rw [if_pos c1]; exact k28
  rw [if_neg c1]
  by_cases c2 : a = 7
  · rw [if_pos c2]; exact k28
  · rw [if_neg c2]; exact ⟨_, rfl, by decide, by decide⟩
theorem L_ost {a b : Int} {F : zF} {B : zB} (ha : r32 a) (hb : r32 b) : ∃ r, f_M_ofSmallThird K a b F B = some (r, F, B) ∧ -1 ≤ r ∧ r ≤ 9 := by
  have k50 : ∃ r, f_M_ofSmallThird_50 K b F B = some (r, F, B) ∧ -1 ≤ r ∧ r ≤ 9 := by
    unfold f_M_ofSmallThird_50 f_M_ofSmallThird_81
    rw [if_pos hb]
    by_cases c : 0 ≤ b
    · rw [if_pos c]
      by_cases c1 : b = 10
      · rw [if_pos c1]; exact ⟨_, rfl, by decide, by decide⟩
      · rw [if_neg c1]
        by_cases c2 : b = 11
        · rw [if_pos c2]; exact ⟨_, rfl, by decide, by decide⟩
        · rw [if_neg c2]; exact ⟨_, rfl, by decide, by decide⟩
    · rw [if_neg c]; exact ⟨_, rfl, by decide, by decide⟩
  unfold f_M_ofSmallThird f_M_ofSmallThird_37
  rw [if_pos ha]
  by_cases c : a = 6
  · rw [if_pos c, if_pos hb]
    by_cases c1 : 0 ≤ b
    · rw [if_pos c1]
      by_cases c2 : b = 10
      · rw [if_pos c2]; exact ⟨_, rfl, by decide, by decide⟩
      · rw [if_neg c2]
        by_cases c3 : b = 9
        · rw [if_pos c3]; exact ⟨_, rfl, by decide, by decide⟩
        · rw [if_neg c3]; exact ⟨_, rfl, by decide, by decide⟩
    · rw [if_neg c1]; exact ⟨_, rfl, by decide, by decide⟩
  rw [if_neg c]
  by_cases c1 : a < 0
  · rw [if_pos c1]; exact k50
  rw [if_neg c1]
  by_cases c2 : a = 7
  · rw [if_pos c2]; exact k50
  · rw [if_neg c2]; exact ⟨_, rfl, by decide, by decide⟩
theorem L_ko10 {n a : Int} {F : zF} {B : zB} (h : CLs n F B) (ha : 0 ≤ a ∧ a < n) : ∀ (d N : Nat) (i x y z : Int), i + d = n → 0 ≤ i → d < N → (-1 ≤ x ∧ x ≤ 12) → (-1 ≤ y ∧ y ≤ 12) → (-1 ≤ z ∧ z ≤ 12) → ∃ r, f_M_kindOn_10 K N i x y z a F B = some (r, F, B) ∧ -1 ≤ r ∧ r ≤ 9 := by
  have m0 := h.1
  intro d
  induction d with
  | zero =>
    intro N i x y z hi i0 hN hx hy hz
    obtain ⟨m, rfl⟩ : ∃ m, N = m + 1 := ⟨N - 1, (by first | decide | omega)⟩
    rw [f_M_kindOn_10, if_pos (by unfold r32; omega), if_pos (by unfold r32; omega), if_pos (by first | decide | omega), if_pos (by unfold r32; omega)]
    unfold f_M_kindOn_146
    by_cases c : z = 4
    · obtain ⟨r, e, r0, r1⟩ := L_ogt (K := K) (a := y) (b := x) (F := F) (B := B) (by unfold r32; omega) (by unfold r32; omega)
      rw [if_pos c, e, zb_s]; exact ⟨r, rfl, r0, r1⟩
    · rw [if_neg c]
      by_cases c1 : z = 3
      · obtain ⟨r, e, r0, r1⟩ := L_ost (K := K) (a := y) (b := x) (F := F) (B := B) (by unfold r32; omega) (by unfold r32; omega)
        rw [if_pos c1, e, zb_s]; exact ⟨r, rfl, r0, r1⟩
      · rw [if_neg c1]; exact ⟨-1, rfl, by decide, by decide⟩
  | succ d ih =>
    intro N i x y z hi i0 hN hx hy hz
    obtain ⟨m, rfl⟩ : ∃ m, N = m + 1 := ⟨N - 1, (by first | decide | omega)⟩
    have ki := h.2 i i0 (by first | decide | omega)
    have ka := h.2 a ha.1 ha.2
    have nx : ∀ x y z, (-1 ≤ x ∧ x ≤ 12) → (-1 ≤ y ∧ y ≤ 12) → (-1 ≤ z ∧ z ≤ 12) → ∃ r, f_M_kindOn_111 (f_M_kindOn_10 K m) K z i x y a F B = some (r, F, B) ∧ -1 ≤ r ∧ r ≤ 9 := fun x y z hx hy hz => ih m (i + 1) x y z (by first | decide | omega) (by first | decide | omega) (by first | decide | omega) hx hy hz
    have no : ∃ r, f_M_kindOn_109 K F B = some (r, F, B) ∧ -1 ≤ r ∧ r ≤ 9 := ⟨-1, rfl, by decide, by decide⟩
    rw [f_M_kindOn_10, if_pos (by unfold r32; omega), if_pos (by unfold r32; omega), if_neg (by first | decide | omega), if_pos (by unfold r32; omega)]
    by_cases c : i = a
    · rw [if_pos c]; exact nx x y z hx hy hz
    obtain ⟨r, F1, B1, e, rfl, rfl, r0, r1⟩ := s_mod (K := K) (a := B 14 0 98 i - B 14 0 98 a) (b := 7) (F := F) (B := B) (by unfold r32; omega) (by decide) (by decide)
    obtain ⟨s, e2, s0, s1⟩ := L_abv (K := K) h ha (b := i) (by first | decide | omega)
    rw [if_neg c, if_pos (by first | decide | omega), if_pos (by first | decide | omega), e, zb_s, e2, zb_s, if_pos (by unfold r32; omega)]
    have o90 : ∃ q, f_M_kindOn_90 (f_M_kindOn_10 K m) K s r i x y z a F1 B1 = some (q, F1, B1) ∧ -1 ≤ q ∧ q ≤ 9 := by
      unfold f_M_kindOn_90
      rw [if_pos (by unfold r32; omega)]
      by_cases c1 : r = 6
      · rw [if_pos c1, if_pos (by unfold r32; omega)]
        by_cases c2 : 0 ≤ x
        · rw [if_pos c2]; exact no
        · rw [if_neg c2]; exact nx s y z (by first | decide | omega) hy hz
      · rw [if_neg c1]; exact no
    have o74 : ∃ q, f_M_kindOn_74 (f_M_kindOn_10 K m) K s r i x y z a F1 B1 = some (q, F1, B1) ∧ -1 ≤ q ∧ q ≤ 9 := by
      unfold f_M_kindOn_74
      rw [if_pos (by unfold r32; omega)]
      by_cases c1 : r = 4
      · rw [if_pos c1, if_pos (by unfold r32; omega)]
        by_cases c2 : 0 ≤ y
        · rw [if_pos c2]; exact o90
        · rw [if_neg c2]; exact nx x s z hx (by first | decide | omega) hz
      · rw [if_neg c1]; exact o90
    by_cases c1 : r = 2
    · rw [if_pos c1, if_pos (by unfold r32; omega)]
      by_cases c2 : 0 ≤ z
      · rw [if_pos c2]; exact o74
      · rw [if_neg c2]; exact nx x y s hx hy (by first | decide | omega)
    · rw [if_neg c1]; exact o74
theorem L_ca13 {n : Int} {F0 : zF} {B : zB} (hK : 200 ≤ K) : ∀ (d N : Nat) (i : Int) (F : zF), i + d = n → 0 ≤ i → d < N → crdF F0 F → CLs n F B → CLo F → (-1 ≤ F 14 0 104 ∧ F 14 0 104 ≤ 9) → (0 ≤ F 14 0 104 → 0 ≤ F 14 0 105 ∧ F 14 0 105 < n) → ∃ F', f_M_chordAt_13 K N i F B = some (0, F', B) ∧ crdF F0 F' ∧ CLs n F' B ∧ CLo F' ∧ (-1 ≤ F' 14 0 104 ∧ F' 14 0 104 ≤ 9) ∧ (0 ≤ F' 14 0 104 → 0 ≤ F' 14 0 105 ∧ F' 14 0 105 < n) := by
  intro d
  induction d with
  | zero =>
    intro N i F hi i0 hN f h lo h4 h5
    obtain ⟨m, rfl⟩ : ∃ m, N = m + 1 := ⟨N - 1, (by first | decide | omega)⟩
    have m0 := h.1
    rw [f_M_chordAt_13, if_pos (by unfold r32; omega), if_pos (by unfold r32; omega), if_pos (by first | decide | omega)]
    exact ⟨F, rfl, f, h, lo, h4, h5⟩
  | succ d ih =>
    intro N i F hi i0 hN f h lo h4 h5
    obtain ⟨m, rfl⟩ : ∃ m, N = m + 1 := ⟨N - 1, (by first | decide | omega)⟩
    have m0 := h.1
    rw [f_M_chordAt_13, if_pos (by unfold r32; omega), if_pos (by unfold r32; omega), if_neg (by first | decide | omega), if_pos (by unfold r32; omega)]
    by_cases c : 0 ≤ F 14 0 104
    · rw [if_pos c]; exact ⟨F, rfl, f, h, lo, h4, h5⟩
    have h1 : CLs n (zup3 F 14 0 105 i) B := ⟨⟨by rw [zup3_v, if_neg (by first | decide | omega)]; exact m0.1, m0.2⟩, h.2⟩
    obtain ⟨r, e, r0, r1⟩ := L_ko10 (K := K) h1 (a := i) (by first | decide | omega) n.toNat K 0 (-1) (-1) (-1) (by first | decide | omega) (by decide) (by first | decide | omega) (by first | decide | omega) (by first | decide | omega) (by first | decide | omega)
    have e' : f_M_kindOn K i (zup3 F 14 0 105 i) B = some (r, zup3 F 14 0 105 i, B) := e
    rw [if_neg c, e', zb_s]
    refine ih m (i + 1) _ (by first | decide | omega) (by first | decide | omega) (by first | decide | omega) (crdF_t f (crdF_t (crdF_w (by decide) (by decide)) (crdF_w (by decide) (by decide)))) ⟨⟨by rw [zup3_v, if_neg (by first | decide | omega)]; exact h1.1.1, m0.2⟩, h.2⟩ ?_ (by rw [zup3_v, if_pos ⟨rfl, rfl, rfl⟩]; omega) (fun _ => by rw [zup3_v, if_neg (by first | decide | omega), zup3_v, if_pos ⟨rfl, rfl, rfl⟩]; omega)
    unfold CLo at *
    rw [zup3_v, if_neg (by first | decide | omega), zup3_v, if_neg (by first | decide | omega), zup3_v, if_neg (by first | decide | omega), zup3_v, if_neg (by first | decide | omega), zup3_v, if_neg (by first | decide | omega), zup3_v, if_neg (by first | decide | omega)]
    exact lo
theorem L_chA {V w j : Int} {F : zF} {B : zB} (hK : 200 ≤ K) (hR : RDW V w F B) (hM : MW5 V w F B) (hj : 0 ≤ j ∧ j < F 13 w 72) : ∃ n F' B', f_M_chordAt K w j F B = some (0, F', B') ∧ crdF F F' ∧ crdB B B' ∧ CLs n F' B' ∧ CLo F' ∧ (-1 ≤ F' 14 0 104 ∧ F' 14 0 104 ≤ 9) ∧ (0 ≤ F' 14 0 104 → 0 ≤ F' 14 0 105 ∧ F' 14 0 105 < n) := by
  have hV := hR.2.1
  have w0 := hR.1
  have f0 : crdF F (zup3 (zup3 F 14 0 100 0) 14 0 101 1000) := crdF_t (crdF_w (by decide) (by decide)) (crdF_w (by decide) (by decide))
  obtain ⟨F1, B1, e1, f1, b1, ⟨n, c1, c2⟩, lo⟩ := L_ca14 (F0 := F) (B0 := B) hK hR hM hj V.toNat K 0 (zup3 (zup3 F 14 0 100 0) 14 0 101 1000) B (by first | decide | omega) (by decide) (by first | decide | omega) ⟨f0, fun _ _ _ _ _ => rfl, ⟨0, ⟨⟨by rw [zup3_v, if_neg (by first | decide | omega), zup3_v, if_pos ⟨rfl, rfl, rfl⟩], by decide, by decide⟩, fun i i0 i1 => (by first | decide | omega)⟩, by decide⟩, Or.inl ⟨by rw [zup3_v, if_neg (by first | decide | omega), zup3_v, if_pos ⟨rfl, rfl, rfl⟩], by rw [zup3_v, if_pos ⟨rfl, rfl, rfl⟩]⟩⟩
  have e1' : f_M_classesAt K w j F B = some (0, F1, B1) := e1
  have lo' : CLo (zup3 F1 14 0 104 (-1)) := by
    unfold CLo at *
    rw [zup3_v, if_neg (by first | decide | omega), zup3_v, if_neg (by first | decide | omega), zup3_v, if_neg (by first | decide | omega)]
    exact lo
  have m0 := c1.1
  obtain ⟨F2, e2, g1, g2, g3, g4, g5⟩ := L_ca13 (n := n) (F0 := F) (B := B1) hK n.toNat K 0 (zup3 F1 14 0 104 (-1)) (by first | decide | omega) (by decide) (by first | decide | omega) (crdF_t f1 (crdF_w (by decide) (by decide))) ⟨⟨by rw [zup3_v, if_neg (by first | decide | omega)]; exact m0.1, m0.2⟩, c1.2⟩ lo' (by rw [zup3_v, if_pos ⟨rfl, rfl, rfl⟩]; omega) (fun z => by rw [zup3_v, if_pos ⟨rfl, rfl, rfl⟩] at z; omega)
  unfold f_M_chordAt
  rw [e1', zb_s, e2]
  exact ⟨n, F2, B1, rfl, g1, b1, g2, g3, g4, g5⟩
theorem L_isF4 {n w : Int} {F : zF} {B : zB} (w0 : 0 ≤ w ∧ w < 3) (h2 : -7 ≤ F 13 w 2 ∧ F 13 w 2 ≤ 7) (h : CLs n F B) : ∀ (d N : Nat) (i s : Int), i + d = n → 0 ≤ i → d < N → (s = 0 ∨ s = 1) → ∃ r, f_M_isForeign_4 K N i s w F B = some (r, F, B) ∧ (r = 0 ∨ r = 1) := by
  have m0 := h.1
  intro d
  induction d with
  | zero =>
    intro N i s hi i0 hN hs
    obtain ⟨m, rfl⟩ : ∃ m, N = m + 1 := ⟨N - 1, (by first | decide | omega)⟩
    rw [f_M_isForeign_4, if_pos (by unfold r32; omega), if_pos (by unfold r32; omega), if_pos (by first | decide | omega), if_pos hs]
    exact ⟨s, rfl, hs⟩
  | succ d ih =>
    intro N i s hi i0 hN hs
    obtain ⟨m, rfl⟩ : ∃ m, N = m + 1 := ⟨N - 1, (by first | decide | omega)⟩
    have ki := h.2 i i0 (by first | decide | omega)
    rw [f_M_isForeign_4, if_pos (by unfold r32; omega), if_pos (by unfold r32; omega), if_neg (by first | decide | omega), if_pos (by unfold r32; omega)]
    unfold f_M_isForeign_38 f_M_isForeign_43
    by_cases c : s = 0
    · obtain ⟨r, F1, B1, e, rfl, rfl, r0, r1⟩ := s_inKey (K := K) (a := F 13 w 2) (s := B 14 0 98 i) (F := F) (B := B) h2.1 h2.2 ki.1.1 ki.1.2
      rw [if_pos c, if_pos w0, if_pos (by first | decide | omega), e, zb_s, if_pos (by unfold r32; omega), if_pos (by unfold r32; omega)]
      by_cases c1 : r = B1 14 0 99 i
      · rw [if_pos c1]; exact ih m (i + 1) 0 (by first | decide | omega) (by first | decide | omega) (by first | decide | omega) (Or.inl rfl)
      · rw [if_neg c1]; exact ih m (i + 1) 1 (by first | decide | omega) (by first | decide | omega) (by first | decide | omega) (Or.inr rfl)
    · rw [if_neg c]; exact ih m (i + 1) 1 (by first | decide | omega) (by first | decide | omega) (by first | decide | omega) (Or.inr rfl)
theorem L_tonL {w : Int} {F : zF} {B : zB} (w0 : 0 ≤ w ∧ w < 3) (h2 : -7 ≤ F 13 w 2 ∧ F 13 w 2 ≤ 7) (h3 : F 13 w 3 = 0 ∨ F 13 w 3 = 1) : ∃ r, f_M_tonicLetter K w F B = some (r, F, B) ∧ 0 ≤ r ∧ r < 7 := by
  have key : ∀ a b, r32 (a + b) → ∃ r, f_M_tonicLetter_18 K a b F B = some (r, F, B) ∧ 0 ≤ r ∧ r < 7 := fun a b hab => by
    obtain ⟨m, F1, B1, e, rfl, rfl, m1, m2⟩ := s_mod (K := K) (a := a + b) (b := 7) (F := F) (B := B) hab (by decide) (by decide)
    unfold f_M_tonicLetter_18
    rw [e, zb_s]; exact ⟨m, rfl, m1, m2⟩
  unfold f_M_tonicLetter
  rw [if_pos w0, if_pos (by unfold r32; omega)]
  by_cases c : F 13 w 3 = 0
  · rw [if_pos c]; exact key _ _ (by unfold r32; omega)
  · rw [if_neg c]; exact key _ _ (by unfold r32; omega)
end
end
