section
section
/-! ===== the reference: six tones, a chord's event ===== -/
noncomputable def MFq (w D N : Int) (bg en tn tk : Int → Int) (F : zF) (B : zB) : Prop := (F 14 0 6 = w ∧ 0 ≤ w ∧ w < 3) ∧ B 14 0 73 1 = D ∧ B 14 0 73 7 = N ∧ ∀ i, 0 ≤ i → i < N → B 14 0 75 i = tk i ∧ B 14 0 77 i = tn i ∧ B 14 0 79 i = bg i ∧ B 14 0 80 i = en i
theorem MFq_f {w D N : Int} {bg en tn tk : Int → Int} {F F' : zF} {B B' : zB} (h : MFq w D N bg en tn tk F B) (f : F' 14 0 6 = F 14 0 6) (b : ∀ k x, 73 ≤ k → k ≤ 81 → B' 14 0 k x = B 14 0 k x) : MFq w D N bg en tn tk F' B' := by
  obtain ⟨h1, h2, h3, h4⟩ := h
  refine ⟨by rw [f]; exact h1, by rw [b 73 _ (by omega) (by omega)]; exact h2, by rw [b 73 _ (by omega) (by omega)]; exact h3, fun i i0 i1 => ?_⟩
  rw [b 75 _ (by omega) (by omega), b 77 _ (by omega) (by omega), b 79 _ (by omega) (by omega), b 80 _ (by omega) (by omega)]
  exact h4 i i0 i1
section
variable {Km : Nat} {w g D N : Int} {bg en tn tk : Int → Int}
theorem M_gp {F : zF} {B : zB} {t : Int} (dq : DTq g D N bg en tn tk) (h : MFq w D N bg en tn tk F B) (ht : 0 ≤ t ∧ t ≤ 402921619456) : f_M_gridPlace Km t g F B = some (gplF g D t, F, B) := by
  obtain ⟨hg, hD, _⟩ := dq
  obtain ⟨h1, h2, h3, h4⟩ := h
  have x0 : 0 ≤ 2 * t * g + 4 * D ∧ 2 * t * g + 4 * D ≤ 30000000000000 := by rcases hg with rfl | rfl | rfl | rfl <;> omega
  unfold f_M_gridPlace gplF
  rw [if_pos (by unfold r32; omega), h2, if_pos (by unfold r32; omega), if_pos (lI_n0 (by omega) (by unfold r64; omega)), zldv_e x0.1 (by omega) (by omega) (by omega)]
/-- the least tone above a, of the sounds s .. t - 1 -/
theorem M_s19 {rec' : Int → Int → Int → Int → zF → zB → zO} {s t a n : Int} {F : zF} {B : zB} (dq : DTq g D N bg en tn tk) (h : MFq w D N bg en tn tk F B) (hs : 0 ≤ s ∧ t ≤ N) (ha : -1 ≤ a ∧ a < 128) (hn : 0 ≤ n ∧ n < 6) : ∀ (d m : Nat) (i L : Int), i + d = t → s ≤ i → d < m → ((L = 128 ∨ (a < L ∧ L < 128 ∧ ∃ j, s ≤ j ∧ j < i ∧ tn j = L)) ∧ ∀ j, s ≤ j → j < i → tn j ≤ a ∨ L ≤ tn j) → ∃ L', f_M_six_19 rec' Km m i L a n s t F B = (if L' = 128 then some (n, F, B) else rec' L' (n + 1) s t F (zup4 B 14 0 95 n L')) ∧ (L' = 128 ∨ (a < L' ∧ L' < 128 ∧ ∃ j, s ≤ j ∧ j < t ∧ tn j = L')) ∧ ∀ j, s ≤ j → j < t → tn j ≤ a ∨ L' ≤ tn j := by
  have hN := dq.2.2.1
  obtain ⟨h1, h2, h3, h4⟩ := h
  intro d
  induction d with
  | zero =>
    intro m i L e si hm hL
    obtain ⟨p, rfl⟩ : ∃ p, m = p + 1 := ⟨m - 1, by omega⟩
    have : i = t := by omega
    subst this
    refine ⟨L, ?_, hL⟩
    rw [f_M_six_19, if_pos (by unfold r32; omega), if_pos (by unfold r32; omega), if_pos (by omega), if_pos (by unfold r32; omega), if_pos hn]
  | succ d ih =>
    intro m i L e si hm hL
    obtain ⟨p, rfl⟩ : ∃ p, m = p + 1 := ⟨m - 1, by omega⟩
    have b := (h4 i (by omega) (by omega)).2.1
    have dd := (dq.2.2.2.1 i (by omega) (by omega)).2.1
    rw [f_M_six_19, if_pos (by unfold r32; omega), if_pos (by unfold r32; omega), if_neg (by omega), if_pos (by omega), b, if_pos (by unfold r32; omega), if_pos (by unfold r32; omega)]
    unfold f_M_six_58
    by_cases c : tn i ≤ a
    · rw [if_pos c]
      refine ih p (i + 1) L (by omega) (by omega) (by omega) ⟨?_, fun j j0 j1 => ?_⟩
      · rcases hL.1 with z | ⟨z1, z2, j, z3, z4, z5⟩
        · exact Or.inl z
        · exact Or.inr ⟨z1, z2, j, z3, by omega, z5⟩
      · by_cases y : j = i
        · rw [y]; exact Or.inl c
        · exact hL.2 j j0 (by omega)
    · rw [if_neg c, if_pos (by unfold r32; omega)]
      by_cases c2 : L ≤ tn i
      · rw [if_pos c2]
        refine ih p (i + 1) L (by omega) (by omega) (by omega) ⟨?_, fun j j0 j1 => ?_⟩
        · rcases hL.1 with z | ⟨z1, z2, j, z3, z4, z5⟩
          · exact Or.inl z
          · exact Or.inr ⟨z1, z2, j, z3, by omega, z5⟩
        · by_cases y : j = i
          · rw [y]; exact Or.inr c2
          · exact hL.2 j j0 (by omega)
      · rw [if_neg c2]
        refine ih p (i + 1) (tn i) (by omega) (by omega) (by omega) ⟨Or.inr ⟨by omega, by omega, i, si, by omega, rfl⟩, fun j j0 j1 => ?_⟩
        by_cases y : j = i
        · rw [y]; exact Or.inr (by omega)
        · rcases hL.2 j j0 (by omega) with z | z
          · exact Or.inl z
          · exact Or.inr (by omega)
noncomputable def toneS (tn : Int → Int) (s t x : Int) : Prop := ∃ i, s ≤ i ∧ i < t ∧ tn i = x
theorem M_s5 {s t : Int} {F : zF} (dq : DTq g D N bg en tn tk) (hKm : 500 ≤ Km) (hs : 0 ≤ s ∧ s ≤ t ∧ t ≤ N) : ∀ (d m : Nat) (n a : Int) (B : zB), n + d = 6 → 0 ≤ n → d < m → (-1 ≤ a ∧ a < 128) → MFq w D N bg en tn tk F B → (∀ k, 0 ≤ k → k < n → toneS tn s t (B 14 0 95 k) ∧ 0 ≤ B 14 0 95 k ∧ B 14 0 95 k < 128) → (∀ j k, 0 ≤ j → j < k → k < n → B 14 0 95 j < B 14 0 95 k) → (∀ x, toneS tn s t x → x ≤ a → ∃ k, 0 ≤ k ∧ k < n ∧ B 14 0 95 k = x) → (∀ k, 0 ≤ k → k < n → B 14 0 95 k ≤ a) → (0 < n → B 14 0 95 (n - 1) = a) → ∃ c B', f_M_six_5 Km m a n s t F B = some (c, F, B') ∧ SXt (toneS tn s t) c (B' 14 0 95) ∧ (∀ c i k y, ¬ (c = 14 ∧ i = 0 ∧ k = 95) → B' c i k y = B c i k y) := by
  intro d
  induction d with
  | zero =>
    intro m n a B e n0 hm ha hM k1 k2 k3 k4 k5
    obtain ⟨p, rfl⟩ : ∃ p, m = p + 1 := ⟨m - 1, by omega⟩
    have : n = 6 := by omega
    subst this
    refine ⟨6, B, ?_, ⟨by omega, k1, k2, fun x hx => ?_⟩, fun _ _ _ _ _ => rfl⟩
    · rw [f_M_six_5, if_pos (by decide), if_pos (by decide)]
    · by_cases y : x ≤ a
      · exact Or.inl (k3 x hx y)
      · refine Or.inr ⟨rfl, ?_⟩
        have := k5 (by decide)
        rw [show (6 : Int) - 1 = 5 from rfl] at this
        omega
  | succ d ih =>
    intro m n a B e n0 hm ha hM k1 k2 k3 k4 k5
    obtain ⟨p, rfl⟩ : ∃ p, m = p + 1 := ⟨m - 1, by omega⟩
    obtain ⟨L, e1, e2, e3⟩ := M_s19 (Km := Km) (rec' := f_M_six_5 Km p) (s := s) (t := t) (a := a) (n := n) dq hM ⟨hs.1, hs.2.2⟩ ha (by omega) (t - s).toNat Km s 128 (by omega) (by omega) (by have := dq.2.2.1; omega) ⟨Or.inl rfl, fun j a b => by omega⟩
    rw [f_M_six_5, if_pos (by unfold r32; omega), if_neg (by omega), e1]
    by_cases c : L = 128
    · rw [if_pos c]
      refine ⟨n, B, rfl, ⟨by omega, k1, k2, fun x hx => Or.inl (k3 x hx ?_)⟩, fun _ _ _ _ _ => rfl⟩
      obtain ⟨i, i0, i1, i2⟩ := hx
      have := (dq.2.2.2.1 i (by omega) (by omega)).2.1
      rcases e3 i i0 i1 with z | z <;> omega
    · rw [if_neg c]
      obtain ⟨l1, l2, j, l3, l4, l5⟩ := e2.resolve_left c
      have old : ∀ k, k < n → (zup4 B 14 0 95 n L) 14 0 95 k = B 14 0 95 k := fun k hk => by rw [zup4_v, if_neg (by omega)]
      have new : (zup4 B 14 0 95 n L) 14 0 95 n = L := by rw [zup4_v, if_pos (by omega)]
      obtain ⟨c', B', x1, x2, x3⟩ := ih p (n + 1) L (zup4 B 14 0 95 n L) (by omega) (by omega) (by omega) (by omega) (MFq_f hM rfl (fun k x _ _ => by rw [zup4_v, if_neg (by omega)])) (fun k a b => by
          by_cases y : k = n
          · rw [y, new]; exact ⟨⟨j, l3, l4, l5⟩, by omega, l2⟩
          · rw [old k (by omega)]; exact k1 k a (by omega)) (fun i k a b cc => by
          by_cases y : k = n
          · rw [y, new, old i (by omega)]; have := k4 i a (by omega); omega
          · rw [old i (by omega), old k (by omega)]; exact k2 i k a b (by omega)) (fun x hx hl => by
          by_cases y : x ≤ a
          · obtain ⟨k, a1, a2, a3⟩ := k3 x hx y
            exact ⟨k, a1, by omega, by rw [old k a2]; exact a3⟩
          · obtain ⟨i, i0, i1, i2⟩ := hx
            rcases e3 i i0 i1 with z | z
            · omega
            · exact ⟨n, by omega, by omega, by rw [new]; omega⟩) (fun k a b => by
          by_cases y : k = n
          · rw [y, new]; omega
          · rw [old k (by omega)]; have := k4 k a (by omega); omega) (fun _ => by rw [show n + 1 - 1 = n by omega]; exact new)
      exact ⟨c', B', x1, x2, fun c i k y n => by rw [x3 c i k y n, zup4_v, if_neg (by omega)]⟩
theorem M_six {s t : Int} {F : zF} {B : zB} (dq : DTq g D N bg en tn tk) (hKm : 500 ≤ Km) (hs : 0 ≤ s ∧ s ≤ t ∧ t ≤ N) (hM : MFq w D N bg en tn tk F B) : ∃ c B', f_M_six Km s t F B = some (c, F, B') ∧ SXt (toneS tn s t) c (B' 14 0 95) ∧ (∀ c i k y, ¬ (c = 14 ∧ i = 0 ∧ k = 95) → B' c i k y = B c i k y) :=
  M_s5 dq hKm hs 6 Km 0 (-1) B (by omega) (by omega) (by omega) (by omega) hM (fun k a b => by omega) (fun j k a b c => by omega) (fun x hx hl => by
    obtain ⟨i, i0, i1, i2⟩ := hx
    have := (dq.2.2.2.1 i (by omega) (by omega)).2.1
    omega) (fun k a b => by omega) (fun z => by omega)
/-- what the class makes of the tones of the sounds s .. t - 1 -/
noncomputable def PCH (K : zK) (o f : Int) (tn : Int → Int) (s t m : Int) (st al : Int → Int) : Prop := (0 ≤ m ∧ m ≤ 6) ∧ (∀ k, 0 ≤ k → k < m → (0 ≤ st k ∧ st k ≤ 62) ∧ (-7 ≤ al k ∧ al k ≤ 7)) ∧ ∀ F B, (F 7 0 0 = o ∧ 0 ≤ o ∧ o < K.2 8) → F 7 0 4 = 0 → B 8 o 0 2 = f → HTn tn s t B → ∃ r F' B', f_Scribe_spellEvent K 0 F B = some (r, F', B') ∧ spF F F' ∧ spB B B' ∧ EVq m st al (F', B')
/-- row x of the reference's events: its length in parts of the grid, its tones -/
noncomputable def EVr (g w x len m : Int) (st al : Int → Int) (B : zB) : Prop := (0 ≤ m ∧ m ≤ 6) ∧ B 13 w 16 x = len / gc len g ∧ B 13 w 17 x = g / gc len g ∧ B 13 w 18 x = 0 ∧ B 13 w 22 x = 0 ∧ B 13 w 21 x = m ∧ ∀ k, 0 ≤ k → k < m → B 13 w 28 (6 * x + k) = st k ∧ B 13 w 29 (6 * x + k) = al k ∧ (0 ≤ st k ∧ st k ≤ 62) ∧ (-7 ≤ al k ∧ al k ≤ 7)
/-- what a new event of voice v may change -/
noncomputable def deM (w v x : Int) (B B' : zB) : Prop := ∀ c i k y, ¬ (c = 13 ∧ i = w ∧ ((k = 12 ∧ y = v) ∨ ((k = 16 ∨ k = 17 ∨ k = 18 ∨ k = 21 ∨ k = 22) ∧ y = x) ∨ ((k = 28 ∨ k = 29) ∧ 6 * x ≤ y ∧ y < 6 * x + 6))) → B' c i k y = B c i k y
theorem M_de {K : zK} {o f v j len s t c : Int} {F : zF} {B : zB} (h7 : 0 < K.2 7) (h1 : 0 < K.2 1) (hK : 200 ≤ K.1) (hKm : 500 ≤ Km) (hg : g = 4 ∨ g = 8 ∨ g = 16 ∨ g = 32) (hf : -7 ≤ f ∧ f ≤ 7) (hw : F 14 0 6 = w ∧ 0 ≤ w ∧ w < 3) (m2 : F 13 w 2 = f) (v0 : 0 ≤ v ∧ v < 4) (ej : B 13 w 12 v = j) (j0 : 0 ≤ j ∧ j < 1000) (hl : 0 ≤ len ∧ len ≤ 100000000000000) (hts : ∀ i, s ≤ i → i < t → 0 ≤ tn i ∧ tn i < 128) (ho : 0 ≤ o ∧ o < K.2 8) (sx : SXt (toneS tn s t) c (B 14 0 95)) : ∃ r F' B' m st al, f_M_downEvent Km v len g c F B = some (r, F', B') ∧ (∀ c y k, ¬ (c = 14 ∧ y = 0 ∧ k ≤ 1) → F' c y k = F c y k) ∧ deM w v (1000 * v + j) B B' ∧ B' 13 w 12 v = j + 1 ∧ EVr g w (1000 * v + j) len m st al B' ∧ PCH K o f tn s t m st al := by
  unfold f_M_downEvent
  rw [hw.1, if_pos hw.2, if_pos v0, if_pos (by unfold r32; omega), ej, L_is hl.1 (by omega) (by omega) (by omega) (by omega), zb_s]
  generalize hF1 : zup3 (zup3 F 14 0 0 (len / gc len g)) 14 0 1 (g / gc len g) = F1
  have fn : ∀ c y k, ¬ (c = 14 ∧ y = 0 ∧ k ≤ 1) → F1 c y k = F c y k := fun c y k n => by rw [← hF1, zup3_v, if_neg (by omega), zup3_v, if_neg (by omega)]
  have v0' : F1 14 0 0 = len / gc len g := by rw [← hF1, zup3_v, if_neg (by omega), zup3_v, if_pos (by omega)]
  have v1' : F1 14 0 1 = g / gc len g := by rw [← hF1, zup3_v, if_pos (by omega)]
  rw [fn 14 0 6 (by omega), hw.1, if_pos hw.2, if_pos (by omega), v0', v1']
  generalize hx : 1000 * v + j = x
  generalize hB1 : zup4 (zup4 (zup4 (zup4 (zup4 (zup4 B 13 w 12 v (j + 1)) 13 w 16 x (len / gc len g)) 13 w 17 x (g / gc len g)) 13 w 18 x 0) 13 w 22 x 0) 13 w 21 x 0 = B1
  have bn : deM w v x B B1 := fun c i k y n => by rw [← hB1, zup4_v, if_neg (by omega), zup4_v, if_neg (by omega), zup4_v, if_neg (by omega), zup4_v, if_neg (by omega), zup4_v, if_neg (by omega), zup4_v, if_neg (by omega)]
  have b12 : B1 13 w 12 v = j + 1 := by rw [← hB1]; simp [zup4_v]
  have b16 : B1 13 w 16 x = len / gc len g := by rw [← hB1]; simp [zup4_v]
  have b17 : B1 13 w 17 x = g / gc len g := by rw [← hB1]; simp [zup4_v]
  have b18 : B1 13 w 18 x = 0 := by rw [← hB1]; simp [zup4_v]
  have b22 : B1 13 w 22 x = 0 := by rw [← hB1]; simp [zup4_v]
  have b21 : B1 13 w 21 x = 0 := by rw [← hB1]; simp [zup4_v]
  have h95 : ∀ k, B1 14 0 95 k = B 14 0 95 k := fun k => bn 14 0 95 k (by omega)
  -- for every world of the class
  have two : ∀ (F0 : zF) (B0 : zB), (F0 7 0 0 = o ∧ 0 ≤ o ∧ o < K.2 8) → F0 7 0 4 = 0 → B0 8 o 0 2 = f → HTn tn s t B0 → zP (f_Scribe_spellEvent K 0 F0 B0) (f_M_downEvent_102 Km Km 0 x c F1 B1) (fun _ F' B' _ Fm' Bm' => Fm' = F1 ∧ spF F0 F' ∧ spB B0 B' ∧ spM x w B1 Bm' ∧ ∃ n', EPR 0 x w n' F' B' Bm') := fun F0 B0 f0 f4 b2 ht => by
    unfold f_Scribe_spellEvent
    rw [if_pos ⟨by omega, h7⟩, f4, if_pos ⟨by omega, h1⟩]
    have z0 : ∀ c y k, ¬ (c = 1 ∧ y = 0 ∧ k = 10) → (zup3 F0 1 0 10 0) c y k = F0 c y k := fun c y k n => by rw [zup3_v, if_neg (by omega)]
    obtain ⟨a1, F2, B2, a2, G2, D2, x1, x2, x3, x4, x5, x6, x7⟩ := P_spE (K := K) (Km := Km) (o := o) (f := f) (x := x) (w := w) (c := c) (S := toneS tn s t) (τ := B1 14 0 95) (Fm := F1) h7 h1 hK (by omega) hf (by rw [fn 14 0 6 (by omega)]; exact hw.1) hw.2 (by rw [fn 13 w 2 (by omega)]; exact m2) (by omega) (by rw [show B1 14 0 95 = B 14 0 95 from funext h95]; exact sx) 128 K.1 Km 0 0 0 (zup3 F0 1 0 10 0) B0 B1 (by omega) (by omega) (by omega) (by omega) sx.1.1 (by have := sx.1; omega) (by omega) (fun j a b => by omega) (fun j a b => by rw [h95]; exact (sx.2.1 j a b).2.1) (fun y a b => by
        rcases ht.2 y a b with q | ⟨q, i, i0, i1, i2⟩
        · refine Or.inl ⟨q, fun hh => ?_⟩
          obtain ⟨i, i0, i1, i2⟩ := hh
          have := ht.1 i i0 i1
          rw [i2, q] at this
          exact absurd this (by decide)
        · exact Or.inr ⟨q, i, i0, i1, i2⟩) (by rw [z0 7 0 0 (by omega)]; exact f0) (by rw [z0 7 0 4 (by omega)]; exact f4) b2 (fun j a b => rfl) ⟨by rw [zup3_v, if_pos (by omega)], b21, by omega, fun k a b => by omega, fun j k a b c => by omega⟩
    exact ⟨a1, F2, B2, a2, G2, D2, x1, x2, x3, fun c y k n => by rw [x4 c y k n, z0 c y k n], x5, x6, x7⟩
  -- one world to see what the reference does
  have dec : ∀ x : Int, Decidable (toneS tn s t x) := fun x => Classical.propDecidable _
  obtain ⟨F0, B0, q1, q2, q3, q4⟩ : ∃ (F0 : zF) (B0 : zB), (F0 7 0 0 = o ∧ 0 ≤ o ∧ o < K.2 8) ∧ F0 7 0 4 = 0 ∧ B0 8 o 0 2 = f ∧ HTn tn s t B0 := by
    refine ⟨fun c y k => if k = 0 then o else 0, fun c y k x => if c = 8 then f else if (dec x).decide then 1 else 0, ⟨rfl, ho⟩, rfl, rfl, fun i i0 i1 => ?_, fun x x0 x1 => ?_⟩
    · show (if (7 : Nat) = 8 then f else if (dec (tn i)).decide = true then 1 else 0) = 1
      rw [if_neg (by decide), if_pos (@decide_eq_true _ (dec (tn i)) ⟨i, i0, i1, rfl⟩)]
    · show (if (7 : Nat) = 8 then f else if (dec x).decide = true then 1 else 0) = 0 ∨ _
      rw [if_neg (by decide)]
      by_cases hh : toneS tn s t x
      · right
        refine ⟨?_, hh⟩
        show (if (7 : Nat) = 8 then f else if (dec x).decide = true then 1 else 0) = 1
        rw [if_neg (by decide), if_pos (@decide_eq_true _ (dec x) hh)]
      · left
        rw [if_neg (fun z => hh (@of_decide_eq_true _ (dec x) z))]
  obtain ⟨a1, F2, B2, a2, G2, D2, x1, x2, rfl, x4, x5, x6, n', x7⟩ := two F0 B0 q1 q2 q3 q4
  obtain ⟨E1, E2, E3, E4, E5⟩ := x7
  refine ⟨a2, _, D2, n', fun k => D2 13 w 28 (6 * x + k), fun k => D2 13 w 29 (6 * x + k), ?_, fn, fun c i k y n => by rw [x6 c i k y (by omega), bn c i k y n], by rw [x6 13 w 12 v (by omega)]; exact b12, ⟨E3, by rw [x6 13 w 16 x (by omega)]; exact b16, by rw [x6 13 w 17 x (by omega)]; exact b17, by rw [x6 13 w 18 x (by omega)]; exact b18, by rw [x6 13 w 22 x (by omega)]; exact b22, E2, fun k k0 k1 => ?_⟩, E3, fun k k0 k1 => ?_, fun F3 B3 r1 r2 r3 r4 => ?_⟩
  · exact x2
  · obtain ⟨y1, y2, y3, y4⟩ := E4 k k0 k1
    refine ⟨rfl, rfl, ?_⟩
    show (0 ≤ D2 13 w 28 (6 * x + k) ∧ D2 13 w 28 (6 * x + k) ≤ 62) ∧ (-7 ≤ D2 13 w 29 (6 * x + k) ∧ D2 13 w 29 (6 * x + k) ≤ 7)
    omega
  · obtain ⟨y1, y2, y3, y4⟩ := E4 k k0 k1
    show (0 ≤ D2 13 w 28 (6 * x + k) ∧ D2 13 w 28 (6 * x + k) ≤ 62) ∧ (-7 ≤ D2 13 w 29 (6 * x + k) ∧ D2 13 w 29 (6 * x + k) ≤ 7)
    omega
  · obtain ⟨b1, F4, B4, b2, G4, D4, y1, y2, y3, y4, y5, y6, n'', y7⟩ := two F3 B3 r1 r2 r3 r4
    rw [x2] at y2
    have ee := Option.some.inj y2
    have eD : D2 = D4 := congrArg (fun z => z.2.2) ee
    subst eD
    obtain ⟨G1, G2', G3, G4', G5⟩ := y7
    have en : n'' = n' := by omega
    subst en
    refine ⟨b1, F4, B4, y1, y4, y5, G1, G3, fun k k0 k1 => ?_⟩
    obtain ⟨y1, y2, y3, y4⟩ := G4' k k0 k1
    refine ⟨y1, y2, ?_⟩
    show (0 ≤ D2 13 w 28 (6 * x + k) ∧ D2 13 w 28 (6 * x + k) ≤ 62) ∧ (-7 ≤ D2 13 w 29 (6 * x + k) ∧ D2 13 w 29 (6 * x + k) ≤ 7)
    omega
end
end
end
section
section
/-! ===== the reference: the events of a track ===== -/
/-- the spans of a voice: where each begins and ends, its tones -/
noncomputable def GLp (K : zK) (o f : Int) (gB gE tn : Int → Int) (z : Int) : Nat → Int → Int → List (Int × Int × Int × (Int → Int) × (Int → Int)) → Prop
  | 0, _, _, EL => EL = []
  | fu + 1, s, come, EL => if s < z then ∃ m st al rest, EL = (if come < gB s then [(come, gB s, 0, (fun _ => 0), (fun _ => 0))] else []) ++ ((gB s, toG gB gE s z, m, st, al) :: rest) ∧ PCH K o f tn s (nxG gB s z) m st al ∧ GLp K o f gB gE tn z fu (nxG gB s z) (toG gB gE s z) rest else EL = []
noncomputable def EVL (g w v : Int) (B : zB) : Int → List (Int × Int × Int × (Int → Int) × (Int → Int)) → Prop
  | _, [] => True
  | j, r :: rs => EVr g w (1000 * v + j) (r.2.1 - r.1) r.2.2.1 r.2.2.2.1 r.2.2.2.2 B ∧ EVL g w v B (j + 1) rs
noncomputable def teM (w v j : Int) (B B' : zB) : Prop := ∀ c i k y, ¬ (c = 13 ∧ i = w ∧ ((k = 12 ∧ y = v) ∨ ((k = 16 ∨ k = 17 ∨ k = 18 ∨ k = 21 ∨ k = 22) ∧ 1000 * v + j ≤ y ∧ y < 1000 * v + 1000) ∨ ((k = 28 ∨ k = 29) ∧ 6 * (1000 * v + j) ≤ y ∧ y < 6 * (1000 * v + 1000)))) → ¬ (c = 14 ∧ i = 0 ∧ k = 95) → B' c i k y = B c i k y
theorem teM_t {w v j j' : Int} {B B1 B2 : zB} (h : teM w v j B B1) (h' : teM w v j' B1 B2) (l : j ≤ j') : teM w v j B B2 := fun c i k y n n' => by rw [h' c i k y (by omega) n', h c i k y n n']
theorem EVr_f {g w x len m : Int} {st al : Int → Int} {B B' : zB} (h : EVr g w x len m st al B) (e : ∀ k, k = 16 ∨ k = 17 ∨ k = 18 ∨ k = 21 ∨ k = 22 → B' 13 w k x = B 13 w k x) (e2 : ∀ k y, k = 28 ∨ k = 29 → 6 * x ≤ y → y < 6 * x + 6 → B' 13 w k y = B 13 w k y) : EVr g w x len m st al B' := by
  obtain ⟨h0, h1, h2, h3, h4, h5, h6⟩ := h
  refine ⟨h0, by rw [e 16 (by omega)]; exact h1, by rw [e 17 (by omega)]; exact h2, by rw [e 18 (by omega)]; exact h3, by rw [e 22 (by omega)]; exact h4, by rw [e 21 (by omega)]; exact h5, fun k k0 k1 => ?_⟩
  rw [e2 28 _ (by omega) (by omega) (by omega), e2 29 _ (by omega) (by omega) (by omega)]
  exact h6 k k0 k1
theorem EVL_f {g w v : Int} {B B' : zB} : ∀ (EL : List (Int × Int × Int × (Int → Int) × (Int → Int))) (j : Int), EVL g w v B j EL → (∀ k y, k = 16 ∨ k = 17 ∨ k = 18 ∨ k = 21 ∨ k = 22 → 1000 * v + j ≤ y → y < 1000 * v + j + (EL.length : Int) → B' 13 w k y = B 13 w k y) → (∀ k y, k = 28 ∨ k = 29 → 6 * (1000 * v + j) ≤ y → y < 6 * (1000 * v + j + (EL.length : Int)) → B' 13 w k y = B 13 w k y) → EVL g w v B' j EL := by
  intro EL
  induction EL with
  | nil => intro j _ _ _; trivial
  | cons r rs ih =>
    intro j h e e2
    have ll : ((r :: rs).length : Int) = (rs.length : Int) + 1 := by rw [List.length_cons]; omega
    rw [ll] at e e2
    exact ⟨EVr_f h.1 (fun k hk => e k _ hk (by omega) (by omega)) (fun k y hk a b => e2 k y hk (by omega) (by omega)), ih (j + 1) h.2 (fun k y hk a b => e k y hk (by omega) (by omega)) (fun k y hk a b => e2 k y hk (by omega) (by omega))⟩
section
variable {Km : Nat} {K : zK} {o f w g D N : Int} {bg en tn tk : Int → Int}
theorem M_dr {v j len : Int} {F : zF} {B : zB} (hKm : 500 ≤ Km) (hg : g = 4 ∨ g = 8 ∨ g = 16 ∨ g = 32) (hw : F 14 0 6 = w ∧ 0 ≤ w ∧ w < 3) (v0 : 0 ≤ v ∧ v < 4) (ej : B 13 w 12 v = j) (j0 : 0 ≤ j ∧ j < 1000) (hl : 0 ≤ len ∧ len ≤ 100000000000000) : ∃ F' B', f_M_downEvent Km v len g 0 F B = some (0, F', B') ∧ (∀ c y k, ¬ (c = 14 ∧ y = 0 ∧ k ≤ 1) → F' c y k = F c y k) ∧ deM w v (1000 * v + j) B B' ∧ B' 13 w 12 v = j + 1 ∧ EVr g w (1000 * v + j) len 0 (fun _ => 0) (fun _ => 0) B' := by
  unfold f_M_downEvent
  rw [hw.1, if_pos hw.2, if_pos v0, if_pos (by unfold r32; omega), ej, L_is hl.1 (by omega) (by omega) (by omega) (by omega), zb_s]
  generalize hF1 : zup3 (zup3 F 14 0 0 (len / gc len g)) 14 0 1 (g / gc len g) = F1
  have fn : ∀ c y k, ¬ (c = 14 ∧ y = 0 ∧ k ≤ 1) → F1 c y k = F c y k := fun c y k n => by rw [← hF1, zup3_v, if_neg (by omega), zup3_v, if_neg (by omega)]
  have v0' : F1 14 0 0 = len / gc len g := by rw [← hF1, zup3_v, if_neg (by omega), zup3_v, if_pos (by omega)]
  have v1' : F1 14 0 1 = g / gc len g := by rw [← hF1, zup3_v, if_pos (by omega)]
  rw [fn 14 0 6 (by omega), hw.1, if_pos hw.2, if_pos (by omega), v0', v1']
  generalize hx : 1000 * v + j = x
  obtain ⟨p, ep⟩ : ∃ p, Km = p + 1 := ⟨Km - 1, by omega⟩
  generalize hB1 : zup4 (zup4 (zup4 (zup4 (zup4 (zup4 B 13 w 12 v (j + 1)) 13 w 16 x (len / gc len g)) 13 w 17 x (g / gc len g)) 13 w 18 x 0) 13 w 22 x 0) 13 w 21 x 0 = B1
  have bn : deM w v x B B1 := fun c i k y n => by rw [← hB1, zup4_v, if_neg (by omega), zup4_v, if_neg (by omega), zup4_v, if_neg (by omega), zup4_v, if_neg (by omega), zup4_v, if_neg (by omega), zup4_v, if_neg (by omega)]
  have b12 : B1 13 w 12 v = j + 1 := by rw [← hB1]; simp [zup4_v]
  have b16 : B1 13 w 16 x = len / gc len g := by rw [← hB1]; simp [zup4_v]
  have b17 : B1 13 w 17 x = g / gc len g := by rw [← hB1]; simp [zup4_v]
  have b18 : B1 13 w 18 x = 0 := by rw [← hB1]; simp [zup4_v]
  have b22 : B1 13 w 22 x = 0 := by rw [← hB1]; simp [zup4_v]
  have b21 : B1 13 w 21 x = 0 := by rw [← hB1]; simp [zup4_v]
  refine ⟨F1, B1, ?_, fn, bn, b12, ⟨by omega, by omega⟩, b16, b17, b18, b22, b21, fun k a b => by omega⟩
  have : ∀ i D, f_M_downEvent_102 Km (i + 1) 0 x 0 F1 D = some (0, F1, D) := fun i D => by
    rw [f_M_downEvent_102, if_pos (by decide), if_pos (by decide), if_pos (by decide)]
  have t := this p B1
  rw [← ep] at t
  exact t
theorem M_t161 {rec' : Int → Int → Int → Int → Int → zF → zB → zO} {z s come v x : Int} {F : zF} {B : zB} (dq : DTq g D N bg en tn tk) (hM : MFq w D N bg en tn tk F B) (hz : z ≤ N) (hx : 0 ≤ x ∧ x ≤ 30000000000000) : ∀ (fu m : Nat) (t : Int), z - t ≤ fu → fu < m → 0 ≤ t → t ≤ z → f_M_trackEvents_161 rec' Km m t x z s come v g F B = f_M_trackEvents_192 rec' Km (grN (fun i => gplF g D (bg i)) z x fu t) x z s come v g F B := by
  have hN := dq.2.2.1
  have hM' := hM
  obtain ⟨h1, h2, h3, h4⟩ := hM'
  intro fu
  induction fu with
  | zero =>
    intro m t hf hm t0 tz
    obtain ⟨p, rfl⟩ : ∃ p, m = p + 1 := ⟨m - 1, by omega⟩
    rw [f_M_trackEvents_161, if_pos (by unfold r32; omega), if_pos (by unfold r32; omega), if_pos (by omega), grN]
  | succ fu ih =>
    intro m t hf hm t0 tz
    obtain ⟨p, rfl⟩ : ∃ p, m = p + 1 := ⟨m - 1, by omega⟩
    rw [f_M_trackEvents_161, if_pos (by unfold r32; omega), if_pos (by unfold r32; omega), grN]
    by_cases c : z ≤ t
    · rw [if_pos c, if_neg (by omega)]
    · have b := (h4 t t0 (by omega)).2.2.1
      have dd := (dq.2.2.2.1 t t0 (by omega)).2.2.1
      have gb := gpl_b (t := bg t) dq.1 dq.2.1 dd
      rw [if_neg c, if_pos (by omega), b, M_gp dq hM dd, zb_s, if_pos (by unfold r64; omega), if_pos (by unfold r64; omega)]
      by_cases y : gplF g D (bg t) = x
      · rw [if_pos (zcmp_0.mpr y), if_pos ⟨by omega, y⟩, ih p (t + 1) (by omega) (by omega) (by omega) (by omega)]
      · rw [if_neg (fun q => y (zcmp_0.mp q)), if_neg (fun q => y q.2)]
theorem M_t232 {rec' : Int → Int → Int → Int → Int → zF → zB → zO} {z t v x c : Int} {F : zF} {B : zB} (dq : DTq g D N bg en tn tk) (hM : MFq w D N bg en tn tk F B) (hz : z ≤ N) (ht : 0 ≤ t ∧ t ≤ z) : ∀ (d m : Nat) (i a : Int), i + d = t → 0 ≤ i → d < m → (0 ≤ a ∧ a ≤ 40000000000000) → f_M_trackEvents_232 rec' Km m i a c t x z v g F B = f_M_trackEvents_316 rec' Km (if t < z then zmin (mxR (fun i => gplF g D (en i)) d i a) (gplF g D (bg t)) else mxR (fun i => gplF g D (en i)) d i a) c t x z v g F B := by
  have hN := dq.2.2.1
  have hM' := hM
  obtain ⟨h1, h2, h3, h4⟩ := hM'
  intro d
  induction d with
  | zero =>
    intro m i a e i0 hm ha
    obtain ⟨p, rfl⟩ : ∃ p, m = p + 1 := ⟨m - 1, by omega⟩
    rw [f_M_trackEvents_232, if_pos (by unfold r32; omega), if_pos (by unfold r32; omega), if_pos (by omega), if_pos (by unfold r32; omega), mxR]
    by_cases y : z ≤ t
    · rw [if_pos y, if_neg (by omega)]
    · have b := (h4 t ht.1 (by omega)).2.2.1
      have dd := (dq.2.2.2.1 t ht.1 (by omega)).2.2.1
      have gb := gpl_b (t := bg t) dq.1 dq.2.1 dd
      rw [if_neg y, if_pos (by omega), b, M_gp dq hM dd, zb_s, if_pos (by unfold r64; omega), if_pos (by unfold r64; omega), b, M_gp dq hM dd, zb_s, if_pos (show t < z by omega)]
      unfold zmin
      by_cases u : a ≤ gplF g D (bg t)
      · rw [if_pos (zcmp_m.mpr u), if_neg (by omega)]
      · rw [if_neg (fun q => u (zcmp_m.mp q)), if_pos (by omega)]
  | succ d ih =>
    intro m i a e i0 hm ha
    obtain ⟨p, rfl⟩ : ∃ p, m = p + 1 := ⟨m - 1, by omega⟩
    have b := (h4 i i0 (by omega)).2.2.2
    have dd := (dq.2.2.2.1 i i0 (by omega)).2.2.2
    have gb := gpl_b (t := en i) dq.1 dq.2.1 dd
    rw [f_M_trackEvents_232, if_pos (by unfold r32; omega), if_pos (by unfold r32; omega), if_neg (by omega), if_pos (by omega), b, M_gp dq hM dd, zb_s, if_pos (by unfold r64; omega), if_pos (by unfold r64; omega), b, M_gp dq hM dd, zb_s, mxR]
    unfold f_M_trackEvents_271
    have zm : zmax a (gplF g D (en i)) = if gplF g D (en i) ≤ a then a else gplF g D (en i) := by unfold zmax; split <;> split <;> omega
    by_cases u : gplF g D (en i) ≤ a
    · rw [if_pos (zcmp_m.mpr u), ih p (i + 1) a (by omega) (by omega) (by omega) ha]
      have : zmax a (gplF g D (en i)) = a := by rw [zm, if_pos u]
      simp only [this]
    · rw [if_neg (fun q => u (zcmp_m.mp q)), ih p (i + 1) (gplF g D (en i)) (by omega) (by omega) (by omega) (by omega)]
      have : zmax a (gplF g D (en i)) = gplF g D (en i) := by rw [zm, if_neg u]
      simp only [this]
/-- a group ends behind its beginning -/
theorem to_g {z s s0 : Int} (dq : DTq g D N bg en tn tk) (hz : z ≤ N) (hs : 0 ≤ s ∧ s < z) (h0 : s0 ≤ s) (mono : ∀ i, s0 ≤ i → i + 1 < z → bg i ≤ bg (i + 1)) : gplF g D (bg s) < toG (fun i => gplF g D (bg i)) (fun i => gplF g D (en i)) s z ∧ (nxG (fun i => gplF g D (bg i)) s z < z → toG (fun i => gplF g D (bg i)) (fun i => gplF g D (en i)) s z ≤ gplF g D (bg (nxG (fun i => gplF g D (bg i)) s z))) := by
  have hN := dq.2.2.1
  obtain ⟨p1, p2, p3, p4⟩ := nxG_p (gB := fun i => gplF g D (bg i)) hs.2 (by omega) hs.1
  have hb : ∀ i, 0 ≤ i → i < N → (0 ≤ gplF g D (en i) ∧ gplF g D (en i) ≤ 30000000000000) := fun i i0 i1 => gpl_b dq.1 dq.2.1 (dq.2.2.2.1 i i0 i1).2.2.2
  have bs := gpl_b (t := bg s) dq.1 dq.2.1 (dq.2.2.2.1 s hs.1 (by omega)).2.2.1
  have mb := mxR_b (gE := fun i => gplF g D (en i)) (M := 40000000000000) (nxG (fun i => gplF g D (bg i)) s z - s).toNat s (gplF g D (bg s) + 1) (by omega) (fun i i0 i1 => by have := hb i (by omega) (by omega); show gplF g D (en i) ≤ _; omega)
  have mon : ∀ (d : Nat) (i : Int), s0 ≤ i → i + d < z → bg i ≤ bg (i + d) := by
    intro d
    induction d with
    | zero => intro i _ _; simp
    | succ d ih =>
      intro i i0 i1
      have a := ih i i0 (by omega)
      have b := mono (i + d) (by omega) (by omega)
      rw [show i + ((d + 1 : Nat) : Int) = i + d + 1 by omega]
      omega
  simp only [toG]
  by_cases c : nxG (fun i => gplF g D (bg i)) s z < z
  · have m1 := mon (nxG (fun i => gplF g D (bg i)) s z - s).toNat s h0 (by omega)
    rw [show s + ((nxG (fun i => gplF g D (bg i)) s z - s).toNat : Int) = nxG (fun i => gplF g D (bg i)) s z by omega] at m1
    have m2 := gpl_m (g := g) (D := D) dq.1 dq.2.1 m1
    have m3 : ¬ gplF g D (bg (nxG (fun i => gplF g D (bg i)) s z)) = gplF g D (bg s) := p4 c
    rw [if_pos c]
    unfold zmin
    split <;> exact ⟨by omega, fun _ => by omega⟩
  · rw [if_neg c]
    exact ⟨by omega, fun h => absurd h c⟩
end
end
end
section
section
/-! ===== the reference: a track's events whole ===== -/
section
variable {Km : Nat} {K : zK} {o f w g D N : Int} {bg en tn tk : Int → Int}
theorem M_t136 {z s0 v : Int} (h7 : 0 < K.2 7) (h1 : 0 < K.2 1) (hK : 200 ≤ K.1) (hKm : 1000 ≤ Km) (ho : 0 ≤ o ∧ o < K.2 8) (hf : -7 ≤ f ∧ f ≤ 7) (dq : DTq g D N bg en tn tk) (hz : z ≤ N) (v0 : 0 ≤ v ∧ v < 4) (mono : ∀ i, s0 ≤ i → i + 1 < z → bg i ≤ bg (i + 1)) : ∀ (fu m : Nat) (s come j : Int) (F : zF) (B : zB), z - s ≤ fu → fu < m → 0 ≤ s → s0 ≤ s → s ≤ z → 0 ≤ come → come ≤ 40000000000000 → (s < z → come ≤ gplF g D (bg s)) → 0 ≤ j → j + 2 * (z - s) ≤ 900 → MFq w D N bg en tn tk F B → F 13 w 2 = f → B 13 w 12 v = j → ∃ F' B' EL, f_M_trackEvents_136 Km m z s come v g F B = some (lsG (fun i => gplF g D (bg i)) (fun i => gplF g D (en i)) z fu s come, F', B') ∧ (∀ c y k, ¬ (c = 14 ∧ y = 0 ∧ k ≤ 1) → F' c y k = F c y k) ∧ teM w v j B B' ∧ B' 13 w 12 v = j + (EL.length : Int) ∧ GLp K o f (fun i => gplF g D (bg i)) (fun i => gplF g D (en i)) tn z fu s come EL ∧ EVL g w v B' j EL ∧ (EL.length : Int) ≤ 2 * (z - s) ∧ (0 ≤ lsG (fun i => gplF g D (bg i)) (fun i => gplF g D (en i)) z fu s come ∧ lsG (fun i => gplF g D (bg i)) (fun i => gplF g D (en i)) z fu s come ≤ 40000000000000) := by
  have hN := dq.2.2.1
  intro fu
  induction fu with
  | zero =>
    intro m s come j F B hfu hm z0 zs sz c0 c1 cl j0 jl hM m2 ej
    obtain ⟨p, rfl⟩ : ∃ p, m = p + 1 := ⟨m - 1, by omega⟩
    refine ⟨F, B, [], ?_, fun _ _ _ _ => rfl, fun _ _ _ _ _ _ => rfl, by simp [ej], by rw [GLp], trivial, by simp; omega, by rw [lsG]; omega⟩
    rw [f_M_trackEvents_136, if_pos (by unfold r32; omega), if_pos (by unfold r32; omega), if_pos (by omega), lsG]
  | succ fu ih =>
    intro m s come j F B hfu hm z0 zs sz c0 c1 cl j0 jl hM m2 ej
    obtain ⟨p, rfl⟩ : ∃ p, m = p + 1 := ⟨m - 1, by omega⟩
    by_cases c : s < z
    · have hM' := hM
      obtain ⟨q1, q2, q3, q4⟩ := hM'
      have b := (q4 s z0 (by omega)).2.2.1
      have dd := (dq.2.2.2.1 s z0 (by omega)).2.2.1
      have gb := gpl_b (t := bg s) dq.1 dq.2.1 dd
      obtain ⟨p1, p2, p3, p4⟩ := nxG_p (gB := fun i => gplF g D (bg i)) c (by omega) z0
      obtain ⟨tg1, tg2⟩ := to_g dq hz ⟨z0, c⟩ zs mono
      have tb := to_b dq hz ⟨z0, c⟩
      have cl' := cl c
      rw [f_M_trackEvents_136, if_pos (by unfold r32; omega), if_pos (by unfold r32; omega), if_neg (by omega), if_pos (by omega), b, M_gp dq hM dd, zb_s, M_t161 dq hM hz gb 400 Km s (by omega) (by omega) z0 (by omega)]
      have en1 : grN (fun i => gplF g D (bg i)) z (gplF g D (bg s)) 400 s = nxG (fun i => gplF g D (bg i)) s z := rfl
      rw [en1]
      -- a rest before the group, if there is a gap
      obtain ⟨F1, B1, j1, R, r1, r2, r3, r4, r5, r6, r7⟩ : ∃ (F1 : zF) (B1 : zB) (j1 : Int) (R : List (Int × Int × Int × (Int → Int) × (Int → Int))), f_M_trackEvents_192 (f_M_trackEvents_136 Km p) Km (nxG (fun i => gplF g D (bg i)) s z) (gplF g D (bg s)) z s come v g F B = f_M_trackEvents_212 (f_M_trackEvents_136 Km p) Km (nxG (fun i => gplF g D (bg i)) s z) (gplF g D (bg s)) z s v g F1 B1 ∧ (∀ c y k, ¬ (c = 14 ∧ y = 0 ∧ k ≤ 1) → F1 c y k = F c y k) ∧ teM w v j B B1 ∧ B1 13 w 12 v = j1 ∧ j1 = j + (R.length : Int) ∧ (R = if come < gplF g D (bg s) then [(come, gplF g D (bg s), 0, (fun _ => 0), (fun _ => 0))] else []) ∧ (come < gplF g D (bg s) → EVr g w (1000 * v + j) (gplF g D (bg s) - come) 0 (fun _ => 0) (fun _ => 0) B1) := by
        unfold f_M_trackEvents_192
        rw [if_pos (by unfold r64; omega), if_pos (by unfold r64; omega)]
        by_cases y : gplF g D (bg s) ≤ come
        · rw [if_pos (zcmp_m.mpr y), if_neg (show ¬ come < gplF g D (bg s) by omega)]
          exact ⟨F, B, j, [], rfl, fun _ _ _ _ => rfl, fun _ _ _ _ _ _ => rfl, ej, by simp, rfl, fun h => by omega⟩
        · obtain ⟨F1, B1, x1, x2, x3, x4, x5⟩ := M_dr (Km := Km) (w := w) (len := gplF g D (bg s) - come) (B := B) (by omega) dq.1 q1 v0 ej (by omega) (by omega)
          rw [if_neg (fun q => y (zcmp_m.mp q)), x1, zb_s, if_pos (show come < gplF g D (bg s) by omega)]
          exact ⟨F1, B1, j + 1, [(come, gplF g D (bg s), 0, (fun _ => 0), (fun _ => 0))], rfl, x2, fun c i k y n n' => x3 c i k y (by omega), x4, by simp, rfl, fun _ => x5⟩
      have Rl : (R.length : Int) ≤ 1 := by rw [r6]; split <;> simp
      have hM1 : MFq w D N bg en tn tk F1 B1 := MFq_f hM (r2 14 0 6 (by omega)) (fun k x _ _ => r3 14 0 k x (by omega) (by omega))
      rw [r1]
      unfold f_M_trackEvents_212
      obtain ⟨n6, B2, y1, y2, y3⟩ := M_six (Km := Km) (s := s) (t := nxG (fun i => gplF g D (bg i)) s z) dq (by omega) ⟨z0, by omega, by omega⟩ hM1
      have hM2 : MFq w D N bg en tn tk F1 B2 := MFq_f hM1 rfl (fun k x _ _ => y3 14 0 k x (by omega))
      rw [y1, zb_s, M_t232 dq hM2 hz ⟨by omega, p2⟩ (nxG (fun i => gplF g D (bg i)) s z - s).toNat Km s (gplF g D (bg s) + 1) (by omega) z0 (by omega) (by omega)]
      have et : (if nxG (fun i => gplF g D (bg i)) s z < z then zmin (mxR (fun i => gplF g D (en i)) (nxG (fun i => gplF g D (bg i)) s z - s).toNat s (gplF g D (bg s) + 1)) (gplF g D (bg (nxG (fun i => gplF g D (bg i)) s z))) else mxR (fun i => gplF g D (en i)) (nxG (fun i => gplF g D (bg i)) s z - s).toNat s (gplF g D (bg s) + 1)) = toG (fun i => gplF g D (bg i)) (fun i => gplF g D (en i)) s z := rfl
      rw [et]
      unfold f_M_trackEvents_316
      obtain ⟨rr, F3, B3, mm, st, al, x1, x2, x3, x4, x5, x6⟩ := M_de (Km := Km) (K := K) (o := o) (f := f) (w := w) (g := g) (tn := tn) (v := v) (j := j1) (len := toG (fun i => gplF g D (bg i)) (fun i => gplF g D (en i)) s z - gplF g D (bg s)) (s := s) (t := nxG (fun i => gplF g D (bg i)) s z) (c := n6) (F := F1) (B := B2) h7 h1 hK (by omega) dq.1 hf hM1.1 (by rw [r2 13 w 2 (by omega)]; exact m2) v0 (by rw [y3 13 w 12 v (by omega)]; exact r4) (by omega) (by omega) (fun i i0 i1 => (dq.2.2.2.1 i (by omega) (by omega)).2.1) ho y2
      rw [x1, zb_s]
      have hM3 : MFq w D N bg en tn tk F3 B3 := MFq_f hM2 (x2 14 0 6 (by omega)) (fun k x _ _ => x3 14 0 k x (by omega))
      obtain ⟨F4, B4, EL, u1, u2, u3, u4, u5, u6, u7, u8⟩ := ih p (nxG (fun i => gplF g D (bg i)) s z) (toG (fun i => gplF g D (bg i)) (fun i => gplF g D (en i)) s z) (j1 + 1) F3 B3 (by omega) (by omega) (by omega) (by omega) p2 tb.1 tb.2 tg2 (by omega) (by omega) hM3 (by rw [x2 13 w 2 (by omega), r2 13 w 2 (by omega)]; exact m2) x4
      have t3 : teM w v j B B3 := fun c i k y n n' => by rw [x3 c i k y (by omega), y3 c i k y n', r3 c i k y n n']
      refine ⟨F4, B4, R ++ ((gplF g D (bg s), toG (fun i => gplF g D (bg i)) (fun i => gplF g D (en i)) s z, mm, st, al) :: EL), ?_, fun c y k n => by rw [u2 c y k n, x2 c y k n, r2 c y k n], teM_t t3 u3 (by omega), ?_, ?_, ?_, ?_, ?_⟩
      · rw [lsG, if_pos c]; exact u1
      · rw [u4, List.length_append, List.length_cons]; omega
      · rw [GLp, if_pos c]
        exact ⟨mm, st, al, EL, by rw [r6], x6, u5⟩
      · have big : EVr g w (1000 * v + j1) (toG (fun i => gplF g D (bg i)) (fun i => gplF g D (en i)) s z - gplF g D (bg s)) mm st al B4 := EVr_f x5 (fun k hk => u3 13 w k _ (by omega) (by omega)) (fun k y hk a b => u3 13 w k y (by omega) (by omega))
        by_cases y : come < gplF g D (bg s)
        · rw [if_pos y] at r6
          subst r6
          have j1e : j1 = j + 1 := by rw [r5]; simp
          refine ⟨?_, by rw [← j1e]; exact ⟨big, u6⟩⟩
          refine EVr_f (r7 y) (fun k hk => ?_) (fun k y' hk a b => ?_)
          · rw [u3 13 w k _ (by omega) (by omega), x3 13 w k _ (by omega), y3 13 w k _ (by omega)]
          · rw [u3 13 w k _ (by omega) (by omega), x3 13 w k _ (by omega), y3 13 w k _ (by omega)]
        · rw [if_neg y] at r6
          subst r6
          have j1e : j1 = j := by rw [r5]; simp
          rw [← j1e]
          exact ⟨big, u6⟩
      · rw [List.length_append, List.length_cons]; omega
      · rw [lsG, if_pos c]; exact u8
    · refine ⟨F, B, [], ?_, fun _ _ _ _ => rfl, fun _ _ _ _ _ _ => rfl, by simp [ej], by rw [GLp, if_neg c], trivial, by simp; omega, by rw [lsG, if_neg c]; omega⟩
      rw [f_M_trackEvents_136, if_pos (by unfold r32; omega), if_pos (by unfold r32; omega), if_pos (by omega), lsG, if_neg c]
end
end
end
section
section
/-! ===== the reference: tracks become voices ===== -/
noncomputable def sm60 (tn : Int → Int) (a : Int) : Nat → Int
  | 0 => 0
  | n + 1 => sm60 tn a n + (tn (a + n) - 60)
/-- which sounds belong to the track k: those from a to z -/
noncomputable def BLK (tk : Int → Int) (N a z k : Int) : Prop := (0 ≤ a ∧ a < z ∧ z ≤ N) ∧ (∀ i, 0 ≤ i → i < N → (tk i = k ↔ a ≤ i ∧ i < z))
theorem sm_b {tn : Int → Int} {a : Int} : ∀ (n : Nat), (∀ i, a ≤ i → i < a + n → 0 ≤ tn i ∧ tn i < 128) → -(60 * (n : Int)) ≤ sm60 tn a n ∧ sm60 tn a n ≤ 68 * n := by
  intro n
  induction n with
  | zero => intro _; rw [sm60]; simp
  | succ n ih =>
    intro h
    have := ih (fun i a b => h i a (by omega))
    have := h (a + n) (by omega) (by omega)
    rw [sm60]
    omega
section
variable {Km : Nat} {K : zK} {o f w g D N : Int} {bg en tn tk : Int → Int}
theorem tkk_m (dq : DTq g D N bg en tn tk) : ∀ (d : Nat) (i : Int), 0 ≤ i → i + d < N → tk i ≤ tk (i + d) := by
  intro d
  induction d with
  | zero => intro i _ _; simp
  | succ d ih =>
    intro i i0 i1
    have a := ih i i0 (by omega)
    have b := (dq.2.2.2.2 (i + d) (by omega) (by omega)).1
    rw [show i + ((d + 1 : Nat) : Int) = i + d + 1 by omega]
    omega
theorem blk_o {a : Int} (dq : DTq g D N bg en tn tk) (ha : 0 ≤ a ∧ a < N) (hl : ∀ i, 0 ≤ i → i < a → tk i < tk a) : BLK tk N a (nxG tk a N) (tk a) := by
  have hN := dq.2.2.1
  obtain ⟨p1, p2, p3, p4⟩ := nxG_p (gB := tk) ha.2 (by omega) ha.1
  refine ⟨⟨ha.1, p1, p2⟩, fun i i0 i1 => ⟨fun e => ⟨?_, ?_⟩, fun h => p3 i h.1 h.2⟩⟩
  · rcases Int.lt_or_le i a with z | z
    · have := hl i i0 z; omega
    · exact z
  · rcases Int.lt_or_le i (nxG tk a N) with z | z
    · exact z
    · have n1 := p4 (by omega)
      have m1 := tkk_m dq (nxG tk a N - a).toNat a ha.1 (by omega)
      have m2 := tkk_m dq (i - nxG tk a N).toNat (nxG tk a N) (by omega) (by omega)
      rw [show a + ((nxG tk a N - a).toNat : Int) = nxG tk a N by omega] at m1
      rw [show nxG tk a N + ((i - nxG tk a N).toNat : Int) = i by omega] at m2
      omega
theorem blk_m {a z k : Int} (dq : DTq g D N bg en tn tk) (h : BLK tk N a z k) : ∀ i, a ≤ i → i + 1 < z → bg i ≤ bg (i + 1) := fun i i0 i1 => by
  obtain ⟨⟨h1, h2, h3⟩, h4⟩ := h
  have a1 := (h4 i (by omega) (by omega)).mpr ⟨i0, by omega⟩
  have a2 := (h4 (i + 1) (by omega) (by omega)).mpr ⟨by omega, i1⟩
  exact (dq.2.2.2.2 i (by omega) (by omega)).2 (by omega)
theorem M_hs4 {k : Int} {F : zF} {B : zB} (dq : DTq g D N bg en tn tk) (hM : MFq w D N bg en tn tk F B) (hk : 0 ≤ k ∧ k < 8) : ∀ (d m : Nat) (i r : Int), i + d = N → 0 ≤ i → d < m → (r = 0 ∨ r = 1) → ∃ r', f_M_hasSounds_4 Km m i r k F B = some (r', F, B) ∧ (r' = 0 ∨ r' = 1) ∧ (r' = 1 ↔ r = 1 ∨ ∃ j, i ≤ j ∧ j < N ∧ tk j = k) := by
  have hN := dq.2.2.1
  obtain ⟨h1, h2, h3, h4⟩ := hM
  intro d
  induction d with
  | zero =>
    intro m i r e i0 hm hr
    obtain ⟨p, rfl⟩ : ∃ p, m = p + 1 := ⟨m - 1, by omega⟩
    refine ⟨r, ?_, hr, ⟨Or.inl, fun h => ?_⟩⟩
    · rw [f_M_hasSounds_4, if_pos (by unfold r32; omega), h3, if_pos (by unfold r32; omega), if_pos (by omega), if_pos hr]
    · rcases h with h | ⟨j, a, b, _⟩
      · exact h
      · omega
  | succ d ih =>
    intro m i r e i0 hm hr
    obtain ⟨p, rfl⟩ : ∃ p, m = p + 1 := ⟨m - 1, by omega⟩
    have b := (h4 i i0 (by omega)).1
    have dd := (dq.2.2.2.1 i i0 (by omega)).1
    rw [f_M_hasSounds_4, if_pos (by unfold r32; omega), h3, if_pos (by unfold r32; omega), if_neg (by omega), if_pos (by unfold r32; omega)]
    unfold f_M_hasSounds_29 f_M_hasSounds_34
    have fin : ∀ r0 : Int, (r0 = 0 ∨ r0 = 1) → (r0 = 1 ↔ r = 1 ∨ tk i = k) → ∃ r', f_M_hasSounds_4 Km p (i + 1) r0 k F B = some (r', F, B) ∧ (r' = 0 ∨ r' = 1) ∧ (r' = 1 ↔ r = 1 ∨ ∃ j, i ≤ j ∧ j < N ∧ tk j = k) := fun r0 hr0 hi => by
      obtain ⟨r', x1, x2, x3⟩ := ih p (i + 1) r0 (by omega) (by omega) (by omega) hr0
      refine ⟨r', x1, x2, x3.trans ⟨fun h => ?_, fun h => ?_⟩⟩
      · rcases h with h | ⟨j, a, b, c⟩
        · rcases hi.mp h with q | q
          · exact Or.inl q
          · exact Or.inr ⟨i, by omega, by omega, q⟩
        · exact Or.inr ⟨j, by omega, b, c⟩
      · rcases h with h | ⟨j, a, b, c⟩
        · exact Or.inl (hi.mpr (Or.inl h))
        · by_cases y : j = i
          · exact Or.inl (hi.mpr (Or.inr (by rw [← y]; exact c)))
          · exact Or.inr ⟨j, by omega, b, c⟩
    by_cases z : r = 0
    · rw [if_pos z, if_pos (by omega), b, if_pos (by unfold r32; omega), if_pos (by unfold r32; omega)]
      by_cases y : tk i = k
      · rw [if_pos y]; exact fin 1 (Or.inr rfl) ⟨fun _ => Or.inr y, fun _ => rfl⟩
      · rw [if_neg y]; exact fin 0 (Or.inl rfl) ⟨fun h => by omega, fun h => h.elim (fun q => by omega) (fun q => absurd q y)⟩
    · rw [if_neg z]; exact fin 1 (Or.inr rfl) ⟨fun _ => Or.inl (by omega), fun _ => rfl⟩
theorem M_t37 {a z k v : Int} {F : zF} {B : zB} (dq : DTq g D N bg en tn tk) (hM : MFq w D N bg en tn tk F B) (hb : BLK tk N a z k) (hk : 0 ≤ k ∧ k < 8) : ∀ (d m : Nat) (i : Int), i + d = N → 0 ≤ i → d < m → f_M_trackEvents_37 Km m i (((if i ≤ a then 0 else if i ≤ z then i - a else z - a).toNat : Nat) : Int) (sm60 tn a (if i ≤ a then 0 else if i ≤ z then i - a else z - a).toNat) 0 k v g F B = f_M_trackEvents_108 Km (z - a) 0 k v g w v (if sm60 tn a (z - a).toNat < 0 then 1 else 0) F B := by
  have hN := dq.2.2.1
  obtain ⟨⟨b1, b2, b3⟩, b4⟩ := hb
  obtain ⟨h1, h2, h3, h4⟩ := hM
  have sb : ∀ n : Nat, a + n ≤ z → -30000 ≤ sm60 tn a n ∧ sm60 tn a n ≤ 30000 := fun n hn => by
    have := sm_b (tn := tn) (a := a) n (fun i i0 i1 => (dq.2.2.2.1 i (by omega) (by omega)).2.1)
    omega
  intro d
  induction d with
  | zero =>
    intro m i e i0 hm
    obtain ⟨p, rfl⟩ : ∃ p, m = p + 1 := ⟨m - 1, by omega⟩
    have en' : (if i ≤ a then 0 else if i ≤ z then i - a else z - a) = z - a := by
      rw [if_neg (by omega)]
      by_cases y : i ≤ z
      · rw [if_pos y]; omega
      · rw [if_neg y]
    have s1 := sb (z - a).toNat (by omega)
    rw [en', f_M_trackEvents_37, if_pos (by unfold r32; omega), h3, if_pos (by unfold r32; omega), if_pos (by omega), h1.1, if_pos h1.2, if_pos (by unfold r64; omega), show (((z - a).toNat : Nat) : Int) = z - a by omega]
    by_cases y : sm60 tn a (z - a).toNat < 0
    · rw [if_pos (zcmp_lt.mpr y), if_pos y]
    · rw [if_neg (fun q => y (zcmp_lt.mp q)), if_neg y]
  | succ d ih =>
    intro m i e i0 hm
    obtain ⟨p, rfl⟩ : ∃ p, m = p + 1 := ⟨m - 1, by omega⟩
    have b := h4 i i0 (by omega)
    have dd := dq.2.2.2.1 i i0 (by omega)
    have ihi := ih p (i + 1) (by omega) (by omega) (by omega)
    rw [f_M_trackEvents_37, if_pos (by unfold r32; omega), h3, if_pos (by unfold r32; omega), if_neg (by omega), if_pos (by omega), b.1, if_pos (by unfold r32; omega), if_pos (by unfold r32; omega), b.2.1]
    unfold f_M_trackEvents_82
    by_cases y : a ≤ i ∧ i < z
    · have e1 : (if i ≤ a then 0 else if i ≤ z then i - a else z - a) = i - a := by
        by_cases u : i ≤ a
        · rw [if_pos u]; omega
        · rw [if_neg u, if_pos (by omega)]
      have e2 : (if i + 1 ≤ a then 0 else if i + 1 ≤ z then i + 1 - a else z - a) = i + 1 - a := by rw [if_neg (by omega), if_pos (by omega)]
      rw [e2, show (i + 1 - a).toNat = (i - a).toNat + 1 by omega, sm60, show a + ((i - a).toNat : Int) = i by omega, show (((i - a).toNat + 1 : Nat) : Int) = ((i - a).toNat : Int) + 1 by omega] at ihi
      rw [if_pos ((b4 i i0 (by omega)).mpr y), if_pos (by unfold r32; omega), e1, ihi]
    · have e1 : (if i + 1 ≤ a then 0 else if i + 1 ≤ z then i + 1 - a else z - a) = (if i ≤ a then 0 else if i ≤ z then i - a else z - a) := by
        by_cases u : i + 1 ≤ a
        · rw [if_pos u, if_pos (by omega)]
        · rw [if_neg u, if_neg (by omega), if_neg (by omega)]
          by_cases u2 : i ≤ z
          · rw [if_pos u2]; omega
          · rw [if_neg u2]
      rw [e1] at ihi
      rw [if_neg (fun q => y ((b4 i i0 (by omega)).mp q)), ihi]
theorem M_t112 {a z k v c : Int} {F : zF} {B : zB} (dq : DTq g D N bg en tn tk) (hM : MFq w D N bg en tn tk F B) (hb : BLK tk N a z k) (hk : 0 ≤ k ∧ k < 8) : ∀ (d m : Nat) (i : Int), i + d = a → 0 ≤ i → d < m → f_M_trackEvents_112 Km m i c 0 k v g F B = f_M_trackEvents_136 Km Km (a + c) a 0 v g F B := by
  have hN := dq.2.2.1
  obtain ⟨⟨b1, b2, b3⟩, b4⟩ := hb
  obtain ⟨h1, h2, h3, h4⟩ := hM
  intro d
  induction d with
  | zero =>
    intro m i e i0 hm
    obtain ⟨p, rfl⟩ : ∃ p, m = p + 1 := ⟨m - 1, by omega⟩
    have : i = a := by omega
    subst this
    have b := (h4 i i0 (by omega)).1
    have dd := (dq.2.2.2.1 i i0 (by omega)).1
    rw [f_M_trackEvents_112, if_pos (by omega), b, if_pos (by unfold r32; omega), if_pos (by unfold r32; omega), if_pos ((b4 i i0 (by omega)).mpr (by omega))]
  | succ d ih =>
    intro m i e i0 hm
    obtain ⟨p, rfl⟩ : ∃ p, m = p + 1 := ⟨m - 1, by omega⟩
    have b := (h4 i i0 (by omega)).1
    have dd := (dq.2.2.2.1 i i0 (by omega)).1
    rw [f_M_trackEvents_112, if_pos (by omega), b, if_pos (by unfold r32; omega), if_pos (by unfold r32; omega), if_neg (fun q => by have := (b4 i i0 (by omega)).mp q; omega), ih p (i + 1) (by omega) (by omega) (by omega)]
/-- what the rows of a voice may change into -/
noncomputable def tvM (w v : Int) (B B' : zB) : Prop := ∀ c i k y, ¬ (c = 13 ∧ i = w ∧ (((k = 8 ∨ k = 9 ∨ k = 12) ∧ y = v) ∨ ((k = 16 ∨ k = 17 ∨ k = 18 ∨ k = 21 ∨ k = 22) ∧ 1000 * v ≤ y ∧ y < 1000 * v + 1000) ∨ ((k = 28 ∨ k = 29) ∧ 6000 * v ≤ y ∧ y < 6000 * v + 6000))) → ¬ (c = 14 ∧ i = 0 ∧ k = 95) → B' c i k y = B c i k y
/-- voice v, out of the sounds from a on: its clef, its program's number, its spans -/
noncomputable def VOk (K : zK) (o f w g D N : Int) (bg en tn tk nb : Int → Int) (B : zB) (v a : Int) : Prop := (B 13 w 8 v = if sm60 tn a (nxG tk a N - a).toNat < 0 then 1 else 0) ∧ B 13 w 9 v = nb (tk a) ∧ ∃ EL, GLp K o f (fun i => gplF g D (bg i)) (fun i => gplF g D (en i)) tn (nxG tk a N) 400 a 0 EL ∧ B 13 w 12 v = (EL.length : Int) ∧ (EL.length : Int) ≤ 800 ∧ EVL g w v B 0 EL
theorem M_te {a v : Int} {nb : Int → Int} {F : zF} {B : zB} (h7 : 0 < K.2 7) (h1 : 0 < K.2 1) (hK : 200 ≤ K.1) (hKm : 1000 ≤ Km) (ho : 0 ≤ o ∧ o < K.2 8) (hf : -7 ≤ f ∧ f ≤ 7) (dq : DTq g D N bg en tn tk) (v0 : 0 ≤ v ∧ v < 4) (ha : 0 ≤ a ∧ a < N) (hl : ∀ i, 0 ≤ i → i < a → tk i < tk a) (hM : MFq w D N bg en tn tk F B) (m2 : F 13 w 2 = f) (hnb : B 14 0 81 (tk a) = nb (tk a)) : ∃ F' B', f_M_trackEvents Km (tk a) v g F B = some (lsG (fun i => gplF g D (bg i)) (fun i => gplF g D (en i)) (nxG tk a N) 400 a 0, F', B') ∧ (∀ c y k, ¬ (c = 14 ∧ y = 0 ∧ k ≤ 1) → F' c y k = F c y k) ∧ tvM w v B B' ∧ VOk K o f w g D N bg en tn tk nb B' v a ∧ (0 ≤ lsG (fun i => gplF g D (bg i)) (fun i => gplF g D (en i)) (nxG tk a N) 400 a 0 ∧ lsG (fun i => gplF g D (bg i)) (fun i => gplF g D (en i)) (nxG tk a N) 400 a 0 ≤ 40000000000000) := by
  have hN := dq.2.2.1
  have hb := blk_o dq ha hl
  have dk := (dq.2.2.2.1 a ha.1 ha.2).1
  have hw := hM.1
  have hb' := hb
  obtain ⟨⟨b1, b2, b3⟩, b4⟩ := hb'
  generalize hB1 : zup4 (zup4 B 13 w 12 v 0) 13 w 9 v (nb (tk a)) = B1
  have n1 : ∀ c i k y, ¬ (c = 13 ∧ i = w ∧ (k = 9 ∨ k = 12) ∧ y = v) → B1 c i k y = B c i k y := fun c i k y n => by rw [← hB1, zup4_v, if_neg (by omega), zup4_v, if_neg (by omega)]
  have hM1 : MFq w D N bg en tn tk F B1 := MFq_f hM rfl (fun k x _ _ => n1 14 0 k x (by omega))
  have e37 := M_t37 (Km := Km) (v := v) dq hM1 hb ⟨dk.1, by omega⟩ N.toNat Km 0 (by omega) (by omega) (by omega)
  rw [if_pos (show (0 : Int) ≤ a from ha.1), show (0 : Int).toNat = 0 from rfl] at e37
  generalize hcl : (if sm60 tn a (nxG tk a N - a).toNat < 0 then (1 : Int) else 0) = cl at e37
  generalize hB2 : zup4 B1 13 w 8 v cl = B2
  have n2 : ∀ c i k y, ¬ (c = 13 ∧ i = w ∧ k = 8 ∧ y = v) → B2 c i k y = B1 c i k y := fun c i k y n => by rw [← hB2, zup4_v, if_neg (by omega)]
  have hM2 : MFq w D N bg en tn tk F B2 := MFq_f hM1 rfl (fun k x _ _ => n2 14 0 k x (by omega))
  obtain ⟨F3, B3, EL, u1, u2, u3, u4, u5, u6, u7, u8⟩ := M_t136 (Km := Km) (K := K) (o := o) (f := f) (w := w) (z := nxG tk a N) (s0 := a) (v := v) h7 h1 hK hKm ho hf dq b3 v0 (blk_m dq hb) 400 Km a 0 0 F B2 (by omega) (by omega) ha.1 (by omega) (by omega) (by omega) (by omega) (fun _ => (gpl_b dq.1 dq.2.1 (dq.2.2.2.1 a ha.1 ha.2).2.2.1).1) (by omega) (by omega) hM2 m2 (by rw [n2 13 w 12 v (by omega), ← hB1]; simp [zup4_v])
  refine ⟨F3, B3, ?_, u2, fun c i k y n n' => ?_, ⟨?_, ?_, EL, u5, by rw [u4]; simp, by omega, u6⟩, u8⟩
  · unfold f_M_trackEvents
    have e81 : (zup4 B 13 w 12 v 0) 14 0 81 (tk a) = nb (tk a) := by rw [zup4_v, if_neg (by omega)]; exact hnb
    rw [hw.1, if_pos hw.2, if_pos v0, if_pos (by omega), e81, hB1]
    have e37' : f_M_trackEvents_37 Km Km 0 0 0 0 (tk a) v g F B1 = f_M_trackEvents_108 Km (nxG tk a N - a) 0 (tk a) v g w v cl F B1 := e37
    rw [e37']
    unfold f_M_trackEvents_108
    rw [if_pos hw.2, if_pos v0, hB2, M_t112 dq hM2 hb ⟨dk.1, by omega⟩ a.toNat Km 0 (by omega) (by omega) (by omega), show a + (nxG tk a N - a) = nxG tk a N by omega]
    exact u1
  · rw [u3 c i k y (by omega) n', n2 c i k y (by omega), n1 c i k y (by omega)]
  · rw [u3 13 w 8 v (by omega) (by omega), ← hB2, zup4_v, if_pos (by omega), hcl]
  · rw [u3 13 w 9 v (by omega) (by omega), n2 13 w 9 v (by omega), ← hB1, zup4_v, if_pos (by omega)]
end
end
end
section
section
/-! ===== the reference: all tracks become voices ===== -/
/-- where the sounds of each voice begin -/
noncomputable def vlB (tk : Int → Int) (N : Int) : Nat → Int → Int → List Int
  | 0, _, _ => []
  | f + 1, s, v => if s < N ∧ v < 4 then s :: vlB tk N f (nxG tk s N) (v + 1) else []
noncomputable def VOs (K : zK) (o f w g D N : Int) (bg en tn tk nb : Int → Int) (B : zB) : Int → List Int → Prop
  | _, [] => True
  | v, a :: as => VOk K o f w g D N bg en tn tk nb B v a ∧ VOs K o f w g D N bg en tn tk nb B (v + 1) as
section
variable {Km : Nat} {K : zK} {o f w g D N : Int} {bg en tn tk nb : Int → Int}
theorem VOk_f {B B' : zB} {v a : Int} (h : VOk K o f w g D N bg en tn tk nb B v a) (v' : Int) (e : ∀ c i k y, ¬ (c = 13 ∧ i = w ∧ (((k = 8 ∨ k = 9 ∨ k = 12) ∧ v' ≤ y) ∨ ((k = 16 ∨ k = 17 ∨ k = 18 ∨ k = 21 ∨ k = 22) ∧ 1000 * v' ≤ y) ∨ ((k = 28 ∨ k = 29) ∧ 6000 * v' ≤ y))) → ¬ (c = 14 ∧ i = 0 ∧ k = 95) → B' c i k y = B c i k y) (hv : v < v') : VOk K o f w g D N bg en tn tk nb B' v a := by
  obtain ⟨h1, h2, EL, h3, h4, h5, h6⟩ := h
  exact ⟨by rw [e 13 w 8 v (by omega) (by omega)]; exact h1, by rw [e 13 w 9 v (by omega) (by omega)]; exact h2, EL, h3, by rw [e 13 w 12 v (by omega) (by omega)]; exact h4, h5, EVL_f EL 0 h6 (fun k y hk a b => e 13 w k y (by omega) (by omega)) (fun k y hk a b => e 13 w k y (by omega) (by omega))⟩
theorem M_d121 {h : Int} (h7 : 0 < K.2 7) (h1 : 0 < K.2 1) (hK : 200 ≤ K.1) (hKm : 1000 ≤ Km) (ho : 0 ≤ o ∧ o < K.2 8) (hf : -7 ≤ f ∧ f ≤ 7) (hh : 1 ≤ h ∧ h ≤ 8) (dq : DTq g D N bg en tn tk) (htk : ∀ i, 0 ≤ i → i < N → tk i < h) : ∀ (d m fu : Nat) (k s v last : Int) (F : zF) (B : zB), k + d = h → 0 ≤ k → d < m → N - s ≤ fu → 0 ≤ s → s ≤ N → (∀ i, 0 ≤ i → i < s → tk i < k) → (∀ i, s ≤ i → i < N → k ≤ tk i) → 0 ≤ v → v ≤ 4 → (0 ≤ last ∧ last ≤ 40000000000000) → MFq w D N bg en tn tk F B → B 14 0 73 0 = h → F 13 w 2 = f → F 13 w 1 = v → (∀ k, 0 ≤ k → k < h → B 14 0 81 k = nb k) → ∃ F' B', f_M_down_121 Km m k last g F B = f_M_down_200 Km (lpB (fun i => gplF g D (bg i)) (fun i => gplF g D (en i)) tk N fu s v last) g F' B' ∧ (∀ c y k, ¬ (c = 14 ∧ y = 0 ∧ k ≤ 1) → ¬ (c = 13 ∧ y = w ∧ k = 1) → F' c y k = F c y k) ∧ F' 13 w 1 = v + ((vlB tk N fu s v).length : Int) ∧ (∀ c i k y, ¬ (c = 13 ∧ i = w ∧ (((k = 8 ∨ k = 9 ∨ k = 12) ∧ v ≤ y) ∨ ((k = 16 ∨ k = 17 ∨ k = 18 ∨ k = 21 ∨ k = 22) ∧ 1000 * v ≤ y) ∨ ((k = 28 ∨ k = 29) ∧ 6000 * v ≤ y))) → ¬ (c = 14 ∧ i = 0 ∧ k = 95) → B' c i k y = B c i k y) ∧ VOs K o f w g D N bg en tn tk nb B' v (vlB tk N fu s v) ∧ v + ((vlB tk N fu s v).length : Int) ≤ 4 ∧ (0 ≤ lpB (fun i => gplF g D (bg i)) (fun i => gplF g D (en i)) tk N fu s v last ∧ lpB (fun i => gplF g D (bg i)) (fun i => gplF g D (en i)) tk N fu s v last ≤ 40000000000000) := by
  have hN := dq.2.2.1
  have stop : ∀ (fu : Nat) (s v last : Int), ¬ (s < N ∧ v < 4) → lpB (fun i => gplF g D (bg i)) (fun i => gplF g D (en i)) tk N fu s v last = last ∧ vlB tk N fu s v = [] := fun fu s v last h => by
    cases fu with
    | zero => exact ⟨rfl, rfl⟩
    | succ fu => exact ⟨by rw [lpB, if_neg h], by rw [vlB, if_neg h]⟩
  intro d
  induction d with
  | zero =>
    intro m fu k s v last F B e k0 hm hfu s0 sN sl sg v0 v4 hl hM h73 m2 m1 h81
    obtain ⟨p, rfl⟩ : ∃ p, m = p + 1 := ⟨m - 1, by omega⟩
    have sE : s = N := by
      rcases Int.lt_or_le s N with z | z
      · have := sg s (by omega) z
        have := htk s s0 z
        omega
      · omega
    obtain ⟨e1, e2⟩ := stop fu s v last (by omega)
    refine ⟨F, B, ?_, fun _ _ _ _ _ => rfl, by rw [e2]; simp [m1], fun _ _ _ _ _ _ => rfl, by rw [e2]; trivial, by rw [e2]; simp; omega, by rw [e1]; exact hl⟩
    rw [f_M_down_121, if_pos (by unfold r32; omega), h73, if_pos (by unfold r32; omega), if_pos (by omega), e1]
  | succ d ih =>
    intro m fu k s v last F B e k0 hm hfu s0 sN sl sg v0 v4 hl hM h73 m2 m1 h81
    obtain ⟨p, rfl⟩ : ∃ p, m = p + 1 := ⟨m - 1, by omega⟩
    have hw := hM.1
    rw [f_M_down_121, if_pos (by unfold r32; omega), h73, if_pos (by unfold r32; omega), if_neg (by omega), hw.1, if_pos hw.2, m1, if_pos (by unfold r32; omega)]
    by_cases v4' : 4 ≤ v
    · obtain ⟨e1, e2⟩ := stop fu s v last (by omega)
      rw [if_pos v4', e1]
      exact ⟨F, B, rfl, fun _ _ _ _ _ => rfl, by rw [e2]; simp [m1], fun _ _ _ _ _ _ => rfl, by rw [e2]; trivial, by rw [e2]; simp; omega, hl⟩
    · rw [if_neg v4']
      obtain ⟨r, x1, x2, x3⟩ := M_hs4 (Km := Km) (k := k) dq hM (by omega) N.toNat Km 0 0 (by omega) (by omega) (by omega) (Or.inl rfl)
      have x1' : f_M_hasSounds Km k F B = some (r, F, B) := x1
      rw [x1', zb_s, if_pos (by unfold r32; omega)]
      unfold f_M_down_194
      by_cases y : s < N ∧ tk s = k
      · have r1 : r = 1 := x3.mpr (Or.inr ⟨s, s0, y.1, y.2⟩)
        have hls : ∀ i, 0 ≤ i → i < s → tk i < tk s := fun i i0 i1 => by have := sl i i0 i1; omega
        obtain ⟨F1, B1, u1, u2, u3, u4, u5⟩ := M_te (Km := Km) (K := K) (o := o) (f := f) (w := w) (nb := nb) (v := v) h7 h1 hK hKm ho hf dq ⟨v0, by omega⟩ ⟨s0, y.1⟩ hls hM m2 (by rw [y.2]; exact h81 k k0 (by omega))
        obtain ⟨p1, p2, p3, p4⟩ := nxG_p (gB := tk) y.1 (by omega) s0
        obtain ⟨fu', rfl⟩ : ∃ q, fu = q + 1 := ⟨fu - 1, by omega⟩
        have bk := blk_o dq ⟨s0, y.1⟩ hls
        rw [r1, if_neg (by decide), hw.1, if_pos hw.2, m1, ← y.2, u1, zb_s, if_pos (by unfold r64; omega), if_pos (by unfold r64; omega)]
        generalize hls' : lsG (fun i => gplF g D (bg i)) (fun i => gplF g D (en i)) (nxG tk s N) 400 s 0 = e0 at *
        have zb : 0 ≤ zmax last e0 ∧ zmax last e0 ≤ 40000000000000 := by unfold zmax; split <;> omega
        have w1 : F1 14 0 6 = w := by rw [u2 14 0 6 (by omega)]; exact hw.1
        have e181 : ∀ l, f_M_down_181 (f_M_down_121 Km p) Km (tk s) l g F1 B1 = f_M_down_121 Km p (tk s + 1) l g (zup3 F1 13 w 1 (v + 1)) B1 := fun l => by
          unfold f_M_down_181 f_M_down_194
          rw [w1, if_pos hw.2, u2 13 w 1 (by omega), m1]
        have hM1 : MFq w D N bg en tn tk (zup3 F1 13 w 1 (v + 1)) B1 := MFq_f hM (by rw [zup3_v, if_neg (by omega), u2 14 0 6 (by omega)]) (fun k x _ _ => u3 14 0 k x (by omega) (by omega))
        obtain ⟨F2, B2, t1, t2, t3, t4, t5, t6, t7⟩ := ih p fu' (tk s + 1) (nxG tk s N) (v + 1) (zmax last e0) (zup3 F1 13 w 1 (v + 1)) B1 (by omega) (by omega) (by omega) (by omega) (by omega) p2 (fun i i0 i1 => by
          have q := tkk_m dq
          rcases Int.lt_or_le i s with z | z
          · have := hls i i0 z; omega
          · have := p3 i z i1; omega) (fun i i0 i1 => by
          have q := sg i (by omega) i1
          have q2 := (bk.2 i (by omega) i1)
          by_cases z : tk i = tk s
          · have := q2.mp z; omega
          · omega) (by omega) (by omega) zb hM1 (by rw [u3 14 0 73 0 (by omega) (by omega)]; exact h73) (by rw [zup3_v, if_neg (by omega), u2 13 w 2 (by omega)]; exact m2) (by rw [zup3_v, if_pos (by omega)]) (fun k a b => by rw [u3 14 0 81 k (by omega) (by omega)]; exact h81 k a b)
        have eL : vlB tk N (fu' + 1) s v = s :: vlB tk N fu' (nxG tk s N) (v + 1) := by rw [vlB, if_pos ⟨y.1, by omega⟩]
        have eP : lpB (fun i => gplF g D (bg i)) (fun i => gplF g D (en i)) tk N (fu' + 1) s v last = lpB (fun i => gplF g D (bg i)) (fun i => gplF g D (en i)) tk N fu' (nxG tk s N) (v + 1) (zmax last e0) := by rw [lpB, if_pos ⟨y.1, by omega⟩, hls']
        rw [eL, eP]
        refine ⟨F2, B2, ?_, fun c y k n n' => ?_, by rw [t3, List.length_cons]; omega, fun c i k y n n' => by rw [t4 c i k y (by omega) n', u3 c i k y (by omega) n'], ⟨VOk_f u4 (v + 1) t4 (by omega), t5⟩, by rw [List.length_cons]; omega, t7⟩
        · have zc : (if zcmp e0 last ≤ 0 then f_M_down_181 (f_M_down_121 Km p) Km (tk s) last g F1 B1 else f_M_down_181 (f_M_down_121 Km p) Km (tk s) e0 g F1 B1) = f_M_down_121 Km p (tk s + 1) (zmax last e0) g (zup3 F1 13 w 1 (v + 1)) B1 := by
            unfold zmax
            by_cases q : e0 ≤ last
            · rw [if_pos (zcmp_m.mpr q), if_neg (by omega), e181]
            · rw [if_neg (fun z => q (zcmp_m.mp z)), if_pos (by omega), e181]
          rw [zc, t1]
        · rw [t2 c y k n n', zup3_v, if_neg (by omega), u2 c y k n]
      · have r0 : r = 0 := by
          rcases x2 with z | z
          · exact z
          · rcases x3.mp z with q | ⟨j, j0, j1, j2⟩
            · exact absurd q (by decide)
            · rcases Int.lt_or_le j s with a | a
              · have := sl j j0 a; omega
              · have m := tkk_m dq (j - s).toNat s s0 (by omega)
                rw [show s + ((j - s).toNat : Int) = j by omega] at m
                have := sg s (by omega) (by omega)
                exact absurd ⟨by omega, by omega⟩ y
        rw [if_pos r0]
        exact ih p fu (k + 1) s v last F B (by omega) (by omega) (by omega) hfu s0 sN (fun i a b => by have := sl i a b; omega) (fun i a b => by
          have := sg i a b
          have m := tkk_m dq (i - s).toNat s s0 (by omega)
          rw [show s + ((i - s).toNat : Int) = i by omega] at m
          have q := sg s (by omega) (by omega)
          by_cases z : tk s = k
          · exact absurd ⟨by omega, z⟩ y
          · omega) v0 v4 hl hM h73 m2 m1 h81
end
end
end
section
section
/-! ===== the notes of spans, as the reference keeps them ===== -/
/-- the notes of a span: event, bar, value -/
noncomputable def spR (n d b ev : Int) : Nat → Int → Int → List (Int × Int × Int)
  | 0, _, _ => []
  | f + 1, a, e => if a < e then (ev, a / b, kvF n d b a e) :: spR n d b ev f (nxF n d b a e) e else []
noncomputable def spN (n d b ev a e : Int) : List (Int × Int × Int) := spR n d b ev (e - a).toNat a e
theorem spR_i {n d b ev : Int} (h : BRs n d b) {e : Int} (he : e % sdU d = 0) : ∀ (f f' : Nat) (a : Int), 0 ≤ a → a % sdU d = 0 → e - a ≤ sdU d * f → e - a ≤ sdU d * f' → spR n d b ev f a e = spR n d b ev f' a e := by
  have s0 := (BRs_b h).2.2.2.2.1
  intro f
  induction f with
  | zero =>
    intro f' a a0 ha h1 h2
    have : ¬ a < e := by simp at h1; omega
    cases f' with
    | zero => rfl
    | succ f' => rw [spR, spR, if_neg this]
  | succ f ih =>
    intro f' a a0 ha h1 h2
    by_cases z : a < e
    · cases f' with
      | zero => simp at h2; omega
      | succ f' =>
        obtain ⟨_, n1, n2, n3, _⟩ := nx_b h a0 z ha he
        have e1 : sdU d * ((f + 1 : Nat) : Int) = sdU d * f + sdU d := by rw [show ((f + 1 : Nat) : Int) = (f : Int) + 1 by omega, Int.mul_add, Int.mul_one]
        have e2 : sdU d * ((f' + 1 : Nat) : Int) = sdU d * f' + sdU d := by rw [show ((f' + 1 : Nat) : Int) = (f' : Int) + 1 by omega, Int.mul_add, Int.mul_one]
        rw [spR, spR, if_pos z, if_pos z, ih f' (nxF n d b a e) (by omega) n3 (by omega) (by omega)]
    · cases f' with
      | zero => rw [spR, spR, if_neg z]
      | succ f' => rw [spR, spR, if_neg z, if_neg z]
theorem spN_0 {n d b ev a e : Int} (h : ¬ a < e) : spN n d b ev a e = [] := by
  unfold spN
  rw [show (e - a).toNat = 0 by omega, spR]
theorem spN_u {n d b ev a e : Int} (h : BRs n d b) (a0 : 0 ≤ a) (ha : a % sdU d = 0) (he : e % sdU d = 0) (z : a < e) : spN n d b ev a e = (ev, a / b, kvF n d b a e) :: spN n d b ev (nxF n d b a e) e := by
  have sd : sdU d = 16 ∨ sdU d = 4 := by unfold sdU; split <;> omega
  obtain ⟨_, n1, n2, n3, _⟩ := nx_b h a0 z ha he
  unfold spN
  obtain ⟨f, hf⟩ : ∃ f, (e - a).toNat = f + 1 := ⟨(e - a).toNat - 1, by omega⟩
  rw [hf, spR, if_pos z, spR_i h he f (e - nxF n d b a e).toNat (nxF n d b a e) (by omega) n3 (by rcases sd with g | g <;> rw [g] at n1 ⊢ <;> omega) (by rcases sd with g | g <;> rw [g] <;> omega)]
/-- rows i, i + 1, .. hold the notes of the list -/
noncomputable def NRW (w v : Int) (B : zB) : Int → List (Int × Int × Int) → Prop
  | _, [] => True
  | i, r :: rs => (B 13 w 30 (800 * v + i) = r.1 ∧ B 13 w 31 (800 * v + i) = r.2.1 ∧ B 13 w 34 (800 * v + i) = r.2.2 / 3 ∧ B 13 w 35 (800 * v + i) = 2 - r.2.2 % 3) ∧ NRW w v B (i + 1) rs
theorem NRW_f {w v : Int} {B B' : zB} : ∀ (L : List (Int × Int × Int)) (i : Int), NRW w v B i L → (∀ k y, 30 ≤ k → k ≤ 35 → 800 * v + i ≤ y → y < 800 * v + i + (L.length : Int) → B' 13 w k y = B 13 w k y) → NRW w v B' i L := by
  intro L
  induction L with
  | nil => intro i _ _; trivial
  | cons r rs ih =>
    intro i h e
    have ll : ((r :: rs).length : Int) = (rs.length : Int) + 1 := by rw [List.length_cons]; omega
    rw [ll] at e
    refine ⟨?_, ih (i + 1) h.2 (fun k y a b c d => e k y a b (by omega) (by omega))⟩
    rw [e 30 _ (by omega) (by omega) (by omega) (by omega), e 31 _ (by omega) (by omega) (by omega) (by omega), e 34 _ (by omega) (by omega) (by omega) (by omega), e 35 _ (by omega) (by omega) (by omega) (by omega)]
    exact h.1
theorem NRW_a {w v : Int} {B : zB} : ∀ (L : List (Int × Int × Int)) (i : Int) (r : Int × Int × Int), NRW w v B i L → NRW w v B (i + (L.length : Int)) [r] → NRW w v B i (L ++ [r]) := by
  intro L
  induction L with
  | nil =>
    intro i r _ h
    rw [List.length_nil, show i + ((0 : Nat) : Int) = i by omega] at h
    exact h
  | cons s rs ih =>
    intro i r h h'
    rw [List.length_cons, show i + ((rs.length + 1 : Nat) : Int) = i + 1 + (rs.length : Int) by omega] at h'
    exact ⟨h.1, ih (i + 1) r h.2 h'⟩
/-- the notes so far: kept, or more than there is room for -/
noncomputable def NSt (w v : Int) (L : List (Int × Int × Int)) (B : zB) : Prop := (L.length ≤ 800 ∧ B 13 w 13 v = (L.length : Int) ∧ NRW w v B 0 L) ∨ (800 < L.length ∧ B 13 w 13 v = 801)
theorem NSt_c {w v : Int} {L : List (Int × Int × Int)} {B : zB} (h : NSt w v L B) : ∃ c, B 13 w 13 v = c ∧ 0 ≤ c ∧ c ≤ 801 ∧ (c ≤ 800 ↔ L.length ≤ 800) := by
  rcases h with ⟨a, b, _⟩ | ⟨a, b⟩
  · exact ⟨_, b, by omega, by omega, by omega⟩
  · exact ⟨_, b, by omega, by omega, by omega⟩
theorem NSt_m {w v : Int} {L M : List (Int × Int × Int)} {B : zB} (h : NSt w v L B) (hl : 800 < L.length) : NSt w v (L ++ M) B := by
  rcases h with ⟨a, _⟩ | ⟨_, b⟩
  · omega
  · exact Or.inr ⟨by rw [List.length_append]; omega, b⟩
theorem M_nt {Km : Nat} {w v ev bar k : Int} {L : List (Int × Int × Int)} {F : zF} {B : zB} (v0 : 0 ≤ v ∧ v < 4) (w0 : 0 ≤ w ∧ w < 3) (hN : NSt w v L B) (hl : L.length ≤ 800) : ∃ B', f_M_note_1 Km w v ev bar (k / 3) (2 - k % 3) F B = some (0, F, B') ∧ nM' v w B B' ∧ NSt w v (L ++ [(ev, bar, k)]) B' := by
  obtain ⟨l1, n13, hr⟩ : L.length ≤ 800 ∧ B 13 w 13 v = (L.length : Int) ∧ NRW w v B 0 L := by
    rcases hN with h | h
    · exact h
    · omega
  have ll : (L ++ [(ev, bar, k)]).length = L.length + 1 := by rw [List.length_append]; rfl
  generalize hc : (L.length : Int) = c at *
  have e13 : (zup4 B 13 w 13 v (c + 1)) 13 w 13 v = c + 1 := by rw [zup4_v, if_pos (by omega)]
  unfold f_M_note_1
  rw [if_pos w0, if_pos v0, n13, e13, if_pos (show r32 (c + 1) by unfold r32; omega)]
  by_cases z : c < 800
  · rw [if_pos (show c + 1 ≤ 800 by omega), if_pos (show 0 ≤ 800 * v + c ∧ 800 * v + c < 3200 by omega)]
    generalize hM' : zup4 (zup4 (zup4 (zup4 (zup4 (zup4 (zup4 B 13 w 13 v (c + 1)) 13 w 30 (800 * v + c) ev) 13 w 31 (800 * v + c) bar) 13 w 32 (800 * v + c) (F 14 0 54)) 13 w 33 (800 * v + c) (F 14 0 55)) 13 w 34 (800 * v + c) (k / 3)) 13 w 35 (800 * v + c) (2 - k % 3) = M'
    have mn : ∀ d y k x, ¬ (d = 13 ∧ y = w ∧ k = 13 ∧ x = v) → ¬ (d = 13 ∧ y = w ∧ (30 ≤ k ∧ k ≤ 35) ∧ x = 800 * v + c) → M' d y k x = B d y k x := fun d y k x h h' => by rw [← hM', zup4_v, if_neg (by omega), zup4_v, if_neg (by omega), zup4_v, if_neg (by omega), zup4_v, if_neg (by omega), zup4_v, if_neg (by omega), zup4_v, if_neg (by omega), zup4_v, if_neg (by omega)]
    have m13 : M' 13 w 13 v = c + 1 := by rw [← hM']; simp [zup4_v]
    have m30 : M' 13 w 30 (800 * v + c) = ev := by rw [← hM']; simp [zup4_v]
    have m31 : M' 13 w 31 (800 * v + c) = bar := by rw [← hM']; simp [zup4_v]
    have m34 : M' 13 w 34 (800 * v + c) = k / 3 := by rw [← hM']; simp [zup4_v]
    have m35 : M' 13 w 35 (800 * v + c) = 2 - k % 3 := by rw [← hM']; simp [zup4_v]
    refine ⟨M', rfl, fun d y k x h h' => mn d y k x h (by omega), Or.inl ⟨by omega, by rw [m13, ll]; omega, NRW_a L 0 _ (NRW_f L 0 hr (fun k y a b cc dd => mn 13 w k y (by omega) (by omega))) ?_⟩⟩
    rw [hc, show 0 + c = c by omega]
    exact ⟨⟨m30, m31, m34, m35⟩, trivial⟩
  · rw [if_neg (show ¬ c + 1 ≤ 800 by omega)]
    refine ⟨_, rfl, fun d y k x h h' => by rw [zup4_v, if_neg (by omega)], Or.inr ⟨by omega, by rw [zup4_v, if_pos (by omega)]; omega⟩⟩
/-- places within one bar -/
theorem bar_q {b nb a : Int} (b0 : 0 < b) (h1 : nb * b ≤ a) (h2 : a < (nb + 1) * b) : a / b = nb ∧ a % b = a - nb * b := by
  have e : a / b = nb := by
    refine Int.le_antisymm ?_ ?_
    · have := (Int.ediv_lt_iff_lt_mul b0 (a := a) (b := nb + 1)).mpr h2
      omega
    · exact (Int.le_ediv_iff_mul_le b0).mpr h1
  refine ⟨e, ?_⟩
  have := Int.emod_add_mul_ediv a b
  rw [e, Int.mul_comm] at this
  omega
theorem kv_e {n d b nb a e t : Int} (b0 : 0 < b) (h1 : nb * b ≤ a) (h2 : a < t) (ht : t ≤ (nb + 1) * b ∧ t ≤ e ∧ (t = e ∨ t = (nb + 1) * b)) : kvF n d b a e = nvF n d (a - nb * b) (t - a) ∧ a / b = nb := by
  obtain ⟨q1, q2⟩ := bar_q b0 h1 (show a < (nb + 1) * b by omega)
  have nb1 : (nb + 1) * b = nb * b + b := by rw [Int.add_mul, Int.one_mul]
  refine ⟨?_, q1⟩
  unfold kvF
  rw [q2]
  have : zmin (e - a) (b - (a - nb * b)) = t - a := by unfold zmin; split <;> omega
  rw [this]
theorem sp_s {n d b nb ev e t : Int} (hb : BRs n d b) (nb0 : 0 ≤ nb * b) (he : e % sdU d = 0) (tm : t % sdU d = 0) (ht : t ≤ (nb + 1) * b ∧ t ≤ e ∧ (t = e ∨ t = (nb + 1) * b)) : ∀ (r : Nat) (a : Int), t - a ≤ 4 * r → nb * b ≤ a → a ≤ t → a % sdU d = 0 → ∃ P, spN n d b ev a e = P ++ spN n d b ev t e := by
  obtain ⟨b1, b2, b3, _, b5, b6⟩ := BRs_b hb
  have sd : (sdU d = 16) ∨ (sdU d = 4) := by unfold sdU; split <;> omega
  intro r
  induction r with
  | zero =>
    intro a hr a1 a2 ha
    have : a = t := by omega
    subst this
    exact ⟨[], rfl⟩
  | succ r ih =>
    intro a hr a1 a2 ha
    by_cases z : a = t
    · subst z; exact ⟨[], rfl⟩
    · obtain ⟨kb, n1, n2, n3, n4⟩ := nx_b hb (by omega) (show a < e by omega) ha he
      obtain ⟨k1, k2⟩ := kv_e (n := n) (d := d) (by omega) a1 (show a < t by omega) ht
      have am : (a - nb * b) % sdU d = 0 ∧ (t - a) % sdU d = 0 := by
        obtain ⟨j, hj⟩ : ∃ j, b = sdU d * j := ⟨b / sdU d, by rcases sd with h | h <;> rw [h] at b3 ⊢ <;> omega⟩
        have nbm : (nb * b) % sdU d = 0 := by
          rw [hj, show nb * (sdU d * j) = sdU d * (nb * j) by ac_rfl]
          exact Int.mul_emod_right _ _
        rcases sd with g | g <;> rw [g] at ha tm nbm ⊢ <;> omega
      obtain ⟨q1, _, _⟩ := nv_s (n := n) hb.2.1 am.1 (show 0 < t - a by omega) am.2
      have nt : nxF n d b a e ≤ t := by unfold nxF; rw [k1]; omega
      obtain ⟨P, hP⟩ := ih (nxF n d b a e) (by rcases sd with g | g <;> rw [g] at n1 <;> omega) (by omega) nt n3
      exact ⟨(ev, a / b, kvF n d b a e) :: P, by rw [spN_u hb (by omega) ha he (by omega), hP]; rfl⟩
/-- what the bar's part of a span gives -/
theorem M_cut {Km : Nat} {v w n d b nb ev e t : Int} (hKm : 70000000000 < Km) (v0 : 0 ≤ v ∧ v < 4) (w0 : 0 ≤ w ∧ w < 3) (hb : BRs n d b) (hnb : 0 ≤ nb ∧ nb ≤ 100) (he : e % sdU d = 0) (ht : nb * b ≤ t ∧ t ≤ (nb + 1) * b ∧ t ≤ e ∧ (t = e ∨ t = (nb + 1) * b)) : ∀ (r n2 : Nat) (a : Int) (L : List (Int × Int × Int)) (Fm : zF) (Bm : zB), t - a ≤ 4 * r → nb * b ≤ a → a ≤ t → a % sdU d = 0 → r < n2 → Fm 13 w 4 = n → Fm 13 w 5 = d → Fm 14 0 52 = nu (X5 * (t - a)) → Fm 14 0 53 = de (X5 * (t - a)) → Fm 14 0 54 = nu (X5 * (a - nb * b)) → Fm 14 0 55 = de (X5 * (a - nb * b)) → NSt w v L Bm → ∃ Fm' Bm' P, f_M_part_174 Km n2 1 1 0 w v ev nb Fm Bm = some (0, Fm', Bm') ∧ nG Fm Fm' ∧ nM' v w Bm Bm' ∧ NSt w v (L ++ P) Bm' ∧ spN n d b ev a e = P ++ spN n d b ev t e := by
  obtain ⟨b1, b2, b3, _, b5, b6⟩ := BRs_b hb
  have hn := hb.1
  have hd := hb.2.1
  have sd : (sdU d = 16) ∨ (sdU d = 4) := by unfold sdU; split <;> omega
  have xa : ∀ y : Int, X5 * y = 1587600 * y := fun _ => rfl
  have nb1 : (nb + 1) * b = nb * b + b := by rw [Int.add_mul, Int.one_mul]
  have tm : t % sdU d = 0 := by
    rcases ht.2.2.2 with z | z
    · rw [z]; exact he
    · rw [z]
      obtain ⟨j, hj⟩ : ∃ j, b = sdU d * j := ⟨b / sdU d, by rcases sd with h | h <;> rw [h] at b3 ⊢ <;> omega⟩
      rw [hj, show (nb + 1) * (sdU d * j) = sdU d * ((nb + 1) * j) by ac_rfl]
      exact Int.mul_emod_right _ _
  have nbm : (nb * b) % sdU d = 0 := by
    obtain ⟨j, hj⟩ : ∃ j, b = sdU d * j := ⟨b / sdU d, by rcases sd with h | h <;> rw [h] at b3 ⊢ <;> omega⟩
    rw [hj, show nb * (sdU d * j) = sdU d * (nb * j) by ac_rfl]
    exact Int.mul_emod_right _ _
  have nb0 : 0 ≤ nb * b := Int.mul_nonneg hnb.1 (by omega)
  intro r
  induction r with
  | zero =>
    intro n2 a L Fm Bm hr a1 a2 ha hn2 m4 m5 h52 h53 h54 h55 hN
    obtain ⟨n2, rfl⟩ : ∃ k, n2 = k + 1 := ⟨n2 - 1, by omega⟩
    have : a = t := by omega
    subst this
    obtain ⟨z1, z2⟩ := nu_0 (l := a - a) (by omega) (by omega)
    refine ⟨Fm, Bm, [], ?_, fun _ _ _ _ => rfl, fun _ _ _ _ _ _ => rfl, by rw [List.append_nil]; exact hN, rfl⟩
    rw [f_M_part_174, h52, if_pos z2, if_pos (z1.mpr (by omega)), f_M_part_338]
  | succ r ih =>
    intro n2 a L Fm Bm hr a1 a2 ha hn2 m4 m5 h52 h53 h54 h55 hN
    obtain ⟨n2, rfl⟩ : ∃ k, n2 = k + 1 := ⟨n2 - 1, by omega⟩
    obtain ⟨z1, z2⟩ := nu_0 (l := t - a) (by omega) (by omega)
    obtain ⟨c, c1, c2, c3, c4⟩ := NSt_c hN
    by_cases lz : t - a = 0
    · have : a = t := by omega
      subst this
      refine ⟨Fm, Bm, [], ?_, fun _ _ _ _ => rfl, fun _ _ _ _ _ _ => rfl, by rw [List.append_nil]; exact hN, rfl⟩
      rw [f_M_part_174, h52, if_pos z2, if_pos (z1.mpr (by omega)), f_M_part_338]
    by_cases lc : 800 < L.length
    · -- too many already
      obtain ⟨P, hP⟩ := sp_s (ev := ev) hb nb0 he tm ht.2 (r + 1) a hr a1 a2 ha
      refine ⟨Fm, Bm, P, ?_, fun _ _ _ _ => rfl, fun _ _ _ _ _ _ => rfl, NSt_m hN lc, hP⟩
      rw [f_M_part_174, h52, if_pos z2, if_neg (fun h => lz (z1.mp h)), if_pos w0, if_pos v0, c1, if_pos (by unfold r32; omega), if_pos (by omega), f_M_part_338]
    · obtain ⟨kb, n1, n2', n3, n4⟩ := nx_b hb (by omega) (show a < e by omega) ha he
      obtain ⟨k1, k2⟩ := kv_e (n := n) (d := d) (by omega) a1 (show a < t by omega) ht.2
      have am : (a - nb * b) % sdU d = 0 ∧ (t - a) % sdU d = 0 := by
        rcases sd with g | g <;> rw [g] at ha tm nbm ⊢ <;> omega
      have am4 : (a - nb * b) % 4 = 0 ∧ (t - a) % 4 = 0 := by
        rcases sd with g | g <;> rw [g] at am <;> omega
      obtain ⟨q1, _, q3⟩ := nv_s (n := n) hd am.1 (show 0 < t - a by omega) am.2
      have nt : nxF n d b a e ≤ t := by unfold nxF; rw [k1]; omega
      generalize hf : a - nb * b = f at *
      generalize hl : t - a = l at *
      have hS : ∀ asks : Int, asks = 0 ∨ asks = 1 → CHS w n d f l asks Fm := fun asks ha => by
        refine ⟨w0, m4, m5, hn, hd, by rw [h52, h53]; exact FR_r (by have := xa l; omega), by omega, ?_⟩
        rcases ha with h | h
        · exact Or.inl h
        · exact Or.inr ⟨h, by rw [h54, h55]; exact FR_r (by have := xa f; omega), by omega⟩
      have p1 : (fun k => decide (chP n d f l 1 k)) = (fun k => decide (fv k ≤ l ∧ stnd n d f k)) := by
        funext k
        congr 1
        exact propext ⟨fun h => ⟨h.1, h.2.resolve_left (by decide)⟩, fun h => ⟨h.1, Or.inr h.2⟩⟩
      have p0 : ∀ a, (fun k => decide (chP n d a l 0 k)) = (fun k => decide (fv k ≤ l)) := fun a => by
        funext k
        congr 1
        exact propext ⟨fun h => h.1, fun h => ⟨h, Or.inl rfl⟩⟩
      have ch : ∃ G, chF Fm G ∧ G 14 0 56 = nvF n d f l / 3 ∧ G 14 0 57 = 2 - nvF n d f l % 3 ∧ f_M_part_174 Km (n2 + 1) 1 1 0 w v ev nb Fm Bm = f_M_part_216 (f_M_part_174 Km n2) Km 1 1 0 w v ev nb G Bm := by
        obtain ⟨G1, g1, g2, g3⟩ := L_choose (K := Km) (B := Bm) (by omega) (hS 1 (Or.inr rfl))
        rw [p1] at g1 g3
        rw [f_M_part_174, h52, if_pos z2, if_neg (fun h => lz (z1.mp h)), if_pos w0, if_pos v0, c1, if_pos (show r32 c by unfold r32; omega), if_neg (by omega), if_pos (by decide), if_pos rfl, g1, zb_s]
        unfold nvF
        by_cases y : fsN (fun k => decide (fv k ≤ l ∧ stnd n d f k)) 24 0 < 0
        · obtain ⟨G2, h1, h2, h3⟩ := L_choose (K := Km) (B := Bm) (by omega) (CHS_f (hS 0 (Or.inl rfl)) g2)
          rw [p0] at h1 h3
          have gz := (gv_4 (show 0 < l by omega) am4.2).2.2
          obtain ⟨h4', h5'⟩ := h3 gz
          rw [if_pos y, if_pos y, if_pos (show r32 0 by decide), if_pos (show (0 : Int) = 0 from rfl), f_M_part_209, h1, zb_s]
          refine ⟨G2, chF_t g2 h2, ?_, ?_, rfl⟩
          · rw [h4']; unfold gvF; rw [if_neg (by omega)]
          · rw [h5']; unfold gvF; rw [if_neg (by omega)]
        · obtain ⟨h4', h5'⟩ := g3 (by omega)
          rw [if_neg y, if_neg y, if_pos (show r32 1 by decide), if_neg (show ¬ (1 : Int) = 0 by decide)]
          exact ⟨G1, g2, h4', h5', rfl⟩
      obtain ⟨G, gc, g56, g57, eM⟩ := ch
      have kb' := nvF_b (n := n) (d := d) (f := f) (l := l)
      generalize hk : nvF n d f l = k at *
      have fb := fv_b kb'.1 kb'.2
      have g54 : G 14 0 54 = nu (X5 * f) := by rw [gc _ _ _ (by omega)]; exact h54
      have g55 : G 14 0 55 = de (X5 * f) := by rw [gc _ _ _ (by omega)]; exact h55
      obtain ⟨M1, a2', a5, a6⟩ := M_nt (Km := Km) (ev := ev) (bar := nb) (k := k) (F := G) v0 w0 hN (by omega)
      obtain ⟨G', y1, y2, y3, y4, y5, y6⟩ := L_216 (K := Km) (rec := f_M_part_174 Km n2) (k := k) (l := l) (pl := X5 * f) (s := X5 * fv k) (dn := 1) (up := 1) (wi := 0) (w := w) (v := v) (ev := ev) (bar := nb) (F := G) (B := Bm) (B' := M1) hKm kb' g56 g57 (by rw [gc _ _ _ (by omega)]; exact h52) (by rw [gc _ _ _ (by omega)]; exact h53) g54 g55 q1 (by omega) (by have := xa f; omega) (by decide) (by decide) (by have := xa (fv k); omega) rfl a2'
      have gG := nG_t (nG_c gc) y2
      have x1 := xa f
      have x2 := xa (fv k)
      have x3 := xa (f + fv k)
      have en : nxF n d b a e = a + fv k := by unfold nxF; rw [k1]
      rw [en] at n1 n2' n3 nt
      obtain ⟨F2, B2, P, u1, u2, u3, u4, u5⟩ := ih n2 (a + fv k) (L ++ [(ev, nb, k)]) G' M1 (by omega) (by omega) nt n3 (by omega) (by rw [gG 13 w 4 (by omega)]; exact m4) (by rw [gG 13 w 5 (by omega)]; exact m5) (by rw [y3]; congr 2; omega) (by rw [y4]; congr 2; omega) (by rw [y5]; congr 1; rw [show a + fv k - nb * b = f + fv k by omega]; omega) (by rw [y6]; congr 1; rw [show a + fv k - nb * b = f + fv k by omega]; omega) a6
      refine ⟨F2, B2, (ev, nb, k) :: P, by rw [eM, y1]; exact u1, nG_t gG u2, nM_t a5 u3, by rw [List.append_assoc] at u4; exact u4, ?_⟩
      rw [spN_u hb (by omega) ha he (by omega), k2, k1, en, u5]
      rfl
end
end
section
section
/-! ===== the reference: the notes of a span ===== -/
theorem L_pstep0 {K n2 : Nat} {v w n d ev a t c : Int} {F : zF} {B : zB} (hK : 812851200 < K) (v0 : 0 ≤ v ∧ v < 4) (w0 : 0 ≤ w ∧ w < 3) (hn : 1 ≤ n ∧ n ≤ 12) (hd : d = 2 ∨ d = 4 ∨ d = 8 ∨ d = 16) (m4 : F 13 w 4 = n) (m5 : F 13 w 5 = d) (a0 : 0 ≤ a) (at' : a < t) (t1 : t ≤ 310272) (hc : B 13 w 13 v = c) (c0 : 0 ≤ c ∧ c ≤ 800) : ∃ G, nG F G ∧ G 14 0 54 = nu (X5 * (a % (512 / d * n))) ∧ G 14 0 55 = de (X5 * (a % (512 / d * n))) ∧ f_M_pieces_16 K (n2 + 1) (de (X5 * (t - a))) (nu (X5 * (t - a))) (de (X5 * a)) (nu (X5 * a)) w v ev 0 F B = zbind (f_M_part K w v ev (a / (512 / d * n)) (nu (X5 * (cuE (512 / d * n) a t - a))) (de (X5 * (cuE (512 / d * n) a t - a))) 0 G B) (fun _ F1 B1 => f_M_pieces_16 K n2 (de (X5 * (t - cuE (512 / d * n) a t))) (nu (X5 * (t - cuE (512 / d * n) a t))) (de (X5 * cuE (512 / d * n) a t)) (nu (X5 * cuE (512 / d * n) a t)) w v ev 0 (fr (fr F1 (X5 * cuE (512 / d * n) a t)) (X5 * (t - cuE (512 / d * n) a t))) B1) := by
  have hu := un_d hd
  have b3 := un_3 hu (n := n) (by omega)
  have b4 := un_4 hu (n := n) (by omega)
  obtain ⟨bv1, _, _, bv4, bv5⟩ := bar_v hn hd
  rw [bar5 (n := n) hd] at bv1 bv4 bv5
  generalize hb : 512 / d * n = b at *
  have rn : r32 n := by unfold r32; omega
  have rd : r32 d := by unfold r32; omega
  have xa : ∀ y : Int, X5 * y = 1587600 * y := fun _ => rfl
  have x1 := xa a
  have x2 := xa t
  have x3 := xa b
  have x6 := xa (t - a)
  have e1 := Int.mul_ediv_add_emod a b
  have e2 := Int.emod_nonneg a (show b ≠ 0 by omega)
  have e3 := Int.emod_lt_of_pos a (show 0 < b by omega)
  have q0 : 0 ≤ a / b := Int.ediv_nonneg a0 (by omega)
  have q1 : a / b ≤ a := Int.ediv_le_self _ a0
  have q2 : (a / b + 1) * b = b * (a / b) + b := by rw [Int.add_mul, Int.one_mul, Int.mul_comm]
  have q3 : (a / b + 1) * (X5 * b) = X5 * ((a / b + 1) * b) := by ac_rfl
  have x4 := xa ((a / b + 1) * b)
  obtain ⟨k1, k2, k3, k4, k5⟩ := cuE_b (b := b) (a := a) (t := t) (by omega) a0 at'
  have x5 := xa (cuE b a t)
  have x7 := xa (t - cuE b a t)
  have x8 := xa (cuE b a t - a)
  have x9 := xa (a % b)
  have x10 := xa (b * (a / b))
  obtain ⟨nz1, nz2⟩ := nu_L (l := t - a) (by omega) (by omega)
  have hr : X5 * ((a / b + 1) * b) - X5 * a = X5 * ((a / b + 1) * b - a) := by have := xa ((a / b + 1) * b - a); omega
  have f1 : FR ((a / b + 1) * n) d (X5 * ((a / b + 1) * b)) := by rw [← q3]; exact FR_k bv1 (by omega)
  have f2 : FR (a / b * n) d (X5 * (b * (a / b))) := by
    have := FR_k bv1 q0
    rwa [show a / b * (X5 * b) = X5 * (b * (a / b)) by ac_rfl] at this
  have hm : X5 * a - X5 * (b * (a / b)) = X5 * (a % b) := by omega
  have cmp : ∀ x y : Int, r32 (if x < y then (-1 : Int) else if x = y then 0 else 1) ∧ (0 ≤ (if x < y then (-1 : Int) else if x = y then 0 else 1) ↔ y ≤ x) := fun x y => by
    by_cases z : x < y
    · rw [if_pos z]; exact ⟨by decide, by omega⟩
    · rw [if_neg z]
      by_cases z' : x = y
      · rw [if_pos z']; exact ⟨by decide, by omega⟩
      · rw [if_neg z']; exact ⟨by decide, by omega⟩
  -- the second half
  have e111 : ∀ G : zF, (∀ c y k, ¬ (c = 14 ∧ y = 0 ∧ k ≤ 1) → G c y k = F c y k) → f_M_pieces_111 (f_M_pieces_16 K n2) K (de (X5 * (cuE b a t - a))) (nu (X5 * (cuE b a t - a))) (a / b) (de (X5 * (t - a))) (nu (X5 * (t - a))) (de (X5 * a)) (nu (X5 * a)) w v ev 0 G B = zbind (f_M_part K w v ev (a / b) (nu (X5 * (cuE b a t - a))) (de (X5 * (cuE b a t - a))) 0 (zup3 (zup3 (fr G (X5 * (a % b))) 14 0 54 (nu (X5 * (a % b)))) 14 0 55 (de (X5 * (a % b)))) B) (fun _ F1 B1 => f_M_pieces_16 K n2 (de (X5 * (t - cuE b a t))) (nu (X5 * (t - cuE b a t))) (de (X5 * cuE b a t)) (nu (X5 * cuE b a t)) w v ev 0 (fr (fr F1 (X5 * cuE b a t)) (X5 * (t - cuE b a t))) B1) := fun G hG => by
    unfold f_M_pieces_111
    rw [if_pos w0, hG 13 w 4 (by omega), hG 13 w 5 (by omega), m4, m5, if_pos rn, if_pos rd, L_minusR hK (FR_r (by omega)) f2 (by omega) (by omega), zb_s, if_pos (show r32 (a / b) by unfold r32; omega), hm, fr_0, fr_1]
    congr 1
    funext r1 F1 B1
    rw [L_plusR hK (FR_r (by omega)) (FR_r (by omega)) (by omega), zb_s, L_minusR hK (FR_r (by omega)) (FR_r (by omega)) (by omega) (by omega), zb_s, show X5 * a + X5 * (cuE b a t - a) = X5 * cuE b a t by omega, show X5 * (t - a) - X5 * (cuE b a t - a) = X5 * (t - cuE b a t) by omega, fr_0, fr_1, fr_0, fr_1]
  refine ⟨zup3 (zup3 (fr (fr F (X5 * ((a / b + 1) * b - a))) (X5 * (a % b))) 14 0 54 (nu (X5 * (a % b)))) 14 0 55 (de (X5 * (a % b))), fun c y k h => by rw [zup3_v, if_neg (by omega), zup3_v, if_neg (by omega), fr_n (by omega), fr_n (by omega)], by rw [zup3_v, if_neg (by omega), zup3_v, if_pos (by omega)], by rw [zup3_v, if_pos (by omega)], ?_⟩
  rw [f_M_pieces_16, if_pos nz2, if_neg (fun h => by have := nz1.mp h; omega), if_pos w0, if_pos v0, hc, if_pos (show r32 c by unfold r32; omega), if_neg (show ¬ 800 < c by omega), m4, m5, if_pos rn, if_pos rd, L_oftR (FR_r (by omega)) bv5 (by omega) (by omega) (by omega) (by omega) (by omega) (by omega), zb_s, X5_d, m4, m5, if_pos rn, if_pos rd, L_minusR hK f1 (FR_r (by omega)) (by omega) (by omega), zb_s, hr, fr_0, fr_1, L_cmpR hK (FR_r (by omega)) (FR_r (by have := xa ((a / b + 1) * b - a); omega)) (by omega) (by have := xa ((a / b + 1) * b - a); omega), zb_s, if_pos (cmp _ _).1]
  have x11 := xa ((a / b + 1) * b - a)
  by_cases z : (a / b + 1) * b ≤ t
  · have ce : cuE b a t = (a / b + 1) * b := by unfold cuE; split <;> omega
    rw [if_pos ((cmp _ _).2.mpr (by omega)), show (a / b + 1) * b - a = cuE b a t - a by rw [ce]]
    exact e111 _ (fun c y k h => fr_n h)
  · have ce : cuE b a t = t := by unfold cuE; rw [if_neg (by omega)]
    rw [if_neg (fun h => z (by have := (cmp _ _).2.mp h; omega))]
    have := e111 (fr F (X5 * ((a / b + 1) * b - a))) (fun c y k h => fr_n h)
    rw [show cuE b a t - a = t - a by rw [ce]] at this ⊢
    exact this
theorem L_part0 {Km : Nat} {v w ev nb l : Int} {Fm : zF} {Bm : zB} (hKm : 70000000000 < Km) (v0 : 0 ≤ v ∧ v < 4) (w0 : 0 ≤ w ∧ w < 3) (hE : ev = -1 ∨ ((0 ≤ ev ∧ ev < 1000) ∧ r32 (Bm 13 w 21 (1000 * v + ev)) ∧ Bm 13 w 22 (1000 * v + ev) = 0)) (l0 : 0 ≤ l ∧ l ≤ 3072) : f_M_part Km w v ev nb (nu (X5 * l)) (de (X5 * l)) 0 Fm Bm = f_M_part_174 Km Km 1 1 0 w v ev nb (zup3 (zup3 (fr Fm (X5 * l)) 14 0 52 (nu (X5 * l))) 14 0 53 (de (X5 * l))) Bm := by
  have xa : ∀ y : Int, X5 * y = 1587600 * y := fun _ => rfl
  have x1 := xa l
  have e146 : f_M_part_146 Km 1 1 0 w v ev nb (nu (X5 * l)) (de (X5 * l)) Fm Bm = f_M_part_174 Km Km 1 1 0 w v ev nb (zup3 (zup3 (fr Fm (X5 * l)) 14 0 52 (nu (X5 * l))) 14 0 53 (de (X5 * l))) Bm := by
    unfold f_M_part_146
    rw [L_timesR (r := X5 * l) hKm (FR_r (by omega)) (by omega) (by decide) (by decide) (by decide) (by decide) (by omega) rfl, zb_s, fr_0, fr_1]
  have e87 : ∀ ro : Int, (ro = 0 ∨ ro = 1) → f_M_part_87 Km 1 0 ro w v ev nb (nu (X5 * l)) (de (X5 * l)) 0 1 Fm Bm = f_M_part_146 Km 1 1 0 w v ev nb (nu (X5 * l)) (de (X5 * l)) Fm Bm := fun ro hr => by
    unfold f_M_part_87
    rcases hr with z | z
    · rw [z, if_pos (by decide), if_pos rfl]
    · rw [z, if_pos (by decide), if_neg (by decide), if_pos (by decide), if_pos rfl, if_pos (by decide), if_pos rfl]
  have e48 : ∀ l10 ro, (ro = 0 ∨ ro = 1) → f_M_part_48 Km ro l10 w v ev nb (nu (X5 * l)) (de (X5 * l)) 0 Fm Bm = f_M_part_146 Km 1 1 0 w v ev nb (nu (X5 * l)) (de (X5 * l)) Fm Bm := fun l10 ro hr => by
    unfold f_M_part_48 f_M_part_49
    rw [if_pos (by decide), if_pos rfl, f_M_part_68, if_pos (by decide), if_pos rfl, e87 ro hr]
  rw [← e146]
  unfold f_M_part f_M_part_23
  rcases hE with h1 | ⟨h1, h2, h3⟩
  · rw [h1] at e48 ⊢
    rw [if_pos (show r32 (-1) by decide), if_pos (by decide), f_M_part_28, if_pos (show r32 (-1) by decide), if_pos (by decide), e48 _ 1 (Or.inr rfl)]
  · have e28 : ∀ ro, (ro = 0 ∨ ro = 1) → f_M_part_28 Km (1000 * v + ev) w v ev nb (nu (X5 * l)) (de (X5 * l)) 0 ro Fm Bm = f_M_part_146 Km 1 1 0 w v ev nb (nu (X5 * l)) (de (X5 * l)) Fm Bm := fun ro hr => by
      unfold f_M_part_28
      rw [if_pos (by unfold r32; omega), if_neg (by omega), if_pos w0, if_pos (by omega), h3, if_pos (by decide), if_pos (by decide), e48 _ ro hr]
    rw [if_pos (by unfold r32; omega), if_neg (by omega), if_pos w0, if_pos (by omega), if_pos h2]
    by_cases z : Bm 13 w 21 (1000 * v + ev) = 0
    · rw [if_pos z, e28 1 (Or.inr rfl)]
    · rw [if_neg z, e28 0 (Or.inl rfl)]
theorem M_pcs {Km : Nat} {v w n d b ev e : Int} (hKm : 70000000000 < Km) (v0 : 0 ≤ v ∧ v < 4) (w0 : 0 ≤ w ∧ w < 3) (hb : BRs n d b) (he : e % sdU d = 0) (e1 : e ≤ 100 * b) : ∀ (r n2 : Nat) (a : Int) (L : List (Int × Int × Int)) (Fm : zF) (Bm : zB), e - a ≤ r → r < n2 → 0 ≤ a → a ≤ e → a % sdU d = 0 → Fm 13 w 4 = n → Fm 13 w 5 = d → (ev = -1 ∨ ((0 ≤ ev ∧ ev < 1000) ∧ r32 (Bm 13 w 21 (1000 * v + ev)) ∧ Bm 13 w 22 (1000 * v + ev) = 0)) → NSt w v L Bm → ∃ Fm' Bm', f_M_pieces_16 Km n2 (de (X5 * (e - a))) (nu (X5 * (e - a))) (de (X5 * a)) (nu (X5 * a)) w v ev 0 Fm Bm = some (0, Fm', Bm') ∧ nG Fm Fm' ∧ nM' v w Bm Bm' ∧ NSt w v (L ++ spN n d b ev a e) Bm' := by
  obtain ⟨b1, b2, b3, _, b5, b6⟩ := BRs_b hb
  have hn := hb.1
  have hd := hb.2.1
  have eb := hb.2.2
  have sd : (sdU d = 16) ∨ (sdU d = 4) := by unfold sdU; split <;> omega
  have stop : ∀ (n2 : Nat) (a : Int) (L : List (Int × Int × Int)) (Fm : zF) (Bm : zB), 0 < n2 → 0 ≤ a → ¬ a < e → a ≤ e → NSt w v L Bm → ∃ Fm' Bm', f_M_pieces_16 Km n2 (de (X5 * (e - a))) (nu (X5 * (e - a))) (de (X5 * a)) (nu (X5 * a)) w v ev 0 Fm Bm = some (0, Fm', Bm') ∧ nG Fm Fm' ∧ nM' v w Bm Bm' ∧ NSt w v (L ++ spN n d b ev a e) Bm' := fun n2 a L Fm Bm h0 a0 z ae hN => by
    obtain ⟨p, rfl⟩ : ∃ p, n2 = p + 1 := ⟨n2 - 1, by omega⟩
    obtain ⟨nz1, nz2⟩ := nu_L (l := e - a) (by omega) (by omega)
    refine ⟨Fm, Bm, ?_, fun _ _ _ _ => rfl, fun _ _ _ _ _ _ => rfl, by rw [spN_0 z, List.append_nil]; exact hN⟩
    rw [f_M_pieces_16, if_pos nz2, if_pos (nz1.mpr (by omega)), f_M_pieces_215]
  intro r
  induction r with
  | zero =>
    intro n2 a L Fm Bm hr hn2 a0 ae ha m4 m5 hE hN
    exact stop n2 a L Fm Bm hn2 a0 (by omega) ae hN
  | succ r ih =>
    intro n2 a L Fm Bm hr hn2 a0 ae ha m4 m5 hE hN
    by_cases z : a < e
    · obtain ⟨p, rfl⟩ : ∃ p, n2 = p + 1 := ⟨n2 - 1, by omega⟩
      obtain ⟨c, c1, c2, c3, c4⟩ := NSt_c hN
      by_cases lc : 800 < L.length
      · obtain ⟨nz1, nz2⟩ := nu_L (l := e - a) (by omega) (by omega)
        refine ⟨Fm, Bm, ?_, fun _ _ _ _ => rfl, fun _ _ _ _ _ _ => rfl, NSt_m hN lc⟩
        rw [f_M_pieces_16, if_pos nz2, if_neg (fun h => by have := nz1.mp h; omega), if_pos w0, if_pos v0, c1, if_pos (by unfold r32; omega), if_pos (by omega), f_M_pieces_215]
      · obtain ⟨G, g1, g2, g3, g4⟩ := L_pstep0 (K := Km) (n2 := p) (v := v) (w := w) (ev := ev) (a := a) (t := e) (c := c) (F := Fm) (B := Bm) (by omega) v0 w0 hn hd m4 m5 a0 z (by omega) c1 (by omega)
        rw [← eb] at g2 g3 g4
        have m0 := Int.emod_nonneg a (show b ≠ 0 by omega)
        have m1 := Int.emod_lt_of_pos a (show 0 < b by omega)
        have dm := Int.emod_add_mul_ediv a b
        have q0 : 0 ≤ a / b := Int.ediv_nonneg a0 (by omega)
        have cm : a / b * b = b * (a / b) := Int.mul_comm _ _
        have nb1 : (a / b + 1) * b = a / b * b + b := by rw [Int.add_mul, Int.one_mul]
        have q1 : a / b ≤ 100 := by
          have := (Int.ediv_lt_iff_lt_mul (show 0 < b by omega) (a := a) (b := 100)).mpr (by omega)
          omega
        have ce : cuE b a e = (if (a / b + 1) * b ≤ e then (a / b + 1) * b else e) := by
          unfold cuE
          split <;> split <;> omega
        have ct : cuE b a e ≤ (a / b + 1) * b ∧ cuE b a e ≤ e ∧ (cuE b a e = e ∨ cuE b a e = (a / b + 1) * b) ∧ a < cuE b a e := by rw [ce]; split <;> omega
        rw [g4, L_part0 hKm v0 w0 hE (by omega)]
        have af : a % b = a - a / b * b := by omega
        obtain ⟨F1, B1, P, u1, u2, u3, u4, u5⟩ := M_cut (Km := Km) (v := v) (w := w) (n := n) (d := d) (b := b) (nb := a / b) (ev := ev) (e := e) (t := cuE b a e) hKm v0 w0 hb ⟨q0, q1⟩ he ⟨by omega, ct.1, ct.2.1, ct.2.2.1⟩ 1000 Km a L (zup3 (zup3 (fr G (X5 * (cuE b a e - a))) 14 0 52 (nu (X5 * (cuE b a e - a)))) 14 0 53 (de (X5 * (cuE b a e - a)))) Bm (by omega) (by omega) (by omega) ha (by omega) (by rw [zup3_v, if_neg (by omega), zup3_v, if_neg (by omega), fr_n (by omega), g1 13 w 4 (by omega)]; exact m4) (by rw [zup3_v, if_neg (by omega), zup3_v, if_neg (by omega), fr_n (by omega), g1 13 w 5 (by omega)]; exact m5) (by rw [zup3_v, if_neg (by omega), zup3_v, if_pos (by omega)]) (by rw [zup3_v, if_pos (by omega)]) (by rw [zup3_v, if_neg (by omega), zup3_v, if_neg (by omega), fr_n (by omega), g2, af]) (by rw [zup3_v, if_neg (by omega), zup3_v, if_neg (by omega), fr_n (by omega), g3, af]) hN
        rw [u1, zb_s]
        have gF : nG Fm F1 := nG_t g1 (fun c y k h => by rw [u2 c y k h, zup3_v, if_neg (by omega), zup3_v, if_neg (by omega), fr_n (by omega)])
        have gF2 : nG Fm (fr (fr F1 (X5 * cuE b a e)) (X5 * (e - cuE b a e))) := fun c y k h => by rw [fr_n (by omega), fr_n (by omega), gF c y k h]
        have tm : cuE b a e % sdU d = 0 := by
          rcases ct.2.2.1 with q | q
          · rw [q]; exact he
          · rw [q]
            obtain ⟨j, hj⟩ : ∃ j, b = sdU d * j := ⟨b / sdU d, by rcases sd with h | h <;> rw [h] at b3 ⊢ <;> omega⟩
            rw [show (a / b + 1) * b = sdU d * ((a / b + 1) * j) by rw [hj]; ac_rfl]
            exact Int.mul_emod_right _ _
        obtain ⟨F2, B2, y1, y2, y3, y4⟩ := ih p (cuE b a e) (L ++ P) (fr (fr F1 (X5 * cuE b a e)) (X5 * (e - cuE b a e))) B1 (by omega) (by omega) (by omega) ct.2.1 tm (by rw [gF2 13 w 4 (by omega)]; exact m4) (by rw [gF2 13 w 5 (by omega)]; exact m5) (by
          rcases hE with h | ⟨h1, h2, h3⟩
          · exact Or.inl h
          · exact Or.inr ⟨h1, by rw [u3 13 w 21 _ (by omega) (by omega)]; exact h2, by rw [u3 13 w 22 _ (by omega) (by omega)]; exact h3⟩) u4
        refine ⟨F2, B2, y1, nG_t gF2 y2, nM_t u3 y3, ?_⟩
        rw [u5]
        rw [List.append_assoc] at y4
        exact y4
    · exact stop n2 a L Fm Bm (by omega) a0 z ae hN
end
end
section
section
/-! ===== the reference: places of the events of a voice ===== -/
/-- spans that follow one another from p on -/
noncomputable def CHN : Int → List (Int × Int × Int × (Int → Int) × (Int → Int)) → Prop
  | _, [] => True
  | p, r :: rs => r.1 = p ∧ p < r.2.1 ∧ CHN r.2.1 rs
noncomputable def endN : Int → List (Int × Int × Int × (Int → Int) × (Int → Int)) → Int
  | p, [] => p
  | _, r :: rs => endN r.2.1 rs
theorem CHN_e : ∀ (EL : List (Int × Int × Int × (Int → Int) × (Int → Int))) (p : Int), CHN p EL → p ≤ endN p EL := by
  intro EL
  induction EL with
  | nil => intro p _; exact Int.le_refl _
  | cons r rs ih =>
    intro p h
    have := ih r.2.1 h.2.2
    have := h.2.1
    show p ≤ endN r.2.1 rs
    omega
theorem GL_c {K : zK} {o f g D N : Int} {bg en tn tk : Int → Int} {z s0 : Int} (dq : DTq g D N bg en tn tk) (hz : z ≤ N) (mono : ∀ i, s0 ≤ i → i + 1 < z → bg i ≤ bg (i + 1)) : ∀ (fu : Nat) (s come : Int) (EL : List (Int × Int × Int × (Int → Int) × (Int → Int))), z - s ≤ fu → 0 ≤ s → s0 ≤ s → (s < z → come ≤ gplF g D (bg s)) → GLp K o f (fun i => gplF g D (bg i)) (fun i => gplF g D (en i)) tn z fu s come EL → CHN come EL ∧ endN come EL = lsG (fun i => gplF g D (bg i)) (fun i => gplF g D (en i)) z fu s come := by
  have hN := dq.2.2.1
  intro fu
  induction fu with
  | zero =>
    intro s come EL hf s0' ss hc h
    rw [GLp] at h
    subst h
    exact ⟨trivial, rfl⟩
  | succ fu ih =>
    intro s come EL hf s0' ss hc h
    rw [GLp] at h
    rw [lsG]
    by_cases c : s < z
    · rw [if_pos c] at h ⊢
      obtain ⟨m, st, al, rest, e, _, h'⟩ := h
      obtain ⟨tg1, tg2⟩ := to_g dq hz ⟨s0', c⟩ ss mono
      obtain ⟨p1, p2, _, _⟩ := nxG_p (gB := fun i => gplF g D (bg i)) c (by omega) s0'
      obtain ⟨i1, i2⟩ := ih _ _ rest (by omega) (by omega) (by omega) tg2 h'
      have hc' := hc c
      subst e
      by_cases y : come < gplF g D (bg s)
      · rw [if_pos y]
        exact ⟨⟨rfl, y, rfl, tg1, i1⟩, i2⟩
      · rw [if_neg y]
        exact ⟨⟨by show gplF g D (bg s) = come; omega, by show come < toG _ _ s z; omega, i1⟩, i2⟩
    · rw [if_neg c] at h ⊢
      subst h
      exact ⟨trivial, rfl⟩
/-- rows of events with lengths as places; u is the grid's step -/
noncomputable def EVn (u w v : Int) (B : zB) : Int → List (Int × Int × Int × (Int → Int) × (Int → Int)) → Prop
  | _, [] => True
  | j, r :: rs => ((0 ≤ r.2.2.1 ∧ r.2.2.1 ≤ 6) ∧ B 13 w 16 (1000 * v + j) = nu (X5 * (u * (r.2.1 - r.1))) ∧ B 13 w 17 (1000 * v + j) = de (X5 * (u * (r.2.1 - r.1))) ∧ B 13 w 22 (1000 * v + j) = 0 ∧ B 13 w 21 (1000 * v + j) = r.2.2.1 ∧ ∀ k, 0 ≤ k → k < r.2.2.1 → B 13 w 28 (6 * (1000 * v + j) + k) = r.2.2.2.1 k ∧ B 13 w 29 (6 * (1000 * v + j) + k) = r.2.2.2.2 k ∧ (0 ≤ r.2.2.2.1 k ∧ r.2.2.2.1 k ≤ 62) ∧ (-7 ≤ r.2.2.2.2 k ∧ r.2.2.2.2 k ≤ 7)) ∧ EVn u w v B (j + 1) rs
noncomputable def PLn (u w v : Int) (B : zB) : Int → List (Int × Int × Int × (Int → Int) × (Int → Int)) → Prop
  | _, [] => True
  | j, r :: rs => (B 13 w 14 (1000 * v + j) = nu (X5 * (u * r.1)) ∧ B 13 w 15 (1000 * v + j) = de (X5 * (u * r.1))) ∧ PLn u w v B (j + 1) rs
theorem gu {g : Int} (hg : g = 4 ∨ g = 8 ∨ g = 16 ∨ g = 32) : (512 / g) * g = 512 ∧ (512 / g = 128 ∨ 512 / g = 64 ∨ 512 / g = 32 ∨ 512 / g = 16) := by
  rcases hg with rfl | rfl | rfl | rfl <;> decide
theorem len_f {g len : Int} (hg : g = 4 ∨ g = 8 ∨ g = 16 ∨ g = 32) (hl : 0 ≤ len) : len / gc len g = nu (X5 * (512 / g * len)) ∧ g / gc len g = de (X5 * (512 / g * len)) := by
  have xa : X5 * (512 / g * len) = 1587600 * (512 / g * len) := rfl
  have e : len * WW = X5 * (512 / g * len) * g := by
    have WWe : WW = 812851200 := rfl
    rcases hg with rfl | rfl | rfl | rfl
    · show len * 812851200 = 1587600 * (128 * len) * 4; omega
    · show len * 812851200 = 1587600 * (64 * len) * 8; omega
    · show len * 812851200 = 1587600 * (32 * len) * 16; omega
    · show len * 812851200 = 1587600 * (16 * len) * 32; omega
  have p0 : 0 ≤ X5 * (512 / g * len) := by
    rcases hg with rfl | rfl | rfl | rfl
    · show 0 ≤ 1587600 * (128 * len); omega
    · show 0 ≤ 1587600 * (64 * len); omega
    · show 0 ≤ 1587600 * (32 * len); omega
    · show 0 ≤ 1587600 * (16 * len); omega
  exact red_u (W := WW) (by decide) p0 hl (by omega) e
theorem EVL_n {g w v : Int} {B : zB} (hg : g = 4 ∨ g = 8 ∨ g = 16 ∨ g = 32) : ∀ (EL : List (Int × Int × Int × (Int → Int) × (Int → Int))) (j p : Int), CHN p EL → EVL g w v B j EL → EVn (512 / g) w v B j EL := by
  intro EL
  induction EL with
  | nil => intro j p _ _; trivial
  | cons r rs ih =>
    intro j p hc h
    obtain ⟨h0, h1, h2, h3, h4, h5, h6⟩ := h.1
    have := hc.1
    have := hc.2.1
    obtain ⟨l1, l2⟩ := len_f (len := r.2.1 - r.1) hg (by omega)
    exact ⟨⟨h0, by rw [h1, l1], by rw [h2, l2], h4, h5, h6⟩, ih (j + 1) r.2.1 hc.2.2 h.2⟩
theorem EVn_f {u w v : Int} {B B' : zB} : ∀ (EL : List (Int × Int × Int × (Int → Int) × (Int → Int))) (j : Int), EVn u w v B j EL → (∀ k y, k = 16 ∨ k = 17 ∨ k = 21 ∨ k = 22 → 1000 * v + j ≤ y → y < 1000 * v + j + (EL.length : Int) → B' 13 w k y = B 13 w k y) → (∀ k y, k = 28 ∨ k = 29 → 6 * (1000 * v + j) ≤ y → y < 6 * (1000 * v + j + (EL.length : Int)) → B' 13 w k y = B 13 w k y) → EVn u w v B' j EL := by
  intro EL
  induction EL with
  | nil => intro j _ _ _; trivial
  | cons r rs ih =>
    intro j h e e2
    have ll : ((r :: rs).length : Int) = (rs.length : Int) + 1 := by rw [List.length_cons]; omega
    rw [ll] at e e2
    obtain ⟨⟨h0, h1, h2, h4, h5, h6⟩, h'⟩ := h
    refine ⟨⟨h0, by rw [e 16 _ (by omega) (by omega) (by omega)]; exact h1, by rw [e 17 _ (by omega) (by omega) (by omega)]; exact h2, by rw [e 22 _ (by omega) (by omega) (by omega)]; exact h4, by rw [e 21 _ (by omega) (by omega) (by omega)]; exact h5, fun k k0 k1 => ?_⟩, ih (j + 1) h' (fun k y hk a b => e k y hk (by omega) (by omega)) (fun k y hk a b => e2 k y hk (by omega) (by omega))⟩
    rw [e2 28 _ (by omega) (by omega) (by omega), e2 29 _ (by omega) (by omega) (by omega)]
    exact h6 k k0 k1
theorem EVn_a {u w v : Int} {B : zB} : ∀ (EL : List (Int × Int × Int × (Int → Int) × (Int → Int))) (j : Int) (r : Int × Int × Int × (Int → Int) × (Int → Int)), EVn u w v B j EL → EVn u w v B (j + (EL.length : Int)) [r] → EVn u w v B j (EL ++ [r]) := by
  intro EL
  induction EL with
  | nil =>
    intro j r _ h
    rw [List.length_nil, show j + ((0 : Nat) : Int) = j by omega] at h
    exact h
  | cons s rs ih =>
    intro j r h h'
    rw [List.length_cons, show j + ((rs.length + 1 : Nat) : Int) = j + 1 + (rs.length : Int) by omega] at h'
    exact ⟨h.1, ih (j + 1) r h.2 h'⟩
theorem CHN_a : ∀ (EL : List (Int × Int × Int × (Int → Int) × (Int → Int))) (p : Int) (r : Int × Int × Int × (Int → Int) × (Int → Int)), CHN p EL → r.1 = endN p EL → r.1 < r.2.1 → CHN p (EL ++ [r]) ∧ endN p (EL ++ [r]) = r.2.1 := by
  intro EL
  induction EL with
  | nil => intro p r _ h1 h2; exact ⟨⟨h1, by have : r.1 = p := h1; omega, trivial⟩, rfl⟩
  | cons s rs ih =>
    intro p r h h1 h2
    obtain ⟨a, b⟩ := ih s.2.1 r h.2.2 h1 h2
    exact ⟨⟨h.1, h.2.1, a⟩, b⟩
/-- places written: the reference alone -/
theorem M_pl8 {Km : Nat} {u w v M : Int} (hKm : 812851200 < Km) (v0 : 0 ≤ v ∧ v < 4) (w0 : 0 ≤ w ∧ w < 3) (hu : u = 128 ∨ u = 64 ∨ u = 32 ∨ u = 16) (hM : u * M ≤ 400000) : ∀ (EL : List (Int × Int × Int × (Int → Int) × (Int → Int))) (m : Nat) (j p : Int) (F : zF) (B : zB), EL.length < m → 0 ≤ j → j + (EL.length : Int) ≤ 1000 → 0 ≤ p → CHN p EL → endN p EL ≤ M → B 13 w 12 v = j + (EL.length : Int) → F 14 0 0 = nu (X5 * (u * p)) → F 14 0 1 = de (X5 * (u * p)) → EVn u w v B j EL → ∃ F' B', f_M_places_8 Km m j w v F B = some (0, F', B') ∧ (∀ c y k, ¬ (c = 14 ∧ y = 0 ∧ k ≤ 1) → F' c y k = F c y k) ∧ F' 14 0 0 = nu (X5 * (u * endN p EL)) ∧ F' 14 0 1 = de (X5 * (u * endN p EL)) ∧ (∀ c i k y, ¬ (c = 13 ∧ i = w ∧ (k = 14 ∨ k = 15) ∧ 1000 * v + j ≤ y ∧ y < 1000 * v + 1000) → B' c i k y = B c i k y) ∧ PLn u w v B' j EL := by
  have xa : ∀ y : Int, X5 * y = 1587600 * y := fun _ => rfl
  intro EL
  induction EL with
  | nil =>
    intro m j p F B hm j0 jl p0 hc hE h12 f0 f1 hv
    obtain ⟨q, rfl⟩ : ∃ q, m = q + 1 := ⟨m - 1, by simp at hm; omega⟩
    rw [List.length_nil] at h12 jl
    refine ⟨F, B, ?_, fun _ _ _ _ => rfl, f0, f1, fun _ _ _ _ _ => rfl, trivial⟩
    rw [f_M_places_8, if_pos w0, if_pos v0, if_pos (by unfold r32; omega), h12, if_pos (by unfold r32; omega), if_pos (by omega)]
  | cons r rs ih =>
    intro m j p F B hm j0 jl p0 hc hE h12 f0 f1 hv
    rw [List.length_cons] at hm jl h12
    obtain ⟨q, rfl⟩ : ∃ q, m = q + 1 := ⟨m - 1, by omega⟩
    obtain ⟨c1, c2, c3⟩ := hc
    have ce := CHN_e rs r.2.1 c3
    have hE' : endN r.2.1 rs ≤ M := hE
    obtain ⟨⟨h0, h1, h2, h4, h5, h6⟩, h'⟩ := hv
    have pb : 0 ≤ u * p ∧ 0 ≤ u * (r.2.1 - r.1) ∧ u * p + u * (r.2.1 - r.1) = u * r.2.1 ∧ u * r.2.1 ≤ 400000 := by rcases hu with rfl | rfl | rfl | rfl <;> omega
    have x1 := xa (u * p)
    have x2 := xa (u * (r.2.1 - r.1))
    have x3 := xa (u * r.2.1)
    generalize hB1 : zup4 (zup4 B 13 w 14 (1000 * v + j) (F 14 0 0)) 13 w 15 (1000 * v + j) (F 14 0 1) = B1
    have bn : ∀ c i k y, ¬ (c = 13 ∧ i = w ∧ (k = 14 ∨ k = 15) ∧ y = 1000 * v + j) → B1 c i k y = B c i k y := fun c i k y n => by rw [← hB1, zup4_v, if_neg (by omega), zup4_v, if_neg (by omega)]
    have b14 : B1 13 w 14 (1000 * v + j) = F 14 0 0 := by rw [← hB1]; simp [zup4_v]
    have b15 : B1 13 w 15 (1000 * v + j) = F 14 0 1 := by rw [← hB1]; simp [zup4_v]
    have fn : ∀ c y k, ¬ (c = 14 ∧ y = 0 ∧ k ≤ 1) → fr F (X5 * (u * r.2.1)) c y k = F c y k := fun c y k n => fr_n n
    obtain ⟨F2, B2, u1, u2, u3, u4, u5, u6⟩ := ih q (j + 1) r.2.1 (fr F (X5 * (u * r.2.1))) B1 (by omega) (by omega) (by omega) (by omega) c3 hE' (by rw [bn 13 w 12 v (by omega), h12]; omega) (by rw [fr_0]) (by rw [fr_1]) (EVn_f rs (j + 1) h' (fun k y hk a b => bn 13 w k y (by omega)) (fun k y hk a b => bn 13 w k y (by omega)))
    refine ⟨F2, B2, ?_, fun c y k n => by rw [u2 c y k n, fn c y k n], u3, u4, fun c i k y n => by rw [u5 c i k y (by omega), bn c i k y (by omega)], ?_, u6⟩
    · rw [f_M_places_8, if_pos w0, if_pos v0, if_pos (by unfold r32; omega), h12, if_pos (by unfold r32; omega), if_neg (by omega), if_pos (by omega), hB1, bn 13 w 16 _ (by omega), bn 13 w 17 _ (by omega), h1, h2, f0, f1, L_plusR hKm (FR_r (by omega)) (FR_r (by omega)) (by omega), zb_s, show X5 * (u * p) + X5 * (u * (r.2.1 - r.1)) = X5 * (u * r.2.1) by omega]
      exact u1
    · rw [u5 13 w 14 _ (by omega), u5 13 w 15 _ (by omega), b14, b15, f0, f1, c1]
      exact ⟨rfl, rfl⟩
end
end
section
section
/-! ===== the reference: the notes of a voice ===== -/
/-- the notes of all spans -/
noncomputable def spA (n d b u : Int) : Int → List (Int × Int × Int × (Int → Int) × (Int → Int)) → List (Int × Int × Int)
  | _, [] => []
  | j, r :: rs => spN n d b j (u * r.1) (u * r.2.1) ++ spA n d b u (j + 1) rs
/-- the end of the bar in which a place lies -/
noncomputable def cbE (b e : Int) : Int := if e % b = 0 then e else (e / b + 1) * b
noncomputable def nG7 (w : Int) (F F' : zF) : Prop := ∀ c y k, ¬ (c = 14 ∧ y = 0 ∧ (k ≤ 1 ∨ 52 ≤ k ∧ k ≤ 57)) → ¬ (c = 13 ∧ y = w ∧ k = 7) → F' c y k = F c y k
theorem u_sd {u d p : Int} (hu : u = 128 ∨ u = 64 ∨ u = 32 ∨ u = 16) : (u * p) % sdU d = 0 := by
  have sd : (sdU d = 16) ∨ (sdU d = 4) := by unfold sdU; split <;> omega
  rcases sd with h | h <;> rw [h] <;> rcases hu with rfl | rfl | rfl | rfl <;> omega
theorem M_n22 {Km : Nat} {u v w n d b M : Int} (hKm : 70000000000 < Km) (v0 : 0 ≤ v ∧ v < 4) (w0 : 0 ≤ w ∧ w < 3) (hb : BRs n d b) (hu : u = 128 ∨ u = 64 ∨ u = 32 ∨ u = 16) (hM : 0 ≤ M ∧ u * M ≤ 100 * b) : ∀ (EL : List (Int × Int × Int × (Int → Int) × (Int → Int))) (m : Nat) (j p : Int) (L : List (Int × Int × Int)) (F : zF) (B : zB), EL.length < m → 0 ≤ j → j + (EL.length : Int) ≤ 1000 → 0 ≤ p → p ≤ M → CHN p EL → endN p EL ≤ M → B 13 w 12 v = j + (EL.length : Int) → F 13 w 4 = n → F 13 w 5 = d → EVn u w v B j EL → PLn u w v B j EL → NSt w v L B → ∃ p' F' B', f_M_notes_22 Km m j (de (X5 * (u * p))) (nu (X5 * (u * p))) w v 0 F B = f_M_notes_150 Km (de (X5 * (u * p'))) (nu (X5 * (u * p'))) w v 0 F' B' ∧ nG F F' ∧ nM' v w B B' ∧ NSt w v (L ++ spA n d b u j EL) B' ∧ (0 ≤ p' ∧ p' ≤ M) ∧ (p' = endN p EL ∨ 800 < (L ++ spA n d b u j EL).length) := by
  have hbb := BRs_b hb
  have xa : ∀ y : Int, X5 * y = 1587600 * y := fun _ => rfl
  intro EL
  induction EL with
  | nil =>
    intro m j p L F B hm j0 jl p0 pM hc hE h12 m4 m5 hv hpl hN
    obtain ⟨q, rfl⟩ : ∃ q, m = q + 1 := ⟨m - 1, by simp at hm; omega⟩
    rw [List.length_nil] at h12 jl
    refine ⟨p, F, B, ?_, fun _ _ _ _ => rfl, fun _ _ _ _ _ _ => rfl, by rw [spA, List.append_nil]; exact hN, ⟨p0, pM⟩, Or.inl rfl⟩
    rw [f_M_notes_22, if_pos w0, if_pos v0, if_pos (by unfold r32; omega), h12, if_pos (by unfold r32; omega), if_pos (by omega)]
  | cons r rs ih =>
    intro m j p L F B hm j0 jl p0 pM hc hE h12 m4 m5 hv hpl hN
    rw [List.length_cons] at hm jl h12
    obtain ⟨q, rfl⟩ : ∃ q, m = q + 1 := ⟨m - 1, by omega⟩
    obtain ⟨c1, c2, c3⟩ := hc
    have ce := CHN_e rs r.2.1 c3
    have hE' : endN r.2.1 rs ≤ M := hE
    obtain ⟨⟨h0, h1, h2, h4, h5, h6⟩, h'⟩ := hv
    obtain ⟨⟨g1, g2⟩, g'⟩ := hpl
    obtain ⟨c, cc1, cc2, cc3, cc4⟩ := NSt_c hN
    have pb : 0 ≤ u * p ∧ 0 ≤ u * (r.2.1 - r.1) ∧ u * p + u * (r.2.1 - r.1) = u * r.2.1 ∧ u * r.2.1 ≤ u * M ∧ u * p ≤ u * r.2.1 ∧ u * r.1 = u * p := by rcases hu with rfl | rfl | rfl | rfl <;> omega
    by_cases lc : 800 < L.length
    · refine ⟨p, F, B, ?_, fun _ _ _ _ => rfl, fun _ _ _ _ _ _ => rfl, NSt_m hN lc, ⟨p0, pM⟩, Or.inr (by rw [List.length_append]; omega)⟩
      rw [f_M_notes_22, if_pos w0, if_pos v0, if_pos (by unfold r32; omega), h12, if_pos (by unfold r32; omega), if_neg (by omega), cc1, if_pos (by unfold r32; omega), if_pos (by omega)]
    · have x1 := xa (u * p)
      have x2 := xa (u * (r.2.1 - r.1))
      have x3 := xa (u * r.2.1)
      have hE1 : ((j = -1) ∨ ((0 ≤ j ∧ j < 1000) ∧ r32 (B 13 w 21 (1000 * v + j)) ∧ B 13 w 22 (1000 * v + j) = 0)) := Or.inr ⟨by omega, by rw [h5]; unfold r32; omega, h4⟩
      obtain ⟨F1, B1, u1, u2, u3, u4⟩ := M_pcs (Km := Km) (ev := j) (e := u * r.2.1) hKm v0 w0 hb (u_sd hu) (by omega) (u * r.2.1 - u * p).toNat Km (u * p) L F B (by omega) (by omega) pb.1 (by omega) (u_sd hu) m4 m5 hE1 hN
      have el : u * r.2.1 - u * p = u * (r.2.1 - r.1) := by omega
      rw [el] at u1
      have fn : ∀ c y k, ¬ (c = 14 ∧ y = 0 ∧ k ≤ 1) → fr F1 (X5 * (u * r.2.1)) c y k = F1 c y k := fun c y k n => fr_n n
      have mm : ∀ k y, ¬ k = 13 → ¬ (30 ≤ k ∧ k ≤ 35) → B1 13 w k y = B 13 w k y := fun k y a b => u3 13 w k y (by omega) (by omega)
      have hPf : PLn u w v B1 (j + 1) rs := by
        have : ∀ (rs : List (Int × Int × Int × (Int → Int) × (Int → Int))) (j : Int), PLn u w v B j rs → PLn u w v B1 j rs := by
          intro rs
          induction rs with
          | nil => intro j _; trivial
          | cons s ss ih2 => intro j h; exact ⟨by rw [mm 14 _ (by omega) (by omega), mm 15 _ (by omega) (by omega)]; exact h.1, ih2 (j + 1) h.2⟩
        exact this rs (j + 1) g'
      obtain ⟨p', F2, B2, y1, y2, y3, y4, y5, y6⟩ := ih q (j + 1) r.2.1 (L ++ spN n d b j (u * p) (u * r.2.1)) (fr F1 (X5 * (u * r.2.1))) B1 (by omega) (by omega) (by omega) (by omega) (by omega) c3 hE' (by rw [mm 12 v (by omega) (by omega), h12]; omega) (by rw [fn 13 w 4 (by omega), u2 13 w 4 (by omega)]; exact m4) (by rw [fn 13 w 5 (by omega), u2 13 w 5 (by omega)]; exact m5) (EVn_f rs (j + 1) h' (fun k y hk a b => mm k y (by omega) (by omega)) (fun k y hk a b => mm k y (by omega) (by omega))) hPf u4
      refine ⟨p', F2, B2, ?_, fun c y k n => by rw [y2 c y k n, fn c y k (by omega), u2 c y k n], nM_t u3 y3, ?_, y5, ?_⟩
      · rw [f_M_notes_22, if_pos w0, if_pos v0, if_pos (by unfold r32; omega), h12, if_pos (by unfold r32; omega), if_neg (by omega), cc1, if_pos (by unfold r32; omega), if_neg (by omega), if_pos (by omega), g1, g2, h1, h2, pb.2.2.2.2.2]
        have e0 : f_M_pieces Km w v j (nu (X5 * (u * p))) (de (X5 * (u * p))) (nu (X5 * (u * (r.2.1 - r.1)))) (de (X5 * (u * (r.2.1 - r.1)))) 0 F B = some (0, F1, B1) := u1
        rw [e0, zb_s, mm 14 _ (by omega) (by omega), mm 15 _ (by omega) (by omega), mm 16 _ (by omega) (by omega), mm 17 _ (by omega) (by omega), g1, g2, h1, h2, pb.2.2.2.2.2, L_plusR (by omega) (FR_r (by omega)) (FR_r (by omega)) (by omega), zb_s, show X5 * (u * p) + X5 * (u * (r.2.1 - r.1)) = X5 * (u * r.2.1) by omega, fr_0, fr_1]
        exact y1
      · rw [spA, pb.2.2.2.2.2]
        rw [List.append_assoc] at y4
        exact y4
      · rw [spA, pb.2.2.2.2.2]
        rw [List.append_assoc] at y6
        exact y6
theorem M_n150 {Km : Nat} {v w n d b E : Int} {L : List (Int × Int × Int)} {F : zF} {B : zB} (hKm : 70000000000 < Km) (v0 : 0 ≤ v ∧ v < 4) (w0 : 0 ≤ w ∧ w < 3) (hb : BRs n d b) (e0 : 0 ≤ E ∧ E ≤ 100 * b) (he : E % sdU d = 0) (m4 : F 13 w 4 = n) (m5 : F 13 w 5 = d) (hN : NSt w v L B) : ∃ c F' B', f_M_notes_150 Km (de (X5 * E)) (nu (X5 * E)) w v 0 F B = some (c, F', B') ∧ nG7 w F F' ∧ nM' v w B B' ∧ NSt w v (L ++ spN n d b (-1) E (cbE b E)) B' ∧ B' 13 w 13 v = c := by
  obtain ⟨b1, b2, b3, _, b5, b6⟩ := BRs_b hb
  have hn := hb.1
  have hd := hb.2.1
  have eb := hb.2.2
  have sd : (sdU d = 16) ∨ (sdU d = 4) := by unfold sdU; split <;> omega
  obtain ⟨bv1, _, _, bv4, bv5⟩ := bar_v hn hd
  rw [bar5 (n := n) hd, ← eb] at bv1 bv4 bv5
  have xa : ∀ y : Int, X5 * y = 1587600 * y := fun _ => rfl
  have x1 := xa E
  have x2 := xa b
  have rn : r32 n := by unfold r32; omega
  have rd : r32 d := by unfold r32; omega
  have q0 : 0 ≤ E / b := Int.ediv_nonneg e0.1 (by omega)
  have q1 : E / b ≤ E := Int.ediv_le_self _ e0.1
  have mo : (X5 * E) % (X5 * b) = X5 * (E % b) := Int.mul_emod_mul_of_pos E b (by decide)
  have m0 := Int.emod_nonneg E (show b ≠ 0 by omega)
  have m1 := Int.emod_lt_of_pos E (show 0 < b by omega)
  have dm := Int.emod_add_mul_ediv E b
  have x3 := xa (E % b)
  unfold f_M_notes_150
  rw [if_pos w0, m4, m5, if_pos rn, if_pos rd, L_oftR (FR_r (by omega)) bv5 (by omega) (by omega) (by omega) (by omega) (by omega) (by omega), zb_s, X5_d, if_pos (by unfold r32; omega), m4, m5, if_pos rn, if_pos rd, L_multR (FR_r (by omega)) bv5 (by omega) (by omega) (by omega) (by omega) (by omega) (by omega), zb_s, mo]
  have z7 : ∀ (r : Int) c y k, ¬ (c = 13 ∧ y = w ∧ k = 7) → (zup3 F 13 w 7 r) c y k = F c y k := fun r c y k n => by rw [zup3_v, if_neg n]
  by_cases z : E % b = 0
  · have ce : cbE b E = E := by unfold cbE; rw [if_pos z]
    rw [if_pos (show X5 * (E % b) = 0 by omega), if_pos (show r32 1 by decide), if_neg (show ¬ (1 : Int) = 0 by decide), f_M_notes_248, if_pos w0, if_pos v0, ce, spN_0 (by omega), List.append_nil]
    exact ⟨_, _, B, rfl, fun c y k n n' => z7 _ c y k n', fun _ _ _ _ _ _ => rfl, hN, rfl⟩
  · have ce : cbE b E = (E / b + 1) * b := by unfold cbE; rw [if_neg z]
    have nb1 : (E / b + 1) * b = b * (E / b) + b := by rw [Int.add_mul, Int.one_mul, Int.mul_comm]
    have cb1 : (E / b + 1) * b ≤ 100 * b := by
      have l1 := (Int.ediv_lt_iff_lt_mul (show 0 < b by omega) (a := E) (b := 100)).mpr (by
        by_cases y : E = 100 * b
        · rw [y, Int.mul_emod_left] at z; exact absurd rfl z
        · omega)
      exact Int.mul_le_mul_of_nonneg_right (by omega) (by omega)
    have x4 := xa ((E / b + 1) * b)
    have f1 : FR ((E / b + 1) * n) d (X5 * ((E / b + 1) * b)) := by
      have := FR_k bv1 (show 0 ≤ E / b + 1 by omega)
      rwa [show (E / b + 1) * (X5 * b) = X5 * ((E / b + 1) * b) by ac_rfl] at this
    have em : ((E / b + 1) * b) % sdU d = 0 := by
      obtain ⟨j, hj⟩ : ∃ j, b = sdU d * j := ⟨b / sdU d, by rcases sd with h | h <;> rw [h] at b3 ⊢ <;> omega⟩
      rw [show (E / b + 1) * b = sdU d * ((E / b + 1) * j) by rw [hj]; ac_rfl]
      exact Int.mul_emod_right _ _
    have x5 := xa ((E / b + 1) * b - E)
    rw [if_neg (show ¬ X5 * (E % b) = 0 by omega), if_pos (show r32 0 by decide), if_pos (show (0 : Int) = 0 from rfl), z7 _ 13 w 4 (by omega), z7 _ 13 w 5 (by omega), m4, m5, if_pos rn, if_pos rd, L_minusR (by omega) f1 (FR_r (by omega)) (by omega) (by omega), zb_s, show X5 * ((E / b + 1) * b) - X5 * E = X5 * ((E / b + 1) * b - E) by omega, fr_0, fr_1, ce]
    generalize hF1 : fr (zup3 (zup3 F 13 w 7 (E / b)) 13 w 7 (E / b + 1)) (X5 * ((E / b + 1) * b - E)) = F1
    have fn : ∀ c y k, ¬ (c = 14 ∧ y = 0 ∧ k ≤ 1) → ¬ (c = 13 ∧ y = w ∧ k = 7) → F1 c y k = F c y k := fun c y k n n' => by rw [← hF1, fr_n n, zup3_v, if_neg n', zup3_v, if_neg n']
    obtain ⟨F2, B2, u1, u2, u3, u4⟩ := M_pcs (Km := Km) (ev := -1) (e := (E / b + 1) * b) hKm v0 w0 hb em cb1 ((E / b + 1) * b - E).toNat Km E L F1 B (by omega) (by omega) e0.1 (by omega) he (by rw [fn 13 w 4 (by omega) (by omega)]; exact m4) (by rw [fn 13 w 5 (by omega) (by omega)]; exact m5) (Or.inl rfl) hN
    have u1' : f_M_pieces Km w v (-1) (nu (X5 * E)) (de (X5 * E)) (nu (X5 * ((E / b + 1) * b - E))) (de (X5 * ((E / b + 1) * b - E))) 0 F1 B = some (0, F2, B2) := u1
    rw [u1', zb_s, f_M_notes_248, if_pos w0, if_pos v0]
    exact ⟨_, F2, B2, rfl, fun c y k n n' => by rw [u2 c y k n, fn c y k (by omega) n'], u3, u4, rfl⟩
theorem M_nts {Km : Nat} {u v w n d b M : Int} {EL : List (Int × Int × Int × (Int → Int) × (Int → Int))} {F : zF} {B : zB} (hKm : 70000000000 < Km) (v0 : 0 ≤ v ∧ v < 4) (w0 : 0 ≤ w ∧ w < 3) (hb : BRs n d b) (hu : u = 128 ∨ u = 64 ∨ u = 32 ∨ u = 16) (hM : 0 ≤ M ∧ u * M ≤ 100 * b) (el : (EL.length : Int) ≤ 1000) (hc : CHN 0 EL) (hE : endN 0 EL ≤ M) (h12 : B 13 w 12 v = (EL.length : Int)) (m4 : F 13 w 4 = n) (m5 : F 13 w 5 = d) (hv : EVn u w v B 0 EL) (hpl : PLn u w v B 0 EL) : ∃ c F' B', f_M_notes Km w v 0 F B = some (c, F', B') ∧ nG7 w F F' ∧ nM' v w B B' ∧ NSt w v (spA n d b u 0 EL ++ spN n d b (-1) (u * endN 0 EL) (cbE b (u * endN 0 EL))) B' ∧ B' 13 w 13 v = c := by
  unfold f_M_notes
  rw [if_pos w0, if_pos v0, L_isR (by omega) (p := 0) ⟨by decide, ⟨WW, by decide⟩, by decide, by decide⟩ (by decide), zb_s]
  have z13 : ∀ c i k y, ¬ (c = 13 ∧ i = w ∧ k = 13 ∧ y = v) → (zup4 B 13 w 13 v 0) c i k y = B c i k y := fun c i k y n => by rw [zup4_v, if_neg n]
  have hP : PLn u w v (zup4 B 13 w 13 v 0) 0 EL := by
    have : ∀ (rs : List (Int × Int × Int × (Int → Int) × (Int → Int))) (j : Int), PLn u w v B j rs → PLn u w v (zup4 B 13 w 13 v 0) j rs := by
      intro rs
      induction rs with
      | nil => intro j _; trivial
      | cons s ss ih2 => intro j h; exact ⟨by rw [z13 13 w 14 _ (by omega), z13 13 w 15 _ (by omega)]; exact h.1, ih2 (j + 1) h.2⟩
    exact this EL 0 hpl
  have hp0 : 0 ≤ M := hM.1
  obtain ⟨p', F1, B1, y1, y2, y3, y4, y5, y6⟩ := M_n22 (Km := Km) (u := u) (v := v) (w := w) (M := M) hKm v0 w0 hb hu hM EL Km 0 0 [] (fr F 0) (zup4 B 13 w 13 v 0) (by omega) (by omega) (by omega) (by omega) hp0 hc hE (by rw [z13 13 w 12 v (by omega), h12]; omega) (by rw [fr_n (by omega)]; exact m4) (by rw [fr_n (by omega)]; exact m5) (EVn_f EL 0 hv (fun k y hk a b => z13 13 w k y (by omega)) (fun k y hk a b => z13 13 w k y (by omega))) hP (Or.inl ⟨by simp, by rw [zup4_v, if_pos (by omega)]; simp, trivial⟩)
  have n0 : nu (X5 * (u * 0)) = 0 ∧ de (X5 * (u * 0)) = 1 := by
    rw [Int.mul_zero, Int.mul_zero]; decide
  rw [n0.1, n0.2] at y1
  have pe : 0 ≤ u * p' ∧ u * p' ≤ u * M := by rcases hu with rfl | rfl | rfl | rfl <;> omega
  obtain ⟨c, F2, B2, u1, u2, u3, u4, u5⟩ := M_n150 (Km := Km) (v := v) (w := w) (E := u * p') (L := [] ++ spA n d b u 0 EL) (F := F1) (B := B1) hKm v0 w0 hb (by omega) (u_sd hu) (by rw [y2 13 w 4 (by omega), fr_n (by omega)]; exact m4) (by rw [y2 13 w 5 (by omega), fr_n (by omega)]; exact m5) y4
  refine ⟨c, F2, B2, by rw [y1, u1], fun c y k n n' => by rw [u2 c y k n n', y2 c y k n, fr_n (by omega)], fun c i k y n n' => by rw [u3 c i k y n n', y3 c i k y n n', z13 c i k y n], ?_, u5⟩
  rcases y6 with q | q
  · rw [q, List.nil_append] at u4; exact u4
  · rw [List.nil_append] at q u4
    rcases u4 with ⟨a, _⟩ | ⟨_, b'⟩
    · rw [List.length_append] at a; omega
    · exact Or.inr ⟨by rw [List.length_append]; omega, b'⟩
end
end
section
section
/-! ===== the reference: a voice's notes as text ===== -/
noncomputable def evD : List (Int × Int × Int × (Int → Int) × (Int → Int)) → Int → Int × (Int → Int) × (Int → Int)
  | [], _ => (0, (fun _ => 0), (fun _ => 0))
  | r :: rs, j => if j = 0 then r.2.2 else evD rs (j - 1)
noncomputable def hdE : List (Int × Int × Int) → Int → Bool
  | [], _ => false
  | r :: _, e => decide (r.1 = e)
noncomputable def hdB : List (Int × Int × Int) → Int → Bool
  | [], _ => false
  | r :: _, e => decide (r.2.1 = e)
/-- the text of notes -/
noncomputable def rtx (EL : List (Int × Int × Int × (Int → Int) × (Int → Int))) : List (Int × Int × Int) → List Int
  | [] => []
  | r :: rs => ntA (evD EL r.1).1 (evD EL r.1).2.1 (evD EL r.1).2.2 r.2.2 ++ ((if 0 < (evD EL r.1).1 ∧ hdE rs r.1 = true then [126] else []) ++ (32 :: ((if hdB rs r.2.1 = true then [] else [124, 10]) ++ rtx EL rs)))
theorem evD_n : ∀ (EL : List (Int × Int × Int × (Int → Int) × (Int → Int))) (j : Int), j < 0 → (evD EL j).1 = 0 := by
  intro EL
  induction EL with
  | nil => intro j _; rfl
  | cons r rs ih => intro j h; rw [evD, if_neg (by omega)]; exact ih (j - 1) (by omega)
theorem evD_r {u w v : Int} {B : zB} : ∀ (EL : List (Int × Int × Int × (Int → Int) × (Int → Int))) (i j : Int), EVn u w v B i EL → 0 ≤ j → j < (EL.length : Int) → (0 ≤ (evD EL j).1 ∧ (evD EL j).1 ≤ 6) ∧ B 13 w 21 (1000 * v + (i + j)) = (evD EL j).1 ∧ ∀ k, 0 ≤ k → k < (evD EL j).1 → B 13 w 28 (6 * (1000 * v + (i + j)) + k) = (evD EL j).2.1 k ∧ B 13 w 29 (6 * (1000 * v + (i + j)) + k) = (evD EL j).2.2 k ∧ (0 ≤ (evD EL j).2.1 k ∧ (evD EL j).2.1 k ≤ 62) ∧ (-7 ≤ (evD EL j).2.2 k ∧ (evD EL j).2.2 k ≤ 7) := by
  intro EL
  induction EL with
  | nil => intro i j _ j0 j1; simp at j1; omega
  | cons r rs ih =>
    intro i j h j0 j1
    rw [List.length_cons] at j1
    obtain ⟨⟨h0, h1, h2, h4, h5, h6⟩, h'⟩ := h
    rw [evD]
    by_cases z : j = 0
    · rw [if_pos z, z, show i + 0 = i by omega]
      exact ⟨h0, h5, h6⟩
    · rw [if_neg z]
      have := ih (i + 1) (j - 1) h' (by omega) (by omega)
      rw [show i + 1 + (j - 1) = i + j by omega] at this
      exact this
theorem ntA_l {m v : Int} {st al : Int → Int} (hm : 0 ≤ m ∧ m ≤ 6) (ha : ∀ k, 0 ≤ k → k < m → -7 ≤ al k ∧ al k ≤ 7) : (ntA m st al v).length ≤ 80 ∧ 2 ≤ (ntA m st al v).length := by
  unfold ntA
  have l1 := if_l (c := m = 0) (x := 114)
  have l2 := if_l (c := 1 < m) (x := 60)
  have l3 := if_l (c := 1 < m) (x := 62)
  have cl := chT_l (st := st) (al := al) m.toNat 0 (fun j a b => ha j a (by omega))
  have dl := decT_l (v := zshl 1 (v / 3))
  have rl := rptT_l (c := 46) (2 - v % 3).toNat
  simp only [List.length_append, List.length_cons]
  omega
theorem nt2_l {a b : Prop} [Decidable a] [Decidable b] : ((if a then [(126 : Int)] else []) ++ (32 :: (if b then [] else [124, 10]))).length ≤ 4 ∧ 1 ≤ ((if a then [(126 : Int)] else []) ++ (32 :: (if b then [] else [124, 10]))).length := by
  split <;> split <;> simp
section
variable {Km : Nat} {q : zF × zB} {u w v c : Int} {EL : List (Int × Int × Int × (Int → Int) × (Int → Int))}
theorem M_283 {T : List Int} {F : zF} {B : zB} (ht : T.length ≤ 19000) (h : TM q T F B) : ∃ F' B', f_M_downVoice_283 Km F B = some (0, F', B') ∧ TM q (T ++ [125, 10]) F' B' := by
  obtain ⟨F1, B1, e1, w1⟩ := M_pt (Km := Km) (a := 125) (by omega) h
  obtain ⟨F2, B2, e2, w2⟩ := M_pt (Km := Km) (a := 10) (by rw [List.length_append, List.length_singleton]; omega) w1
  refine ⟨F2, B2, ?_, ?_⟩
  · unfold f_M_downVoice_283
    rw [e1, zb_s, e2, zb_s]
  · rw [List.append_assoc] at w2
    exact w2
theorem M_239 (hK : 2000 ≤ Km) (hw : q.1 14 0 6 = w ∧ 0 ≤ w ∧ w < 3) (v0 : 0 ≤ v ∧ v < 4) (el : (EL.length : Int) ≤ 1000) (hv : EVn u w v q.2 0 EL) (hc : 0 ≤ c ∧ c ≤ 800) : ∀ (rs : List (Int × Int × Int)) (m : Nat) (i : Int) (T : List Int) (F : zF) (B : zB), rs.length < m → i + (rs.length : Int) = c → 0 ≤ i → NRW w v q.2 i rs → (∀ r, r ∈ rs → (-1 ≤ r.1 ∧ r.1 < (EL.length : Int)) ∧ (0 ≤ r.2.1 ∧ r.2.1 ≤ 1000) ∧ (0 ≤ r.2.2 ∧ r.2.2 < 24)) → T.length ≤ 3200 → TM q T F B → ∃ F' B' T', f_M_downVoice_239 Km m i c v F B = some (0, F', B') ∧ TM q T' F' B' ∧ T'.length ≤ 4000 ∧ (T' = T ++ (rtx EL rs ++ [125, 10]) ∨ (3000 < T'.length ∧ T'.length ≤ 4000 ∧ 3000 < (T ++ rtx EL rs).length)) := by
  intro rs
  induction rs with
  | nil =>
    intro m i T F B hm hi i0 hr ho ht h
    obtain ⟨p, rfl⟩ : ∃ p, m = p + 1 := ⟨m - 1, by simp at hm; omega⟩
    rw [List.length_nil] at hi
    obtain ⟨F1, B1, e1, w1⟩ := M_283 (Km := Km) (by omega) h
    refine ⟨F1, B1, _, ?_, w1, by rw [List.length_append]; simp; omega, Or.inl rfl⟩
    rw [f_M_downVoice_239, if_pos (by unfold r32; omega), if_pos (by unfold r32; omega), if_pos (by omega), e1]
  | cons r rs ih =>
    intro m i T F B hm hi i0 hr ho ht h
    rw [List.length_cons] at hm hi
    obtain ⟨p, rfl⟩ : ∃ p, m = p + 1 := ⟨m - 1, by omega⟩
    have l71 : F 14 0 71 = (T.length : Int) := h.1.1
    by_cases z : 3000 < T.length
    · obtain ⟨F1, B1, e1, w1⟩ := M_283 (Km := Km) (by omega) h
      refine ⟨F1, B1, _, ?_, w1, by rw [List.length_append]; simp; omega, Or.inr ⟨by rw [List.length_append]; omega, by rw [List.length_append]; simp; omega, by rw [List.length_append]; omega⟩⟩
      rw [f_M_downVoice_239, if_pos (by unfold r32; omega), if_pos (by unfold r32; omega), if_neg (by omega), l71, if_pos (by unfold r32; omega), if_pos (by omega), e1]
    · obtain ⟨⟨r1, r2, r3, r4⟩, hr'⟩ := hr
      obtain ⟨o1, o2, o3⟩ := ho r (List.mem_cons_self ..)
      have evm : (0 ≤ (evD EL r.1).1 ∧ (evD EL r.1).1 ≤ 6) ∧ ((evD EL r.1).1 = if r.1 < 0 then 0 else q.2 13 w 21 (1000 * v + r.1)) ∧ ∀ k, 0 ≤ k → k < (evD EL r.1).1 → q.2 13 w 28 (6 * (1000 * v + r.1) + k) = (evD EL r.1).2.1 k ∧ q.2 13 w 29 (6 * (1000 * v + r.1) + k) = (evD EL r.1).2.2 k ∧ (0 ≤ (evD EL r.1).2.1 k ∧ (evD EL r.1).2.1 k ≤ 62) ∧ (-7 ≤ (evD EL r.1).2.2 k ∧ (evD EL r.1).2.2 k ≤ 7) := by
        by_cases y : r.1 < 0
        · have := evD_n EL r.1 y
          rw [if_pos y, this]
          exact ⟨by omega, rfl, fun k a b => by omega⟩
        · have := evD_r EL 0 r.1 hv (by omega) o1.2
          rw [show 0 + r.1 = r.1 by omega] at this
          rw [if_neg y]
          exact ⟨this.1, this.2.1.symm, this.2.2⟩
      generalize hlast : (if i + 1 = c then (1 : Int) else 0) = last
      have l01 : last = 0 ∨ last = 1 := by rw [← hlast]; split <;> omega
      have nx : last = 0 → ∃ s ss, rs = s :: ss := fun hl => by
        cases rs with
        | nil =>
          rw [List.length_nil] at hi
          rw [if_pos (by omega)] at hlast
          omega
        | cons s ss => exact ⟨s, ss, rfl⟩
      have nx1 : last = 1 → rs = [] := fun hl => by
        cases rs with
        | nil => rfl
        | cons s ss =>
          rw [List.length_cons] at hi
          rw [if_neg (by omega)] at hlast
          omega
      obtain ⟨F1, B1, e1, w1⟩ := M_dn (Km := Km) (q := q) (w := w) (v := v) (i := i) (m := (evD EL r.1).1) (vv := r.2.2) (last := last) (st := (evD EL r.1).2.1) (al := (evD EL r.1).2.2) (x := 1000 * v + r.1) (by omega) hw v0 (by omega) (by rw [r1]; omega) (by rw [r1]) (by rw [r1]; exact evm.2.1) evm.1 evm.2.2 o3 r3 r4 l01 (fun hl => by
        obtain ⟨s, ss, hs⟩ := nx hl
        subst hs
        obtain ⟨⟨s1, s2, _, _⟩, _⟩ := hr'
        obtain ⟨t1, t2, _⟩ := ho s (List.mem_cons_of_mem _ (List.mem_cons_self ..))
        rw [List.length_cons] at hi
        rw [show 800 * v + i + 1 = 800 * v + (i + 1) by omega, s1, s2, r2]
        exact ⟨by omega, by unfold r32; omega, by unfold r32; omega, by unfold r32; omega⟩) (by omega) h
      have t1 : (if 0 < (evD EL r.1).1 ∧ last = 0 ∧ q.2 13 w 30 (800 * v + i + 1) = q.2 13 w 30 (800 * v + i) then [(126 : Int)] else []) = (if 0 < (evD EL r.1).1 ∧ hdE rs r.1 = true then [126] else []) := by
        rcases l01 with hl | hl
        · obtain ⟨s, ss, hs⟩ := nx hl
          subst hs
          have s1 := hr'.1.1
          rw [show 800 * v + (i + 1) = 800 * v + i + 1 by omega] at s1
          rw [s1, r1]
          by_cases y : s.1 = r.1
          · have : hdE (s :: ss) r.1 = true := decide_eq_true y
            rw [this]
            by_cases y2 : 0 < (evD EL r.1).1
            · rw [if_pos ⟨y2, hl, y⟩, if_pos ⟨y2, rfl⟩]
            · rw [if_neg (fun q => y2 q.1), if_neg (fun q => y2 q.1)]
          · have : ¬ hdE (s :: ss) r.1 = true := fun q => y (of_decide_eq_true q)
            rw [if_neg (fun q => y q.2.2), if_neg (fun q => this q.2)]
        · rw [nx1 hl, if_neg (fun q => by have := q.2.1; omega), if_neg (fun q => absurd q.2 (show ¬ false = true by decide))]
      have t2 : (if last = 0 ∧ q.2 13 w 31 (800 * v + i + 1) = q.2 13 w 31 (800 * v + i) then [] else [(124 : Int), 10]) = (if hdB rs r.2.1 = true then [] else [124, 10]) := by
        rcases l01 with hl | hl
        · obtain ⟨s, ss, hs⟩ := nx hl
          subst hs
          have s1 := hr'.1.2.1
          rw [show 800 * v + (i + 1) = 800 * v + i + 1 by omega] at s1
          rw [s1, r2]
          by_cases y : s.2.1 = r.2.1
          · have : hdB (s :: ss) r.2.1 = true := decide_eq_true y
            rw [this, if_pos ⟨hl, y⟩, if_pos rfl]
          · have : ¬ hdB (s :: ss) r.2.1 = true := fun q => y (of_decide_eq_true q)
            rw [if_neg (fun q => y q.2), if_neg this]
        · rw [nx1 hl, if_neg (fun q => by have := q.1; omega), if_neg (show ¬ hdB [] r.2.1 = true from (show ¬ false = true by decide))]
      rw [t1, t2] at w1
      have nl := ntA_l (st := (evD EL r.1).2.1) (v := r.2.2) evm.1 (fun k a b => (evm.2.2 k a b).2.2.2)
      have nl2 := nt2_l (a := 0 < (evD EL r.1).1 ∧ hdE rs r.1 = true) (b := hdB rs r.2.1 = true)
      obtain ⟨F2, B2, T', y1, y2, yl, y3⟩ := ih p (i + 1) _ F1 B1 (by omega) (by omega) (by omega) hr' (fun s hs => ho s (List.mem_cons_of_mem _ hs)) (by rw [List.length_append, List.length_append]; omega) w1
      have ea : T ++ (ntA (evD EL r.1).1 (evD EL r.1).2.1 (evD EL r.1).2.2 r.2.2 ++ ((if 0 < (evD EL r.1).1 ∧ hdE rs r.1 = true then [126] else []) ++ (32 :: (if hdB rs r.2.1 = true then [] else [124, 10])))) ++ rtx EL rs = T ++ rtx EL (r :: rs) := by
        rw [rtx]
        simp only [List.append_assoc, List.cons_append]
      refine ⟨F2, B2, T', ?_, y2, yl, ?_⟩
      · have e274 : f_M_downVoice_274 (f_M_downVoice_239 Km p) Km i c v v i last F B = some (0, F2, B2) := by
          unfold f_M_downVoice_274
          rw [e1, zb_s, y1]
        rw [f_M_downVoice_239, if_pos (by unfold r32; omega), if_pos (by unfold r32; omega), if_neg (by omega), l71, if_pos (by unfold r32; omega), if_neg (by omega), if_pos (by unfold r32; omega), ← e274, ← hlast]
        by_cases y : i + 1 = c
        · rw [if_pos y, if_pos y]
        · rw [if_neg y, if_neg y]
      · rw [ea] at y3
        rcases y3 with y3 | y3
        · left
          rw [y3, ← List.append_assoc, ea, ← List.append_assoc]
        · exact Or.inr y3
end
end
end
section
section
/-! ===== notes as text: both ways of telling them are one ===== -/
/-- what must follow a span of event ev that ends at e -/
noncomputable def HDc (b ev e : Int) : List (Int × Int × Int) → Prop
  | [] => e % b = 0
  | r :: _ => ¬ r.1 = ev ∧ r.2.1 = e / b
theorem bar_n {b a a' : Int} (b0 : 0 < b) (a0 : 0 ≤ a) (h1 : a < a') (h2 : a' ≤ (a / b + 1) * b) : a' / b = a / b ↔ ¬ a' % b = 0 := by
  have e1 := Int.mul_ediv_add_emod a b
  have e2 := Int.emod_nonneg a (show b ≠ 0 by omega)
  have e3 := Int.emod_lt_of_pos a b0
  have f1 := Int.mul_ediv_add_emod a' b
  have f2 := Int.emod_nonneg a' (show b ≠ 0 by omega)
  have f3 := Int.emod_lt_of_pos a' b0
  have q2 : (a / b + 1) * b = b * (a / b) + b := by rw [Int.add_mul, Int.one_mul, Int.mul_comm]
  constructor
  · intro h z
    rw [h, z] at f1
    omega
  · intro h
    have l1 : a / b ≤ a' / b := Int.ediv_le_ediv b0 (by omega)
    have l2 : a' / b < a / b + 1 := by
      have : a' < (a / b + 1) * b := by
        rcases Int.lt_or_le a' ((a / b + 1) * b) with z | z
        · exact z
        · have : a' = (a / b + 1) * b := by omega
          rw [this, Int.mul_emod_left] at h
          exact absurd rfl h
      exact (Int.ediv_lt_iff_lt_mul b0).mpr this
    omega
theorem rtx_s {n d b : Int} {EL : List (Int × Int × Int × (Int → Int) × (Int → Int))} (hb : BRs n d b) {ev e : Int} {R : List (Int × Int × Int)} (hm : 0 ≤ (evD EL ev).1) (he : e % sdU d = 0) (hR : HDc b ev e R) : ∀ (r : Nat) (a : Int), e - a ≤ r → 0 ≤ a → a ≤ e → a % sdU d = 0 → rtx EL (spN n d b ev a e ++ R) = spX n d b (evD EL ev).1 (evD EL ev).2.1 (evD EL ev).2.2 a e ++ rtx EL R := by
  obtain ⟨b1, b2, b3, _, b5, b6⟩ := BRs_b hb
  intro r
  induction r with
  | zero =>
    intro a hr a0 ae ha
    rw [spN_0 (by omega), spX_0 (by omega), List.nil_append, List.nil_append]
  | succ r ih =>
    intro a hr a0 ae ha
    by_cases z : a < e
    · obtain ⟨kb, n1, n2, n3, n4⟩ := nx_b hb a0 z ha he
      have bn := bar_n (by omega) a0 (show a < nxF n d b a e by omega) n4
      have ihx := ih (nxF n d b a e) (by omega) (by omega) n2 n3
      rw [spN_u hb a0 ha he z, spX_u hb a0 ha he z, List.cons_append, rtx, ihx]
      -- what follows this note
      have h1 : (hdE (spN n d b ev (nxF n d b a e) e ++ R) ev = true ↔ nxF n d b a e < e) ∧ (hdB (spN n d b ev (nxF n d b a e) e ++ R) (a / b) = true ↔ ¬ nxF n d b a e % b = 0) := by
        by_cases y : nxF n d b a e < e
        · rw [spN_u hb (by omega) n3 he y, List.cons_append]
          refine ⟨⟨fun _ => y, fun _ => decide_eq_true rfl⟩, ⟨fun h => bn.mp (of_decide_eq_true h), fun h => decide_eq_true (bn.mpr h)⟩⟩
        · have ee : nxF n d b a e = e := by omega
          rw [spN_0 y, List.nil_append]
          cases R with
          | nil =>
            have hR' : e % b = 0 := hR
            refine ⟨⟨fun h => absurd h (show ¬ false = true by decide), fun h => absurd h y⟩, ⟨fun h => absurd h (show ¬ false = true by decide), fun h => ?_⟩⟩
            rw [ee] at h; exact absurd hR' h
          | cons s ss =>
            obtain ⟨s1, s2⟩ := hR
            refine ⟨⟨fun h => absurd (of_decide_eq_true h) s1, fun h => absurd h y⟩, ⟨fun h => ?_, fun h => ?_⟩⟩
            · have h' : s.2.1 = a / b := of_decide_eq_true h
              exact bn.mp (by rw [ee]; omega)
            · have := bn.mpr h
              rw [ee] at this
              exact decide_eq_true (by omega)
      show ntA (evD EL ev).1 (evD EL ev).2.1 (evD EL ev).2.2 (kvF n d b a e) ++ ((if 0 < (evD EL ev).1 ∧ hdE (spN n d b ev (nxF n d b a e) e ++ R) ev = true then [126] else []) ++ (32 :: ((if hdB (spN n d b ev (nxF n d b a e) e ++ R) (a / b) = true then [] else [124, 10]) ++ (spX n d b (evD EL ev).1 (evD EL ev).2.1 (evD EL ev).2.2 (nxF n d b a e) e ++ rtx EL R)))) = _
      have t1 : (if 0 < (evD EL ev).1 ∧ hdE (spN n d b ev (nxF n d b a e) e ++ R) ev = true then [(126 : Int)] else []) = (if nxF n d b a e < e ∧ ¬ (evD EL ev).1 = 0 then [126] else []) := by
        by_cases y : nxF n d b a e < e
        · by_cases y2 : (evD EL ev).1 = 0
          · rw [if_neg (fun q => by have := q.1; omega), if_neg (fun q => q.2 y2)]
          · rw [if_pos ⟨by omega, h1.1.mpr y⟩, if_pos ⟨y, y2⟩]
        · rw [if_neg (fun q => y (h1.1.mp q.2)), if_neg (fun q => y q.1)]
      have t2 : (if hdB (spN n d b ev (nxF n d b a e) e ++ R) (a / b) = true then [] else [(124 : Int), 10]) = (if nxF n d b a e % b = 0 then [124, 10] else []) := by
        by_cases y : nxF n d b a e % b = 0
        · rw [if_neg (fun q => h1.2.mp q y), if_pos y]
        · rw [if_pos (h1.2.mpr y), if_neg y]
      rw [t1, t2]
      simp only [List.append_assoc, List.cons_append]
    · rw [spN_0 z, spX_0 z, List.nil_append, List.nil_append]
/-- the text of spans -/
noncomputable def txA (n d b u : Int) : List (Int × Int × Int × (Int → Int) × (Int → Int)) → List Int
  | [] => []
  | r :: rs => spX n d b r.2.2.1 r.2.2.2.1 r.2.2.2.2 (u * r.1) (u * r.2.1) ++ txA n d b u rs
theorem rtx_A {n d b u : Int} {EL : List (Int × Int × Int × (Int → Int) × (Int → Int))} (hb : BRs n d b) (hu : u = 128 ∨ u = 64 ∨ u = 32 ∨ u = 16) {R : List (Int × Int × Int)} : ∀ (rs : List (Int × Int × Int × (Int → Int) × (Int → Int))) (j p : Int), 0 ≤ j → 0 ≤ p → CHN p rs → (∀ i, 0 ≤ i → evD EL (j + i) = evD rs i) → (∀ r, r ∈ rs → 0 ≤ r.2.2.1) → HDc b (-2) (u * endN p rs) R → (∀ i, 0 ≤ i → HDc b i (u * endN p rs) R) → rtx EL (spA n d b u j rs ++ R) = txA n d b u rs ++ rtx EL R := by
  intro rs
  induction rs with
  | nil => intro j p _ _ _ _ _ _ _; rw [spA, txA, List.nil_append, List.nil_append]
  | cons r rs ih =>
    intro j p j0 p0 hc hD hm hR hR2
    obtain ⟨c1, c2, c3⟩ := hc
    have ihx := ih (j + 1) r.2.1 (by omega) (by omega) c3 (fun i i0 => by
      have := hD (i + 1) (by omega)
      rw [evD, if_neg (by omega), show i + 1 - 1 = i by omega, show j + (i + 1) = j + 1 + i by omega] at this
      exact this) (fun s hs => hm s (List.mem_cons_of_mem _ hs)) hR hR2
    have e0 : evD EL j = r.2.2 := by
      have := hD 0 (by omega)
      rw [evD, if_pos rfl, show j + 0 = j by omega] at this
      exact this
    have pb : 0 ≤ u * r.1 ∧ u * r.1 ≤ u * r.2.1 ∧ u * r.1 < u * r.2.1 := by rcases hu with rfl | rfl | rfl | rfl <;> omega
    have nxt : HDc b j (u * r.2.1) (spA n d b u (j + 1) rs ++ R) := by
      cases rs with
      | nil => rw [spA, List.nil_append]; exact hR2 j j0
      | cons s ss =>
        obtain ⟨s1, s2, s3⟩ := c3
        have sb : 0 ≤ u * s.1 ∧ u * s.1 < u * s.2.1 ∧ u * s.1 = u * r.2.1 := by rw [s1]; rcases hu with rfl | rfl | rfl | rfl <;> omega
        rw [spA, spN_u hb sb.1 (u_sd hu) (u_sd hu) sb.2.1]
        exact ⟨by show ¬ j + 1 = j; omega, by show u * s.1 / b = u * r.2.1 / b; rw [sb.2.2]⟩
    rw [spA, List.append_assoc, rtx_s (ev := j) hb (by rw [e0]; exact hm r (List.mem_cons_self ..)) (u_sd hu) nxt (u * r.2.1 - u * r.1).toNat (u * r.1) (by omega) pb.1 pb.2.1 (u_sd hu), ihx, txA, e0, List.append_assoc]
/-- what the notes of a span are like -/
theorem spN_o {n d b ev e : Int} (hb : BRs n d b) (he : e % sdU d = 0) (e1 : e ≤ 100 * b) : ∀ (r : Nat) (a : Int), e - a ≤ r → 0 ≤ a → a % sdU d = 0 → ∀ s, s ∈ spN n d b ev a e → s.1 = ev ∧ (0 ≤ s.2.1 ∧ s.2.1 ≤ 1000) ∧ (0 ≤ s.2.2 ∧ s.2.2 < 24) := by
  obtain ⟨b1, b2, b3, _, b5, b6⟩ := BRs_b hb
  intro r
  induction r with
  | zero =>
    intro a hr a0 ha s hs
    rw [spN_0 (by omega)] at hs
    exact absurd hs (List.not_mem_nil)
  | succ r ih =>
    intro a hr a0 ha s hs
    by_cases z : a < e
    · obtain ⟨kb, n1, n2, n3, n4⟩ := nx_b hb a0 z ha he
      rw [spN_u hb a0 ha he z] at hs
      rcases List.mem_cons.mp hs with h | h
      · rw [h]
        have q0 : 0 ≤ a / b := Int.ediv_nonneg a0 (by omega)
        have q1 := (Int.ediv_lt_iff_lt_mul (show 0 < b by omega) (a := a) (b := 100)).mpr (by omega)
        exact ⟨rfl, ⟨q0, by show a / b ≤ 1000; omega⟩, kb⟩
      · exact ih (nxF n d b a e) (by omega) (by omega) n3 s h
    · rw [spN_0 z] at hs
      exact absurd hs (List.not_mem_nil)
theorem spA_o {n d b u M : Int} (hb : BRs n d b) (hu : u = 128 ∨ u = 64 ∨ u = 32 ∨ u = 16) (hM : u * M ≤ 100 * b) : ∀ (rs : List (Int × Int × Int × (Int → Int) × (Int → Int))) (j p : Int), 0 ≤ p → CHN p rs → endN p rs ≤ M → ∀ s, s ∈ spA n d b u j rs → (j ≤ s.1 ∧ s.1 < j + (rs.length : Int)) ∧ (0 ≤ s.2.1 ∧ s.2.1 ≤ 1000) ∧ (0 ≤ s.2.2 ∧ s.2.2 < 24) := by
  intro rs
  induction rs with
  | nil => intro j p _ _ _ s hs; exact absurd hs (List.not_mem_nil)
  | cons r rs ih =>
    intro j p p0 hc hE s hs
    obtain ⟨c1, c2, c3⟩ := hc
    have ce := CHN_e rs r.2.1 c3
    have hE' : endN r.2.1 rs ≤ M := hE
    have pb : 0 ≤ u * r.1 ∧ u * r.2.1 ≤ u * M := by rcases hu with rfl | rfl | rfl | rfl <;> omega
    rw [List.length_cons]
    rw [spA] at hs
    rcases List.mem_append.mp hs with h | h
    · have := spN_o (ev := j) hb (u_sd hu) (show u * r.2.1 ≤ 100 * b by omega) (u * r.2.1 - u * r.1).toNat (u * r.1) (by omega) pb.1 (u_sd hu) s h
      exact ⟨by omega, this.2⟩
    · have := ih (j + 1) r.2.1 (by omega) c3 hE' s h
      exact ⟨by omega, this.2⟩
/-- a note takes four letters at least -/
theorem ntA_3 {m v : Int} {st al : Int → Int} (hm : 0 ≤ m) : 3 ≤ (ntA m st al v).length := by
  unfold ntA
  have dl := decT_l (v := zshl 1 (v / 3))
  simp only [List.length_append, List.length_cons]
  by_cases z : m = 0
  · rw [if_pos z]
    simp only [List.length_cons, List.length_nil]
    omega
  · have : 2 ≤ (chT st al m.toNat 0).length := by
      obtain ⟨k, hk⟩ : ∃ k, m.toNat = k + 1 := ⟨m.toNat - 1, by omega⟩
      rw [hk, chT]
      unfold pitT
      simp only [List.length_append, List.length_cons, List.length_nil]
      omega
    omega
theorem rtx_l {EL : List (Int × Int × Int × (Int → Int) × (Int → Int))} : ∀ (L : List (Int × Int × Int)), (∀ s, s ∈ L → 0 ≤ (evD EL s.1).1) → 4 * L.length ≤ (rtx EL L).length := by
  intro L
  induction L with
  | nil => intro _; exact Nat.zero_le _
  | cons r rs ih =>
    intro h
    have i := ih (fun s hs => h s (List.mem_cons_of_mem _ hs))
    have t := ntA_3 (m := (evD EL r.1).1) (v := r.2.2) (st := (evD EL r.1).2.1) (al := (evD EL r.1).2.2) (h r (List.mem_cons_self ..))
    rw [rtx, List.length_cons]
    simp only [List.length_append, List.length_cons]
    omega
end
end
