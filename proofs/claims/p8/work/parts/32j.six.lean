section
/-! ===== the reference: six tones, a chord's event ===== -/
def MFq (w D N : Int) (bg en tn tk : Int → Int) (F : zF) (B : zB) : Prop := (F 14 0 6 = w ∧ 0 ≤ w ∧ w < 3) ∧ B 14 0 73 1 = D ∧ B 14 0 73 7 = N ∧ ∀ i, 0 ≤ i → i < N → B 14 0 75 i = tk i ∧ B 14 0 77 i = tn i ∧ B 14 0 79 i = bg i ∧ B 14 0 80 i = en i
theorem MFq_f {w D N : Int} {bg en tn tk : Int → Int} {F F' : zF} {B B' : zB} (h : MFq w D N bg en tn tk F B) (f : F' 14 0 6 = F 14 0 6) (b : ∀ k x, 73 ≤ k → k ≤ 81 → B' 14 0 k x = B 14 0 k x) : MFq w D N bg en tn tk F' B' := by
  obtain ⟨h1, h2, h3, h4⟩ := h
  refine ⟨by rw [f]; exact h1, by rw [b 73 _ (by first | decide | omega) (by first | decide | omega)]; exact h2, by rw [b 73 _ (by first | decide | omega) (by first | decide | omega)]; exact h3, fun i i0 i1 => ?_⟩
  rw [b 75 _ (by first | decide | omega) (by first | decide | omega), b 77 _ (by first | decide | omega) (by first | decide | omega), b 79 _ (by first | decide | omega) (by first | decide | omega), b 80 _ (by first | decide | omega) (by first | decide | omega)]
  exact h4 i i0 i1
section
variable {Km : Nat} {w g D N : Int} {bg en tn tk : Int → Int}
theorem M_gp {F : zF} {B : zB} {t : Int} (dq : DTq g D N bg en tn tk) (h : MFq w D N bg en tn tk F B) (ht : 0 ≤ t ∧ t ≤ 402921619456) : f_M_gridPlace Km t g F B = some (gplF g D t, F, B) := by
  obtain ⟨hg, hD, _⟩ := dq
  obtain ⟨h1, h2, h3, h4⟩ := h
  have x0 : 0 ≤ 2 * t * g + 4 * D ∧ 2 * t * g + 4 * D ≤ 30000000000000 := by rcases hg with rfl | rfl | rfl | rfl <;> omega
  unfold f_M_gridPlace gplF
  rw [if_pos (by unfold r32; omega), h2, if_pos (by unfold r32; omega), if_pos (lI_n0 (by first | decide | omega) (by unfold r64; omega)), zldv_e x0.1 (by first | decide | omega) (by first | decide | omega) (by first | decide | omega)]
/-- the least tone above a, of the sounds s .. t - 1 -/
theorem M_s19 {rec' : Int → Int → Int → Int → zF → zB → zO} {s t a n : Int} {F : zF} {B : zB} (dq : DTq g D N bg en tn tk) (h : MFq w D N bg en tn tk F B) (hs : 0 ≤ s ∧ t ≤ N) (ha : -1 ≤ a ∧ a < 128) (hn : 0 ≤ n ∧ n < 6) : ∀ (d m : Nat) (i L : Int), i + d = t → s ≤ i → d < m → ((L = 128 ∨ (a < L ∧ L < 128 ∧ ∃ j, s ≤ j ∧ j < i ∧ tn j = L)) ∧ ∀ j, s ≤ j → j < i → tn j ≤ a ∨ L ≤ tn j) → ∃ L', f_M_six_19 rec' Km m i L a n s t F B = (if L' = 128 then some (n, F, B) else rec' L' (n + 1) s t F (zup4 B 14 0 95 n L')) ∧ (L' = 128 ∨ (a < L' ∧ L' < 128 ∧ ∃ j, s ≤ j ∧ j < t ∧ tn j = L')) ∧ ∀ j, s ≤ j → j < t → tn j ≤ a ∨ L' ≤ tn j := by
  have hN := dq.2.2.1
  obtain ⟨h1, h2, h3, h4⟩ := h
  intro d
  induction d with
  | zero =>
    intro m i L e si hm hL
    obtain ⟨p, rfl⟩ : ∃ p, m = p + 1 := ⟨m - 1, (by first | decide | omega)⟩
    have : i = t := by omega
    subst this
    refine ⟨L, ?_, hL⟩
    rw [f_M_six_19, if_pos (by unfold r32; omega), if_pos (by unfold r32; omega), if_pos (by first | decide | omega), if_pos (by unfold r32; omega), if_pos hn]
  | succ d ih =>
    intro m i L e si hm hL
    obtain ⟨p, rfl⟩ : ∃ p, m = p + 1 := ⟨m - 1, (by first | decide | omega)⟩
    have b := (h4 i (by first | decide | omega) (by first | decide | omega)).2.1
    have dd := (dq.2.2.2.1 i (by first | decide | omega) (by first | decide | omega)).2.1
    rw [f_M_six_19, if_pos (by unfold r32; omega), if_pos (by unfold r32; omega), if_neg (by first | decide | omega), if_pos (by first | decide | omega), b, if_pos (by unfold r32; omega), if_pos (by unfold r32; omega)]
    unfold f_M_six_58
    by_cases c : tn i ≤ a
    · rw [if_pos c]
      refine ih p (i + 1) L (by first | decide | omega) (by first | decide | omega) (by first | decide | omega) ⟨?_, fun j j0 j1 => ?_⟩
      · rcases hL.1 with z | ⟨z1, z2, j, z3, z4, z5⟩
        · exact Or.inl z
        · exact Or.inr ⟨z1, z2, j, z3, (by first | decide | omega), z5⟩
      · by_cases y : j = i
        · rw [y]; exact Or.inl c
        · exact hL.2 j j0 (by first | decide | omega)
    · rw [if_neg c, if_pos (by unfold r32; omega)]
      by_cases c2 : L ≤ tn i
      · rw [if_pos c2]
        refine ih p (i + 1) L (by first | decide | omega) (by first | decide | omega) (by first | decide | omega) ⟨?_, fun j j0 j1 => ?_⟩
        · rcases hL.1 with z | ⟨z1, z2, j, z3, z4, z5⟩
          · exact Or.inl z
          · exact Or.inr ⟨z1, z2, j, z3, (by first | decide | omega), z5⟩
        · by_cases y : j = i
          · rw [y]; exact Or.inr c2
          · exact hL.2 j j0 (by first | decide | omega)
      · rw [if_neg c2]
        refine ih p (i + 1) (tn i) (by first | decide | omega) (by first | decide | omega) (by first | decide | omega) ⟨Or.inr ⟨(by first | decide | omega), (by first | decide | omega), i, si, (by first | decide | omega), rfl⟩, fun j j0 j1 => ?_⟩
        by_cases y : j = i
        · rw [y]; exact Or.inr (by first | decide | omega)
        · rcases hL.2 j j0 (by first | decide | omega) with z | z
          · exact Or.inl z
          · exact Or.inr (by first | decide | omega)
def toneS (tn : Int → Int) (s t x : Int) : Prop := ∃ i, s ≤ i ∧ i < t ∧ tn i = x
theorem M_s5 {s t : Int} {F : zF} (dq : DTq g D N bg en tn tk) (hKm : 500 ≤ Km) (hs : 0 ≤ s ∧ s ≤ t ∧ t ≤ N) : ∀ (d m : Nat) (n a : Int) (B : zB), n + d = 6 → 0 ≤ n → d < m → (-1 ≤ a ∧ a < 128) → MFq w D N bg en tn tk F B → (∀ k, 0 ≤ k → k < n → toneS tn s t (B 14 0 95 k) ∧ 0 ≤ B 14 0 95 k ∧ B 14 0 95 k < 128) → (∀ j k, 0 ≤ j → j < k → k < n → B 14 0 95 j < B 14 0 95 k) → (∀ x, toneS tn s t x → x ≤ a → ∃ k, 0 ≤ k ∧ k < n ∧ B 14 0 95 k = x) → (∀ k, 0 ≤ k → k < n → B 14 0 95 k ≤ a) → (0 < n → B 14 0 95 (n - 1) = a) → ∃ c B', f_M_six_5 Km m a n s t F B = some (c, F, B') ∧ SXt (toneS tn s t) c (B' 14 0 95) ∧ (∀ c i k y, ¬ (c = 14 ∧ i = 0 ∧ k = 95) → B' c i k y = B c i k y) := by
  intro d
  induction d with
  | zero =>
    intro m n a B e n0 hm ha hM k1 k2 k3 k4 k5
    obtain ⟨p, rfl⟩ : ∃ p, m = p + 1 := ⟨m - 1, (by first | decide | omega)⟩
    have : n = 6 := by omega
    subst this
    refine ⟨6, B, ?_, ⟨(by first | decide | omega), k1, k2, fun x hx => ?_⟩, fun _ _ _ _ _ => rfl⟩
    · rw [f_M_six_5, if_pos (by decide), if_pos (by decide)]
    · by_cases y : x ≤ a
      · exact Or.inl (k3 x hx y)
      · refine Or.inr ⟨rfl, ?_⟩
        have := k5 (by decide)
        rw [show (6 : Int) - 1 = 5 from rfl] at this
        omega
  | succ d ih =>
    intro m n a B e n0 hm ha hM k1 k2 k3 k4 k5
    obtain ⟨p, rfl⟩ : ∃ p, m = p + 1 := ⟨m - 1, (by first | decide | omega)⟩
    obtain ⟨L, e1, e2, e3⟩ := M_s19 (Km := Km) (rec' := f_M_six_5 Km p) (s := s) (t := t) (a := a) (n := n) dq hM ⟨hs.1, hs.2.2⟩ ha (by first | decide | omega) (t - s).toNat Km s 128 (by first | decide | omega) (by first | decide | omega) (by have := dq.2.2.1; omega) ⟨Or.inl rfl, fun j a b => (by first | decide | omega)⟩
    rw [f_M_six_5, if_pos (by unfold r32; omega), if_neg (by first | decide | omega), e1]
    by_cases c : L = 128
    · rw [if_pos c]
      refine ⟨n, B, rfl, ⟨(by first | decide | omega), k1, k2, fun x hx => Or.inl (k3 x hx ?_)⟩, fun _ _ _ _ _ => rfl⟩
      obtain ⟨i, i0, i1, i2⟩ := hx
      have := (dq.2.2.2.1 i (by first | decide | omega) (by first | decide | omega)).2.1
      rcases e3 i i0 i1 with z | z <;> omega
    · rw [if_neg c]
      obtain ⟨l1, l2, j, l3, l4, l5⟩ := e2.resolve_left c
      have old : ∀ k, k < n → (zup4 B 14 0 95 n L) 14 0 95 k = B 14 0 95 k := fun k hk => by rw [zup4_v, if_neg (by first | decide | omega)]
      have new : (zup4 B 14 0 95 n L) 14 0 95 n = L := by rw [zup4_v, if_pos (by first | decide | omega)]
      obtain ⟨c', B', x1, x2, x3⟩ := ih p (n + 1) L (zup4 B 14 0 95 n L) (by first | decide | omega) (by first | decide | omega) (by first | decide | omega) (by first | decide | omega) (MFq_f hM rfl (fun k x _ _ => by rw [zup4_v, if_neg (by first | decide | omega)])) (fun k a b => by
          by_cases y : k = n
          · rw [y, new]; exact ⟨⟨j, l3, l4, l5⟩, (by first | decide | omega), l2⟩
          · rw [old k (by first | decide | omega)]; exact k1 k a (by first | decide | omega)) (fun i k a b cc => by
          by_cases y : k = n
          · rw [y, new, old i (by first | decide | omega)]; have := k4 i a (by first | decide | omega); omega
          · rw [old i (by first | decide | omega), old k (by first | decide | omega)]; exact k2 i k a b (by first | decide | omega)) (fun x hx hl => by
          by_cases y : x ≤ a
          · obtain ⟨k, a1, a2, a3⟩ := k3 x hx y
            exact ⟨k, a1, (by first | decide | omega), by rw [old k a2]; exact a3⟩
          · obtain ⟨i, i0, i1, i2⟩ := hx
            rcases e3 i i0 i1 with z | z
            · omega
            · exact ⟨n, (by first | decide | omega), (by first | decide | omega), by rw [new]; omega⟩) (fun k a b => by
          by_cases y : k = n
          · rw [y, new]; omega
          · rw [old k (by first | decide | omega)]; have := k4 k a (by first | decide | omega); omega) (fun _ => by rw [show n + 1 - 1 = n by omega]; exact new)
      exact ⟨c', B', x1, x2, fun c i k y n => by rw [x3 c i k y n, zup4_v, if_neg (by first | decide | omega)]⟩
theorem M_six {s t : Int} {F : zF} {B : zB} (dq : DTq g D N bg en tn tk) (hKm : 500 ≤ Km) (hs : 0 ≤ s ∧ s ≤ t ∧ t ≤ N) (hM : MFq w D N bg en tn tk F B) : ∃ c B', f_M_six Km s t F B = some (c, F, B') ∧ SXt (toneS tn s t) c (B' 14 0 95) ∧ (∀ c i k y, ¬ (c = 14 ∧ i = 0 ∧ k = 95) → B' c i k y = B c i k y) :=
  M_s5 dq hKm hs 6 Km 0 (-1) B (by first | decide | omega) (by first | decide | omega) (by first | decide | omega) (by first | decide | omega) hM (fun k a b => (by first | decide | omega)) (fun j k a b c => (by first | decide | omega)) (fun x hx hl => by
    obtain ⟨i, i0, i1, i2⟩ := hx
    have := (dq.2.2.2.1 i (by first | decide | omega) (by first | decide | omega)).2.1
    omega) (fun k a b => (by first | decide | omega)) (fun z => (by first | decide | omega))
/-- what the class makes of the tones of the sounds s .. t - 1 -/
def PCH (K : zK) (o f : Int) (tn : Int → Int) (s t m : Int) (st al : Int → Int) : Prop := (0 ≤ m ∧ m ≤ 6) ∧ (∀ k, 0 ≤ k → k < m → (0 ≤ st k ∧ st k ≤ 62) ∧ (-7 ≤ al k ∧ al k ≤ 7)) ∧ ∀ F B, (F 7 0 0 = o ∧ 0 ≤ o ∧ o < K.2 8) → F 7 0 4 = 0 → B 8 o 0 2 = f → HTn tn s t B → ∃ r F' B', f_Scribe_spellEvent K 0 F B = some (r, F', B') ∧ spF F F' ∧ spB B B' ∧ EVq m st al (F', B')
/-- row x of the reference's events: its length in parts of the grid, its tones -/
def EVr (g w x len m : Int) (st al : Int → Int) (B : zB) : Prop := (0 ≤ m ∧ m ≤ 6) ∧ B 13 w 16 x = len / gc len g ∧ B 13 w 17 x = g / gc len g ∧ B 13 w 18 x = 0 ∧ B 13 w 22 x = 0 ∧ B 13 w 21 x = m ∧ ∀ k, 0 ≤ k → k < m → B 13 w 28 (6 * x + k) = st k ∧ B 13 w 29 (6 * x + k) = al k ∧ (0 ≤ st k ∧ st k ≤ 62) ∧ (-7 ≤ al k ∧ al k ≤ 7)
/-- what a new event of voice v may change -/
def deM (w v x : Int) (B B' : zB) : Prop := ∀ c i k y, ¬ (c = 13 ∧ i = w ∧ ((k = 12 ∧ y = v) ∨ ((k = 16 ∨ k = 17 ∨ k = 18 ∨ k = 21 ∨ k = 22) ∧ y = x) ∨ ((k = 28 ∨ k = 29) ∧ 6 * x ≤ y ∧ y < 6 * x + 6))) → B' c i k y = B c i k y
theorem M_de {K : zK} {o f v j len s t c : Int} {F : zF} {B : zB} (h7 : 0 < K.2 7) (h1 : 0 < K.2 1) (hK : 200 ≤ K.1) (hKm : 500 ≤ Km) (hg : g = 4 ∨ g = 8 ∨ g = 16 ∨ g = 32) (hf : -7 ≤ f ∧ f ≤ 7) (hw : F 14 0 6 = w ∧ 0 ≤ w ∧ w < 3) (m2 : F 13 w 2 = f) (v0 : 0 ≤ v ∧ v < 4) (ej : B 13 w 12 v = j) (j0 : 0 ≤ j ∧ j < 1000) (hl : 0 ≤ len ∧ len ≤ 100000000000000) (hts : ∀ i, s ≤ i → i < t → 0 ≤ tn i ∧ tn i < 128) (ho : 0 ≤ o ∧ o < K.2 8) (sx : SXt (toneS tn s t) c (B 14 0 95)) : ∃ r F' B' m st al, f_M_downEvent Km v len g c F B = some (r, F', B') ∧ (∀ c y k, ¬ (c = 14 ∧ y = 0 ∧ k ≤ 1) → F' c y k = F c y k) ∧ deM w v (1000 * v + j) B B' ∧ B' 13 w 12 v = j + 1 ∧ EVr g w (1000 * v + j) len m st al B' ∧ PCH K o f tn s t m st al := by
  unfold f_M_downEvent
  rw [hw.1, if_pos hw.2, if_pos v0, if_pos (by unfold r32; omega), ej, L_is hl.1 (by first | decide | omega) (by first | decide | omega) (by first | decide | omega) (by first | decide | omega), zb_s]
  generalize hF1 : zup3 (zup3 F 14 0 0 (len / gc len g)) 14 0 1 (g / gc len g) = F1
  have fn : ∀ c y k, ¬ (c = 14 ∧ y = 0 ∧ k ≤ 1) → F1 c y k = F c y k := fun c y k n => by rw [← hF1, zup3_v, if_neg (by first | decide | omega), zup3_v, if_neg (by first | decide | omega)]
  have v0' : F1 14 0 0 = len / gc len g := by rw [← hF1, zup3_v, if_neg (by first | decide | omega), zup3_v, if_pos (by first | decide | omega)]
  have v1' : F1 14 0 1 = g / gc len g := by rw [← hF1, zup3_v, if_pos (by first | decide | omega)]
  rw [fn 14 0 6 (by first | decide | omega), hw.1, if_pos hw.2, if_pos (by first | decide | omega), v0', v1']
  generalize hx : 1000 * v + j = x
  generalize hB1 : zup4 (zup4 (zup4 (zup4 (zup4 (zup4 B 13 w 12 v (j + 1)) 13 w 16 x (len / gc len g)) 13 w 17 x (g / gc len g)) 13 w 18 x 0) 13 w 22 x 0) 13 w 21 x 0 = B1
  have bn : deM w v x B B1 := fun c i k y n => by rw [← hB1, zup4_v, if_neg (by first | decide | omega), zup4_v, if_neg (by first | decide | omega), zup4_v, if_neg (by first | decide | omega), zup4_v, if_neg (by first | decide | omega), zup4_v, if_neg (by first | decide | omega), zup4_v, if_neg (by first | decide | omega)]
  have b12 : B1 13 w 12 v = j + 1 := by rw [← hB1]; simp [zup4_v]
  have b16 : B1 13 w 16 x = len / gc len g := by rw [← hB1]; simp [zup4_v]
  have b17 : B1 13 w 17 x = g / gc len g := by rw [← hB1]; simp [zup4_v]
  have b18 : B1 13 w 18 x = 0 := by rw [← hB1]; simp [zup4_v]
  have b22 : B1 13 w 22 x = 0 := by rw [← hB1]; simp [zup4_v]
  have b21 : B1 13 w 21 x = 0 := by rw [← hB1]; simp [zup4_v]
  have h95 : ∀ k, B1 14 0 95 k = B 14 0 95 k := fun k => bn 14 0 95 k (by first | decide | omega)
  -- for every world of the class
  have two : ∀ (F0 : zF) (B0 : zB), (F0 7 0 0 = o ∧ 0 ≤ o ∧ o < K.2 8) → F0 7 0 4 = 0 → B0 8 o 0 2 = f → HTn tn s t B0 → zP (f_Scribe_spellEvent K 0 F0 B0) (f_M_downEvent_102 Km Km 0 x c F1 B1) (fun _ F' B' _ Fm' Bm' => Fm' = F1 ∧ spF F0 F' ∧ spB B0 B' ∧ spM x w B1 Bm' ∧ ∃ n', EPR 0 x w n' F' B' Bm') := fun F0 B0 f0 f4 b2 ht => by
    unfold f_Scribe_spellEvent
    rw [if_pos ⟨(by first | decide | omega), h7⟩, f4, if_pos ⟨(by first | decide | omega), h1⟩]
    have z0 : ∀ c y k, ¬ (c = 1 ∧ y = 0 ∧ k = 10) → (zup3 F0 1 0 10 0) c y k = F0 c y k := fun c y k n => by rw [zup3_v, if_neg (by first | decide | omega)]
    obtain ⟨a1, F2, B2, a2, G2, D2, x1, x2, x3, x4, x5, x6, x7⟩ := P_spE (K := K) (Km := Km) (o := o) (f := f) (x := x) (w := w) (c := c) (S := toneS tn s t) (τ := B1 14 0 95) (Fm := F1) h7 h1 hK (by first | decide | omega) hf (by rw [fn 14 0 6 (by first | decide | omega)]; exact hw.1) hw.2 (by rw [fn 13 w 2 (by first | decide | omega)]; exact m2) (by first | decide | omega) (by rw [show B1 14 0 95 = B 14 0 95 from funext h95]; exact sx) 128 K.1 Km 0 0 0 (zup3 F0 1 0 10 0) B0 B1 (by first | decide | omega) (by first | decide | omega) (by first | decide | omega) (by first | decide | omega) sx.1.1 (by have := sx.1; omega) (by first | decide | omega) (fun j a b => (by first | decide | omega)) (fun j a b => by rw [h95]; exact (sx.2.1 j a b).2.1) (fun y a b => by
        rcases ht.2 y a b with q | ⟨q, i, i0, i1, i2⟩
        · refine Or.inl ⟨q, fun hh => ?_⟩
          obtain ⟨i, i0, i1, i2⟩ := hh
          have := ht.1 i i0 i1
          rw [i2, q] at this
          exact absurd this (by decide)
        · exact Or.inr ⟨q, i, i0, i1, i2⟩) (by rw [z0 7 0 0 (by first | decide | omega)]; exact f0) (by rw [z0 7 0 4 (by first | decide | omega)]; exact f4) b2 (fun j a b => rfl) ⟨by rw [zup3_v, if_pos (by first | decide | omega)], b21, (by first | decide | omega), fun k a b => (by first | decide | omega), fun j k a b c => (by first | decide | omega)⟩
    exact ⟨a1, F2, B2, a2, G2, D2, x1, x2, x3, fun c y k n => by rw [x4 c y k n, z0 c y k n], x5, x6, x7⟩
  -- one world to see what the reference does
  have dec : ∀ x : Int, Decidable (toneS tn s t x) := fun x => Classical.propDecidable _
  obtain ⟨F0, B0, q1, q2, q3, q4⟩ : ∃ (F0 : zF) (B0 : zB), (F0 7 0 0 = o ∧ 0 ≤ o ∧ o < K.2 8) ∧ F0 7 0 4 = 0 ∧ B0 8 o 0 2 = f ∧ HTn tn s t B0 := by
    refine ⟨fun c y k => if k = 0 then o else 0, fun c y k x => if c = 8 then f else if (dec x).decide then 1 else 0, ⟨rfl, ho⟩, rfl, rfl, fun i i0 i1 => ?_, fun x x0 x1 => ?_⟩
    · show (if (7 : Nat) = 8 then f else if (dec (tn i)).decide = true then 1 else 0) = 1
      rw [if_neg (by decide), if_pos (@decide_eq_true _ (dec (tn i)) ⟨i, i0, i1, rfl⟩)]
    · show (if (7 : Nat) = 8 then f else if (dec x).decide = true then 1 else 0) = 0 ∨ _
      rw [if_neg (by decide)]
      by_cases hh : toneS tn s t x
      · right
        refine ⟨?_, hh⟩
        show (if (7 : Nat) = 8 then f else if (dec x).decide = true then 1 else 0) = 1
        rw [if_neg (by decide), if_pos (@decide_eq_true _ (dec x) hh)]
      · left
        rw [if_neg (fun z => hh (@of_decide_eq_true _ (dec x) z))]
  obtain ⟨a1, F2, B2, a2, G2, D2, x1, x2, rfl, x4, x5, x6, n', x7⟩ := two F0 B0 q1 q2 q3 q4
  obtain ⟨E1, E2, E3, E4, E5⟩ := x7
  refine ⟨a2, _, D2, n', fun k => D2 13 w 28 (6 * x + k), fun k => D2 13 w 29 (6 * x + k), ?_, fn, fun c i k y n => by rw [x6 c i k y (by first | decide | omega), bn c i k y n], by rw [x6 13 w 12 v (by first | decide | omega)]; exact b12, ⟨E3, by rw [x6 13 w 16 x (by first | decide | omega)]; exact b16, by rw [x6 13 w 17 x (by first | decide | omega)]; exact b17, by rw [x6 13 w 18 x (by first | decide | omega)]; exact b18, by rw [x6 13 w 22 x (by first | decide | omega)]; exact b22, E2, fun k k0 k1 => ?_⟩, E3, fun k k0 k1 => ?_, fun F3 B3 r1 r2 r3 r4 => ?_⟩
  · exact x2
  · obtain ⟨y1, y2, y3, y4⟩ := E4 k k0 k1
    refine ⟨rfl, rfl, ?_⟩
    show (0 ≤ D2 13 w 28 (6 * x + k) ∧ D2 13 w 28 (6 * x + k) ≤ 62) ∧ (-7 ≤ D2 13 w 29 (6 * x + k) ∧ D2 13 w 29 (6 * x + k) ≤ 7)
    omega
  · obtain ⟨y1, y2, y3, y4⟩ := E4 k k0 k1
    show (0 ≤ D2 13 w 28 (6 * x + k) ∧ D2 13 w 28 (6 * x + k) ≤ 62) ∧ (-7 ≤ D2 13 w 29 (6 * x + k) ∧ D2 13 w 29 (6 * x + k) ≤ 7)
    omega
  · obtain ⟨b1, F4, B4, b2, G4, D4, y1, y2, y3, y4, y5, y6, n'', y7⟩ := two F3 B3 r1 r2 r3 r4
    rw [x2] at y2
    have ee := Option.some.inj y2
    have eD : D2 = D4 := congrArg (fun z => z.2.2) ee
    subst eD
    obtain ⟨G1, G2', G3, G4', G5⟩ := y7
    have en : n'' = n' := by omega
    subst en
    refine ⟨b1, F4, B4, y1, y4, y5, G1, G3, fun k k0 k1 => ?_⟩
    obtain ⟨y1, y2, y3, y4⟩ := G4' k k0 k1
    refine ⟨y1, y2, ?_⟩
    show (0 ≤ D2 13 w 28 (6 * x + k) ∧ D2 13 w 28 (6 * x + k) ≤ 62) ∧ (-7 ≤ D2 13 w 29 (6 * x + k) ∧ D2 13 w 29 (6 * x + k) ≤ 7)
    omega
end
end
