section
section
/-! ===== the moments of a read piece, reference: exactly ===== -/
variable {K : Nat} {V w : Int} {S : zV}
/-- moment t stands at v -/
def mR (w : Int) (B : zB) (t v : Int) : Prop := B 13 w 73 t = nu v ∧ B 13 w 74 t = de v
theorem mR_u {t v : Int} {B : zB} : mR w (mU w t v B) t v := by
  refine ⟨?_, ?_⟩
  · unfold mU; rw [zup4_v, if_neg (by omega), zup4_v, if_pos (by omega)]
  · unfold mU; rw [zup4_v, if_pos (by omega)]
theorem mR_n {j p x v : Int} {B : zB} (h : mR w B x v) (n : ¬ x = j) : mR w (mU w j p B) x v := by
  unfold mR
  rw [mU_n (by omega), mU_n (by omega)]
  exact h
def TR (w c : Int) (T : Int → Int) (B : zB) : Prop := ∀ t, 0 ≤ t → t < c → (0 ≤ T t ∧ T t ≤ 1000000000000) ∧ mR w B t (T t)
theorem TR_f {c : Int} {T : Int → Int} {B B' : zB} (h : TR w c T B) (b : ∀ k x, k = 73 ∨ k = 74 → B' 13 w k x = B 13 w k x) : TR w c T B' := fun t t0 t1 => by
  unfold mR
  rw [b 73 _ (by omega), b 74 _ (by omega)]
  exact h t t0 t1
theorem x_mom83 {c a p : Int} {T : Int → Int} {F : zF} (w0 : 0 ≤ w ∧ w < 3) (h72 : F 13 w 72 = c) (c1 : c < 800) (a0 : 0 ≤ a) : ∀ (n : Nat) (l : Int) (B : zB), a ≤ l → l ≤ c → (∀ t, 0 ≤ t → t < l → mR w B t (T t)) → (∀ t, l < t → t ≤ c → mR w B t (T (t - 1))) → l - a < n → ∃ B', f_M_moment_1_83 K n l a w (nu p) (de p) F B = some (0, zup3 F 13 w 72 (c + 1), B') ∧ MZ w B B' ∧ ∀ t, 0 ≤ t → t ≤ c → mR w B' t (puT T a p t) := by
  intro n
  induction n with
  | zero => intro l B _ _ _ _ hn; exfalso; omega
  | succ n ih =>
    intro l B al lc m1 m2 hn
    rw [f_M_moment_1_83, if_pos (by unfold r32; omega), if_pos (by unfold r32; omega)]
    by_cases e : l ≤ a
    · rw [if_pos e, if_pos w0, if_pos (by omega), h72]
      refine ⟨mU w a p B, rfl, fun c' i k x nn => mU_n (by omega), fun t t0 t1 => ?_⟩
      by_cases e1 : t = a
      · rw [e1, show puT T a p a = p by unfold puT; rw [if_neg (show ¬ a < a by omega), if_pos rfl]]
        exact mR_u
      · refine mR_n ?_ e1
        by_cases e2 : t < a
        · rw [show puT T a p t = T t by unfold puT; rw [if_pos e2]]
          exact m1 t t0 (by omega)
        · rw [show puT T a p t = T (t - 1) by unfold puT; rw [if_neg e2, if_neg e1]]
          exact m2 t (by omega) t1
    · rw [if_neg e, if_pos w0, if_pos (by omega), if_pos (by omega)]
      obtain ⟨k1, k2⟩ := m1 (l - 1) (by omega) (by omega)
      have e1 : (zup4 B 13 w 73 l (nu (T (l - 1)))) 13 w 74 (l - 1) = de (T (l - 1)) := by rw [zup4_v, if_neg (by omega)]; exact k2
      rw [k1, e1]
      obtain ⟨B', g1, g2, g3⟩ := ih (l - 1) (mU w l (T (l - 1)) B) (by omega) (by omega) (fun t t0 t1 => mR_n (m1 t t0 (by omega)) (by omega)) (fun t t0 t1 => by
        by_cases e2 : t = l
        · rw [e2]; exact mR_u
        · exact mR_n (m2 t (by omega) t1) e2) (by omega)
      exact ⟨B', g1, fun c' i k x nn => by rw [g2 c' i k x nn, mU_n (by omega)], g3⟩
theorem x_mom1 {c p : Int} {T : Int → Int} {A : Int → Prop} {F : zF} {B : zB} (hK : 812851200 < K) (w0 : 0 ≤ w ∧ w < 3) (h72 : F 13 w 72 = c) (c0 : 0 ≤ c) (c1 : c < 800) (p0 : 0 ≤ p) (p1 : p ≤ 1000000000000) (hT : TR w c T B) (hI : SI c T) (hR : RS c T A) : ∃ F' B' c' T', f_M_moment_1 K w (nu p) (de p) F B = some (0, F', B') ∧ MF w F F' ∧ MZ w B B' ∧ F' 13 w 72 = c' ∧ 0 ≤ c' ∧ c' ≤ c + 1 ∧ TR w c' T' B' ∧ SI c' T' ∧ RS c' T' (fun x => A x ∨ x = p) := by
  have np := nd_r p0 p1
  have h77 : ∀ a, 0 ≤ a → a ≤ c → (a = 0 ∨ T (a - 1) < p) → (∀ t, a ≤ t → t < c → p < T t) → ∃ F' B' c' T', f_M_moment_1_77 K a w (nu p) (de p) F B = some (0, F', B') ∧ MF w F F' ∧ MZ w B B' ∧ F' 13 w 72 = c' ∧ 0 ≤ c' ∧ c' ≤ c + 1 ∧ TR w c' T' B' ∧ SI c' T' ∧ RS c' T' (fun x => A x ∨ x = p) := fun a a0 a1 l g => by
    unfold f_M_moment_1_77
    rw [if_pos w0, h72]
    obtain ⟨B', e, z, m⟩ := x_mom83 (K := K) (T := T) (p := p) (F := F) w0 h72 c1 a0 K c B a1 (Int.le_refl _) (fun t t0 t1 => (hT t t0 t1).2) (fun t a b => by omega) (by omega)
    refine ⟨_, B', c + 1, puT T a p, e, fun c' i k nn => by rw [zup3_v, if_neg nn], z, by rw [zup3_v, if_pos ⟨rfl, rfl, rfl⟩], by omega, Int.le_refl _, fun t t0 t1 => ⟨?_, m t t0 (by omega)⟩, puT_i hI a0 a1 l g, puT_r hR a0 a1⟩
    unfold puT
    by_cases e1 : t < a
    · rw [if_pos e1]; exact (hT t t0 (by omega)).1
    · rw [if_neg e1]
      by_cases e2 : t = a
      · rw [if_pos e2]; exact ⟨p0, p1⟩
      · rw [if_neg e2]; exact (hT (t - 1) (by omega) (by omega)).1
  have h43 : ∀ a, 0 ≤ a → a ≤ c → (a = 0 ∨ T (a - 1) ≤ p) → (∀ t, a ≤ t → t < c → p < T t) → ∃ F' B' c' T', f_M_moment_1_43 K a w (nu p) (de p) F B = some (0, F', B') ∧ MF w F F' ∧ MZ w B B' ∧ F' 13 w 72 = c' ∧ 0 ≤ c' ∧ c' ≤ c + 1 ∧ TR w c' T' B' ∧ SI c' T' ∧ RS c' T' (fun x => A x ∨ x = p) := fun a a0 a1 l g => by
    unfold f_M_moment_1_43
    rw [if_pos (by unfold r32; omega)]
    by_cases e : a ≤ 0
    · rw [if_pos e]; exact h77 a a0 a1 (Or.inl (by omega)) g
    · rw [if_neg e, if_pos w0, if_pos (by omega)]
      obtain ⟨⟨q0, q1⟩, k1, k2⟩ := hT (a - 1) (by omega) (by omega)
      have nq := nd_r q0 q1
      rw [k1, k2, if_pos (by unfold r64; omega), if_pos (by unfold r64; omega)]
      have ne : ¬ T (a - 1) = p → a = 0 ∨ T (a - 1) < p := fun z => Or.inr (by omega)
      by_cases y : zcmp (nu (T (a - 1))) (nu p) = 0
      · rw [if_pos y, if_pos (by unfold r64; omega), if_pos (by unfold r64; omega)]
        by_cases z : zcmp (de (T (a - 1))) (de p) = 0
        · have ep : T (a - 1) = p := nd_iv q0 p0 (zcmp_0.mp y) (zcmp_0.mp z)
          rw [if_pos z]
          refine ⟨F, B, c, T, rfl, fun _ _ _ _ => rfl, fun _ _ _ _ _ => rfl, h72, c0, by omega, hT, hI, RS_c hR (fun x => ⟨Or.inl, fun o => ?_⟩)⟩
          rcases o with o | o
          · exact o
          · exact (hR x).mp ⟨a - 1, by omega, by omega, by rw [ep, o]⟩
        · rw [if_neg z]; exact h77 a a0 a1 (ne (fun k => z (zcmp_0.mpr (by rw [k])))) g
      · rw [if_neg y]; exact h77 a a0 a1 (ne (fun k => y (zcmp_0.mpr (by rw [k])))) g
  have h6 : ∀ (n : Nat) (a : Int), 0 ≤ a → a ≤ c → (∀ t, a ≤ t → t < c → p < T t) → a < n → ∃ F' B' c' T', f_M_moment_1_6 K n a w (nu p) (de p) F B = some (0, F', B') ∧ MF w F F' ∧ MZ w B B' ∧ F' 13 w 72 = c' ∧ 0 ≤ c' ∧ c' ≤ c + 1 ∧ TR w c' T' B' ∧ SI c' T' ∧ RS c' T' (fun x => A x ∨ x = p) := by
    intro n
    induction n with
    | zero => intro a _ _ _ hn; exfalso; omega
    | succ n ih =>
      intro a a0 a1 g hn
      rw [f_M_moment_1_6, if_pos (by unfold r32; omega)]
      by_cases e : a ≤ 0
      · rw [if_pos e]; exact h43 a a0 a1 (Or.inl (by omega)) g
      · rw [if_neg e, if_pos w0, if_pos (by omega)]
        obtain ⟨⟨q0, q1⟩, k1, k2⟩ := hT (a - 1) (by omega) (by omega)
        rw [k1, k2, L_cmpR hK (FR_r q0) (FR_r p0) (by omega) (by omega), zb_s, if_pos cmp3.1]
        by_cases y : (if T (a - 1) < p then (-1 : Int) else if T (a - 1) = p then 0 else 1) ≤ 0
        · rw [if_pos y]; exact h43 a a0 a1 (Or.inr (cmp3.2.mp y)) g
        · rw [if_neg y]
          have l : ¬ T (a - 1) ≤ p := fun k => y (cmp3.2.mpr k)
          refine ih (a - 1) (by omega) (by omega) (fun t t0 t1 => ?_) (by omega)
          by_cases e2 : t = a - 1
          · rw [e2]; omega
          · exact g t (by omega) t1
  unfold f_M_moment_1
  rw [if_pos w0, h72]
  exact h6 K c c0 (Int.le_refl _) (fun t a b => by omega) (by omega)
/-- the events told so far: those of the voices before u, and i of voice u -/
def aE2 (S : zV) (u i x : Int) : Prop := ∃ u' i', 0 ≤ u' ∧ 0 ≤ i' ∧ i' < S u' 0 0 0 ∧ (u' < u ∨ (u' = u ∧ i' < i)) ∧ S u' 1 i' 0 = x
def MS2 (w : Int) (S : zV) (u i : Int) (F0 F : zF) (B0 B : zB) : Prop := MF w F0 F ∧ MZ w B0 B ∧ (0 ≤ F 13 w 72 ∧ F 13 w 72 ≤ 200 * u + i) ∧ ∃ T, TR w (F 13 w 72) T B ∧ SI (F 13 w 72) T ∧ RS (F 13 w 72) T (aE2 S u i)
theorem x_mts17 {u : Int} {F0 : zF} {B0 : zB} {rec : Int → Int → zF → zB → zO} (hK : 812851200 < K) (hS : SG V S) (hR0 : SRm V w S F0 B0) (u0 : 0 ≤ u) (u1 : u < V) : ∀ (d n : Nat) (i : Int) (F : zF) (B : zB), MS2 w S u i F0 F B0 B → 0 ≤ i → i + d = S u 0 0 0 → d < n → ∃ F' B', f_M_moments_17 rec K n i u w F B = rec (u + 1) w F' B' ∧ MS2 w S (u + 1) 0 F0 F' B0 B' := by
  obtain ⟨⟨_, v4⟩, hs⟩ := hS
  obtain ⟨w0, _, hr⟩ := hR0
  obtain ⟨g1, g2, g3, g4⟩ := hs u u0 u1
  obtain ⟨r1, r2⟩ := hr u u0 u1
  intro d
  induction d with
  | zero =>
    intro n i F B h i0 id hn
    obtain ⟨n, rfl⟩ : ∃ j, n = j + 1 := ⟨n - 1, by omega⟩
    obtain ⟨f, z, c, T, t1, t2, t3⟩ := h
    have e12 : B 13 w 12 u = S u 0 0 0 := by rw [z 13 w 12 u (by omega)]; exact r1
    rw [f_M_moments_17, if_pos w0, if_pos (by omega), if_pos (by unfold r32; omega), e12, if_pos (by unfold r32; omega), if_pos (by omega)]
    refine ⟨F, B, rfl, f, z, by omega, T, t1, t2, RS_c t3 (fun x => ⟨?_, ?_⟩)⟩
    · rintro ⟨u', i', a0, a1, a2, a3, a4⟩
      exact ⟨u', i', a0, a1, a2, by omega, a4⟩
    · rintro ⟨u', i', a0, a1, a2, a3, a4⟩
      refine ⟨u', i', a0, a1, a2, ?_, a4⟩
      by_cases e : u' = u
      · rw [e] at a2; exact Or.inr ⟨e, by omega⟩
      · exact Or.inl (by omega)
  | succ d ih =>
    intro n i F B h i0 id hn
    obtain ⟨n, rfl⟩ : ∃ j, n = j + 1 := ⟨n - 1, by omega⟩
    obtain ⟨f, z, c, T, t1, t2, t3⟩ := h
    have e12 : B 13 w 12 u = S u 0 0 0 := by rw [z 13 w 12 u (by omega)]; exact r1
    obtain ⟨q1, q2, _⟩ := r2 i i0 (by omega)
    have e14 : B 13 w 14 (1000 * u + i) = nu (S u 1 i 0) := by rw [z 13 w 14 _ (by omega)]; exact q1
    have e15 : B 13 w 15 (1000 * u + i) = de (S u 1 i 0) := by rw [z 13 w 15 _ (by omega)]; exact q2
    obtain ⟨p0, p1⟩ := (g3 i i0 (by omega)).1
    obtain ⟨F', B', c', T', x1, x2, x3, x4, x5, x6, x7, x8, x9⟩ := x_mom1 (K := K) (A := aE2 S u i) hK w0 rfl c.1 (by omega) p0 p1 t1 t2 t3
    rw [f_M_moments_17, if_pos w0, if_pos (by omega), if_pos (by unfold r32; omega), e12, if_pos (by unfold r32; omega), if_neg (by omega), if_pos (by omega), e14, e15, x1, zb_s]
    have x10 : RS c' T' (aE2 S u (i + 1)) := by
      refine RS_c x9 (fun x => ⟨?_, ?_⟩)
      · rintro (⟨u', i', a0, a1, a2, a3, a4⟩ | e)
        · exact ⟨u', i', a0, a1, a2, by omega, a4⟩
        · exact ⟨u, i, u0, i0, by omega, Or.inr ⟨rfl, by omega⟩, e.symm⟩
      · rintro ⟨u', i', a0, a1, a2, a3, a4⟩
        by_cases e : u' = u ∧ i' = i
        · rw [e.1, e.2] at a4; exact Or.inr a4.symm
        · exact Or.inl ⟨u', i', a0, a1, a2, by omega, a4⟩
    exact ih n (i + 1) F' B' ⟨fun c i k nn => by rw [x2 c i k nn, f c i k nn], fun c i k x nn => by rw [x3 c i k x nn, z c i k x nn], by omega, T', by rw [x4]; exact x7, by rw [x4]; exact x8, by rw [x4]; exact x10⟩ (by omega) (by omega) (by omega)
theorem x_mts7 {F0 : zF} {B0 : zB} (hK : 812851200 < K) (hS : SG V S) (hR0 : SRm V w S F0 B0) : ∀ (d n : Nat) (u : Int) (F : zF) (B : zB), MS2 w S u 0 F0 F B0 B → 0 ≤ u → u + d = V → d < n → ∃ F' B', f_M_moments_7 K n u w F B = f_M_moments_69 K K 0 w F' B' ∧ MS2 w S V 0 F0 F' B0 B' := by
  have hS' := hS
  have hR0' := hR0
  obtain ⟨⟨v1, v4⟩, hs⟩ := hS
  obtain ⟨w0, h1, hr⟩ := hR0
  intro d
  induction d with
  | zero =>
    intro n u F B h u0 ud hn
    obtain ⟨n, rfl⟩ : ∃ j, n = j + 1 := ⟨n - 1, by omega⟩
    have e1 : F 13 w 1 = V := by rw [h.1 13 w 1 (by omega)]; exact h1
    obtain rfl : u = V := by omega
    rw [f_M_moments_7, if_pos w0, if_pos (by unfold r32; omega), e1, if_pos (by unfold r32; omega), if_pos (by omega)]
    exact ⟨F, B, rfl, h⟩
  | succ d ih =>
    intro n u F B h u0 ud hn
    obtain ⟨n, rfl⟩ : ∃ j, n = j + 1 := ⟨n - 1, by omega⟩
    have e1 : F 13 w 1 = V := by rw [h.1 13 w 1 (by omega)]; exact h1
    have g1 := (hs u u0 (by omega)).1
    obtain ⟨F1, B1, x1, x2⟩ := x_mts17 (rec := f_M_moments_7 K n) hK hS' hR0' u0 (show u < V by omega) (S u 0 0 0).toNat K 0 F B h (by decide) (by omega) (by omega)
    rw [f_M_moments_7, if_pos w0, if_pos (by unfold r32; omega), e1, if_pos (by unfold r32; omega), if_neg (by omega), x1]
    exact ih n (u + 1) F1 B1 x2 (by omega) (by omega) (by omega)
/-- which event sounds: what is written of it so far -/
def LJ (w : Int) (S : zV) (c : Int) (T : Int → Int) (u t : Int) (B : zB) : Prop := ∀ u' t', 0 ≤ u' → u' < 4 → 0 ≤ t' → t' < c → (u' < u ∨ (u' = u ∧ t' < t)) → (0 ≤ B 13 w 75 (4 * t' + u') ∧ B 13 w 75 (4 * t' + u') < S u' 0 0 0) ∧ S u' 1 (B 13 w 75 (4 * t' + u')) 0 ≤ T t' ∧ (B 13 w 75 (4 * t' + u') + 1 < S u' 0 0 0 → T t' < S u' 1 (B 13 w 75 (4 * t' + u') + 1) 0)
def m75 (w : Int) (B B' : zB) : Prop := ∀ c i k x, ¬ (c = 13 ∧ i = w ∧ k = 75) → B' c i k x = B c i k x
theorem x_mts91 {u t c : Int} {T : Int → Int} {F : zF} {B : zB} {rec69 : Int → Int → zF → zB → zO} {rec : Int → Int → Int → Int → zF → zB → zO} (hK : 812851200 < K) (hS : SG V S) (hR : SRm V w S F B) (u0 : 0 ≤ u) (u1 : u < V) (t0 : 0 ≤ t) (t1 : t < c) (c8 : c ≤ 800) (hT : TR w c T B) : ∀ (d n : Nat) (e : Int), 0 ≤ e → e + d + 1 = S u 0 0 0 → S u 1 e 0 ≤ T t → d < n → ∃ e', f_M_moments_91 rec69 rec K n t e u w F B = rec (t + 1) e' u w F (zup4 B 13 w 75 (4 * t + u) e') ∧ (0 ≤ e' ∧ e' < S u 0 0 0) ∧ S u 1 e' 0 ≤ T t ∧ (e' + 1 < S u 0 0 0 → T t < S u 1 (e' + 1) 0) := by
  obtain ⟨⟨_, v4⟩, hs⟩ := hS
  obtain ⟨w0, _, hr⟩ := hR
  obtain ⟨g1, g2, g3, g4⟩ := hs u u0 u1
  obtain ⟨r1, r2⟩ := hr u u0 u1
  obtain ⟨⟨q0, q1⟩, k1, k2⟩ := hT t t0 t1
  have h157 : ∀ e, f_M_moments_157 rec69 rec K t e u w F B = rec (t + 1) e u w F (zup4 B 13 w 75 (4 * t + u) e) := fun e => by
    unfold f_M_moments_157
    rw [if_pos w0, if_pos (by omega)]
  intro d
  induction d with
  | zero =>
    intro n e e0 ed le hn
    obtain ⟨n, rfl⟩ : ∃ j, n = j + 1 := ⟨n - 1, by omega⟩
    rw [f_M_moments_91, if_pos w0, if_pos (by omega), if_pos (by unfold r32; omega), r1, if_pos (by unfold r32; omega), if_pos (by omega), h157]
    exact ⟨e, rfl, ⟨e0, by omega⟩, le, fun z => by omega⟩
  | succ d ih =>
    intro n e e0 ed le hn
    obtain ⟨n, rfl⟩ : ∃ j, n = j + 1 := ⟨n - 1, by omega⟩
    obtain ⟨x1, x2, _⟩ := r2 (e + 1) (by omega) (by omega)
    obtain ⟨y0, y1⟩ := (g3 (e + 1) (by omega) (by omega)).1
    rw [f_M_moments_91, if_pos w0, if_pos (by omega), if_pos (by unfold r32; omega), r1, if_pos (by unfold r32; omega), if_neg (by omega), if_pos (by omega), if_pos (by omega), show 1000 * u + e + 1 = 1000 * u + (e + 1) by omega, x1, x2, k1, k2, L_cmpR hK (FR_r y0) (FR_r q0) (by omega) (by omega), zb_s, if_pos cmp3.1]
    by_cases z : 0 < (if S u 1 (e + 1) 0 < T t then (-1 : Int) else if S u 1 (e + 1) 0 = T t then 0 else 1)
    · have l : ¬ S u 1 (e + 1) 0 ≤ T t := fun k => by have := cmp3.2.mpr k; omega
      rw [if_pos z, h157]
      exact ⟨e, rfl, ⟨e0, by omega⟩, le, fun _ => by omega⟩
    · have l : S u 1 (e + 1) 0 ≤ T t := cmp3.2.mp (by omega)
      rw [if_neg z]
      exact ih n (e + 1) (by omega) (by omega) l (by omega)
theorem x_mts82 {u c : Int} {T : Int → Int} {F : zF} {B0 : zB} {rec : Int → Int → zF → zB → zO} (hK : 812851200 < K) (hS : SG V S) (hR0 : SRm V w S F B0) (u0 : 0 ≤ u) (u1 : u < V) (h72 : F 13 w 72 = c) (c8 : 0 ≤ c ∧ c ≤ 800) (hT : TR w c T B0) (hI : SI c T) : ∀ (d n : Nat) (t e : Int) (B : zB), m75 w B0 B → LJ w S c T u t B → 0 ≤ t → t + d = c → (0 ≤ e ∧ e < S u 0 0 0) → (0 < d → S u 1 e 0 ≤ T t) → d < n → ∃ B', f_M_moments_82 rec K n t e u w F B = rec (u + 1) w F B' ∧ m75 w B0 B' ∧ LJ w S c T (u + 1) 0 B' := by
  have w0 := hR0.1
  have v4 := hS.1
  have g1 := (hS.2 u u0 u1).1
  intro d
  induction d with
  | zero =>
    intro n t e B z hL t0 td e0 le hn
    obtain ⟨n, rfl⟩ : ∃ j, n = j + 1 := ⟨n - 1, by omega⟩
    rw [f_M_moments_82, if_pos w0, if_pos (by unfold r32; omega), h72, if_pos (by unfold r32; omega), if_pos (by omega)]
    exact ⟨B, rfl, z, fun u' t' a0 a1 a2 a3 a4 => hL u' t' a0 a1 a2 a3 (by omega)⟩
  | succ d ih =>
    intro n t e B z hL t0 td e0 le hn
    obtain ⟨n, rfl⟩ : ∃ j, n = j + 1 := ⟨n - 1, by omega⟩
    have hR : SRm V w S F B := SRm_f hR0 rfl (fun k x hk => z 13 w k x (by omega))
    have hT' : TR w c T B := TR_f hT (fun k x hk => z 13 w k x (by omega))
    obtain ⟨e', x1, x2, x3, x4⟩ := x_mts91 (rec69 := rec) (rec := f_M_moments_82 rec K n) hK hS hR u0 u1 t0 (show t < c by omega) c8.2 hT' (S u 0 0 0 - e - 1).toNat K e e0.1 (by omega) (le (by omega)) (by omega)
    rw [f_M_moments_82, if_pos w0, if_pos (by unfold r32; omega), h72, if_pos (by unfold r32; omega), if_neg (by omega), x1]
    refine ih n (t + 1) e' _ (fun c i k x nn => by rw [zup4_v, if_neg (by omega)]; exact z c i k x nn) (fun u' t' a0 a1 a2 a3 a4 => ?_) (by omega) (by omega) x2 (fun zd => ?_) (by omega)
    · by_cases q : u' = u ∧ t' = t
      · rw [q.1, q.2, show (zup4 B 13 w 75 (4 * t + u) e') 13 w 75 (4 * t + u) = e' by rw [zup4_v, if_pos ⟨rfl, rfl, rfl, rfl⟩]]
        exact ⟨x2, x3, x4⟩
      · rw [show (zup4 B 13 w 75 (4 * t + u) e') 13 w 75 (4 * t' + u') = B 13 w 75 (4 * t' + u') by rw [zup4_v, if_neg (by omega)]]
        exact hL u' t' a0 a1 a2 a3 (by omega)
    · have := hI t t0 (by omega)
      omega
theorem x_mts69 {c : Int} {T : Int → Int} {F : zF} {B0 : zB} (hK : 812851200 < K) (hS : SG V S) (hR0 : SRm V w S F B0) (h72 : F 13 w 72 = c) (c8 : 0 ≤ c ∧ c ≤ 800) (hT : TR w c T B0) (hI : SI c T) : ∀ (d n : Nat) (u : Int) (B : zB), m75 w B0 B → LJ w S c T u 0 B → 0 ≤ u → u + d = V → d < n → ∃ B', f_M_moments_69 K n u w F B = some (0, F, B') ∧ m75 w B0 B' ∧ LJ w S c T V 0 B' := by
  have w0 := hR0.1
  have h1 := hR0.2.1
  have v4 := hS.1
  intro d
  induction d with
  | zero =>
    intro n u B z hL u0 ud hn
    obtain ⟨n, rfl⟩ : ∃ j, n = j + 1 := ⟨n - 1, by omega⟩
    obtain rfl : u = V := by omega
    rw [f_M_moments_69, if_pos w0, if_pos (by unfold r32; omega), h1, if_pos (by unfold r32; omega), if_pos (by omega)]
    exact ⟨B, rfl, z, hL⟩
  | succ d ih =>
    intro n u B z hL u0 ud hn
    obtain ⟨n, rfl⟩ : ∃ j, n = j + 1 := ⟨n - 1, by omega⟩
    have u1 : u < V := by omega
    obtain ⟨g1, g2, _⟩ := hS.2 u u0 u1
    have hR : SRm V w S F B := SRm_f hR0 rfl (fun k x hk => z 13 w k x (by omega))
    have hT' : TR w c T B := TR_f hT (fun k x hk => z 13 w k x (by omega))
    obtain ⟨B1, x1, x2, x3⟩ := x_mts82 (rec := f_M_moments_69 K n) hK hS hR u0 u1 h72 c8 hT' hI c.toNat K 0 0 B (fun _ _ _ _ _ => rfl) hL (by decide) (by omega) (by omega) (fun zd => by rw [g2]; exact (hT' 0 (by decide) (by omega)).1.1) (by omega)
    rw [f_M_moments_69, if_pos w0, if_pos (by unfold r32; omega), h1, if_pos (by unfold r32; omega), if_neg (by omega), x1]
    exact ih n (u + 1) B1 (fun c i k x nn => by rw [x2 c i k x nn, z c i k x nn]) x3 (by omega) (by omega) (by omega)
/-- the reference's moments, exactly -/
def MXo (V w : Int) (S : zV) (T : Int → Int) (F : zF) (B : zB) : Prop := TR w (F 13 w 72) T B ∧ MO V S (F 13 w 72) T ∧ LI V S (F 13 w 72) T (fun u t => B 13 w 75 (4 * t + u))
theorem MXo_f {T : Int → Int} {F F' : zF} {B B' : zB} (h : MXo V w S T F B) (f : F' 13 w 72 = F 13 w 72) (b : ∀ k x, 73 ≤ k → k ≤ 75 → B' 13 w k x = B 13 w k x) : MXo V w S T F' B' := by
  obtain ⟨h1, h2, h3⟩ := h
  unfold MXo
  rw [f]
  refine ⟨TR_f h1 (fun k x hk => b k x (by omega) (by omega)), h2, fun u t u0 u1 t0 t1 => ?_⟩
  have := h3 u t u0 u1 t0 t1
  simp only [b 75 _ (by decide) (by decide)]
  exact this
theorem x_moments {F : zF} {B : zB} (hK : 812851200 < K) (hS : SG V S) (hR : SRm V w S F B) : ∃ F' B' T, f_M_moments K w F B = some (0, F', B') ∧ MF w F F' ∧ MZ w B B' ∧ MXo V w S T F' B' := by
  have w0 := hR.1
  have v4 := hS.1
  have e : (zup3 F 13 w 72 0) 13 w 72 = 0 := by rw [zup3_v, if_pos ⟨rfl, rfl, rfl⟩]
  have f : MF w F (zup3 F 13 w 72 0) := fun c i k nn => by rw [zup3_v, if_neg nn]
  obtain ⟨F1, B1, x1, x2, x3, x4, T, x5, x6, x7⟩ := x_mts7 hK hS hR V.toNat K 0 (zup3 F 13 w 72 0) B ⟨f, fun _ _ _ _ _ => rfl, by omega, fun _ => 0, fun t t0 t1 => by omega, fun t t0 t1 => by omega, fun x => ⟨fun ⟨t, t0, t1, _⟩ => by omega, fun ⟨u', i', a0, a1, a2, a3, a4⟩ => by omega⟩⟩ (by decide) (by omega) (by omega)
  have hR1 : SRm V w S F1 B1 := SRm_f hR (x2 13 w 1 (by omega)) (fun k x hk => x3 13 w k x (by omega))
  obtain ⟨B2, y1, y2, y3⟩ := x_mts69 hK hS hR1 rfl (by omega) x5 x6 V.toNat K 0 B1 (fun _ _ _ _ _ => rfl) (fun u' t' a0 a1 a2 a3 a4 => by omega) (by decide) (by omega) (by omega)
  refine ⟨F1, B2, T, ?_, x2, fun c i k x nn => by rw [y2 c i k x (by omega), x3 c i k x nn], TR_f x5 (fun k x hk => y2 13 w k x (by omega)), ⟨by omega, x6, RS_c x7 (fun x => ⟨?_, ?_⟩)⟩, fun u t u0 u1 t0 t1 => y3 u t u0 (by omega) t0 t1 (Or.inl u1)⟩
  · unfold f_M_moments
    rw [if_pos w0, x1, y1]
  · rintro ⟨u', i', a0, a1, a2, a3, a4⟩
    exact ⟨u', i', a0, by omega, a1, a2, a4⟩
  · rintro ⟨u', i', a0, a1, a2, a3, a4⟩
    exact ⟨u', i', a0, a2, a3, Or.inl a1, a4⟩
end
end
section
section
/-! ===== faults between voices, reference ===== -/
theorem s_tone {K : Nat} {s a : Int} {F : zF} {B : zB} (s0 : 0 ≤ s) (s1 : s ≤ 62) (a0 : -2 ≤ a) (a1 : a ≤ 2) : zS (f_M_tone K s a F B) (fun r F' B' => F' = F ∧ B' = B ∧ 9 ≤ r ∧ r ≤ 130) := by
  rw [L_tone s0 (by omega)]
  exact zS_s ⟨rfl, rfl, by split <;> omega, by split <;> omega⟩
theorem s_mod {K : Nat} {a b : Int} {F : zF} {B : zB} (ha : r32 a) (hb : 0 < b) (hb2 : b ≤ 1000) : zS (f_M_mod K a b F B) (fun r F' B' => F' = F ∧ B' = B ∧ 0 ≤ r ∧ r < b) := by
  rw [L_mod ha hb (by unfold r32; omega)]
  exact zS_s ⟨rfl, rfl, Int.emod_nonneg _ (by omega), Int.emod_lt_of_pos _ hb⟩
/-- a slot that holds a pitch, or none -/
def PV (w : Int) (B : zB) (r : Int) : Prop := -1 ≤ r ∧ r < 24000 ∧ (0 ≤ r → (0 ≤ B 13 w 28 r ∧ B 13 w 28 r ≤ 62) ∧ (-2 ≤ B 13 w 29 r ∧ B 13 w 29 r ≤ 2))
theorem s_lnOf7 {K : Nat} {V w u : Int} {F : zF} {B : zB} (hR : RDW V w F B) (u0 : 0 ≤ u) (u1 : u < V) {x : Int} (x0 : 1000 * u ≤ x) (x1 : x < 1000 * u + B 13 w 12 u) : ∀ (n : Nat) (l m : Int), 6 * x ≤ l → l ≤ 6 * x + B 13 w 21 x → (m = -1 ∨ (6 * x ≤ m ∧ m < l)) → 6 * x + B 13 w 21 x - l < n → zS (f_M_lineOf_7 K n l m w x F B) (fun r F' B' => F' = F ∧ B' = B ∧ (r = -1 ∨ (6 * x ≤ r ∧ r < 6 * x + B 13 w 21 x))) := by
  intro n
  induction n with
  | zero => intro l m l0 l1 hm hk; exfalso; omega
  | succ n ih =>
    intro l m l0 l1 hm hk
    have b0 := rd_0 hR
    have bv := rd_v hR u0 u1
    have be := rd_e hR u0 u1 x0 x1
    rw [f_M_lineOf_7]
    refine zS_g (by omega) ?_ -- 1
    refine zS_g (by omega) ?_ -- 2
    refine zS_g (by unfold r32; omega) ?_ -- 3
    refine zS_g (by unfold r32; omega) ?_ -- 4
    refine zS_i (fun h1 => ?_) (fun h1 => ?_) -- 5: (((6 * x) + (B 13 w 21 x)) ≤ l)
    · exact zS_s ⟨rfl, rfl, by omega⟩
    · refine zS_g (by unfold r32; omega) ?_ -- 7
      refine zS_i (fun h2 => ?_) (fun h2 => ?_) -- 8: (m < 0)
      · unfold f_M_lineOf_59
        unfold f_M_lineOf_61
        exact ih _ _ (by omega) (by omega) (by omega) (by omega) -- 11 f_M_lineOf_7
      · refine zS_g (by omega) ?_ -- 12
        have a3 := rd_p (u := u) (x := x) (k := l - 6 * x) hR u0 u1 x0 x1 (by omega) (by omega)
        have a3e : 6 * x + (l - 6 * x) = l := by omega
        rw [a3e] at a3
        refine zS_b (s_tone (K := K) (s := (B 13 w 28 l)) (a := (B 13 w 29 l)) (by omega) (by omega) (by omega) (by omega)) ?_
        rintro o5 F B ⟨rfl, rfl, q4⟩
        refine zS_g (by omega) ?_ -- 14
        have a7 := rd_p (u := u) (x := x) (k := m - 6 * x) hR u0 u1 x0 x1 (by omega) (by omega)
        have a7e : 6 * x + (m - 6 * x) = m := by omega
        rw [a7e] at a7
        refine zS_b (s_tone (K := K) (s := (B 13 w 28 m)) (a := (B 13 w 29 m)) (by omega) (by omega) (by omega) (by omega)) ?_
        rintro o9 F B ⟨rfl, rfl, q8⟩
        refine zS_g (by unfold r32; omega) ?_ -- 16
        refine zS_g (by unfold r32; omega) ?_ -- 17
        refine zS_i (fun h11 => ?_) (fun h11 => ?_) -- 18: (o5 < o9)
        · unfold f_M_lineOf_61
          exact ih _ _ (by omega) (by omega) (by omega) (by omega) -- 20 f_M_lineOf_7
        · unfold f_M_lineOf_59
          unfold f_M_lineOf_61
          exact ih _ _ (by omega) (by omega) (by omega) (by omega) -- 23 f_M_lineOf_7
theorem s_lineOf {K : Nat} {V w u : Int} {F : zF} {B : zB} (hR : RDW V w F B) (u0 : 0 ≤ u) (u1 : u < V) {x : Int} (x0 : 1000 * u ≤ x) (x1 : x < 1000 * u + B 13 w 12 u) (hK : 1000 ≤ K) : zS (f_M_lineOf K w x F B) (fun r F' B' => F' = F ∧ B' = B ∧ PV w B r) := by
  have be := rd_e hR u0 u1 x0 x1
  have b0 := rd_0 hR
  have bv := rd_v hR u0 u1
  refine zS_m (s_lnOf7 hR u0 u1 x0 x1 K (6 * x) (-1) (Int.le_refl _) (by omega) (Or.inl rfl) (by omega)) ?_
  rintro r F' B' ⟨e1, e2, h⟩
  refine ⟨e1, e2, by omega, by omega, fun r0 => ?_⟩
  have := rd_p (x := x) (k := r - 6 * x) hR u0 u1 x0 x1 (by omega) (by omega)
  rw [show 6 * x + (r - 6 * x) = r by omega] at this
  exact this
/-- moments that stand -/
def MW5 (V w : Int) (F : zF) (B : zB) : Prop := (0 ≤ F 13 w 72 ∧ F 13 w 72 ≤ 800) ∧ (∀ x, 0 ≤ x → x < F 13 w 72 → MP w B x) ∧ ∀ u t, 0 ≤ u → u < V → 0 ≤ t → t < F 13 w 72 → 0 ≤ B 13 w 75 (4 * t + u) ∧ B 13 w 75 (4 * t + u) < B 13 w 12 u
theorem s_lineAt {K : Nat} {V w : Int} {F : zF} {B : zB} (hR : RDW V w F B) (hM : MW5 V w F B) (hK : 1000 ≤ K) {t u : Int} (t0 : 0 ≤ t) (t1 : t < F 13 w 72) (u0 : 0 ≤ u) (u1 : u < V) : zS (f_M_lineAt K w t u F B) (fun r F' B' => F' = F ∧ B' = B ∧ PV w B r) := by
  have b0 := rd_0 hR
  have m0 := hM.1
  have bv := rd_v hR u0 u1
  unfold f_M_lineAt
  refine zS_g (by omega) ?_ -- 1
  refine zS_g (by omega) ?_ -- 2
  have a1 := hM.2.2 u t (by omega) (by omega) (by omega) (by omega)
  refine zS_b (s_lineOf (K := K) (u := u) (x := ((1000 * u) + (B 13 w 75 ((4 * t) + u)))) hR (by omega) (by omega) (by omega) (by omega) hK) ?_
  rintro o3 F B ⟨rfl, rfl, q2⟩
  exact zS_s ⟨rfl, rfl, by assumption⟩
theorem s_beginsAt {K : Nat} {V w : Int} {F : zF} {B : zB} (hR : RDW V w F B) (hM : MW5 V w F B) (hK : 1000 ≤ K) {t u : Int} (t0 : 0 ≤ t) (t1 : t < F 13 w 72) (u0 : 0 ≤ u) (u1 : u < V) (t2 : 1 ≤ t) : zS (f_M_beginsAt K w t u F B) (fun r F' B' => F' = F ∧ B' = B ∧ (r = 0 ∨ r = 1)) := by
  have b0 := rd_0 hR
  have m0 := hM.1
  have bv := rd_v hR u0 u1
  unfold f_M_beginsAt
  refine zS_g (by omega) ?_ -- 1
  refine zS_g (by omega) ?_ -- 2
  refine zS_g (by omega) ?_ -- 3
  have a1 := hM.2.2 u t (by omega) (by omega) (by omega) (by omega)
  refine zS_g (by unfold r32; omega) ?_ -- 4
  have a2 := hM.2.2 u (t - 1) (by omega) (by omega) (by omega) (by omega)
  refine zS_g (by unfold r32; omega) ?_ -- 5
  refine zS_i (fun h3 => ?_) (fun h3 => ?_) -- 6: ((B 13 w 75 ((4 * t) + u)) = (B 13 w 75 ((4 * (t - 1)) + u)))
  · unfold f_M_beginsAt_30
    refine zS_g (by omega) ?_ -- 8
    exact zS_s ⟨rfl, rfl, by omega⟩
  · unfold f_M_beginsAt_30
    refine zS_g (by omega) ?_ -- 11
    exact zS_s ⟨rfl, rfl, by omega⟩
theorem s_toneAt {K : Nat} {w z : Int} {F : zF} {B : zB} (w0 : 0 ≤ w ∧ w < 3) (hz : PV w B z) (z0 : 0 ≤ z) : zS (f_M_toneAt K w z F B) (fun r F' B' => F' = F ∧ B' = B ∧ (9 ≤ r ∧ r ≤ 130)) := by
  obtain ⟨z1, z2, z3⟩ := hz
  unfold f_M_toneAt
  refine zS_g (by omega) ?_ -- 1
  refine zS_g (by omega) ?_ -- 2
  refine zS_b (s_tone (K := K) (s := (B 13 w 28 z)) (a := (B 13 w 29 z)) (by omega) (by omega) (by omega) (by omega)) ?_
  rintro o2 F B ⟨rfl, rfl, q1⟩
  exact zS_s ⟨rfl, rfl, by omega⟩
theorem s_isPlainStep {K : Nat} {a b : Int} {F : zF} {B : zB} (ra : r32 a) (rb : r32 b) : zS (f_M_isPlainStep K a b F B) (fun r F' B' => F' = F ∧ B' = B ∧ (r = 0 ∨ r = 1)) := by
  unfold f_M_isPlainStep
  refine zS_g (by unfold r32; omega) ?_ -- 1
  refine zS_i (fun h1 => ?_) (fun h1 => ?_) -- 2: (a = 0)
  · refine zS_g (by unfold r32; omega) ?_ -- 3
    refine zS_i (fun h2 => ?_) (fun h2 => ?_) -- 4: (b = 0)
    · unfold f_M_isPlainStep_13
      refine zS_g (by omega) ?_ -- 6
      exact zS_s ⟨rfl, rfl, by omega⟩
    · unfold f_M_isPlainStep_13
      refine zS_g (by omega) ?_ -- 9
      exact zS_s ⟨rfl, rfl, by omega⟩
  · refine zS_i (fun h3 => ?_) (fun h3 => ?_) -- 11: (a = 1)
    · refine zS_g (by unfold r32; omega) ?_ -- 12
      refine zS_i (fun h4 => ?_) (fun h4 => ?_) -- 13: (b = 1)
      · unfold f_M_isPlainStep_29
        unfold f_M_isPlainStep_34
        refine zS_g (by omega) ?_ -- 16
        exact zS_s ⟨rfl, rfl, by omega⟩
      · refine zS_i (fun h5 => ?_) (fun h5 => ?_) -- 18: (b = 2)
        · unfold f_M_isPlainStep_29
          unfold f_M_isPlainStep_34
          refine zS_g (by omega) ?_ -- 21
          exact zS_s ⟨rfl, rfl, by omega⟩
        · unfold f_M_isPlainStep_34
          refine zS_g (by omega) ?_ -- 24
          exact zS_s ⟨rfl, rfl, by omega⟩
    · refine zS_i (fun h6 => ?_) (fun h6 => ?_) -- 26: (a = 2)
      · refine zS_g (by unfold r32; omega) ?_ -- 27
        refine zS_i (fun h7 => ?_) (fun h7 => ?_) -- 28: (b = 3)
        · unfold f_M_isPlainStep_50
          unfold f_M_isPlainStep_55
          refine zS_g (by omega) ?_ -- 31
          exact zS_s ⟨rfl, rfl, by omega⟩
        · refine zS_i (fun h8 => ?_) (fun h8 => ?_) -- 33: (b = 4)
          · unfold f_M_isPlainStep_50
            unfold f_M_isPlainStep_55
            refine zS_g (by omega) ?_ -- 36
            exact zS_s ⟨rfl, rfl, by omega⟩
          · unfold f_M_isPlainStep_55
            refine zS_g (by omega) ?_ -- 39
            exact zS_s ⟨rfl, rfl, by omega⟩
      · refine zS_i (fun h9 => ?_) (fun h9 => ?_) -- 41: (a = 3)
        · refine zS_g (by unfold r32; omega) ?_ -- 42
          refine zS_i (fun h10 => ?_) (fun h10 => ?_) -- 43: (b = 5)
          · unfold f_M_isPlainStep_71
            refine zS_g (by omega) ?_ -- 45
            exact zS_s ⟨rfl, rfl, by omega⟩
          · unfold f_M_isPlainStep_71
            refine zS_g (by omega) ?_ -- 48
            exact zS_s ⟨rfl, rfl, by omega⟩
        · refine zS_i (fun h11 => ?_) (fun h11 => ?_) -- 50: (a = 4)
          · refine zS_g (by unfold r32; omega) ?_ -- 51
            refine zS_i (fun h12 => ?_) (fun h12 => ?_) -- 52: (b = 7)
            · unfold f_M_isPlainStep_88
              refine zS_g (by omega) ?_ -- 54
              exact zS_s ⟨rfl, rfl, by omega⟩
            · unfold f_M_isPlainStep_88
              refine zS_g (by omega) ?_ -- 57
              exact zS_s ⟨rfl, rfl, by omega⟩
          · refine zS_i (fun h13 => ?_) (fun h13 => ?_) -- 59: (a = 5)
            · refine zS_g (by unfold r32; omega) ?_ -- 60
              refine zS_i (fun h14 => ?_) (fun h14 => ?_) -- 61: (b = 8)
              · unfold f_M_isPlainStep_106
                unfold f_M_isPlainStep_131
                refine zS_g (by omega) ?_ -- 64
                exact zS_s ⟨rfl, rfl, by omega⟩
              · refine zS_i (fun h15 => ?_) (fun h15 => ?_) -- 66: (b = 9)
                · unfold f_M_isPlainStep_106
                  unfold f_M_isPlainStep_131
                  refine zS_g (by omega) ?_ -- 69
                  exact zS_s ⟨rfl, rfl, by omega⟩
                · unfold f_M_isPlainStep_131
                  refine zS_g (by omega) ?_ -- 72
                  exact zS_s ⟨rfl, rfl, by omega⟩
            · refine zS_g (by unfold r32; omega) ?_ -- 74
              refine zS_i (fun h16 => ?_) (fun h16 => ?_) -- 75: (b = 10)
              · unfold f_M_isPlainStep_126
                unfold f_M_isPlainStep_131
                refine zS_g (by omega) ?_ -- 78
                exact zS_s ⟨rfl, rfl, by omega⟩
              · refine zS_i (fun h17 => ?_) (fun h17 => ?_) -- 80: (b = 11)
                · unfold f_M_isPlainStep_126
                  unfold f_M_isPlainStep_131
                  refine zS_g (by omega) ?_ -- 83
                  exact zS_s ⟨rfl, rfl, by omega⟩
                · unfold f_M_isPlainStep_131
                  refine zS_g (by omega) ?_ -- 86
                  exact zS_s ⟨rfl, rfl, by omega⟩
theorem s_isOver {K : Nat} {w y z : Int} {F : zF} {B : zB} (b0 : (0 ≤ w ∧ w < 3) ∧ True) (vy : PV w B y) (vz : PV w B z) : zS (f_M_isOver K w y z F B) (fun r F' B' => F' = F ∧ B' = B ∧ (r = 0 ∨ r = 1)) := by
  have vy1 := vy.1
  have vy2 := vy.2.1
  have vz1 := vz.1
  have vz2 := vz.2.1
  unfold f_M_isOver
  refine zS_g (by unfold r32; omega) ?_ -- 1
  refine zS_i (fun h1 => ?_) (fun h1 => ?_) -- 2: (y < 0)
  · unfold f_M_isOver_25
    unfold f_M_isOver_26
    refine zS_g (by omega) ?_ -- 5
    exact zS_s ⟨rfl, rfl, by omega⟩
  · refine zS_g (by unfold r32; omega) ?_ -- 7
    refine zS_i (fun h2 => ?_) (fun h2 => ?_) -- 8: (z < 0)
    · unfold f_M_isOver_25
      unfold f_M_isOver_26
      refine zS_g (by omega) ?_ -- 11
      exact zS_s ⟨rfl, rfl, by omega⟩
    · refine zS_b (s_toneAt (K := K) b0.1 vz (by omega)) ?_
      rintro o4 F B ⟨rfl, rfl, q3⟩
      refine zS_b (s_toneAt (K := K) b0.1 vy (by omega)) ?_
      rintro o7 F B ⟨rfl, rfl, q6⟩
      refine zS_g (by unfold r32; omega) ?_ -- 15
      refine zS_g (by unfold r32; omega) ?_ -- 16
      refine zS_i (fun h9 => ?_) (fun h9 => ?_) -- 17: (o4 ≤ o7)
      · unfold f_M_isOver_25
        unfold f_M_isOver_26
        refine zS_g (by omega) ?_ -- 20
        exact zS_s ⟨rfl, rfl, by omega⟩
      · unfold f_M_isOver_26
        refine zS_g (by omega) ?_ -- 23
        exact zS_s ⟨rfl, rfl, by omega⟩
theorem s_isAlone {K : Nat} {V w : Int} {F : zF} {B : zB} (hR : RDW V w F B) (hM : MW5 V w F B) (hK : 1000 ≤ K) {t : Int} (t0 : 1 ≤ t) (t1 : t < F 13 w 72) {u k : Int} (u0 : 0 ≤ u) (u1 : u < V) (rk : r32 k) : zS (f_M_isAlone K w t k u F B) (fun r F' B' => F' = F ∧ B' = B ∧ (r = 0 ∨ r = 1)) := by
  have b0 := rd_0 hR
  have m0 := hM.1
  unfold f_M_isAlone
  refine zS_b (s_lineAt (K := K) (t := t) (u := u) hR hM hK (by omega) (by omega) (by omega) (by omega)) ?_
  rintro o2 F B ⟨rfl, rfl, v1⟩
  have vo2 := v1
  obtain ⟨v1a, v1b, v1c⟩ := v1
  refine zS_b (s_lineAt (K := K) (t := (t - 1)) (u := u) hR hM hK (by omega) (by omega) (by omega) (by omega)) ?_
  rintro o5 F B ⟨rfl, rfl, v4⟩
  have vo5 := v4
  obtain ⟨v4a, v4b, v4c⟩ := v4
  refine zS_g (by unfold r32; omega) ?_ -- 3
  refine zS_i (fun h7 => ?_) (fun h7 => ?_) -- 4: (o2 < 0)
  · unfold f_M_isAlone_37
    exact zS_s ⟨rfl, rfl, by omega⟩
  · refine zS_g (by unfold r32; omega) ?_ -- 7
    refine zS_i (fun h8 => ?_) (fun h8 => ?_) -- 8: (o5 < 0)
    · unfold f_M_isAlone_37
      exact zS_s ⟨rfl, rfl, by omega⟩
    · refine zS_b (s_beginsAt (K := K) (t := t) (u := u) hR hM hK (by omega) (by omega) (by omega) (by omega) (by omega)) ?_
      rintro o10 F B ⟨rfl, rfl, q9⟩
      refine zS_g (by unfold r32; omega) ?_ -- 12
      refine zS_i (fun h12 => ?_) (fun h12 => ?_) -- 13: (o10 = 0)
      · unfold f_M_isAlone_37
        exact zS_s ⟨rfl, rfl, by omega⟩
      · refine zS_g (by omega) ?_ -- 16
        refine zS_g (by omega) ?_ -- 17
        refine zS_g (by omega) ?_ -- 18
        refine zS_g (by unfold r32; omega) ?_ -- 19
        refine zS_i (fun h13 => ?_) (fun h13 => ?_) -- 20: (0 ≤ ((B 13 w 28 o2) - (B 13 w 28 o5)))
        · unfold f_M_isAlone_69
          refine zS_g (by unfold r32; omega) ?_ -- 22
          refine zS_i (fun h14 => ?_) (fun h14 => ?_) -- 23: (k = 5)
          · refine zS_g (by unfold r32; omega) ?_ -- 24
            refine zS_i (fun h15 => ?_) (fun h15 => ?_) -- 25: (((B 13 w 28 o2) - (B 13 w 28 o5)) ≤ 7)
            · unfold f_M_isAlone_88
              refine zS_g (by omega) ?_ -- 27
              exact zS_s ⟨rfl, rfl, by omega⟩
            · unfold f_M_isAlone_88
              refine zS_g (by omega) ?_ -- 30
              exact zS_s ⟨rfl, rfl, by omega⟩
          · refine zS_b (s_toneAt (K := K) b0.1 vo2 (by omega)) ?_
            rintro o17 F B ⟨rfl, rfl, q16⟩
            refine zS_b (s_toneAt (K := K) b0.1 vo5 (by omega)) ?_
            rintro o20 F B ⟨rfl, rfl, q19⟩
            refine zS_g (by unfold r32; omega) ?_ -- 34
            refine zS_i (fun h22 => ?_) (fun h22 => ?_) -- 35: (((B 13 w 28 o2) - (B 13 w 28 o5)) < 0)
            · unfold f_M_isAlone_119
              unfold f_M_isAlone_127
              refine zS_b (s_mod (K := K) (a := (-(o17 - o20))) (b := 12) (by unfold r32; omega) (by decide) (by decide)) ?_
              rintro o24 F B ⟨rfl, rfl, q23⟩
              have z26 := zrm_R ((B 13 w 28 o2) - (B 13 w 28 o5)) 7
              refine zS_b (s_isPlainStep (K := K) (a := (zrm ((B 13 w 28 o2) - (B 13 w 28 o5)) 7)) (b := o24) (by first | exact zrm_R _ _ | (unfold r32; omega)) (by unfold r32; omega)) ?_
              rintro o28 F B ⟨rfl, rfl, q27⟩
              refine zS_g (by unfold r32; omega) ?_ -- 40
              refine zS_i (fun h30 => ?_) (fun h30 => ?_) -- 41: (o28 = 0)
              · unfold f_M_isAlone_152
                refine zS_g (by omega) ?_ -- 43
                exact zS_s ⟨rfl, rfl, by omega⟩
              · unfold f_M_isAlone_152
                refine zS_g (by omega) ?_ -- 46
                exact zS_s ⟨rfl, rfl, by omega⟩
            · refine zS_i (fun h31 => ?_) (fun h31 => ?_) -- 48: (((B 13 w 28 o2) - (B 13 w 28 o5)) = 0)
              · refine zS_g (by unfold r32; omega) ?_ -- 49
                refine zS_i (fun h32 => ?_) (fun h32 => ?_) -- 50: (0 ≤ (o17 - o20))
                · unfold f_M_isAlone_125
                  unfold f_M_isAlone_127
                  refine zS_b (s_mod (K := K) (a := (o17 - o20)) (b := 12) (by unfold r32; omega) (by decide) (by decide)) ?_
                  rintro o34 F B ⟨rfl, rfl, q33⟩
                  have z36 := zrm_R ((B 13 w 28 o2) - (B 13 w 28 o5)) 7
                  refine zS_b (s_isPlainStep (K := K) (a := (zrm ((B 13 w 28 o2) - (B 13 w 28 o5)) 7)) (b := o34) (by first | exact zrm_R _ _ | (unfold r32; omega)) (by unfold r32; omega)) ?_
                  rintro o38 F B ⟨rfl, rfl, q37⟩
                  refine zS_g (by unfold r32; omega) ?_ -- 55
                  refine zS_i (fun h40 => ?_) (fun h40 => ?_) -- 56: (o38 = 0)
                  · unfold f_M_isAlone_152
                    refine zS_g (by omega) ?_ -- 58
                    exact zS_s ⟨rfl, rfl, by omega⟩
                  · unfold f_M_isAlone_152
                    refine zS_g (by omega) ?_ -- 61
                    exact zS_s ⟨rfl, rfl, by omega⟩
                · unfold f_M_isAlone_119
                  unfold f_M_isAlone_127
                  refine zS_b (s_mod (K := K) (a := (-(o17 - o20))) (b := 12) (by unfold r32; omega) (by decide) (by decide)) ?_
                  rintro o42 F B ⟨rfl, rfl, q41⟩
                  have z44 := zrm_R ((B 13 w 28 o2) - (B 13 w 28 o5)) 7
                  refine zS_b (s_isPlainStep (K := K) (a := (zrm ((B 13 w 28 o2) - (B 13 w 28 o5)) 7)) (b := o42) (by first | exact zrm_R _ _ | (unfold r32; omega)) (by unfold r32; omega)) ?_
                  rintro o46 F B ⟨rfl, rfl, q45⟩
                  refine zS_g (by unfold r32; omega) ?_ -- 67
                  refine zS_i (fun h48 => ?_) (fun h48 => ?_) -- 68: (o46 = 0)
                  · unfold f_M_isAlone_152
                    refine zS_g (by omega) ?_ -- 70
                    exact zS_s ⟨rfl, rfl, by omega⟩
                  · unfold f_M_isAlone_152
                    refine zS_g (by omega) ?_ -- 73
                    exact zS_s ⟨rfl, rfl, by omega⟩
              · unfold f_M_isAlone_125
                unfold f_M_isAlone_127
                refine zS_b (s_mod (K := K) (a := (o17 - o20)) (b := 12) (by unfold r32; omega) (by decide) (by decide)) ?_
                rintro o50 F B ⟨rfl, rfl, q49⟩
                have z52 := zrm_R ((B 13 w 28 o2) - (B 13 w 28 o5)) 7
                refine zS_b (s_isPlainStep (K := K) (a := (zrm ((B 13 w 28 o2) - (B 13 w 28 o5)) 7)) (b := o50) (by first | exact zrm_R _ _ | (unfold r32; omega)) (by unfold r32; omega)) ?_
                rintro o54 F B ⟨rfl, rfl, q53⟩
                refine zS_g (by unfold r32; omega) ?_ -- 79
                refine zS_i (fun h56 => ?_) (fun h56 => ?_) -- 80: (o54 = 0)
                · unfold f_M_isAlone_152
                  refine zS_g (by omega) ?_ -- 82
                  exact zS_s ⟨rfl, rfl, by omega⟩
                · unfold f_M_isAlone_152
                  refine zS_g (by omega) ?_ -- 85
                  exact zS_s ⟨rfl, rfl, by omega⟩
        · unfold f_M_isAlone_69
          refine zS_g (by unfold r32; omega) ?_ -- 88
          refine zS_i (fun h57 => ?_) (fun h57 => ?_) -- 89: (k = 5)
          · refine zS_g (by unfold r32; omega) ?_ -- 90
            refine zS_i (fun h58 => ?_) (fun h58 => ?_) -- 91: ((-((B 13 w 28 o2) - (B 13 w 28 o5))) ≤ 7)
            · unfold f_M_isAlone_88
              refine zS_g (by omega) ?_ -- 93
              exact zS_s ⟨rfl, rfl, by omega⟩
            · unfold f_M_isAlone_88
              refine zS_g (by omega) ?_ -- 96
              exact zS_s ⟨rfl, rfl, by omega⟩
          · refine zS_b (s_toneAt (K := K) b0.1 vo2 (by omega)) ?_
            rintro o60 F B ⟨rfl, rfl, q59⟩
            refine zS_b (s_toneAt (K := K) b0.1 vo5 (by omega)) ?_
            rintro o63 F B ⟨rfl, rfl, q62⟩
            refine zS_g (by unfold r32; omega) ?_ -- 100
            refine zS_i (fun h65 => ?_) (fun h65 => ?_) -- 101: (((B 13 w 28 o2) - (B 13 w 28 o5)) < 0)
            · unfold f_M_isAlone_119
              unfold f_M_isAlone_127
              refine zS_b (s_mod (K := K) (a := (-(o60 - o63))) (b := 12) (by unfold r32; omega) (by decide) (by decide)) ?_
              rintro o67 F B ⟨rfl, rfl, q66⟩
              have z69 := zrm_R (-((B 13 w 28 o2) - (B 13 w 28 o5))) 7
              refine zS_b (s_isPlainStep (K := K) (a := (zrm (-((B 13 w 28 o2) - (B 13 w 28 o5))) 7)) (b := o67) (by first | exact zrm_R _ _ | (unfold r32; omega)) (by unfold r32; omega)) ?_
              rintro o71 F B ⟨rfl, rfl, q70⟩
              refine zS_g (by unfold r32; omega) ?_ -- 106
              refine zS_i (fun h73 => ?_) (fun h73 => ?_) -- 107: (o71 = 0)
              · unfold f_M_isAlone_152
                refine zS_g (by omega) ?_ -- 109
                exact zS_s ⟨rfl, rfl, by omega⟩
              · unfold f_M_isAlone_152
                refine zS_g (by omega) ?_ -- 112
                exact zS_s ⟨rfl, rfl, by omega⟩
            · refine zS_i (fun h74 => ?_) (fun h74 => ?_) -- 114: (((B 13 w 28 o2) - (B 13 w 28 o5)) = 0)
              · refine zS_g (by unfold r32; omega) ?_ -- 115
                refine zS_i (fun h75 => ?_) (fun h75 => ?_) -- 116: (0 ≤ (o60 - o63))
                · unfold f_M_isAlone_125
                  unfold f_M_isAlone_127
                  refine zS_b (s_mod (K := K) (a := (o60 - o63)) (b := 12) (by unfold r32; omega) (by decide) (by decide)) ?_
                  rintro o77 F B ⟨rfl, rfl, q76⟩
                  have z79 := zrm_R (-((B 13 w 28 o2) - (B 13 w 28 o5))) 7
                  refine zS_b (s_isPlainStep (K := K) (a := (zrm (-((B 13 w 28 o2) - (B 13 w 28 o5))) 7)) (b := o77) (by first | exact zrm_R _ _ | (unfold r32; omega)) (by unfold r32; omega)) ?_
                  rintro o81 F B ⟨rfl, rfl, q80⟩
                  refine zS_g (by unfold r32; omega) ?_ -- 121
                  refine zS_i (fun h83 => ?_) (fun h83 => ?_) -- 122: (o81 = 0)
                  · unfold f_M_isAlone_152
                    refine zS_g (by omega) ?_ -- 124
                    exact zS_s ⟨rfl, rfl, by omega⟩
                  · unfold f_M_isAlone_152
                    refine zS_g (by omega) ?_ -- 127
                    exact zS_s ⟨rfl, rfl, by omega⟩
                · unfold f_M_isAlone_119
                  unfold f_M_isAlone_127
                  refine zS_b (s_mod (K := K) (a := (-(o60 - o63))) (b := 12) (by unfold r32; omega) (by decide) (by decide)) ?_
                  rintro o85 F B ⟨rfl, rfl, q84⟩
                  have z87 := zrm_R (-((B 13 w 28 o2) - (B 13 w 28 o5))) 7
                  refine zS_b (s_isPlainStep (K := K) (a := (zrm (-((B 13 w 28 o2) - (B 13 w 28 o5))) 7)) (b := o85) (by first | exact zrm_R _ _ | (unfold r32; omega)) (by unfold r32; omega)) ?_
                  rintro o89 F B ⟨rfl, rfl, q88⟩
                  refine zS_g (by unfold r32; omega) ?_ -- 133
                  refine zS_i (fun h91 => ?_) (fun h91 => ?_) -- 134: (o89 = 0)
                  · unfold f_M_isAlone_152
                    refine zS_g (by omega) ?_ -- 136
                    exact zS_s ⟨rfl, rfl, by omega⟩
                  · unfold f_M_isAlone_152
                    refine zS_g (by omega) ?_ -- 139
                    exact zS_s ⟨rfl, rfl, by omega⟩
              · unfold f_M_isAlone_125
                unfold f_M_isAlone_127
                refine zS_b (s_mod (K := K) (a := (o60 - o63)) (b := 12) (by unfold r32; omega) (by decide) (by decide)) ?_
                rintro o93 F B ⟨rfl, rfl, q92⟩
                have z95 := zrm_R (-((B 13 w 28 o2) - (B 13 w 28 o5))) 7
                refine zS_b (s_isPlainStep (K := K) (a := (zrm (-((B 13 w 28 o2) - (B 13 w 28 o5))) 7)) (b := o93) (by first | exact zrm_R _ _ | (unfold r32; omega)) (by unfold r32; omega)) ?_
                rintro o97 F B ⟨rfl, rfl, q96⟩
                refine zS_g (by unfold r32; omega) ?_ -- 145
                refine zS_i (fun h99 => ?_) (fun h99 => ?_) -- 146: (o97 = 0)
                · unfold f_M_isAlone_152
                  refine zS_g (by omega) ?_ -- 148
                  exact zS_s ⟨rfl, rfl, by omega⟩
                · unfold f_M_isAlone_152
                  refine zS_g (by omega) ?_ -- 151
                  exact zS_s ⟨rfl, rfl, by omega⟩
theorem s_isCrossed {K : Nat} {V w : Int} {F : zF} {B : zB} (hR : RDW V w F B) (hM : MW5 V w F B) (hK : 1000 ≤ K) {t : Int} (t0 : 1 ≤ t) (t1 : t < F 13 w 72) {u v : Int} (u0 : 0 ≤ u) (u1 : u < V) (v0 : 0 ≤ v) (v1 : v < V) : zS (f_M_isCrossed K w t u v F B) (fun r F' B' => F' = F ∧ B' = B ∧ (r = 0 ∨ r = 1)) := by
  have b0 := rd_0 hR
  have m0 := hM.1
  unfold f_M_isCrossed
  refine zS_b (s_lineAt (K := K) (t := t) (u := u) hR hM hK (by omega) (by omega) (by omega) (by omega)) ?_
  rintro o2 F B ⟨rfl, rfl, v1⟩
  have vo2 := v1
  obtain ⟨v1a, v1b, v1c⟩ := v1
  refine zS_b (s_lineAt (K := K) (t := t) (u := v) hR hM hK (by omega) (by omega) (by omega) (by omega)) ?_
  rintro o5 F B ⟨rfl, rfl, v4⟩
  have vo5 := v4
  obtain ⟨v4a, v4b, v4c⟩ := v4
  refine zS_b (s_isOver (K := K) ⟨b0.1, True.intro⟩ vo2 vo5) ?_
  rintro o8 F B ⟨rfl, rfl, q7⟩
  refine zS_g (by unfold r32; omega) ?_ -- 4
  refine zS_i (fun h10 => ?_) (fun h10 => ?_) -- 5: (o8 = 0)
  · unfold f_M_isCrossed_46
    unfold f_M_isCrossed_47
    refine zS_g (by omega) ?_ -- 8
    exact zS_s ⟨rfl, rfl, by omega⟩
  · refine zS_b (s_lineAt (K := K) (t := (t - 1)) (u := u) hR hM hK (by omega) (by omega) (by omega) (by omega)) ?_
    rintro o12 F B ⟨rfl, rfl, v11⟩
    have vo12 := v11
    obtain ⟨v11a, v11b, v11c⟩ := v11
    refine zS_b (s_lineAt (K := K) (t := (t - 1)) (u := v) hR hM hK (by omega) (by omega) (by omega) (by omega)) ?_
    rintro o15 F B ⟨rfl, rfl, v14⟩
    have vo15 := v14
    obtain ⟨v14a, v14b, v14c⟩ := v14
    refine zS_b (s_isOver (K := K) ⟨b0.1, True.intro⟩ vo12 vo15) ?_
    rintro o18 F B ⟨rfl, rfl, q17⟩
    refine zS_g (by unfold r32; omega) ?_ -- 13
    refine zS_i (fun h20 => ?_) (fun h20 => ?_) -- 14: (o18 = 0)
    · unfold f_M_isCrossed_47
      refine zS_g (by omega) ?_ -- 16
      exact zS_s ⟨rfl, rfl, by omega⟩
    · unfold f_M_isCrossed_46
      unfold f_M_isCrossed_47
      refine zS_g (by omega) ?_ -- 20
      exact zS_s ⟨rfl, rfl, by omega⟩
theorem s_perfect {K : Nat} {w y z : Int} {F : zF} {B : zB} (b0 : (0 ≤ w ∧ w < 3) ∧ True) (vy : PV w B y) (vz : PV w B z) (y0 : 0 ≤ y) (z0 : 0 ≤ z) : zS (f_M_perfect K w y z F B) (fun r F' B' => F' = F ∧ B' = B ∧ (0 ≤ r ∧ r ≤ 2)) := by
  have vy1 := vy.2.2 y0
  have vy2 := vy.2.1
  have vz1 := vz.2.2 z0
  have vz2 := vz.2.1
  unfold f_M_perfect
  refine zS_b (s_toneAt (K := K) b0.1 vy (by omega)) ?_
  rintro o2 F B ⟨rfl, rfl, q1⟩
  refine zS_b (s_toneAt (K := K) b0.1 vz (by omega)) ?_
  rintro o5 F B ⟨rfl, rfl, q4⟩
  refine zS_g (by unfold r32; omega) ?_ -- 3
  refine zS_g (by unfold r32; omega) ?_ -- 4
  refine zS_i (fun h7 => ?_) (fun h7 => ?_) -- 5: (o2 < o5)
  · unfold f_M_perfect_18
    refine zS_g (by unfold r32; omega) ?_ -- 7
    refine zS_i (fun h8 => ?_) (fun h8 => ?_) -- 8: (0 = 0)
    · unfold f_M_perfect_28
      refine zS_g (by unfold r32; omega) ?_ -- 10
      refine zS_i (fun h9 => ?_) (fun h9 => ?_) -- 11: (0 = 0)
      · unfold f_M_perfect_39
        refine zS_g (by omega) ?_ -- 13
        refine zS_g (by omega) ?_ -- 14
        refine zS_g (by omega) ?_ -- 15
        refine zS_b (s_mod (K := K) (a := ((B 13 w 28 z) - (B 13 w 28 y))) (b := 7) (by unfold r32; omega) (by decide) (by decide)) ?_
        rintro o11 F B ⟨rfl, rfl, q10⟩
        refine zS_b (s_toneAt (K := K) b0.1 vz (by omega)) ?_
        rintro o14 F B ⟨rfl, rfl, q13⟩
        refine zS_b (s_toneAt (K := K) b0.1 vy (by omega)) ?_
        rintro o17 F B ⟨rfl, rfl, q16⟩
        refine zS_b (s_mod (K := K) (a := (o14 - o17)) (b := 12) (by unfold r32; omega) (by decide) (by decide)) ?_
        rintro o20 F B ⟨rfl, rfl, q19⟩
        refine zS_g (by unfold r32; omega) ?_ -- 20
        refine zS_i (fun h22 => ?_) (fun h22 => ?_) -- 21: (o11 = 0)
        · refine zS_g (by unfold r32; omega) ?_ -- 22
          refine zS_i (fun h23 => ?_) (fun h23 => ?_) -- 23: (o20 = 0)
          · unfold f_M_perfect_115
            exact zS_s ⟨rfl, rfl, by omega⟩
          · unfold f_M_perfect_97
            refine zS_g (by unfold r32; omega) ?_ -- 27
            refine zS_i (fun h24 => ?_) (fun h24 => ?_) -- 28: (o11 = 4)
            · refine zS_g (by unfold r32; omega) ?_ -- 29
              refine zS_i (fun h25 => ?_) (fun h25 => ?_) -- 30: (o20 = 7)
              · unfold f_M_perfect_115
                exact zS_s ⟨rfl, rfl, by omega⟩
              · unfold f_M_perfect_114
                unfold f_M_perfect_115
                exact zS_s ⟨rfl, rfl, by omega⟩
            · unfold f_M_perfect_114
              unfold f_M_perfect_115
              exact zS_s ⟨rfl, rfl, by omega⟩
        · unfold f_M_perfect_97
          refine zS_g (by unfold r32; omega) ?_ -- 40
          refine zS_i (fun h26 => ?_) (fun h26 => ?_) -- 41: (o11 = 4)
          · refine zS_g (by unfold r32; omega) ?_ -- 42
            refine zS_i (fun h27 => ?_) (fun h27 => ?_) -- 43: (o20 = 7)
            · unfold f_M_perfect_115
              exact zS_s ⟨rfl, rfl, by omega⟩
            · unfold f_M_perfect_114
              unfold f_M_perfect_115
              exact zS_s ⟨rfl, rfl, by omega⟩
          · unfold f_M_perfect_114
            unfold f_M_perfect_115
            exact zS_s ⟨rfl, rfl, by omega⟩
      · unfold f_M_perfect_39
        refine zS_g (by omega) ?_ -- 53
        refine zS_g (by omega) ?_ -- 54
        refine zS_g (by omega) ?_ -- 55
        refine zS_b (s_mod (K := K) (a := ((B 13 w 28 z) - (B 13 w 28 z))) (b := 7) (by unfold r32; omega) (by decide) (by decide)) ?_
        rintro o29 F B ⟨rfl, rfl, q28⟩
        refine zS_b (s_toneAt (K := K) b0.1 vz (by omega)) ?_
        rintro o32 F B ⟨rfl, rfl, q31⟩
        refine zS_b (s_toneAt (K := K) b0.1 vz (by omega)) ?_
        rintro o35 F B ⟨rfl, rfl, q34⟩
        refine zS_b (s_mod (K := K) (a := (o32 - o35)) (b := 12) (by unfold r32; omega) (by decide) (by decide)) ?_
        rintro o38 F B ⟨rfl, rfl, q37⟩
        refine zS_g (by unfold r32; omega) ?_ -- 60
        refine zS_i (fun h40 => ?_) (fun h40 => ?_) -- 61: (o29 = 0)
        · refine zS_g (by unfold r32; omega) ?_ -- 62
          refine zS_i (fun h41 => ?_) (fun h41 => ?_) -- 63: (o38 = 0)
          · unfold f_M_perfect_115
            exact zS_s ⟨rfl, rfl, by omega⟩
          · unfold f_M_perfect_97
            refine zS_g (by unfold r32; omega) ?_ -- 67
            refine zS_i (fun h42 => ?_) (fun h42 => ?_) -- 68: (o29 = 4)
            · refine zS_g (by unfold r32; omega) ?_ -- 69
              refine zS_i (fun h43 => ?_) (fun h43 => ?_) -- 70: (o38 = 7)
              · unfold f_M_perfect_115
                exact zS_s ⟨rfl, rfl, by omega⟩
              · unfold f_M_perfect_114
                unfold f_M_perfect_115
                exact zS_s ⟨rfl, rfl, by omega⟩
            · unfold f_M_perfect_114
              unfold f_M_perfect_115
              exact zS_s ⟨rfl, rfl, by omega⟩
        · unfold f_M_perfect_97
          refine zS_g (by unfold r32; omega) ?_ -- 80
          refine zS_i (fun h44 => ?_) (fun h44 => ?_) -- 81: (o29 = 4)
          · refine zS_g (by unfold r32; omega) ?_ -- 82
            refine zS_i (fun h45 => ?_) (fun h45 => ?_) -- 83: (o38 = 7)
            · unfold f_M_perfect_115
              exact zS_s ⟨rfl, rfl, by omega⟩
            · unfold f_M_perfect_114
              unfold f_M_perfect_115
              exact zS_s ⟨rfl, rfl, by omega⟩
          · unfold f_M_perfect_114
            unfold f_M_perfect_115
            exact zS_s ⟨rfl, rfl, by omega⟩
    · unfold f_M_perfect_28
      refine zS_g (by unfold r32; omega) ?_ -- 93
      refine zS_i (fun h46 => ?_) (fun h46 => ?_) -- 94: (0 = 0)
      · unfold f_M_perfect_39
        refine zS_g (by omega) ?_ -- 96
        refine zS_g (by omega) ?_ -- 97
        refine zS_g (by omega) ?_ -- 98
        refine zS_b (s_mod (K := K) (a := ((B 13 w 28 y) - (B 13 w 28 y))) (b := 7) (by unfold r32; omega) (by decide) (by decide)) ?_
        rintro o48 F B ⟨rfl, rfl, q47⟩
        refine zS_b (s_toneAt (K := K) b0.1 vy (by omega)) ?_
        rintro o51 F B ⟨rfl, rfl, q50⟩
        refine zS_b (s_toneAt (K := K) b0.1 vy (by omega)) ?_
        rintro o54 F B ⟨rfl, rfl, q53⟩
        refine zS_b (s_mod (K := K) (a := (o51 - o54)) (b := 12) (by unfold r32; omega) (by decide) (by decide)) ?_
        rintro o57 F B ⟨rfl, rfl, q56⟩
        refine zS_g (by unfold r32; omega) ?_ -- 103
        refine zS_i (fun h59 => ?_) (fun h59 => ?_) -- 104: (o48 = 0)
        · refine zS_g (by unfold r32; omega) ?_ -- 105
          refine zS_i (fun h60 => ?_) (fun h60 => ?_) -- 106: (o57 = 0)
          · unfold f_M_perfect_115
            exact zS_s ⟨rfl, rfl, by omega⟩
          · unfold f_M_perfect_97
            refine zS_g (by unfold r32; omega) ?_ -- 110
            refine zS_i (fun h61 => ?_) (fun h61 => ?_) -- 111: (o48 = 4)
            · refine zS_g (by unfold r32; omega) ?_ -- 112
              refine zS_i (fun h62 => ?_) (fun h62 => ?_) -- 113: (o57 = 7)
              · unfold f_M_perfect_115
                exact zS_s ⟨rfl, rfl, by omega⟩
              · unfold f_M_perfect_114
                unfold f_M_perfect_115
                exact zS_s ⟨rfl, rfl, by omega⟩
            · unfold f_M_perfect_114
              unfold f_M_perfect_115
              exact zS_s ⟨rfl, rfl, by omega⟩
        · unfold f_M_perfect_97
          refine zS_g (by unfold r32; omega) ?_ -- 123
          refine zS_i (fun h63 => ?_) (fun h63 => ?_) -- 124: (o48 = 4)
          · refine zS_g (by unfold r32; omega) ?_ -- 125
            refine zS_i (fun h64 => ?_) (fun h64 => ?_) -- 126: (o57 = 7)
            · unfold f_M_perfect_115
              exact zS_s ⟨rfl, rfl, by omega⟩
            · unfold f_M_perfect_114
              unfold f_M_perfect_115
              exact zS_s ⟨rfl, rfl, by omega⟩
          · unfold f_M_perfect_114
            unfold f_M_perfect_115
            exact zS_s ⟨rfl, rfl, by omega⟩
      · unfold f_M_perfect_39
        refine zS_g (by omega) ?_ -- 136
        refine zS_g (by omega) ?_ -- 137
        refine zS_g (by omega) ?_ -- 138
        refine zS_b (s_mod (K := K) (a := ((B 13 w 28 y) - (B 13 w 28 z))) (b := 7) (by unfold r32; omega) (by decide) (by decide)) ?_
        rintro o66 F B ⟨rfl, rfl, q65⟩
        refine zS_b (s_toneAt (K := K) b0.1 vy (by omega)) ?_
        rintro o69 F B ⟨rfl, rfl, q68⟩
        refine zS_b (s_toneAt (K := K) b0.1 vz (by omega)) ?_
        rintro o72 F B ⟨rfl, rfl, q71⟩
        refine zS_b (s_mod (K := K) (a := (o69 - o72)) (b := 12) (by unfold r32; omega) (by decide) (by decide)) ?_
        rintro o75 F B ⟨rfl, rfl, q74⟩
        refine zS_g (by unfold r32; omega) ?_ -- 143
        refine zS_i (fun h77 => ?_) (fun h77 => ?_) -- 144: (o66 = 0)
        · refine zS_g (by unfold r32; omega) ?_ -- 145
          refine zS_i (fun h78 => ?_) (fun h78 => ?_) -- 146: (o75 = 0)
          · unfold f_M_perfect_115
            exact zS_s ⟨rfl, rfl, by omega⟩
          · unfold f_M_perfect_97
            refine zS_g (by unfold r32; omega) ?_ -- 150
            refine zS_i (fun h79 => ?_) (fun h79 => ?_) -- 151: (o66 = 4)
            · refine zS_g (by unfold r32; omega) ?_ -- 152
              refine zS_i (fun h80 => ?_) (fun h80 => ?_) -- 153: (o75 = 7)
              · unfold f_M_perfect_115
                exact zS_s ⟨rfl, rfl, by omega⟩
              · unfold f_M_perfect_114
                unfold f_M_perfect_115
                exact zS_s ⟨rfl, rfl, by omega⟩
            · unfold f_M_perfect_114
              unfold f_M_perfect_115
              exact zS_s ⟨rfl, rfl, by omega⟩
        · unfold f_M_perfect_97
          refine zS_g (by unfold r32; omega) ?_ -- 163
          refine zS_i (fun h81 => ?_) (fun h81 => ?_) -- 164: (o66 = 4)
          · refine zS_g (by unfold r32; omega) ?_ -- 165
            refine zS_i (fun h82 => ?_) (fun h82 => ?_) -- 166: (o75 = 7)
            · unfold f_M_perfect_115
              exact zS_s ⟨rfl, rfl, by omega⟩
            · unfold f_M_perfect_114
              unfold f_M_perfect_115
              exact zS_s ⟨rfl, rfl, by omega⟩
          · unfold f_M_perfect_114
            unfold f_M_perfect_115
            exact zS_s ⟨rfl, rfl, by omega⟩
  · unfold f_M_perfect_18
    refine zS_g (by unfold r32; omega) ?_ -- 176
    refine zS_i (fun h83 => ?_) (fun h83 => ?_) -- 177: (1 = 0)
    · unfold f_M_perfect_28
      refine zS_g (by unfold r32; omega) ?_ -- 179
      refine zS_i (fun h84 => ?_) (fun h84 => ?_) -- 180: (1 = 0)
      · unfold f_M_perfect_39
        refine zS_g (by omega) ?_ -- 182
        refine zS_g (by omega) ?_ -- 183
        refine zS_g (by omega) ?_ -- 184
        refine zS_b (s_mod (K := K) (a := ((B 13 w 28 z) - (B 13 w 28 y))) (b := 7) (by unfold r32; omega) (by decide) (by decide)) ?_
        rintro o86 F B ⟨rfl, rfl, q85⟩
        refine zS_b (s_toneAt (K := K) b0.1 vz (by omega)) ?_
        rintro o89 F B ⟨rfl, rfl, q88⟩
        refine zS_b (s_toneAt (K := K) b0.1 vy (by omega)) ?_
        rintro o92 F B ⟨rfl, rfl, q91⟩
        refine zS_b (s_mod (K := K) (a := (o89 - o92)) (b := 12) (by unfold r32; omega) (by decide) (by decide)) ?_
        rintro o95 F B ⟨rfl, rfl, q94⟩
        refine zS_g (by unfold r32; omega) ?_ -- 189
        refine zS_i (fun h97 => ?_) (fun h97 => ?_) -- 190: (o86 = 0)
        · refine zS_g (by unfold r32; omega) ?_ -- 191
          refine zS_i (fun h98 => ?_) (fun h98 => ?_) -- 192: (o95 = 0)
          · unfold f_M_perfect_115
            exact zS_s ⟨rfl, rfl, by omega⟩
          · unfold f_M_perfect_97
            refine zS_g (by unfold r32; omega) ?_ -- 196
            refine zS_i (fun h99 => ?_) (fun h99 => ?_) -- 197: (o86 = 4)
            · refine zS_g (by unfold r32; omega) ?_ -- 198
              refine zS_i (fun h100 => ?_) (fun h100 => ?_) -- 199: (o95 = 7)
              · unfold f_M_perfect_115
                exact zS_s ⟨rfl, rfl, by omega⟩
              · unfold f_M_perfect_114
                unfold f_M_perfect_115
                exact zS_s ⟨rfl, rfl, by omega⟩
            · unfold f_M_perfect_114
              unfold f_M_perfect_115
              exact zS_s ⟨rfl, rfl, by omega⟩
        · unfold f_M_perfect_97
          refine zS_g (by unfold r32; omega) ?_ -- 209
          refine zS_i (fun h101 => ?_) (fun h101 => ?_) -- 210: (o86 = 4)
          · refine zS_g (by unfold r32; omega) ?_ -- 211
            refine zS_i (fun h102 => ?_) (fun h102 => ?_) -- 212: (o95 = 7)
            · unfold f_M_perfect_115
              exact zS_s ⟨rfl, rfl, by omega⟩
            · unfold f_M_perfect_114
              unfold f_M_perfect_115
              exact zS_s ⟨rfl, rfl, by omega⟩
          · unfold f_M_perfect_114
            unfold f_M_perfect_115
            exact zS_s ⟨rfl, rfl, by omega⟩
      · unfold f_M_perfect_39
        refine zS_g (by omega) ?_ -- 222
        refine zS_g (by omega) ?_ -- 223
        refine zS_g (by omega) ?_ -- 224
        refine zS_b (s_mod (K := K) (a := ((B 13 w 28 z) - (B 13 w 28 z))) (b := 7) (by unfold r32; omega) (by decide) (by decide)) ?_
        rintro o104 F B ⟨rfl, rfl, q103⟩
        refine zS_b (s_toneAt (K := K) b0.1 vz (by omega)) ?_
        rintro o107 F B ⟨rfl, rfl, q106⟩
        refine zS_b (s_toneAt (K := K) b0.1 vz (by omega)) ?_
        rintro o110 F B ⟨rfl, rfl, q109⟩
        refine zS_b (s_mod (K := K) (a := (o107 - o110)) (b := 12) (by unfold r32; omega) (by decide) (by decide)) ?_
        rintro o113 F B ⟨rfl, rfl, q112⟩
        refine zS_g (by unfold r32; omega) ?_ -- 229
        refine zS_i (fun h115 => ?_) (fun h115 => ?_) -- 230: (o104 = 0)
        · refine zS_g (by unfold r32; omega) ?_ -- 231
          refine zS_i (fun h116 => ?_) (fun h116 => ?_) -- 232: (o113 = 0)
          · unfold f_M_perfect_115
            exact zS_s ⟨rfl, rfl, by omega⟩
          · unfold f_M_perfect_97
            refine zS_g (by unfold r32; omega) ?_ -- 236
            refine zS_i (fun h117 => ?_) (fun h117 => ?_) -- 237: (o104 = 4)
            · refine zS_g (by unfold r32; omega) ?_ -- 238
              refine zS_i (fun h118 => ?_) (fun h118 => ?_) -- 239: (o113 = 7)
              · unfold f_M_perfect_115
                exact zS_s ⟨rfl, rfl, by omega⟩
              · unfold f_M_perfect_114
                unfold f_M_perfect_115
                exact zS_s ⟨rfl, rfl, by omega⟩
            · unfold f_M_perfect_114
              unfold f_M_perfect_115
              exact zS_s ⟨rfl, rfl, by omega⟩
        · unfold f_M_perfect_97
          refine zS_g (by unfold r32; omega) ?_ -- 249
          refine zS_i (fun h119 => ?_) (fun h119 => ?_) -- 250: (o104 = 4)
          · refine zS_g (by unfold r32; omega) ?_ -- 251
            refine zS_i (fun h120 => ?_) (fun h120 => ?_) -- 252: (o113 = 7)
            · unfold f_M_perfect_115
              exact zS_s ⟨rfl, rfl, by omega⟩
            · unfold f_M_perfect_114
              unfold f_M_perfect_115
              exact zS_s ⟨rfl, rfl, by omega⟩
          · unfold f_M_perfect_114
            unfold f_M_perfect_115
            exact zS_s ⟨rfl, rfl, by omega⟩
    · unfold f_M_perfect_28
      refine zS_g (by unfold r32; omega) ?_ -- 262
      refine zS_i (fun h121 => ?_) (fun h121 => ?_) -- 263: (1 = 0)
      · unfold f_M_perfect_39
        refine zS_g (by omega) ?_ -- 265
        refine zS_g (by omega) ?_ -- 266
        refine zS_g (by omega) ?_ -- 267
        refine zS_b (s_mod (K := K) (a := ((B 13 w 28 y) - (B 13 w 28 y))) (b := 7) (by unfold r32; omega) (by decide) (by decide)) ?_
        rintro o123 F B ⟨rfl, rfl, q122⟩
        refine zS_b (s_toneAt (K := K) b0.1 vy (by omega)) ?_
        rintro o126 F B ⟨rfl, rfl, q125⟩
        refine zS_b (s_toneAt (K := K) b0.1 vy (by omega)) ?_
        rintro o129 F B ⟨rfl, rfl, q128⟩
        refine zS_b (s_mod (K := K) (a := (o126 - o129)) (b := 12) (by unfold r32; omega) (by decide) (by decide)) ?_
        rintro o132 F B ⟨rfl, rfl, q131⟩
        refine zS_g (by unfold r32; omega) ?_ -- 272
        refine zS_i (fun h134 => ?_) (fun h134 => ?_) -- 273: (o123 = 0)
        · refine zS_g (by unfold r32; omega) ?_ -- 274
          refine zS_i (fun h135 => ?_) (fun h135 => ?_) -- 275: (o132 = 0)
          · unfold f_M_perfect_115
            exact zS_s ⟨rfl, rfl, by omega⟩
          · unfold f_M_perfect_97
            refine zS_g (by unfold r32; omega) ?_ -- 279
            refine zS_i (fun h136 => ?_) (fun h136 => ?_) -- 280: (o123 = 4)
            · refine zS_g (by unfold r32; omega) ?_ -- 281
              refine zS_i (fun h137 => ?_) (fun h137 => ?_) -- 282: (o132 = 7)
              · unfold f_M_perfect_115
                exact zS_s ⟨rfl, rfl, by omega⟩
              · unfold f_M_perfect_114
                unfold f_M_perfect_115
                exact zS_s ⟨rfl, rfl, by omega⟩
            · unfold f_M_perfect_114
              unfold f_M_perfect_115
              exact zS_s ⟨rfl, rfl, by omega⟩
        · unfold f_M_perfect_97
          refine zS_g (by unfold r32; omega) ?_ -- 292
          refine zS_i (fun h138 => ?_) (fun h138 => ?_) -- 293: (o123 = 4)
          · refine zS_g (by unfold r32; omega) ?_ -- 294
            refine zS_i (fun h139 => ?_) (fun h139 => ?_) -- 295: (o132 = 7)
            · unfold f_M_perfect_115
              exact zS_s ⟨rfl, rfl, by omega⟩
            · unfold f_M_perfect_114
              unfold f_M_perfect_115
              exact zS_s ⟨rfl, rfl, by omega⟩
          · unfold f_M_perfect_114
            unfold f_M_perfect_115
            exact zS_s ⟨rfl, rfl, by omega⟩
      · unfold f_M_perfect_39
        refine zS_g (by omega) ?_ -- 305
        refine zS_g (by omega) ?_ -- 306
        refine zS_g (by omega) ?_ -- 307
        refine zS_b (s_mod (K := K) (a := ((B 13 w 28 y) - (B 13 w 28 z))) (b := 7) (by unfold r32; omega) (by decide) (by decide)) ?_
        rintro o141 F B ⟨rfl, rfl, q140⟩
        refine zS_b (s_toneAt (K := K) b0.1 vy (by omega)) ?_
        rintro o144 F B ⟨rfl, rfl, q143⟩
        refine zS_b (s_toneAt (K := K) b0.1 vz (by omega)) ?_
        rintro o147 F B ⟨rfl, rfl, q146⟩
        refine zS_b (s_mod (K := K) (a := (o144 - o147)) (b := 12) (by unfold r32; omega) (by decide) (by decide)) ?_
        rintro o150 F B ⟨rfl, rfl, q149⟩
        refine zS_g (by unfold r32; omega) ?_ -- 312
        refine zS_i (fun h152 => ?_) (fun h152 => ?_) -- 313: (o141 = 0)
        · refine zS_g (by unfold r32; omega) ?_ -- 314
          refine zS_i (fun h153 => ?_) (fun h153 => ?_) -- 315: (o150 = 0)
          · unfold f_M_perfect_115
            exact zS_s ⟨rfl, rfl, by omega⟩
          · unfold f_M_perfect_97
            refine zS_g (by unfold r32; omega) ?_ -- 319
            refine zS_i (fun h154 => ?_) (fun h154 => ?_) -- 320: (o141 = 4)
            · refine zS_g (by unfold r32; omega) ?_ -- 321
              refine zS_i (fun h155 => ?_) (fun h155 => ?_) -- 322: (o150 = 7)
              · unfold f_M_perfect_115
                exact zS_s ⟨rfl, rfl, by omega⟩
              · unfold f_M_perfect_114
                unfold f_M_perfect_115
                exact zS_s ⟨rfl, rfl, by omega⟩
            · unfold f_M_perfect_114
              unfold f_M_perfect_115
              exact zS_s ⟨rfl, rfl, by omega⟩
        · unfold f_M_perfect_97
          refine zS_g (by unfold r32; omega) ?_ -- 332
          refine zS_i (fun h156 => ?_) (fun h156 => ?_) -- 333: (o141 = 4)
          · refine zS_g (by unfold r32; omega) ?_ -- 334
            refine zS_i (fun h157 => ?_) (fun h157 => ?_) -- 335: (o150 = 7)
            · unfold f_M_perfect_115
              exact zS_s ⟨rfl, rfl, by omega⟩
            · unfold f_M_perfect_114
              unfold f_M_perfect_115
              exact zS_s ⟨rfl, rfl, by omega⟩
          · unfold f_M_perfect_114
            unfold f_M_perfect_115
            exact zS_s ⟨rfl, rfl, by omega⟩
theorem s_isPar134 {K : Nat} {w s : Int} {F : zF} {B : zB} (b0 : (0 ≤ w ∧ w < 3) ∧ True) {y1 y2 y3 y4 k : Int} (v1 : PV w B y1) (v2 : PV w B y2) (v3 : PV w B y3) (v4 : PV w B y4) (g1 : 0 ≤ y1) (g2 : 0 ≤ y2) (g3 : 0 ≤ y3) (g4 : 0 ≤ y4) (rk : r32 k) (rs : r32 s) : zS (f_M_isParallel_134 K y4 y3 y2 y1 w k s F B) (fun r F' B' => F' = F ∧ B' = B ∧ (r = 0 ∨ r = 1)) := by
  have vy1 := v1
  have vy2 := v2
  have vy3 := v3
  have vy4 := v4
  have c1 := v1.2.2 g1
  have c2 := v2.2.2 g2
  have c3 := v3.2.2 g3
  have c4 := v4.2.2 g4
  have d1 := v1.2.1
  have d2 := v2.2.1
  have d3 := v3.2.1
  have d4 := v4.2.1
  unfold f_M_isParallel_134
  refine zS_g (by unfold r32; omega) ?_ -- 1
  refine zS_i (fun h1 => ?_) (fun h1 => ?_) -- 2: (s = 0)
  · exact zS_s ⟨rfl, rfl, by omega⟩
  · refine zS_b (s_perfect (K := K) ⟨b0.1, True.intro⟩ vy1 vy2 (by omega) (by omega)) ?_
    rintro o3 F B ⟨rfl, rfl, q2⟩
    refine zS_b (s_perfect (K := K) ⟨b0.1, True.intro⟩ vy3 vy4 (by omega) (by omega)) ?_
    rintro o6 F B ⟨rfl, rfl, q5⟩
    refine zS_g (by unfold r32; omega) ?_ -- 6
    refine zS_i (fun h8 => ?_) (fun h8 => ?_) -- 7: (3 ≤ k)
    · refine zS_b (s_toneAt (K := K) b0.1 vy1 (by omega)) ?_
      rintro o10 F B ⟨rfl, rfl, q9⟩
      refine zS_b (s_toneAt (K := K) b0.1 vy2 (by omega)) ?_
      rintro o13 F B ⟨rfl, rfl, q12⟩
      refine zS_g (by unfold r32; omega) ?_ -- 10
      refine zS_g (by unfold r32; omega) ?_ -- 11
      refine zS_i (fun h15 => ?_) (fun h15 => ?_) -- 12: (o10 < o13)
      · refine zS_g (by omega) ?_ -- 13
        refine zS_g (by omega) ?_ -- 14
        refine zS_g (by omega) ?_ -- 15
        unfold f_M_isParallel_234
        refine zS_g (by unfold r32; omega) ?_ -- 17
        refine zS_i (fun h16 => ?_) (fun h16 => ?_) -- 18: (o3 ≤ 0)
        · unfold f_M_isParallel_265
          unfold f_M_isParallel_266
          refine zS_g (by omega) ?_ -- 21
          exact zS_s ⟨rfl, rfl, by omega⟩
        · refine zS_g (by unfold r32; omega) ?_ -- 23
          refine zS_i (fun h17 => ?_) (fun h17 => ?_) -- 24: (o6 = o3)
          · unfold f_M_isParallel_265
            unfold f_M_isParallel_266
            refine zS_g (by omega) ?_ -- 27
            exact zS_s ⟨rfl, rfl, by omega⟩
          · refine zS_g (by unfold r32; omega) ?_ -- 29
            refine zS_i (fun h18 => ?_) (fun h18 => ?_) -- 30: (2 < ((B 13 w 28 y2) - (B 13 w 28 y4)))
            · unfold f_M_isParallel_261
              unfold f_M_isParallel_266
              refine zS_g (by omega) ?_ -- 33
              exact zS_s ⟨rfl, rfl, by omega⟩
            · refine zS_i (fun h19 => ?_) (fun h19 => ?_) -- 35: ((-2) ≤ ((B 13 w 28 y2) - (B 13 w 28 y4)))
              · unfold f_M_isParallel_265
                unfold f_M_isParallel_266
                refine zS_g (by omega) ?_ -- 38
                exact zS_s ⟨rfl, rfl, by omega⟩
              · unfold f_M_isParallel_261
                unfold f_M_isParallel_266
                refine zS_g (by omega) ?_ -- 42
                exact zS_s ⟨rfl, rfl, by omega⟩
      · refine zS_g (by omega) ?_ -- 44
        refine zS_g (by omega) ?_ -- 45
        refine zS_g (by omega) ?_ -- 46
        unfold f_M_isParallel_234
        refine zS_g (by unfold r32; omega) ?_ -- 48
        refine zS_i (fun h20 => ?_) (fun h20 => ?_) -- 49: (o3 ≤ 0)
        · unfold f_M_isParallel_265
          unfold f_M_isParallel_266
          refine zS_g (by omega) ?_ -- 52
          exact zS_s ⟨rfl, rfl, by omega⟩
        · refine zS_g (by unfold r32; omega) ?_ -- 54
          refine zS_i (fun h21 => ?_) (fun h21 => ?_) -- 55: (o6 = o3)
          · unfold f_M_isParallel_265
            unfold f_M_isParallel_266
            refine zS_g (by omega) ?_ -- 58
            exact zS_s ⟨rfl, rfl, by omega⟩
          · refine zS_g (by unfold r32; omega) ?_ -- 60
            refine zS_i (fun h22 => ?_) (fun h22 => ?_) -- 61: (2 < ((B 13 w 28 y1) - (B 13 w 28 y3)))
            · unfold f_M_isParallel_261
              unfold f_M_isParallel_266
              refine zS_g (by omega) ?_ -- 64
              exact zS_s ⟨rfl, rfl, by omega⟩
            · refine zS_i (fun h23 => ?_) (fun h23 => ?_) -- 66: ((-2) ≤ ((B 13 w 28 y1) - (B 13 w 28 y3)))
              · unfold f_M_isParallel_265
                unfold f_M_isParallel_266
                refine zS_g (by omega) ?_ -- 69
                exact zS_s ⟨rfl, rfl, by omega⟩
              · unfold f_M_isParallel_261
                unfold f_M_isParallel_266
                refine zS_g (by omega) ?_ -- 73
                exact zS_s ⟨rfl, rfl, by omega⟩
    · refine zS_g (by unfold r32; omega) ?_ -- 75
      refine zS_i (fun h24 => ?_) (fun h24 => ?_) -- 76: (o3 = k)
      · refine zS_g (by unfold r32; omega) ?_ -- 77
        refine zS_i (fun h25 => ?_) (fun h25 => ?_) -- 78: (o6 = k)
        · unfold f_M_isParallel_185
          refine zS_g (by omega) ?_ -- 80
          exact zS_s ⟨rfl, rfl, by omega⟩
        · unfold f_M_isParallel_184
          unfold f_M_isParallel_185
          refine zS_g (by omega) ?_ -- 84
          exact zS_s ⟨rfl, rfl, by omega⟩
      · unfold f_M_isParallel_184
        unfold f_M_isParallel_185
        refine zS_g (by omega) ?_ -- 88
        exact zS_s ⟨rfl, rfl, by omega⟩
theorem s_isParallel {K : Nat} {V w : Int} {F : zF} {B : zB} (hR : RDW V w F B) (hM : MW5 V w F B) (hK : 1000 ≤ K) {t : Int} (t0 : 1 ≤ t) (t1 : t < F 13 w 72) {u v k : Int} (u0 : 0 ≤ u) (u1 : u < V) (v0 : 0 ≤ v) (v1 : v < V) (rk : r32 k) : zS (f_M_isParallel K w t k u v F B) (fun r F' B' => F' = F ∧ B' = B ∧ (r = 0 ∨ r = 1)) := by
  have b0 := rd_0 hR
  have m0 := hM.1
  unfold f_M_isParallel
  refine zS_b (s_lineAt (K := K) (t := t) (u := u) hR hM hK (by omega) (by omega) (by omega) (by omega)) ?_
  rintro o2 F B ⟨rfl, rfl, v1⟩
  have vo2 := v1
  obtain ⟨v1a, v1b, v1c⟩ := v1
  refine zS_b (s_lineAt (K := K) (t := t) (u := v) hR hM hK (by omega) (by omega) (by omega) (by omega)) ?_
  rintro o5 F B ⟨rfl, rfl, v4⟩
  have vo5 := v4
  obtain ⟨v4a, v4b, v4c⟩ := v4
  refine zS_b (s_lineAt (K := K) (t := (t - 1)) (u := u) hR hM hK (by omega) (by omega) (by omega) (by omega)) ?_
  rintro o8 F B ⟨rfl, rfl, v7⟩
  have vo8 := v7
  obtain ⟨v7a, v7b, v7c⟩ := v7
  refine zS_b (s_lineAt (K := K) (t := (t - 1)) (u := v) hR hM hK (by omega) (by omega) (by omega) (by omega)) ?_
  rintro o11 F B ⟨rfl, rfl, v10⟩
  have vo11 := v10
  obtain ⟨v10a, v10b, v10c⟩ := v10
  refine zS_g (by unfold r32; omega) ?_ -- 5
  refine zS_i (fun h13 => ?_) (fun h13 => ?_) -- 6: (o2 < 0)
  · unfold f_M_isParallel_77
    exact zS_s ⟨rfl, rfl, by omega⟩
  · refine zS_g (by unfold r32; omega) ?_ -- 9
    refine zS_i (fun h14 => ?_) (fun h14 => ?_) -- 10: (o5 < 0)
    · unfold f_M_isParallel_77
      exact zS_s ⟨rfl, rfl, by omega⟩
    · refine zS_g (by unfold r32; omega) ?_ -- 13
      refine zS_i (fun h15 => ?_) (fun h15 => ?_) -- 14: (o8 < 0)
      · unfold f_M_isParallel_77
        exact zS_s ⟨rfl, rfl, by omega⟩
      · refine zS_g (by unfold r32; omega) ?_ -- 17
        refine zS_i (fun h16 => ?_) (fun h16 => ?_) -- 18: (o11 < 0)
        · unfold f_M_isParallel_77
          exact zS_s ⟨rfl, rfl, by omega⟩
        · refine zS_b (s_beginsAt (K := K) (t := t) (u := u) hR hM hK (by omega) (by omega) (by omega) (by omega) (by omega)) ?_
          rintro o18 F B ⟨rfl, rfl, q17⟩
          refine zS_g (by unfold r32; omega) ?_ -- 22
          refine zS_i (fun h20 => ?_) (fun h20 => ?_) -- 23: (o18 = 0)
          · unfold f_M_isParallel_77
            exact zS_s ⟨rfl, rfl, by omega⟩
          · refine zS_b (s_beginsAt (K := K) (t := t) (u := v) hR hM hK (by omega) (by omega) (by omega) (by omega) (by omega)) ?_
            rintro o22 F B ⟨rfl, rfl, q21⟩
            refine zS_g (by unfold r32; omega) ?_ -- 27
            refine zS_i (fun h24 => ?_) (fun h24 => ?_) -- 28: (o22 = 0)
            · unfold f_M_isParallel_77
              exact zS_s ⟨rfl, rfl, by omega⟩
            · refine zS_b (s_toneAt (K := K) b0.1 vo2 (by omega)) ?_
              rintro o26 F B ⟨rfl, rfl, q25⟩
              refine zS_b (s_toneAt (K := K) b0.1 vo8 (by omega)) ?_
              rintro o29 F B ⟨rfl, rfl, q28⟩
              refine zS_b (s_toneAt (K := K) b0.1 vo5 (by omega)) ?_
              rintro o32 F B ⟨rfl, rfl, q31⟩
              refine zS_b (s_toneAt (K := K) b0.1 vo11 (by omega)) ?_
              rintro o35 F B ⟨rfl, rfl, q34⟩
              refine zS_g (by unfold r32; omega) ?_ -- 35
              refine zS_i (fun h37 => ?_) (fun h37 => ?_) -- 36: ((o26 - o29) ≤ 0)
              · unfold f_M_isParallel_119
                refine zS_g (by unfold r32; omega) ?_ -- 38
                refine zS_i (fun h38 => ?_) (fun h38 => ?_) -- 39: (0 ≤ (o26 - o29))
                · unfold f_M_isParallel_133
                  exact s_isPar134 ⟨b0.1, True.intro⟩ vo2 vo5 vo8 vo11 (by omega) (by omega) (by omega) (by omega) rk (by decide) -- 41 f_M_isParallel_134
                · refine zS_g (by unfold r32; omega) ?_ -- 42
                  refine zS_i (fun h39 => ?_) (fun h39 => ?_) -- 43: (0 ≤ (o32 - o35))
                  · unfold f_M_isParallel_133
                    exact s_isPar134 ⟨b0.1, True.intro⟩ vo2 vo5 vo8 vo11 (by omega) (by omega) (by omega) (by omega) rk (by decide) -- 45 f_M_isParallel_134
                  · unfold f_M_isParallel_129
                    exact s_isPar134 ⟨b0.1, True.intro⟩ vo2 vo5 vo8 vo11 (by omega) (by omega) (by omega) (by omega) rk (by decide) -- 47 f_M_isParallel_134
              · refine zS_g (by unfold r32; omega) ?_ -- 48
                refine zS_i (fun h40 => ?_) (fun h40 => ?_) -- 49: (0 < (o32 - o35))
                · unfold f_M_isParallel_129
                  exact s_isPar134 ⟨b0.1, True.intro⟩ vo2 vo5 vo8 vo11 (by omega) (by omega) (by omega) (by omega) rk (by decide) -- 51 f_M_isParallel_134
                · unfold f_M_isParallel_119
                  refine zS_g (by unfold r32; omega) ?_ -- 53
                  refine zS_i (fun h41 => ?_) (fun h41 => ?_) -- 54: (0 ≤ (o26 - o29))
                  · unfold f_M_isParallel_133
                    exact s_isPar134 ⟨b0.1, True.intro⟩ vo2 vo5 vo8 vo11 (by omega) (by omega) (by omega) (by omega) rk (by decide) -- 56 f_M_isParallel_134
                  · refine zS_g (by unfold r32; omega) ?_ -- 57
                    refine zS_i (fun h42 => ?_) (fun h42 => ?_) -- 58: (0 ≤ (o32 - o35))
                    · unfold f_M_isParallel_133
                      exact s_isPar134 ⟨b0.1, True.intro⟩ vo2 vo5 vo8 vo11 (by omega) (by omega) (by omega) (by omega) rk (by decide) -- 60 f_M_isParallel_134
                    · unfold f_M_isParallel_129
                      exact s_isPar134 ⟨b0.1, True.intro⟩ vo2 vo5 vo8 vo11 (by omega) (by omega) (by omega) (by omega) rk (by decide) -- 62 f_M_isParallel_134
end
end
section
section
/-! ===== faults between voices, reference: all of them ===== -/
def X77 (B : zB) : Prop := ∀ i x, r32 (B 13 i 77 x) ∧ r32 (B 13 i 78 x) ∧ r32 (B 13 i 79 x) ∧ r32 (B 13 i 80 x)
def BQ (w : Int) (F0 F : zF) (B0 B : zB) : Prop := (∀ c i k, ¬ (c = 13 ∧ i = w ∧ k = 76) → F c i k = F0 c i k) ∧ (0 ≤ F 13 w 76 ∧ F 13 w 76 ≤ 300) ∧ (∀ c i k x, ¬ (c = 13 ∧ i = w ∧ 77 ≤ k ∧ k ≤ 80) → B c i k x = B0 c i k x) ∧ X77 B
theorem RDW_b {V w : Int} {F F' : zF} {B B' : zB} (h : RDW V w F B) (q : BQ w F F' B B') : RDW V w F' B' := RDW_f h (fun k _ _ => q.1 13 w k (by omega)) (fun k x _ h' => q.2.2.1 13 w k x (by omega))
theorem MW5_f {V w : Int} {F F' : zF} {B B' : zB} (h : MW5 V w F B) (f : F' 13 w 72 = F 13 w 72) (b : ∀ k x, (k = 12 ∨ k = 73 ∨ k = 74 ∨ k = 75) → B' 13 w k x = B 13 w k x) : MW5 V w F' B' := by
  unfold MW5 MP at *
  rw [f]
  have b12 := fun x => b 12 x (by omega)
  have b73 := fun x => b 73 x (by omega)
  have b74 := fun x => b 74 x (by omega)
  have b75 := fun x => b 75 x (by omega)
  simp only [b12, b73, b74, b75]
  exact h
theorem MW5_b {V w : Int} {F F' : zF} {B B' : zB} (h : MW5 V w F B) (q : BQ w F F' B B') : MW5 V w F' B' := MW5_f h (q.1 13 w 72 (by omega)) (fun k x hk => q.2.2.1 13 w k x (by omega))
theorem s_flt1 {K : Nat} {w a b c d : Int} {F0 F : zF} {B0 B : zB} (w0 : 0 ≤ w ∧ w < 3) (q : BQ w F0 F B0 B) (ra : r32 a) (rb : r32 b) (rc : r32 c) (rd : r32 d) : zS (f_M_fault_1 K w a b c d F B) (fun _ F' B' => BQ w F0 F' B0 B') := by
  obtain ⟨q1, q2, q3, q4⟩ := q
  unfold f_M_fault_1
  refine zS_g w0 ?_
  refine zS_g (by unfold r32; omega) ?_
  refine zS_i (fun h => ?_) (fun h => ?_)
  · exact zS_s ⟨q1, q2, q3, q4⟩
  · refine zS_g (by omega) ?_
    refine zS_s ⟨fun c i k n => by rw [zup3_v, if_neg n]; exact q1 c i k n, by rw [zup3_v, if_pos (by omega)]; omega, fun c i k x n => by rw [zup4_v, if_neg (by omega), zup4_v, if_neg (by omega), zup4_v, if_neg (by omega), zup4_v, if_neg (by omega)]; exact q3 c i k x n, fun i x => ?_⟩
    obtain ⟨x1, x2, x3, x4⟩ := q4 i x
    have key : ∀ {C : zB} {k k' : Nat} {j v : Int}, r32 v → r32 (C 13 i k' x) → r32 ((zup4 C 13 w k j v) 13 i k' x) := fun hv hc => by
      rw [zup4_v]
      split
      · exact hv
      · exact hc
    exact ⟨key rd (key rc (key rb (key ra x1))), key rd (key rc (key rb (key ra x2))), key rd (key rc (key rb (key ra x3))), key rd (key rc (key rb (key ra x4)))⟩
theorem s_btw69 {K : Nat} {V w t k u : Int} {F0 : zF} {B0 : zB} {rec7 : Int → Int → zF → zB → zO} {rec17 : Int → Int → Int → zF → zB → zO} {rec : Int → Int → Int → Int → zF → zB → zO} {Q : Int → zF → zB → Prop} (hK : 1000 ≤ K) (hR0 : RDW V w F0 B0) (hM0 : MW5 V w F0 B0) (t0 : 1 ≤ t) (t1 : t < F0 13 w 72) (k0 : 1 ≤ k ∧ k ≤ 7) (u0 : 0 ≤ u) (u1 : u < V) (hrec : ∀ F B, BQ w F0 F B0 B → zS (rec (u + 1) k t w F B) Q) : ∀ (n : Nat) (v : Int) (F : zF) (B : zB), BQ w F0 F B0 B → 0 ≤ v → v ≤ V → V - v < n → zS (f_M_between_0_69 rec7 rec17 rec K n v u k t w F B) Q := by
  have b0 := rd_0 hR0
  have mm := hM0.1
  intro n
  induction n with
  | zero => intro v F B _ _ _ hn; exfalso; omega
  | succ n ih =>
    intro v F B q v0 v1 hn
    have hR := RDW_b hR0 q
    have hM := MW5_b hM0 q
    have e1 := q.1 13 w 1 (by omega)
    have e72 := q.1 13 w 72 (by omega)
    have nx : ∀ F B, BQ w F0 F B0 B → v < V → zS (f_M_between_0_121 rec7 rec17 rec (f_M_between_0_69 rec7 rec17 rec K n) K v u k t w F B) Q := fun F B q' hv => by
      unfold f_M_between_0_121
      exact ih (v + 1) F B q' (by omega) (by omega) (by omega)
    have ft : ∀ F B, BQ w F0 F B0 B → v < V → zS (f_M_between_0_111 rec7 rec17 rec (f_M_between_0_69 rec7 rec17 rec K n) K v u k t w F B) Q := fun F B q' hv => by
      unfold f_M_between_0_111
      refine zS_b (s_flt1 b0.1 q' (by unfold r32; omega) (by unfold r32; omega) (by unfold r32; omega) (by unfold r32; omega)) ?_
      intro _ F1 B1 q1
      exact nx F1 B1 q1 hv
    rw [f_M_between_0_69]
    refine zS_g b0.1 ?_
    refine zS_g (by unfold r32; omega) ?_
    refine zS_g (by unfold r32; omega) ?_
    refine zS_i (fun h => ?_) (fun h => ?_)
    · unfold f_M_between_0_127
      exact hrec F B q
    · refine zS_g (by unfold r32; omega) ?_
      refine zS_i (fun h2 => ?_) (fun h2 => ?_)
      · refine zS_b (s_isCrossed (K := K) hR hM hK t0 (by omega) u0 u1 v0 (by omega)) ?_
        rintro r F B ⟨rfl, rfl, hr⟩
        refine zS_g (by unfold r32; omega) ?_
        refine zS_i (fun h3 => ?_) (fun h3 => ?_)
        · exact nx _ _ q (by omega)
        · exact ft _ _ q (by omega)
      · refine zS_b (s_isParallel (K := K) hR hM hK t0 (by omega) u0 u1 v0 (by omega) (by unfold r32; omega)) ?_
        rintro r F B ⟨rfl, rfl, hr⟩
        refine zS_g (by unfold r32; omega) ?_
        refine zS_i (fun h3 => ?_) (fun h3 => ?_)
        · exact nx _ _ q (by omega)
        · exact ft _ _ q (by omega)
theorem s_btw26 {K : Nat} {V w t k : Int} {F0 : zF} {B0 : zB} {rec7 : Int → Int → zF → zB → zO} {rec : Int → Int → Int → zF → zB → zO} {Q : Int → zF → zB → Prop} (hK : 1000 ≤ K) (hR0 : RDW V w F0 B0) (hM0 : MW5 V w F0 B0) (t0 : 1 ≤ t) (t1 : t < F0 13 w 72) (k0 : 1 ≤ k ∧ k ≤ 7) (hrec : ∀ F B, BQ w F0 F B0 B → zS (rec (k + 1) t w F B) Q) : ∀ (n : Nat) (u : Int) (F : zF) (B : zB), BQ w F0 F B0 B → 0 ≤ u → u ≤ V → V - u < n → zS (f_M_between_0_26 rec7 rec K n u k t w F B) Q := by
  have b0 := rd_0 hR0
  have mm := hM0.1
  intro n
  induction n with
  | zero => intro v F B _ _ _ hn; exfalso; omega
  | succ n ih =>
    intro u F B q u0 u1 hn
    have hR := RDW_b hR0 q
    have hM := MW5_b hM0 q
    have e1 := q.1 13 w 1 (by omega)
    have e72 := q.1 13 w 72 (by omega)
    rw [f_M_between_0_26]
    refine zS_g b0.1 ?_
    refine zS_g (by unfold r32; omega) ?_
    refine zS_g (by unfold r32; omega) ?_
    refine zS_i (fun h => ?_) (fun h => ?_)
    · exact hrec F B q
    · refine zS_g (by unfold r32; omega) ?_
      refine zS_i (fun h2 => ?_) (fun h2 => ?_)
      · exact s_btw69 hK hR0 hM0 t0 t1 k0 u0 (by omega) (fun F B q' => ih (u + 1) F B q' (by omega) (by omega) (by omega)) K (u + 1) F B q (by omega) (by omega) (by omega)
      · refine zS_b (s_isAlone (K := K) hR hM hK t0 (by omega) u0 (by omega) (by unfold r32; omega)) ?_
        rintro r F B ⟨rfl, rfl, hr⟩
        refine zS_g (by unfold r32; omega) ?_
        refine zS_i (fun h3 => ?_) (fun h3 => ?_)
        · unfold f_M_between_0_127
          exact ih (u + 1) _ _ q (by omega) (by omega) (by omega)
        · refine zS_b (s_flt1 b0.1 q (by unfold r32; omega) (by unfold r32; omega) (by unfold r32; omega) (by decide)) ?_
          intro _ F1 B1 q1
          unfold f_M_between_0_127
          exact ih (u + 1) _ _ q1 (by omega) (by omega) (by omega)
theorem s_btw17 {K : Nat} {V w t : Int} {F0 : zF} {B0 : zB} {rec : Int → Int → zF → zB → zO} {Q : Int → zF → zB → Prop} (hK : 1000 ≤ K) (hR0 : RDW V w F0 B0) (hM0 : MW5 V w F0 B0) (t0 : 1 ≤ t) (t1 : t < F0 13 w 72) (hrec : ∀ F B, BQ w F0 F B0 B → zS (rec (t + 1) w F B) Q) : ∀ (n : Nat) (k : Int) (F : zF) (B : zB), BQ w F0 F B0 B → 1 ≤ k → k ≤ 7 → 7 - k < n → zS (f_M_between_0_17 rec K n k t w F B) Q := by
  have b0 := rd_0 hR0
  intro n
  induction n with
  | zero => intro v F B _ _ _ hn; exfalso; omega
  | succ n ih =>
    intro k F B q k0 k1 hn
    rw [f_M_between_0_17]
    refine zS_g (by unfold r32; omega) ?_
    refine zS_i (fun h => ?_) (fun h => ?_)
    · exact hrec F B q
    · exact s_btw26 hK hR0 hM0 t0 t1 ⟨k0, k1⟩ (fun F B q' => ih (k + 1) F B q' (by omega) (by omega) (by omega)) K 0 F B q (by decide) (by omega) (by omega)
theorem s_btw7 {K : Nat} {V w : Int} {F0 : zF} {B0 : zB} (hK : 1000 ≤ K) (hR0 : RDW V w F0 B0) (hM0 : MW5 V w F0 B0) : ∀ (n : Nat) (t : Int) (F : zF) (B : zB), BQ w F0 F B0 B → 1 ≤ t → t ≤ 801 → 801 - t < n → zS (f_M_between_0_7 K n t w F B) (fun _ F' B' => BQ w F0 F' B0 B') := by
  have b0 := rd_0 hR0
  have mm := hM0.1
  intro n
  induction n with
  | zero => intro t F B q t0 t1 hn; exfalso; omega
  | succ n ih =>
    intro t F B q t0 t1 hn
    have e72 := q.1 13 w 72 (by omega)
    rw [f_M_between_0_7]
    refine zS_g b0.1 ?_
    refine zS_g (by unfold r32; omega) ?_
    refine zS_g (by unfold r32; omega) ?_
    refine zS_i (fun h => ?_) (fun h => ?_)
    · exact zS_s q
    · exact s_btw17 hK hR0 hM0 t0 (by omega) (fun F B q' => ih (t + 1) F B q' (by omega) (by omega) (by omega)) K 1 F B q (by decide) (by decide) (by omega)
theorem s_between {K : Nat} {V w : Int} {F : zF} {B : zB} (hK : 1000 ≤ K) (hR : RDW V w F B) (hM : MW5 V w F B) (hX : X77 B) : zS (f_M_between_0 K w F B) (fun _ F' B' => BQ w F F' B B') := by
  have b0 := rd_0 hR
  unfold f_M_between_0
  refine zS_g b0.1 ?_
  exact s_btw7 hK hR hM K 1 _ B ⟨fun c i k n => by rw [zup3_v, if_neg n], by rw [zup3_v, if_pos (by omega)]; decide, fun _ _ _ _ _ => rfl, hX⟩ (by decide) (by decide) (by omega)
end
end
section
section
/-! ===== lines and faults, purely; the reference's, exactly ===== -/
theorem L_tnW {K : Nat} {s a : Int} {F : zF} {B : zB} (h0 : 0 ≤ s) (h1 : s ≤ 62) : f_M_tone K s a F B = some (tnv s + a, F, B) := by
  rw [L_tone h0 (by omega)]
  rfl
theorem tnv_w {s a : Int} (h0 : 0 ≤ s) (h1 : s ≤ 62) (a0 : -2 ≤ a) (a1 : a ≤ 2) : 0 ≤ tnv s + a ∧ tnv s + a ≤ 127 := by
  unfold tnv
  split <;> omega
def tpN (tn : Int → Int) : Nat → Int → Int → Int
  | 0, _, l => l
  | d + 1, i, l => tpN tn d (i + 1) (if l = -1 then i else if tn i < tn l then l else i)
theorem tpN_b {tn : Int → Int} : ∀ (d : Nat) (i l : Int), 0 ≤ i → -1 ≤ l → l < i → -1 ≤ tpN tn d i l ∧ tpN tn d i l < i + d ∧ (0 ≤ l ∨ 0 < d → 0 ≤ tpN tn d i l) := by
  intro d
  induction d with
  | zero => intro i l i0 l0 l1; rw [tpN]; omega
  | succ d ih =>
    intro i l i0 l0 l1
    rw [tpN]
    by_cases c : l = -1
    · rw [if_pos c]
      have := ih (i + 1) i (by omega) (by omega) (by omega)
      omega
    · rw [if_neg c]
      by_cases c1 : tn i < tn l
      · rw [if_pos c1]
        have := ih (i + 1) l (by omega) (by omega) (by omega)
        omega
      · rw [if_neg c1]
        have := ih (i + 1) i (by omega) (by omega) (by omega)
        omega
/-- tones of an event's pitches, which is its line, the line's tone and step -/
def tnS (S : zV) (u i j : Int) : Int := tnv (S u 3 i j) + S u 4 i j
def tpS (S : zV) (u i : Int) : Int := tpN (tnS S u i) (S u 2 i 0).toNat 0 (-1)
def lT (S : zV) (u i : Int) : Int := if tpS S u i = -1 then -1 else tnS S u i (tpS S u i)
def lS (S : zV) (u i : Int) : Int := if tpS S u i = -1 then -1 else S u 3 i (tpS S u i)
theorem tpS_b {V u i : Int} {S : zV} (h : SG V S) (u0 : 0 ≤ u) (u1 : u < V) (i0 : 0 ≤ i) (i1 : i < S u 0 0 0) : tpS S u i = -1 ∨ (0 ≤ tpS S u i ∧ tpS S u i < S u 2 i 0) := by
  have c := ((h.2 u u0 u1).2.2.1 i i0 i1).2.1
  have := tpN_b (tn := tnS S u i) (S u 2 i 0).toNat 0 (-1) (by decide) (by decide) (by decide)
  unfold tpS
  omega
theorem lTS_b {V u i : Int} {S : zV} (h : SG V S) (u0 : 0 ≤ u) (u1 : u < V) (i0 : 0 ≤ i) (i1 : i < S u 0 0 0) : (lT S u i = -1 ∧ lS S u i = -1) ∨ ((0 ≤ lT S u i ∧ lT S u i ≤ 127) ∧ 0 ≤ lS S u i ∧ lS S u i ≤ 62) := by
  unfold lT lS
  rcases tpS_b h u0 u1 i0 i1 with z | ⟨z0, z1⟩
  · rw [if_pos z, if_pos z]; exact Or.inl ⟨rfl, rfl⟩
  · obtain ⟨k1, k2⟩ := ((h.2 u u0 u1).2.2.1 i i0 i1).2.2 (tpS S u i) z0 z1
    have t := tnv_w k1.1 k1.2 k2.1 k2.2
    rw [if_neg (by omega), if_neg (by omega)]
    exact Or.inr ⟨t, k1⟩
/-- 1: primes and octaves, 2: fifths -/
def pcV (su tu sv tv : Int) : Int := if (if tu < tv then sv - su else su - sv) % 7 = 0 ∧ (if tu < tv then tv - tu else tu - tv) % 12 = 0 then 1 else if (if tu < tv then sv - su else su - sv) % 7 = 4 ∧ (if tu < tv then tv - tu else tu - tv) % 12 = 7 then 2 else 0
theorem pcV_b {su tu sv tv : Int} : 0 ≤ pcV su tu sv tv ∧ pcV su tu sv tv ≤ 2 := by
  unfold pcV
  generalize (if tu < tv then sv - su else su - sv) % 7 = a
  generalize (if tu < tv then tv - tu else tu - tv) % 12 = b
  split
  · omega
  · split <;> omega
def ovV (tu tv : Int) : Int := if 0 ≤ tu ∧ 0 ≤ tv ∧ tu < tv then 1 else 0
theorem ovV_b {tu tv : Int} : ovV tu tv = 0 ∨ ovV tu tv = 1 := by
  unfold ovV
  split
  · exact Or.inr rfl
  · exact Or.inl rfl
/-- a fault of two voices: kinds 1, 2, 3 -/
def q3V (k su tu sv tv su' tu' sv' tv' bu bv : Int) : Int := if 0 ≤ tu ∧ 0 ≤ tv ∧ 0 ≤ tu' ∧ 0 ≤ tv' ∧ bu = 1 ∧ bv = 1 ∧ ((tu' < tu ∧ tv' < tv) ∨ (tu < tu' ∧ tv < tv')) then (if k < 3 then (if pcV su tu sv tv = k ∧ pcV su' tu' sv' tv' = k then 1 else 0) else if 0 < pcV su tu sv tv ∧ ¬ pcV su' tu' sv' tv' = pcV su tu sv tv ∧ (2 < (if tu < tv then sv - sv' else su - su') ∨ (if tu < tv then sv - sv' else su - su') < -2) then 1 else 0) else 0
def q2V (k su tu sv tv su' tu' sv' tv' bu bv : Int) : Int := if k = 4 then (if ovV tu tv = 1 ∧ ovV tu' tv' = 0 then 1 else 0) else q3V k su tu sv tv su' tu' sv' tv' bu bv
def plV (s t : Int) : Int := if s = 0 then (if t = 0 then 1 else 0) else if s = 1 then (if t = 1 ∨ t = 2 then 1 else 0) else if s = 2 then (if t = 3 ∨ t = 4 then 1 else 0) else if s = 3 then (if t = 5 then 1 else 0) else if s = 4 then (if t = 7 then 1 else 0) else if s = 5 then (if t = 8 ∨ t = 9 then 1 else 0) else (if t = 10 ∨ t = 11 then 1 else 0)
def q1V (k su tu su' tu' bu : Int) : Int := if 0 ≤ tu ∧ 0 ≤ tu' ∧ bu = 1 then (if k = 5 then (if 7 < (if su < su' then su' - su else su - su') then 1 else 0) else if plV ((if su < su' then su' - su else su - su') % 7) ((if su < su' ∨ (su = su' ∧ tu < tu') then tu' - tu else tu - tu') % 12) = 0 then 1 else 0) else 0
theorem q3V_b {k su tu sv tv su' tu' sv' tv' bu bv : Int} : q3V k su tu sv tv su' tu' sv' tv' bu bv = 0 ∨ q3V k su tu sv tv su' tu' sv' tv' bu bv = 1 := by
  unfold q3V
  generalize pcV su tu sv tv = a
  generalize pcV su' tu' sv' tv' = b
  generalize (if tu < tv then sv - sv' else su - su') = g
  split
  · split
    · split <;> omega
    · split <;> omega
  · exact Or.inl rfl
theorem q2V_b {k su tu sv tv su' tu' sv' tv' bu bv : Int} : q2V k su tu sv tv su' tu' sv' tv' bu bv = 0 ∨ q2V k su tu sv tv su' tu' sv' tv' bu bv = 1 := by
  unfold q2V
  split
  · split
    · exact Or.inr rfl
    · exact Or.inl rfl
  · exact q3V_b
theorem q1V_b {k su tu su' tu' bu : Int} : q1V k su tu su' tu' bu = 0 ∨ q1V k su tu su' tu' bu = 1 := by
  unfold q1V
  split
  · split
    · split <;> omega
    · split <;> omega
  · exact Or.inl rfl
section
variable {K : Nat} {V w : Int} {S : zV} {F : zF} {B : zB}
theorem x_ln7 {u i : Int} (hS : SG V S) (hR : SRm V w S F B) (u0 : 0 ≤ u) (u1 : u < V) (i0 : 0 ≤ i) (i1 : i < S u 0 0 0) : ∀ (d n : Nat) (j l : Int), j + d = S u 2 i 0 → 0 ≤ j → d < n → -1 ≤ l → l < j → f_M_lineOf_7 K n (6 * (1000 * u + i) + j) (if l = -1 then -1 else 6 * (1000 * u + i) + l) w (1000 * u + i) F B = some (if tpN (tnS S u i) d j l = -1 then -1 else 6 * (1000 * u + i) + tpN (tnS S u i) d j l, F, B) := by
  have v4 := hS.1
  have w0 := hR.1
  obtain ⟨g1, _, g3, _⟩ := hS.2 u u0 u1
  obtain ⟨_, c6, gp⟩ := g3 i i0 i1
  obtain ⟨_, r2⟩ := hR.2.2 u u0 u1
  obtain ⟨_, _, e21, rp⟩ := r2 i i0 i1
  have xb : 0 ≤ 1000 * u + i ∧ 1000 * u + i < 4000 := by omega
  intro d
  induction d with
  | zero =>
    intro n j l jd j0 hn l0 l1
    obtain ⟨n, rfl⟩ : ∃ p, n = p + 1 := ⟨n - 1, by omega⟩
    rw [f_M_lineOf_7, if_pos w0, if_pos xb, if_pos (show r32 (6 * (1000 * u + i) + j) by unfold r32; omega), e21, if_pos (show r32 (6 * (1000 * u + i) + S u 2 i 0) by unfold r32; omega), if_pos (show 6 * (1000 * u + i) + S u 2 i 0 ≤ 6 * (1000 * u + i) + j by omega), tpN]
  | succ d ih =>
    intro n j l jd j0 hn l0 l1
    obtain ⟨n, rfl⟩ : ∃ p, n = p + 1 := ⟨n - 1, by omega⟩
    have a := ih n (j + 1) j (by omega) (by omega) (by omega) (by omega) (by omega)
    rw [if_neg (show ¬ j = -1 by omega), ← Int.add_assoc] at a
    rw [f_M_lineOf_7, if_pos w0, if_pos xb, if_pos (show r32 (6 * (1000 * u + i) + j) by unfold r32; omega), e21, if_pos (show r32 (6 * (1000 * u + i) + S u 2 i 0) by unfold r32; omega), if_neg (show ¬ 6 * (1000 * u + i) + S u 2 i 0 ≤ 6 * (1000 * u + i) + j by omega), tpN]
    by_cases c : l = -1
    · rw [if_pos c, if_pos c, if_pos (show r32 (-1) by decide), if_pos (show (-1 : Int) < 0 by decide), f_M_lineOf_59, f_M_lineOf_61]
      exact a
    · have b := ih n (j + 1) l (by omega) (by omega) (by omega) (by omega) (by omega)
      rw [if_neg c, ← Int.add_assoc] at b
      obtain ⟨p1, p2⟩ := rp j j0 (by omega)
      obtain ⟨q1, q2⟩ := rp l (by omega) (by omega)
      obtain ⟨s1, s2⟩ := gp j j0 (by omega)
      obtain ⟨t1, t2⟩ := gp l (by omega) (by omega)
      have m1 := tnv_w s1.1 s1.2 s2.1 s2.2
      have m2 := tnv_w t1.1 t1.2 t2.1 t2.2
      rw [if_neg c, if_neg c, if_pos (show r32 (6 * (1000 * u + i) + l) by unfold r32; omega), if_neg (show ¬ 6 * (1000 * u + i) + l < 0 by omega), if_pos (show 0 ≤ 6 * (1000 * u + i) + j ∧ 6 * (1000 * u + i) + j < 24000 by omega), p1, p2, L_tnW s1.1 s1.2, zb_s, if_pos (show 0 ≤ 6 * (1000 * u + i) + l ∧ 6 * (1000 * u + i) + l < 24000 by omega), q1, q2, L_tnW t1.1 t1.2, zb_s, if_pos (show r32 (tnv (S u 3 i j) + S u 4 i j) by unfold r32; omega), if_pos (show r32 (tnv (S u 3 i l) + S u 4 i l) by unfold r32; omega)]
      by_cases c1 : tnS S u i j < tnS S u i l
      · have c2 : tnv (S u 3 i j) + S u 4 i j < tnv (S u 3 i l) + S u 4 i l := c1
        rw [if_pos c1, if_pos c2, f_M_lineOf_61]
        exact b
      · have c2 : ¬ tnv (S u 3 i j) + S u 4 i j < tnv (S u 3 i l) + S u 4 i l := c1
        rw [if_neg c1, if_neg c2, f_M_lineOf_59, f_M_lineOf_61]
        exact a
/-- a slot r holds the line: tone t, step s; or there is none -/
def LNv (w : Int) (B : zB) (r t s : Int) : Prop := (r = -1 ∧ t = -1 ∧ s = -1) ∨ ((0 ≤ r ∧ r < 24000) ∧ B 13 w 28 r = s ∧ tnv s + B 13 w 29 r = t ∧ (0 ≤ s ∧ s ≤ 62) ∧ 0 ≤ t ∧ t ≤ 127)
theorem x_lineAt {u t i : Int} (hK : 100 ≤ K) (hS : SG V S) (hR : SRm V w S F B) (u0 : 0 ≤ u) (u1 : u < V) (t0 : 0 ≤ t) (t1 : t < 800) (ei : B 13 w 75 (4 * t + u) = i) (i0 : 0 ≤ i) (i1 : i < S u 0 0 0) : ∃ r, f_M_lineAt K w t u F B = some (r, F, B) ∧ LNv w B r (lT S u i) (lS S u i) := by
  have v4 := hS.1
  obtain ⟨g1, _, g3, _⟩ := hS.2 u u0 u1
  obtain ⟨_, c6, gp⟩ := g3 i i0 i1
  obtain ⟨_, r2⟩ := hR.2.2 u u0 u1
  obtain ⟨_, _, _, rp⟩ := r2 i i0 i1
  have e := x_ln7 (K := K) hS hR u0 u1 i0 i1 (S u 2 i 0).toNat K 0 (-1) (by omega) (by decide) (by omega) (by decide) (by decide)
  rw [if_pos rfl, Int.add_zero] at e
  have e' : f_M_lineOf K w (1000 * u + i) F B = some (if tpS S u i = -1 then -1 else 6 * (1000 * u + i) + tpS S u i, F, B) := e
  unfold f_M_lineAt
  rw [if_pos hR.1, if_pos (by omega), ei, e', zb_s]
  refine ⟨_, rfl, ?_⟩
  unfold lT lS LNv
  rcases tpS_b hS u0 u1 i0 i1 with z | ⟨z0, z1⟩
  · rw [if_pos z, if_pos z, if_pos z]; exact Or.inl ⟨rfl, rfl, rfl⟩
  · obtain ⟨k1, k2⟩ := gp (tpS S u i) z0 z1
    obtain ⟨p1, p2⟩ := rp (tpS S u i) z0 z1
    have tb := tnv_w k1.1 k1.2 k2.1 k2.2
    rw [if_neg (show ¬ tpS S u i = -1 by omega), if_neg (show ¬ tpS S u i = -1 by omega), if_neg (show ¬ tpS S u i = -1 by omega), p1, p2]
    exact Or.inr ⟨by omega, rfl, rfl, k1, tb⟩
theorem x_toneAt {r t s : Int} (w0 : 0 ≤ w ∧ w < 3) (h : LNv w B r t s) (t0 : 0 ≤ t) : f_M_toneAt K w r F B = some (t, F, B) := by
  rcases h with ⟨_, z, _⟩ | ⟨a, b, c, d, _⟩
  · omega
  · unfold f_M_toneAt
    rw [if_pos w0, if_pos a, b, L_tnW d.1 d.2, zb_s, c]
theorem LNv_r {r t s : Int} (h : LNv w B r t s) : (r < 0 ↔ t < 0) ∧ r32 r ∧ (-1 ≤ t ∧ t ≤ 127) ∧ (-1 ≤ s ∧ s ≤ 62) ∧ (0 ≤ t → (0 ≤ r ∧ r < 24000) ∧ B 13 w 28 r = s ∧ 0 ≤ s) := by
  unfold r32
  rcases h with ⟨x, y, z⟩ | ⟨a, b, c, d, e⟩
  · refine ⟨by omega, by omega, by omega, by omega, fun k => by omega⟩
  · refine ⟨by omega, by omega, by omega, by omega, fun k => ⟨a, b, d.1⟩⟩
theorem x_perf {a b ta sa tb sb : Int} (w0 : 0 ≤ w ∧ w < 3) (ha : LNv w B a ta sa) (hb : LNv w B b tb sb) (a0 : 0 ≤ ta) (b0 : 0 ≤ tb) : f_M_perfect K w a b F B = some (pcV sa ta sb tb, F, B) := by
  have ra := LNv_r ha
  have rb := LNv_r hb
  obtain ⟨xa, ya, za⟩ := ra.2.2.2.2 a0
  obtain ⟨xb, yb, zb⟩ := rb.2.2.2.2 b0
  have d1 : r32 (1 : Int) := by decide
  have d0 : r32 (0 : Int) := by decide
  -- behind the choice of the higher
  have key : ∀ h l th sh tl sl : Int, (0 ≤ h ∧ h < 24000) → (0 ≤ l ∧ l < 24000) → B 13 w 28 h = sh → B 13 w 28 l = sl → LNv w B h th sh → LNv w B l tl sl → 0 ≤ th → 0 ≤ tl → f_M_perfect_39 K h w l F B = some (if (sh - sl) % 7 = 0 ∧ (th - tl) % 12 = 0 then 1 else if (sh - sl) % 7 = 4 ∧ (th - tl) % 12 = 7 then 2 else 0, F, B) := fun h l th sh tl sl hh hl eh el nh nl h0 l0 => by
    have rh := LNv_r nh
    have rl := LNv_r nl
    have m7 : 0 ≤ (sh - sl) % 7 ∧ (sh - sl) % 7 < 7 := by omega
    have m12 : 0 ≤ (th - tl) % 12 ∧ (th - tl) % 12 < 12 := by omega
    unfold f_M_perfect_39 f_M_perfect_97 f_M_perfect_114 f_M_perfect_115
    rw [if_pos w0, if_pos hh, if_pos hl, eh, el, L_mod (by unfold r32; omega) (by decide) (by decide), zb_s, x_toneAt w0 nh h0, zb_s, x_toneAt w0 nl l0, zb_s, L_mod (by unfold r32; omega) (by decide) (by decide), zb_s]
    generalize (sh - sl) % 7 = p at m7 ⊢
    generalize (th - tl) % 12 = q at m12 ⊢
    have rp : r32 p := by unfold r32; omega
    have rq : r32 q := by unfold r32; omega
    by_cases c1 : p = 0
    · by_cases c2 : q = 0
      · rw [if_pos rp, if_pos c1, if_pos rq, if_pos c2, if_pos ⟨c1, c2⟩]
      · rw [if_pos rp, if_pos c1, if_pos rq, if_neg c2, if_pos rp, if_neg (show ¬ p = 4 by omega), if_neg (show ¬ (p = 0 ∧ q = 0) from fun z => c2 z.2), if_neg (show ¬ (p = 4 ∧ q = 7) by omega)]
    · rw [if_pos rp, if_neg c1, if_pos rp, if_neg (show ¬ (p = 0 ∧ q = 0) from fun z => c1 z.1)]
      by_cases c3 : p = 4
      · by_cases c4 : q = 7
        · rw [if_pos c3, if_pos rq, if_pos c4, if_pos ⟨c3, c4⟩]
        · rw [if_pos c3, if_pos rq, if_neg c4, if_neg (show ¬ (p = 4 ∧ q = 7) from fun z => c4 z.2)]
      · rw [if_neg c3, if_neg (show ¬ (p = 4 ∧ q = 7) from fun z => c3 z.1)]
  unfold f_M_perfect f_M_perfect_18 f_M_perfect_28
  rw [x_toneAt w0 ha a0, zb_s, x_toneAt w0 hb b0, zb_s, if_pos (show r32 ta by unfold r32; omega), if_pos (show r32 tb by unfold r32; omega)]
  unfold pcV
  by_cases c : ta < tb
  · rw [if_pos c, if_pos c, if_pos c, if_pos d0, if_pos (show (0 : Int) = 0 from rfl), if_pos d0, if_pos (show (0 : Int) = 0 from rfl)]
    exact key b a tb sb ta sa xb xa yb ya hb ha b0 a0
  · rw [if_neg c, if_neg c, if_neg c, if_pos d1, if_neg (show ¬ (1 : Int) = 0 by decide), if_pos d1, if_neg (show ¬ (1 : Int) = 0 by decide)]
    exact key a b ta sa tb sb xa xb ya yb ha hb a0 b0
theorem x_over {a b ta sa tb sb : Int} (w0 : 0 ≤ w ∧ w < 3) (ha : LNv w B a ta sa) (hb : LNv w B b tb sb) : f_M_isOver K w a b F B = some (ovV ta tb, F, B) := by
  have ra := LNv_r ha
  have rb := LNv_r hb
  unfold f_M_isOver f_M_isOver_25 f_M_isOver_26 ovV
  rw [if_pos ra.2.1]
  by_cases c1 : a < 0
  · rw [if_pos c1, if_pos (Or.inl rfl), if_neg (by omega)]
  · rw [if_neg c1, if_pos rb.2.1]
    by_cases c2 : b < 0
    · rw [if_pos c2, if_pos (Or.inl rfl), if_neg (by omega)]
    · rw [if_neg c2, x_toneAt w0 hb (by omega), zb_s, x_toneAt w0 ha (by omega), zb_s, if_pos (show r32 tb by unfold r32; omega), if_pos (show r32 ta by unfold r32; omega)]
      by_cases c3 : tb ≤ ta
      · rw [if_pos c3, if_pos (Or.inl rfl), if_neg (by omega)]
      · rw [if_neg c3, if_pos (Or.inr rfl), if_pos (by omega)]
theorem x_cross {m u v a b c d ta sa tb sb tc sc td sd : Int} (w0 : 0 ≤ w ∧ w < 3) (ea : f_M_lineAt K w m u F B = some (a, F, B)) (eb : f_M_lineAt K w m v F B = some (b, F, B)) (ec : f_M_lineAt K w (m - 1) u F B = some (c, F, B)) (ed : f_M_lineAt K w (m - 1) v F B = some (d, F, B)) (ha : LNv w B a ta sa) (hb : LNv w B b tb sb) (hc : LNv w B c tc sc) (hd : LNv w B d td sd) : f_M_isCrossed K w m u v F B = some (if ovV ta tb = 1 ∧ ovV tc td = 0 then 1 else 0, F, B) := by
  have o1 := ovV_b (tu := ta) (tv := tb)
  have o2 := ovV_b (tu := tc) (tv := td)
  unfold f_M_isCrossed f_M_isCrossed_46 f_M_isCrossed_47
  rw [ea, zb_s, eb, zb_s, x_over w0 ha hb, zb_s]
  generalize ovV ta tb = x at o1 ⊢
  rw [if_pos (show r32 x by unfold r32; omega)]
  by_cases z : x = 0
  · rw [if_pos z, if_pos (Or.inl rfl), if_neg (by omega)]
  · rw [if_neg z, ec, zb_s, ed, zb_s, x_over w0 hc hd, zb_s]
    generalize ovV tc td = y at o2 ⊢
    rw [if_pos (show r32 y by unfold r32; omega)]
    by_cases z' : y = 0
    · rw [if_pos z', if_pos (Or.inr rfl), if_pos (by omega)]
    · rw [if_neg z', if_pos (Or.inl rfl), if_neg (by omega)]
theorem x_par {m k u v a b c d ta sa tb sb tc sc td sd bu bv : Int} (w0 : 0 ≤ w ∧ w < 3) (k0 : 1 ≤ k ∧ k ≤ 3) (ea : f_M_lineAt K w m u F B = some (a, F, B)) (eb : f_M_lineAt K w m v F B = some (b, F, B)) (ec : f_M_lineAt K w (m - 1) u F B = some (c, F, B)) (ed : f_M_lineAt K w (m - 1) v F B = some (d, F, B)) (ha : LNv w B a ta sa) (hb : LNv w B b tb sb) (hc : LNv w B c tc sc) (hd : LNv w B d td sd) (eu : f_M_beginsAt K w m u F B = some (bu, F, B)) (ev : f_M_beginsAt K w m v F B = some (bv, F, B)) (hu : bu = 0 ∨ bu = 1) (hv : bv = 0 ∨ bv = 1) : f_M_isParallel K w m k u v F B = some (q3V k sa ta sb tb sc tc sd td bu bv, F, B) := by
  have ra := LNv_r ha
  have rb := LNv_r hb
  have rc := LNv_r hc
  have rd := LNv_r hd
  have d1 : r32 (1 : Int) := by decide
  have d0 : r32 (0 : Int) := by decide
  have no : ¬ (0 ≤ ta ∧ 0 ≤ tb ∧ 0 ≤ tc ∧ 0 ≤ td ∧ bu = 1 ∧ bv = 1 ∧ ((tc < ta ∧ td < tb) ∨ (ta < tc ∧ tb < td))) → q3V k sa ta sb tb sc tc sd td bu bv = 0 := fun z => by unfold q3V; rw [if_neg z]
  unfold f_M_isParallel f_M_isParallel_77
  rw [ea, zb_s, eb, zb_s, ec, zb_s, ed, zb_s, if_pos ra.2.1]
  by_cases c1 : a < 0
  · rw [if_pos c1, no (by omega)]
  rw [if_neg c1, if_pos rb.2.1]
  by_cases c2 : b < 0
  · rw [if_pos c2, no (by omega)]
  rw [if_neg c2, if_pos rc.2.1]
  by_cases c3 : c < 0
  · rw [if_pos c3, no (by omega)]
  rw [if_neg c3, if_pos rd.2.1]
  by_cases c4 : d < 0
  · rw [if_pos c4, no (by omega)]
  rw [if_neg c4, eu, zb_s, if_pos (show r32 bu by unfold r32; omega)]
  by_cases c5 : bu = 0
  · rw [if_pos c5, no (by omega)]
  rw [if_neg c5, ev, zb_s, if_pos (show r32 bv by unfold r32; omega)]
  by_cases c6 : bv = 0
  · rw [if_pos c6, no (by omega)]
  have a0 : 0 ≤ ta := by omega
  have b0 : 0 ≤ tb := by omega
  have cc0 : 0 ≤ tc := by omega
  have dd0 : 0 ≤ td := by omega
  obtain ⟨xa, ya, za⟩ := ra.2.2.2.2 a0
  obtain ⟨xb, yb, zb⟩ := rb.2.2.2.2 b0
  obtain ⟨xc, yc, zc⟩ := rc.2.2.2.2 cc0
  obtain ⟨xd, yd, zd⟩ := rd.2.2.2.2 dd0
  -- not the same way
  have stop : ¬ ((tc < ta ∧ td < tb) ∨ (ta < tc ∧ tb < td)) → f_M_isParallel_134 K d c b a w k 0 F B = some (q3V k sa ta sb tb sc tc sd td bu bv, F, B) := fun z => by
    unfold f_M_isParallel_134
    rw [if_pos d0, if_pos rfl, no (by omega)]
  -- the same way
  have go : ((tc < ta ∧ td < tb) ∨ (ta < tc ∧ tb < td)) → f_M_isParallel_134 K d c b a w k 1 F B = some (q3V k sa ta sb tb sc tc sd td bu bv, F, B) := fun z => by
    have pb := pcV_b (su := sa) (tu := ta) (sv := sb) (tv := tb)
    have pb' := pcV_b (su := sc) (tu := tc) (sv := sd) (tv := td)
    unfold f_M_isParallel_134 f_M_isParallel_184 f_M_isParallel_185 q3V
    rw [if_pos d1, if_neg (show ¬ (1 : Int) = 0 by decide), x_perf w0 ha hb a0 b0, zb_s, x_perf w0 hc hd cc0 dd0, zb_s, if_pos (show r32 k by unfold r32; omega), if_pos (show 0 ≤ ta ∧ 0 ≤ tb ∧ 0 ≤ tc ∧ 0 ≤ td ∧ bu = 1 ∧ bv = 1 ∧ ((tc < ta ∧ td < tb) ∨ (ta < tc ∧ tb < td)) by omega)]
    generalize pcV sa ta sb tb = p at pb ⊢
    generalize pcV sc tc sd td = q at pb' ⊢
    have e234 : ∀ g : Int, r32 g → f_M_isParallel_234 K q p g F B = some (if 0 < p ∧ ¬ q = p ∧ (2 < g ∨ g < -2) then 1 else 0, F, B) := fun g rg => by
      unfold f_M_isParallel_234 f_M_isParallel_261 f_M_isParallel_265 f_M_isParallel_266
      rw [if_pos (show r32 p by unfold r32; omega)]
      by_cases z1 : p ≤ 0
      · rw [if_pos z1, if_pos (Or.inl rfl), if_neg (by omega)]
      rw [if_neg z1, if_pos (show r32 q by unfold r32; omega)]
      by_cases z2 : q = p
      · rw [if_pos z2, if_pos (Or.inl rfl), if_neg (by omega)]
      rw [if_neg z2, if_pos rg]
      by_cases z3 : 2 < g
      · rw [if_pos z3, if_pos (Or.inr rfl), if_pos (by omega)]
      rw [if_neg z3]
      by_cases z4 : -2 ≤ g
      · rw [if_pos z4, if_pos (Or.inl rfl), if_neg (by omega)]
      · rw [if_neg z4, if_pos (Or.inr rfl), if_pos (by omega)]
    by_cases c7 : 3 ≤ k
    · rw [if_pos c7, x_toneAt w0 ha a0, zb_s, x_toneAt w0 hb b0, zb_s, if_pos (show r32 ta by unfold r32; omega), if_pos (show r32 tb by unfold r32; omega), if_neg (show ¬ k < 3 by omega)]
      by_cases c8 : ta < tb
      · rw [if_pos c8, if_pos w0, if_pos xb, if_pos xd, yb, yd, e234 _ (by unfold r32; omega), if_pos c8]
      · rw [if_neg c8, if_pos w0, if_pos xa, if_pos xc, ya, yc, e234 _ (by unfold r32; omega), if_neg c8]
    · rw [if_neg c7, if_pos (show r32 p by unfold r32; omega), if_pos (show k < 3 by omega)]
      by_cases c8 : p = k
      · rw [if_pos c8, if_pos (show r32 q by unfold r32; omega)]
        by_cases c9 : q = k
        · rw [if_pos c9, if_pos (Or.inr rfl), if_pos ⟨c8, c9⟩]
        · rw [if_neg c9, if_pos (Or.inl rfl), if_neg (fun y => c9 y.2)]
      · rw [if_neg c8, if_pos (Or.inl rfl), if_neg (fun y => c8 y.1)]
  rw [if_neg c6, x_toneAt w0 ha a0, zb_s, x_toneAt w0 hc cc0, zb_s, x_toneAt w0 hb b0, zb_s, x_toneAt w0 hd dd0, zb_s, if_pos (show r32 (ta - tc) by unfold r32; omega)]
  have o119 : ¬ (tc < ta ∧ td < tb) → f_M_isParallel_119 K (tb - td) (ta - tc) d c b a w k F B = some (q3V k sa ta sb tb sc tc sd td bu bv, F, B) := fun z => by
    unfold f_M_isParallel_119 f_M_isParallel_129 f_M_isParallel_133
    rw [if_pos (show r32 (ta - tc) by unfold r32; omega)]
    by_cases z1 : 0 ≤ ta - tc
    · rw [if_pos z1]; exact stop (by omega)
    rw [if_neg z1, if_pos (show r32 (tb - td) by unfold r32; omega)]
    by_cases z2 : 0 ≤ tb - td
    · rw [if_pos z2]; exact stop (by omega)
    · rw [if_neg z2]; exact go (by omega)
  by_cases z1 : ta - tc ≤ 0
  · rw [if_pos z1]; exact o119 (by omega)
  rw [if_neg z1, if_pos (show r32 (tb - td) by unfold r32; omega)]
  by_cases z2 : 0 < tb - td
  · rw [if_pos z2]
    unfold f_M_isParallel_129
    exact go (by omega)
  · rw [if_neg z2]; exact o119 (by omega)
theorem x_plain {s t : Int} (s0 : 0 ≤ s ∧ s < 7) (t0 : 0 ≤ t ∧ t < 12) : f_M_isPlainStep K s t F B = some (plV s t, F, B) := by
  have rs : r32 s := by unfold r32; omega
  have rt : r32 t := by unfold r32; omega
  unfold f_M_isPlainStep f_M_isPlainStep_13 f_M_isPlainStep_29 f_M_isPlainStep_34 f_M_isPlainStep_50 f_M_isPlainStep_55 f_M_isPlainStep_71 f_M_isPlainStep_88 f_M_isPlainStep_106 f_M_isPlainStep_126 f_M_isPlainStep_131 plV
  rw [if_pos rs]
  by_cases c0 : s = 0
  · rw [if_pos c0, if_pos rt, if_pos c0]
    by_cases c : t = 0
    · rw [if_pos c, if_pos (Or.inr rfl), if_pos c]
    · rw [if_neg c, if_pos (Or.inl rfl), if_neg c]
  rw [if_neg c0, if_neg c0]
  by_cases c1 : s = 1
  · rw [if_pos c1, if_pos rt, if_pos c1]
    by_cases c : t = 1
    · rw [if_pos c, if_pos (Or.inr rfl), if_pos (Or.inl c)]
    rw [if_neg c]
    by_cases d : t = 2
    · rw [if_pos d, if_pos (Or.inr rfl), if_pos (Or.inr d)]
    · rw [if_neg d, if_pos (Or.inl rfl), if_neg (by omega)]
  rw [if_neg c1, if_neg c1]
  by_cases c2 : s = 2
  · rw [if_pos c2, if_pos rt, if_pos c2]
    by_cases c : t = 3
    · rw [if_pos c, if_pos (Or.inr rfl), if_pos (Or.inl c)]
    rw [if_neg c]
    by_cases d : t = 4
    · rw [if_pos d, if_pos (Or.inr rfl), if_pos (Or.inr d)]
    · rw [if_neg d, if_pos (Or.inl rfl), if_neg (by omega)]
  rw [if_neg c2, if_neg c2]
  by_cases c3 : s = 3
  · rw [if_pos c3, if_pos rt, if_pos c3]
    by_cases c : t = 5
    · rw [if_pos c, if_pos (Or.inr rfl), if_pos c]
    · rw [if_neg c, if_pos (Or.inl rfl), if_neg c]
  rw [if_neg c3, if_neg c3]
  by_cases c4 : s = 4
  · rw [if_pos c4, if_pos rt, if_pos c4]
    by_cases c : t = 7
    · rw [if_pos c, if_pos (Or.inr rfl), if_pos c]
    · rw [if_neg c, if_pos (Or.inl rfl), if_neg c]
  rw [if_neg c4, if_neg c4]
  by_cases c5 : s = 5
  · rw [if_pos c5, if_pos rt, if_pos c5]
    by_cases c : t = 8
    · rw [if_pos c, if_pos (Or.inr rfl), if_pos (Or.inl c)]
    rw [if_neg c]
    by_cases d : t = 9
    · rw [if_pos d, if_pos (Or.inr rfl), if_pos (Or.inr d)]
    · rw [if_neg d, if_pos (Or.inl rfl), if_neg (by omega)]
  rw [if_neg c5, if_pos rt, if_neg c5]
  by_cases c : t = 10
  · rw [if_pos c, if_pos (Or.inr rfl), if_pos (Or.inl c)]
  rw [if_neg c]
  by_cases d : t = 11
  · rw [if_pos d, if_pos (Or.inr rfl), if_pos (Or.inr d)]
  · rw [if_neg d, if_pos (Or.inl rfl), if_neg (by omega)]
theorem plV_b {s t : Int} : plV s t = 0 ∨ plV s t = 1 := by
  unfold plV
  (repeat' split) <;> omega
theorem x_alone {m k u a c ta sa tc sc bu : Int} (w0 : 0 ≤ w ∧ w < 3) (k0 : k = 5 ∨ k = 6) (ea : f_M_lineAt K w m u F B = some (a, F, B)) (ec : f_M_lineAt K w (m - 1) u F B = some (c, F, B)) (ha : LNv w B a ta sa) (hc : LNv w B c tc sc) (eu : f_M_beginsAt K w m u F B = some (bu, F, B)) (hu : bu = 0 ∨ bu = 1) : f_M_isAlone K w m k u F B = some (q1V k sa ta sc tc bu, F, B) := by
  have ra := LNv_r ha
  have rc := LNv_r hc
  have no : ¬ (0 ≤ ta ∧ 0 ≤ tc ∧ bu = 1) → q1V k sa ta sc tc bu = 0 := fun z => by unfold q1V; rw [if_neg z]
  unfold f_M_isAlone f_M_isAlone_37
  rw [ea, zb_s, ec, zb_s, if_pos ra.2.1]
  by_cases c1 : a < 0
  · rw [if_pos c1, no (by omega)]
  rw [if_neg c1, if_pos rc.2.1]
  by_cases c3 : c < 0
  · rw [if_pos c3, no (by omega)]
  rw [if_neg c3, eu, zb_s, if_pos (show r32 bu by unfold r32; omega)]
  by_cases c5 : bu = 0
  · rw [if_pos c5, no (by omega)]
  have a0 : 0 ≤ ta := by omega
  have cc0 : 0 ≤ tc := by omega
  obtain ⟨xa, ya, za⟩ := ra.2.2.2.2 a0
  obtain ⟨xc, yc, zc⟩ := rc.2.2.2.2 cc0
  have o127 : ∀ g h : Int, 0 ≤ g → g ≤ 62 → r32 h → f_M_isAlone_127 K g h F B = some (if plV (g % 7) (h % 12) = 0 then 1 else 0, F, B) := fun g h g0 g1 rh => by
    have pb := plV_b (s := g % 7) (t := h % 12)
    unfold f_M_isAlone_127 f_M_isAlone_152
    rw [L_mod rh (by decide) (by decide), zb_s, zrm_e g0 (by unfold r32; omega) (by decide) (by decide), x_plain (by omega) (by omega), zb_s]
    generalize plV (g % 7) (h % 12) = p at pb ⊢
    rw [if_pos (show r32 p by unfold r32; omega)]
    by_cases z : p = 0
    · rw [if_pos z, if_pos (Or.inr rfl), if_pos z]
    · rw [if_neg z, if_pos (Or.inl rfl), if_neg z]
  have o69 : ∀ g : Int, g = (if sa < sc then sc - sa else sa - sc) → f_M_isAlone_69 K (sa - sc) c a w k g F B = some (q1V k sa ta sc tc bu, F, B) := fun g hg => by
    have gb : 0 ≤ g ∧ g ≤ 62 := by rw [hg]; split <;> omega
    unfold f_M_isAlone_69 f_M_isAlone_88 f_M_isAlone_119 f_M_isAlone_125 q1V
    rw [if_pos (show r32 k by unfold r32; omega), if_pos (show 0 ≤ ta ∧ 0 ≤ tc ∧ bu = 1 by omega), ← hg]
    by_cases c6 : k = 5
    · rw [if_pos c6, if_pos (show r32 g by unfold r32; omega), if_pos c6]
      by_cases c7 : g ≤ 7
      · rw [if_pos c7, if_pos (Or.inl rfl), if_neg (by omega)]
      · rw [if_neg c7, if_pos (Or.inr rfl), if_pos (by omega)]
    · rw [if_neg c6, x_toneAt w0 ha a0, zb_s, x_toneAt w0 hc cc0, zb_s, if_pos (show r32 (sa - sc) by unfold r32; omega), if_neg c6]
      by_cases c7 : sa - sc < 0
      · rw [if_pos c7, o127 g _ gb.1 gb.2 (by unfold r32; omega), if_pos (show sa < sc ∨ (sa = sc ∧ ta < tc) by omega), show -(ta - tc) = tc - ta by omega]
      rw [if_neg c7]
      by_cases c8 : sa - sc = 0
      · rw [if_pos c8, if_pos (show r32 (ta - tc) by unfold r32; omega)]
        by_cases c9 : 0 ≤ ta - tc
        · rw [if_pos c9, o127 g _ gb.1 gb.2 (by unfold r32; omega), if_neg (show ¬ (sa < sc ∨ (sa = sc ∧ ta < tc)) by omega)]
        · rw [if_neg c9, o127 g _ gb.1 gb.2 (by unfold r32; omega), if_pos (show sa < sc ∨ (sa = sc ∧ ta < tc) by omega), show -(ta - tc) = tc - ta by omega]
      · rw [if_neg c8, o127 g _ gb.1 gb.2 (by unfold r32; omega), if_neg (show ¬ (sa < sc ∨ (sa = sc ∧ ta < tc)) by omega)]
  rw [if_neg c5, if_pos w0, if_pos xa, if_pos xc, ya, yc, if_pos (show r32 (sa - sc) by unfold r32; omega)]
  by_cases c6 : 0 ≤ sa - sc
  · rw [if_pos c6]; exact o69 _ (by rw [if_neg (by omega)])
  · rw [if_neg c6]; exact o69 _ (by rw [if_pos (by omega)]; omega)
theorem x_begins {m u i i' : Int} (w0 : 0 ≤ w ∧ w < 3) (u0 : 0 ≤ u ∧ u < 4) (m0 : 1 ≤ m ∧ m < 800) (e : B 13 w 75 (4 * m + u) = i) (e' : B 13 w 75 (4 * (m - 1) + u) = i') (hi : 0 ≤ i ∧ i < 200) (hi' : 0 ≤ i' ∧ i' < 200) : f_M_beginsAt K w m u F B = some (if i = i' then 0 else 1, F, B) := by
  unfold f_M_beginsAt f_M_beginsAt_30
  rw [if_pos w0, if_pos (show 0 ≤ 4 * m + u ∧ 4 * m + u < 3200 by omega), if_pos (show 0 ≤ 4 * (m - 1) + u ∧ 4 * (m - 1) + u < 3200 by omega), e, e', if_pos (show r32 i by unfold r32; omega), if_pos (show r32 i' by unfold r32; omega)]
  by_cases z : i = i'
  · rw [if_pos z, if_pos z, if_pos (Or.inl rfl)]
  · rw [if_neg z, if_neg z, if_pos (Or.inr rfl)]
end
end
end
section
section
/-! ===== the faults of a piece, purely and in the reference ===== -/
abbrev zQ := Int × (Nat → Int → Int)
def aF (m k u v : Int) (s : zQ) : zQ := if s.1 = 300 then s else (s.1 + 1, fun r i => if i = s.1 then (if r = 0 then m else if r = 1 then k else if r = 2 then u else v) else s.2 r i)
/-- whether there is one -/
def g2Q (S : zV) (L : Int → Int → Int) (m k u v : Int) : Int := q2V k (lS S u (L u m)) (lT S u (L u m)) (lS S v (L v m)) (lT S v (L v m)) (lS S u (L u (m - 1))) (lT S u (L u (m - 1))) (lS S v (L v (m - 1))) (lT S v (L v (m - 1))) (if L u m = L u (m - 1) then 0 else 1) (if L v m = L v (m - 1) then 0 else 1)
def g1Q (S : zV) (L : Int → Int → Int) (m k u : Int) : Int := q1V k (lS S u (L u m)) (lT S u (L u m)) (lS S u (L u (m - 1))) (lT S u (L u (m - 1))) (if L u m = L u (m - 1) then 0 else 1)
def fwQ (S : zV) (L : Int → Int → Int) (m k u : Int) : Nat → Int → zQ → zQ
  | 0, _, s => s
  | d + 1, v, s => fwQ S L m k u d (v + 1) (if g2Q S L m k u v = 0 then s else aF m k u v s)
def fuQ (S : zV) (L : Int → Int → Int) (V m k : Int) : Nat → Int → zQ → zQ
  | 0, _, s => s
  | d + 1, u, s => fuQ S L V m k d (u + 1) (fwQ S L m k u (V - (u + 1)).toNat (u + 1) s)
def foQ (S : zV) (L : Int → Int → Int) (m k : Int) : Nat → Int → zQ → zQ
  | 0, _, s => s
  | d + 1, u, s => foQ S L m k d (u + 1) (if g1Q S L m k u = 0 then s else aF m k u (-1) s)
def fkQ (S : zV) (L : Int → Int → Int) (V m : Int) : Nat → Int → zQ → zQ
  | 0, _, s => s
  | d + 1, k, s => fkQ S L V m d (k + 1) (if k ≤ 4 then fuQ S L V m k V.toNat 0 s else foQ S L m k V.toNat 0 s)
def fmQ (S : zV) (L : Int → Int → Int) (V : Int) : Nat → Int → zQ → zQ
  | 0, _, s => s
  | d + 1, m, s => fmQ S L V d (m + 1) (fkQ S L V m 6 1 s)
theorem aF_b {m k u v : Int} {s : zQ} (h : 0 ≤ s.1 ∧ s.1 ≤ 300) : 0 ≤ (aF m k u v s).1 ∧ (aF m k u v s).1 ≤ 300 := by
  unfold aF
  by_cases c : s.1 = 300
  · rw [if_pos c]; exact h
  · rw [if_neg c]
    show 0 ≤ s.1 + 1 ∧ s.1 + 1 ≤ 300
    omega
theorem aF_3 {m k u v : Int} {s : zQ} (h : s.1 = 300) : aF m k u v s = s := by unfold aF; rw [if_pos h]
/-- when 300 are told, no more are -/
theorem fwQ_3 {S : zV} {L : Int → Int → Int} {m k u : Int} : ∀ (d : Nat) (v : Int) (s : zQ), s.1 = 300 → fwQ S L m k u d v s = s := by
  intro d
  induction d with
  | zero => intro v s h; rfl
  | succ d ih =>
    intro v s h
    rw [fwQ]
    by_cases c : g2Q S L m k u v = 0
    · rw [if_pos c]; exact ih _ s h
    · rw [if_neg c, aF_3 h]; exact ih _ s h
theorem fuQ_3 {S : zV} {L : Int → Int → Int} {V m k : Int} : ∀ (d : Nat) (u : Int) (s : zQ), s.1 = 300 → fuQ S L V m k d u s = s := by
  intro d
  induction d with
  | zero => intro u s h; rfl
  | succ d ih => intro u s h; rw [fuQ, fwQ_3 _ _ s h]; exact ih _ s h
theorem foQ_3 {S : zV} {L : Int → Int → Int} {m k : Int} : ∀ (d : Nat) (u : Int) (s : zQ), s.1 = 300 → foQ S L m k d u s = s := by
  intro d
  induction d with
  | zero => intro u s h; rfl
  | succ d ih =>
    intro u s h
    rw [foQ]
    by_cases c : g1Q S L m k u = 0
    · rw [if_pos c]; exact ih _ s h
    · rw [if_neg c, aF_3 h]; exact ih _ s h
theorem fkQ_3 {S : zV} {L : Int → Int → Int} {V m : Int} : ∀ (d : Nat) (k : Int) (s : zQ), s.1 = 300 → fkQ S L V m d k s = s := by
  intro d
  induction d with
  | zero => intro k s h; rfl
  | succ d ih =>
    intro k s h
    rw [fkQ]
    by_cases c : k ≤ 4
    · rw [if_pos c, fuQ_3 _ _ s h]; exact ih _ s h
    · rw [if_neg c, foQ_3 _ _ s h]; exact ih _ s h
theorem fmQ_3 {S : zV} {L : Int → Int → Int} {V : Int} : ∀ (d : Nat) (m : Int) (s : zQ), s.1 = 300 → fmQ S L V d m s = s := by
  intro d
  induction d with
  | zero => intro m s h; rfl
  | succ d ih => intro m s h; rw [fmQ, fkQ_3 _ _ s h]; exact ih _ s h
section
variable {K : Nat} {V w : Int} {S : zV} {L : Int → Int → Int}
/-- the reference's faults are s -/
def FRm (w : Int) (s : zQ) (F : zF) (B : zB) : Prop := F 13 w 76 = s.1 ∧ (0 ≤ s.1 ∧ s.1 ≤ 300) ∧ ∀ i, 0 ≤ i → i < s.1 → B 13 w 77 i = s.2 0 i ∧ B 13 w 78 i = s.2 1 i ∧ B 13 w 79 i = s.2 2 i ∧ B 13 w 80 i = s.2 3 i
theorem FRm_f {s : zQ} {F F' : zF} {B B' : zB} (h : FRm w s F B) (f : F' 13 w 76 = F 13 w 76) (b : ∀ k x, 77 ≤ k → k ≤ 80 → B' 13 w k x = B 13 w k x) : FRm w s F' B' := by
  obtain ⟨h1, h2, h3⟩ := h
  refine ⟨by rw [f]; exact h1, h2, fun i i0 i1 => ?_⟩
  rw [b 77 _ (by decide) (by decide), b 78 _ (by decide) (by decide), b 79 _ (by decide) (by decide), b 80 _ (by decide) (by decide)]
  exact h3 i i0 i1
/-- what the faults change -/
def FZ (w : Int) (B B' : zB) : Prop := ∀ c i k x, ¬ (c = 13 ∧ i = w ∧ 77 ≤ k ∧ k ≤ 80) → B' c i k x = B c i k x
def FY (w : Int) (F F' : zF) : Prop := ∀ c i k, ¬ (c = 13 ∧ i = w ∧ k = 76) → F' c i k = F c i k
theorem x_fault {m k u v : Int} {s : zQ} {F : zF} {B : zB} (w0 : 0 ≤ w ∧ w < 3) (h : FRm w s F B) : ∃ F' B', f_M_fault_1 K w m k u v F B = some (0, F', B') ∧ FY w F F' ∧ FZ w B B' ∧ FRm w (aF m k u v s) F' B' := by
  have h' := h
  obtain ⟨h1, h2, h3⟩ := h
  unfold f_M_fault_1
  rw [if_pos w0, h1, if_pos (by unfold r32; omega)]
  by_cases c : s.1 = 300
  · rw [if_pos c, aF_3 c]
    exact ⟨F, B, rfl, fun _ _ _ _ => rfl, fun _ _ _ _ _ => rfl, h'⟩
  · rw [if_neg c, if_pos (by omega)]
    refine ⟨_, _, rfl, fun c i k n => by rw [zup3_v, if_neg n], fun c i k x n => by rw [zup4_v, if_neg (by omega), zup4_v, if_neg (by omega), zup4_v, if_neg (by omega), zup4_v, if_neg (by omega)], ?_⟩
    unfold aF
    rw [if_neg c]
    refine ⟨by rw [zup3_v, if_pos ⟨rfl, rfl, rfl⟩], by show 0 ≤ s.1 + 1 ∧ s.1 + 1 ≤ 300; omega, fun i i0 i1 => ?_⟩
    have i1 : i < s.1 + 1 := i1
    by_cases e : i = s.1
    · rw [e]
      refine ⟨?_, ?_, ?_, ?_⟩
      · rw [zup4_v, if_neg (by omega), zup4_v, if_neg (by omega), zup4_v, if_neg (by omega), zup4_v, if_pos ⟨rfl, rfl, rfl, rfl⟩]
        show m = if s.1 = s.1 then (if 0 = 0 then m else if 0 = 1 then k else if 0 = 2 then u else v) else s.2 0 s.1
        rw [if_pos rfl, if_pos rfl]
      · rw [zup4_v, if_neg (by omega), zup4_v, if_neg (by omega), zup4_v, if_pos ⟨rfl, rfl, rfl, rfl⟩]
        show k = if s.1 = s.1 then (if 1 = 0 then m else if 1 = 1 then k else if 1 = 2 then u else v) else s.2 1 s.1
        rw [if_pos rfl, if_neg (by decide), if_pos rfl]
      · rw [zup4_v, if_neg (by omega), zup4_v, if_pos ⟨rfl, rfl, rfl, rfl⟩]
        show u = if s.1 = s.1 then (if 2 = 0 then m else if 2 = 1 then k else if 2 = 2 then u else v) else s.2 2 s.1
        rw [if_pos rfl, if_neg (by decide), if_neg (by decide), if_pos rfl]
      · rw [zup4_v, if_pos ⟨rfl, rfl, rfl, rfl⟩]
        show v = if s.1 = s.1 then (if 3 = 0 then m else if 3 = 1 then k else if 3 = 2 then u else v) else s.2 3 s.1
        rw [if_pos rfl, if_neg (by decide), if_neg (by decide), if_neg (by decide)]
    · have a : ∀ r, (fun r i => if i = s.1 then (if r = 0 then m else if r = 1 then k else if r = 2 then u else v) else s.2 r i) r i = s.2 r i := fun r => by
        show (if i = s.1 then (if r = 0 then m else if r = 1 then k else if r = 2 then u else v) else s.2 r i) = s.2 r i
        rw [if_neg e]
      have z : ∀ r : Nat, ¬ (13 = 13 ∧ w = w ∧ r = r ∧ i = s.1) := fun r q => e q.2.2.2
      obtain ⟨b1, b2, b3, b4⟩ := h3 i i0 (by omega)
      refine ⟨?_, ?_, ?_, ?_⟩
      · rw [zup4_v, if_neg (by omega), zup4_v, if_neg (by omega), zup4_v, if_neg (by omega), zup4_v, if_neg (by omega), b1]; exact (a 0).symm
      · rw [zup4_v, if_neg (by omega), zup4_v, if_neg (by omega), zup4_v, if_neg (by omega), zup4_v, if_neg (by omega), b2]; exact (a 1).symm
      · rw [zup4_v, if_neg (by omega), zup4_v, if_neg (by omega), zup4_v, if_neg (by omega), zup4_v, if_neg (by omega), b3]; exact (a 2).symm
      · rw [zup4_v, if_neg (by omega), zup4_v, if_neg (by omega), zup4_v, if_neg (by omega), zup4_v, if_neg (by omega), b4]; exact (a 3).symm
/-- the voices' events at each moment, as the reference has them -/
def LRm (V w c : Int) (S : zV) (L : Int → Int → Int) (F : zF) (B : zB) : Prop := SRm V w S F B ∧ (F 13 w 72 = c ∧ 0 ≤ c ∧ c ≤ 800) ∧ ∀ u t, 0 ≤ u → u < V → 0 ≤ t → t < c → B 13 w 75 (4 * t + u) = L u t ∧ 0 ≤ L u t ∧ L u t < S u 0 0 0
theorem LRm_f {c : Int} {F F' : zF} {B B' : zB} (h : LRm V w c S L F B) (f : FY w F F') (b : FZ w B B') : LRm V w c S L F' B' := by
  obtain ⟨h1, h2, h3⟩ := h
  refine ⟨SRm_f h1 (f 13 w 1 (by omega)) (fun k x hk => b 13 w k x (by omega)), by rw [f 13 w 72 (by omega)]; exact h2, fun u t u0 u1 t0 t1 => ?_⟩
  rw [b 13 w 75 _ (by omega)]
  exact h3 u t u0 u1 t0 t1
theorem x_g2 {c m k u v : Int} {F : zF} {B : zB} (hK : 100 ≤ K) (hS : SG V S) (h : LRm V w c S L F B) (u0 : 0 ≤ u) (u1 : u < V) (v0 : 0 ≤ v) (v1 : v < V) (m0 : 1 ≤ m) (m1 : m < c) : (k = 4 → f_M_isCrossed K w m u v F B = some (g2Q S L m k u v, F, B)) ∧ (1 ≤ k ∧ k ≤ 3 → f_M_isParallel K w m k u v F B = some (g2Q S L m k u v, F, B)) := by
  obtain ⟨hR, hc, hL⟩ := h
  have v4 := hS.1
  have w0 := hR.1
  obtain ⟨a1, a2, a3⟩ := hL u m u0 u1 (by omega) m1
  obtain ⟨b1, b2, b3⟩ := hL v m v0 v1 (by omega) m1
  obtain ⟨c1, c2, c3⟩ := hL u (m - 1) u0 u1 (by omega) (by omega)
  obtain ⟨d1, d2, d3⟩ := hL v (m - 1) v0 v1 (by omega) (by omega)
  have gu := (hS.2 u u0 u1).1
  have gv := (hS.2 v v0 v1).1
  obtain ⟨a, ea, ha⟩ := x_lineAt hK hS hR u0 u1 (show 0 ≤ m by omega) (by omega) a1 a2 a3
  obtain ⟨b, eb, hb⟩ := x_lineAt hK hS hR v0 v1 (show 0 ≤ m by omega) (by omega) b1 b2 b3
  obtain ⟨a', ec, hc'⟩ := x_lineAt hK hS hR u0 u1 (show 0 ≤ m - 1 by omega) (by omega) c1 c2 c3
  obtain ⟨b', ed, hd⟩ := x_lineAt hK hS hR v0 v1 (show 0 ≤ m - 1 by omega) (by omega) d1 d2 d3
  have eu := x_begins (K := K) (F := F) w0 (show 0 ≤ u ∧ u < 4 by omega) (show 1 ≤ m ∧ m < 800 by omega) a1 c1 (by omega) (by omega)
  have ev := x_begins (K := K) (F := F) w0 (show 0 ≤ v ∧ v < 4 by omega) (show 1 ≤ m ∧ m < 800 by omega) b1 d1 (by omega) (by omega)
  unfold g2Q q2V
  refine ⟨fun z => ?_, fun z => ?_⟩
  · rw [if_pos z]
    exact x_cross w0 ea eb ec ed ha hb hc' hd
  · rw [if_neg (by omega)]
    exact x_par w0 z ea eb ec ed ha hb hc' hd eu ev (by split <;> omega) (by split <;> omega)
theorem x_g1 {c m k u : Int} {F : zF} {B : zB} (hK : 100 ≤ K) (hS : SG V S) (h : LRm V w c S L F B) (u0 : 0 ≤ u) (u1 : u < V) (m0 : 1 ≤ m) (m1 : m < c) (hk : k = 5 ∨ k = 6) : f_M_isAlone K w m k u F B = some (g1Q S L m k u, F, B) := by
  obtain ⟨hR, hc, hL⟩ := h
  have v4 := hS.1
  have w0 := hR.1
  obtain ⟨a1, a2, a3⟩ := hL u m u0 u1 (by omega) m1
  obtain ⟨c1, c2, c3⟩ := hL u (m - 1) u0 u1 (by omega) (by omega)
  have gu := (hS.2 u u0 u1).1
  obtain ⟨a, ea, ha⟩ := x_lineAt hK hS hR u0 u1 (show 0 ≤ m by omega) (by omega) a1 a2 a3
  obtain ⟨a', ec, hc'⟩ := x_lineAt hK hS hR u0 u1 (show 0 ≤ m - 1 by omega) (by omega) c1 c2 c3
  have eu := x_begins (K := K) (F := F) w0 (show 0 ≤ u ∧ u < 4 by omega) (show 1 ≤ m ∧ m < 800 by omega) a1 c1 (by omega) (by omega)
  unfold g1Q
  exact x_alone w0 hk ea ec ha hc' eu (by split <;> omega)
theorem g2Q_b {m k u v : Int} : g2Q S L m k u v = 0 ∨ g2Q S L m k u v = 1 := q2V_b
theorem g1Q_b {m k u : Int} : g1Q S L m k u = 0 ∨ g1Q S L m k u = 1 := q1V_b
/-- both frames -/
def FF (w : Int) (F0 : zF) (B0 : zB) (F : zF) (B : zB) : Prop := FY w F0 F ∧ FZ w B0 B
theorem FF_t {F0 F1 F2 : zF} {B0 B1 B2 : zB} (h : FF w F0 B0 F1 B1) (h' : FF w F1 B1 F2 B2) : FF w F0 B0 F2 B2 := ⟨fun c i k n => by rw [h'.1 c i k n, h.1 c i k n], fun c i k x n => by rw [h'.2 c i k x n, h.2 c i k x n]⟩
theorem x_bt69 {c m k u : Int} {rec7 : Int → Int → zF → zB → zO} {rec17 : Int → Int → Int → zF → zB → zO} {rec26 : Int → Int → Int → Int → zF → zB → zO} (hK : 100 ≤ K) (hS : SG V S) (u0 : 0 ≤ u) (u1 : u < V) (m0 : 1 ≤ m) (m1 : m < c) (hk : 1 ≤ k ∧ k ≤ 4) : ∀ (d n : Nat) (v : Int) (s : zQ) (F : zF) (B : zB), 0 ≤ v → v + d = V → d < n → LRm V w c S L F B → FRm w s F B → ∃ F' B', f_M_between_0_69 rec7 rec17 rec26 K n v u k m w F B = rec26 (u + 1) k m w F' B' ∧ FF w F B F' B' ∧ FRm w (fwQ S L m k u d v s) F' B' := by
  have v4 := hS.1
  intro d
  induction d with
  | zero =>
    intro n v s F B v0 vd hn h hf
    obtain ⟨n, rfl⟩ : ∃ p, n = p + 1 := ⟨n - 1, by omega⟩
    rw [f_M_between_0_69, if_pos h.1.1, if_pos (show r32 v by unfold r32; omega), h.1.2.1, if_pos (show r32 V by unfold r32; omega), if_pos (show V ≤ v by omega), f_M_between_0_127]
    exact ⟨F, B, rfl, ⟨fun _ _ _ _ => rfl, fun _ _ _ _ _ => rfl⟩, hf⟩
  | succ d ih =>
    intro n v s F B v0 vd hn h hf
    obtain ⟨n, rfl⟩ : ∃ p, n = p + 1 := ⟨n - 1, by omega⟩
    have w0 := h.1.1
    obtain ⟨x4, x3⟩ := x_g2 (k := k) hK hS h u0 u1 v0 (show v < V by omega) m0 m1
    have gb := g2Q_b (S := S) (L := L) (m := m) (k := k) (u := u) (v := v)
    have r32g : r32 (g2Q S L m k u v) := by unfold r32; omega
    have skip : g2Q S L m k u v = 0 → ∃ F' B', f_M_between_0_121 rec7 rec17 rec26 (f_M_between_0_69 rec7 rec17 rec26 K n) K v u k m w F B = rec26 (u + 1) k m w F' B' ∧ FF w F B F' B' ∧ FRm w (fwQ S L m k u (d + 1) v s) F' B' := fun z => by
      rw [f_M_between_0_121, fwQ, if_pos z]
      exact ih n (v + 1) s F B (by omega) (by omega) (by omega) h hf
    have tell : ¬ g2Q S L m k u v = 0 → ∃ F' B', f_M_between_0_111 rec7 rec17 rec26 (f_M_between_0_69 rec7 rec17 rec26 K n) K v u k m w F B = rec26 (u + 1) k m w F' B' ∧ FF w F B F' B' ∧ FRm w (fwQ S L m k u (d + 1) v s) F' B' := fun z => by
      obtain ⟨F1, B1, e1, f1, z1, h1⟩ := x_fault (K := K) (m := m) (k := k) (u := u) (v := v) w0 hf
      rw [f_M_between_0_111, e1, zb_s, f_M_between_0_121, fwQ, if_neg z]
      obtain ⟨F2, B2, e2, ff, h2⟩ := ih n (v + 1) _ F1 B1 (by omega) (by omega) (by omega) (LRm_f h f1 z1) h1
      exact ⟨F2, B2, e2, FF_t ⟨f1, z1⟩ ff, h2⟩
    rw [f_M_between_0_69, if_pos w0, if_pos (show r32 v by unfold r32; omega), h.1.2.1, if_pos (show r32 V by unfold r32; omega), if_neg (show ¬ V ≤ v by omega), if_pos (show r32 k by unfold r32; omega)]
    by_cases c4 : k = 4
    · rw [if_pos c4, x4 c4, zb_s, if_pos r32g]
      by_cases z : g2Q S L m k u v = 0
      · rw [if_pos z]; exact skip z
      · rw [if_neg z]; exact tell z
    · rw [if_neg c4, x3 (by omega), zb_s, if_pos r32g]
      by_cases z : g2Q S L m k u v = 0
      · rw [if_pos z]; exact skip z
      · rw [if_neg z]; exact tell z
theorem x_bt26 {c m k : Int} {rec7 : Int → Int → zF → zB → zO} {rec17 : Int → Int → Int → zF → zB → zO} (hK : 100 ≤ K) (hS : SG V S) (m0 : 1 ≤ m) (m1 : m < c) (hk : 1 ≤ k ∧ k ≤ 6) : ∀ (d n : Nat) (u : Int) (s : zQ) (F : zF) (B : zB), 0 ≤ u → u + d = V → d < n → LRm V w c S L F B → FRm w s F B → ∃ F' B', f_M_between_0_26 rec7 rec17 K n u k m w F B = rec17 (k + 1) m w F' B' ∧ FF w F B F' B' ∧ FRm w (if k ≤ 4 then fuQ S L V m k d u s else foQ S L m k d u s) F' B' := by
  have v4 := hS.1
  intro d
  induction d with
  | zero =>
    intro n u s F B u0 ud hn h hf
    obtain ⟨n, rfl⟩ : ∃ p, n = p + 1 := ⟨n - 1, by omega⟩
    rw [f_M_between_0_26, if_pos h.1.1, if_pos (show r32 u by unfold r32; omega), h.1.2.1, if_pos (show r32 V by unfold r32; omega), if_pos (show V ≤ u by omega)]
    refine ⟨F, B, rfl, ⟨fun _ _ _ _ => rfl, fun _ _ _ _ _ => rfl⟩, ?_⟩
    rw [fuQ, foQ]
    split <;> exact hf
  | succ d ih =>
    intro n u s F B u0 ud hn h hf
    obtain ⟨n, rfl⟩ : ∃ p, n = p + 1 := ⟨n - 1, by omega⟩
    have w0 := h.1.1
    rw [f_M_between_0_26, if_pos w0, if_pos (show r32 u by unfold r32; omega), h.1.2.1, if_pos (show r32 V by unfold r32; omega), if_neg (show ¬ V ≤ u by omega), if_pos (show r32 k by unfold r32; omega)]
    by_cases c4 : k ≤ 4
    · rw [if_pos c4]
      obtain ⟨F1, B1, e1, f1, h1⟩ := x_bt69 (rec7 := rec7) (rec17 := rec17) (rec26 := f_M_between_0_26 rec7 rec17 K n) hK hS u0 (show u < V by omega) m0 m1 ⟨hk.1, c4⟩ (V - (u + 1)).toNat K (u + 1) s F B (by omega) (by omega) (by omega) h hf
      obtain ⟨F2, B2, e2, f2, h2⟩ := ih n (u + 1) _ F1 B1 (by omega) (by omega) (by omega) (LRm_f h f1.1 f1.2) h1
      rw [if_pos c4] at h2
      rw [e1]
      refine ⟨F2, B2, e2, FF_t f1 f2, ?_⟩
      rw [if_pos c4, fuQ]
      exact h2
    · have gb := g1Q_b (S := S) (L := L) (m := m) (k := k) (u := u)
      rw [if_neg c4, x_g1 hK hS h u0 (show u < V by omega) m0 m1 (by omega), zb_s, if_pos (show r32 (g1Q S L m k u) by unfold r32; omega)]
      by_cases z : g1Q S L m k u = 0
      · rw [if_pos z, f_M_between_0_127]
        obtain ⟨F2, B2, e2, f2, h2⟩ := ih n (u + 1) s F B (by omega) (by omega) (by omega) h hf
        rw [if_neg c4] at h2
        refine ⟨F2, B2, e2, f2, ?_⟩
        rw [if_neg c4, foQ, if_pos z]
        exact h2
      · obtain ⟨F1, B1, e1, f1, z1, h1⟩ := x_fault (K := K) (m := m) (k := k) (u := u) (v := -1) w0 hf
        rw [if_neg z, e1, zb_s, f_M_between_0_127]
        obtain ⟨F2, B2, e2, f2, h2⟩ := ih n (u + 1) _ F1 B1 (by omega) (by omega) (by omega) (LRm_f h f1 z1) h1
        rw [if_neg c4] at h2
        refine ⟨F2, B2, e2, FF_t ⟨f1, z1⟩ f2, ?_⟩
        rw [if_neg c4, foQ, if_neg z]
        exact h2
theorem x_bt17 {c m : Int} {rec7 : Int → Int → zF → zB → zO} (hK : 100 ≤ K) (hS : SG V S) (m0 : 1 ≤ m) (m1 : m < c) : ∀ (d n : Nat) (k : Int) (s : zQ) (F : zF) (B : zB), 1 ≤ k → k + d = 7 → d < n → LRm V w c S L F B → FRm w s F B → ∃ F' B', f_M_between_0_17 rec7 K n k m w F B = rec7 (m + 1) w F' B' ∧ FF w F B F' B' ∧ FRm w (fkQ S L V m d k s) F' B' := by
  have v4 := hS.1
  intro d
  induction d with
  | zero =>
    intro n k s F B k0 kd hn h hf
    obtain ⟨n, rfl⟩ : ∃ p, n = p + 1 := ⟨n - 1, by omega⟩
    rw [f_M_between_0_17, if_pos (show r32 k by unfold r32; omega), if_pos (show 7 ≤ k by omega)]
    exact ⟨F, B, rfl, ⟨fun _ _ _ _ => rfl, fun _ _ _ _ _ => rfl⟩, hf⟩
  | succ d ih =>
    intro n k s F B k0 kd hn h hf
    obtain ⟨n, rfl⟩ : ∃ p, n = p + 1 := ⟨n - 1, by omega⟩
    rw [f_M_between_0_17, if_pos (show r32 k by unfold r32; omega), if_neg (show ¬ 7 ≤ k by omega)]
    obtain ⟨F1, B1, e1, f1, h1⟩ := x_bt26 (rec7 := rec7) (rec17 := f_M_between_0_17 rec7 K n) hK hS m0 m1 (show 1 ≤ k ∧ k ≤ 6 by omega) V.toNat K 0 s F B (by decide) (by omega) (by omega) h hf
    obtain ⟨F2, B2, e2, f2, h2⟩ := ih n (k + 1) _ F1 B1 (by omega) (by omega) (by omega) (LRm_f h f1.1 f1.2) h1
    rw [e1]
    exact ⟨F2, B2, e2, FF_t f1 f2, h2⟩
theorem x_bt7 {c : Int} (hK : 1000 ≤ K) (hS : SG V S) : ∀ (d n : Nat) (m : Int) (s : zQ) (F : zF) (B : zB), 1 ≤ m → (m + d = c ∨ (d = 0 ∧ c = 0 ∧ m = 1)) → d < n → LRm V w c S L F B → FRm w s F B → ∃ F' B', f_M_between_0_7 K n m w F B = some (0, F', B') ∧ FF w F B F' B' ∧ FRm w (fmQ S L V d m s) F' B' := by
  intro d
  induction d with
  | zero =>
    intro n m s F B m0 md hn h hf
    obtain ⟨n, rfl⟩ : ∃ p, n = p + 1 := ⟨n - 1, by omega⟩
    have hc := h.2.1
    rw [f_M_between_0_7, if_pos h.1.1, hc.1]
    rw [if_pos (show r32 m by unfold r32; omega), if_pos (show r32 c by unfold r32; omega), if_pos (show c ≤ m by omega)]
    exact ⟨F, B, rfl, ⟨fun _ _ _ _ => rfl, fun _ _ _ _ _ => rfl⟩, hf⟩
  | succ d ih =>
    intro n m s F B m0 md hn h hf
    obtain ⟨n, rfl⟩ : ∃ p, n = p + 1 := ⟨n - 1, by omega⟩
    have hc := h.2.1
    rw [f_M_between_0_7, if_pos h.1.1, hc.1, if_pos (show r32 m by unfold r32; omega), if_pos (show r32 c by unfold r32; omega), if_neg (show ¬ c ≤ m by omega)]
    obtain ⟨F1, B1, e1, f1, h1⟩ := x_bt17 (K := K) (rec7 := f_M_between_0_7 K n) (by omega) hS m0 (show m < c by omega) 6 K 1 s F B (by decide) (by decide) (by omega) h hf
    obtain ⟨F2, B2, e2, f2, h2⟩ := ih n (m + 1) _ F1 B1 (by omega) (by omega) (by omega) (LRm_f h f1.1 f1.2) h1
    rw [e1]
    exact ⟨F2, B2, e2, FF_t f1 f2, h2⟩
/-- the faults of a piece with c moments -/
def flQ (S : zV) (L : Int → Int → Int) (V c : Int) : zQ := fmQ S L V (c - 1).toNat 1 (0, fun _ _ => 0)
theorem x_between {c : Int} {F : zF} {B : zB} (hK : 1000 ≤ K) (hS : SG V S) (h : LRm V w c S L F B) : ∃ F' B', f_M_between_0 K w F B = some (0, F', B') ∧ FF w F B F' B' ∧ FRm w (flQ S L V c) F' B' := by
  have hc := h.2.1
  have f : FY w F (zup3 F 13 w 76 0) := fun c i k n => by rw [zup3_v, if_neg n]
  obtain ⟨F1, B1, e1, f1, h1⟩ := x_bt7 hK hS (c - 1).toNat K 1 (0, fun _ _ => 0) (zup3 F 13 w 76 0) B (by decide) (by omega) (by omega) (LRm_f h f (fun _ _ _ _ _ => rfl)) ⟨by rw [zup3_v, if_pos ⟨rfl, rfl, rfl⟩], by decide, fun i i0 i1 => by have i1 : i < 0 := i1; omega⟩
  unfold f_M_between_0
  rw [if_pos h.1.1, e1]
  exact ⟨F1, B1, rfl, FF_t ⟨f, fun _ _ _ _ _ => rfl⟩ f1, h1⟩
end
end
end
section
section
/-! ===== a kept piece's moments and faults, reference ===== -/
def MXk (V w : Int) (S : zV) (F : zF) (B : zB) : Prop := SRm V w S F B ∧ ∃ T, MXo V w S T F B ∧ FRm w (flQ S (fun u t => B 13 w 75 (4 * t + u)) V (F 13 w 72)) F B
theorem MXk_e {V w : Int} {S : zV} {F F' : zF} {B B' : zB} (h : MXk V w S F B) (f : ∀ k, k = 1 ∨ k = 72 ∨ k = 76 → F' 13 w k = F 13 w k) (b : ∀ k x, k ≤ 35 ∨ (73 ≤ k ∧ k ≤ 80) → B' 13 w k x = B 13 w k x) : MXk V w S F' B' := by
  obtain ⟨h1, T, h2, h3⟩ := h
  have e : (fun u t => B' 13 w 75 (4 * t + u)) = fun (u t : Int) => B 13 w 75 (4 * t + u) := by
    funext u t
    exact b 75 _ (by omega)
  refine ⟨SRm_f h1 (f 1 (by omega)) (fun k x hk => b k x (by omega)), T, MXo_f h2 (f 72 (by omega)) (fun k x _ _ => b k x (by omega)), ?_⟩
  rw [e, f 72 (by omega)]
  exact FRm_f h3 (f 76 (by omega)) (fun k x _ _ => b k x (by omega))
/-- behind the moments: the faults -/
theorem x_tail {K : Nat} {V w : Int} {S : zV} {F : zF} {B : zB} (hK : 812851200 < K) (hS : SG V S) (hR : SRm V w S F B) : ∃ F1 B1 F2 B2, f_M_moments K w F B = some (0, F1, B1) ∧ f_M_between_0 K w F1 B1 = some (0, F2, B2) ∧ MXk V w S F2 B2 := by
  obtain ⟨F1, B1, T, x1, x2, x3, x4⟩ := x_moments hK hS hR
  have hR1 : SRm V w S F1 B1 := SRm_f hR (x2 13 w 1 (by omega)) (fun k x hk => x3 13 w k x (by omega))
  have hl : LRm V w (F1 13 w 72) S (fun u t => B1 13 w 75 (4 * t + u)) F1 B1 := ⟨hR1, ⟨rfl, x4.2.1.1⟩, fun u t u0 u1 t0 t1 => ⟨rfl, (x4.2.2 u t u0 u1 t0 t1).1⟩⟩
  obtain ⟨F2, B2, y1, y2, y3⟩ := x_between (K := K) (by omega) hS hl
  have e : (fun u t => B2 13 w 75 (4 * t + u)) = fun (u t : Int) => B1 13 w 75 (4 * t + u) := by
    funext u t
    exact y2.2 13 w 75 _ (by omega)
  refine ⟨F1, B1, F2, B2, x1, y1, SRm_f hR1 (y2.1 13 w 1 (by omega)) (fun k x hk => y2.2 13 w k x (by omega)), T, MXo_f x4 (y2.1 13 w 72 (by omega)) (fun k x _ _ => y2.2 13 w k x (by omega)), ?_⟩
  rw [e, y2.1 13 w 72 (by omega)]
  exact y3
end
end
