section
section
/-! ===== the moments of a read piece, reference: exactly ===== -/
variable {K : Nat} {V w : Int} {S : zV}
/-- moment t stands at v -/
noncomputable def mR (w : Int) (B : zB) (t v : Int) : Prop := B 13 w 73 t = nu v ∧ B 13 w 74 t = de v
theorem mR_u {t v : Int} {B : zB} : mR w (mU w t v B) t v := by
  refine ⟨?_, ?_⟩
  · unfold mU; rw [zup4_v, if_neg (by omega), zup4_v, if_pos (by omega)]
  · unfold mU; rw [zup4_v, if_pos (by omega)]
theorem mR_n {j p x v : Int} {B : zB} (h : mR w B x v) (n : ¬ x = j) : mR w (mU w j p B) x v := by
  unfold mR
  rw [mU_n (by omega), mU_n (by omega)]
  exact h
noncomputable def TR (w c : Int) (T : Int → Int) (B : zB) : Prop := ∀ t, 0 ≤ t → t < c → (0 ≤ T t ∧ T t ≤ 1000000000000) ∧ mR w B t (T t)
theorem TR_f {c : Int} {T : Int → Int} {B B' : zB} (h : TR w c T B) (b : ∀ k x, k = 73 ∨ k = 74 → B' 13 w k x = B 13 w k x) : TR w c T B' := fun t t0 t1 => by
  unfold mR
  rw [b 73 _ (by omega), b 74 _ (by omega)]
  exact h t t0 t1
theorem x_mom83 {c a p : Int} {T : Int → Int} {F : zF} (w0 : 0 ≤ w ∧ w < 3) (h72 : F 13 w 72 = c) (c1 : c < 800) (a0 : 0 ≤ a) : ∀ (n : Nat) (l : Int) (B : zB), a ≤ l → l ≤ c → (∀ t, 0 ≤ t → t < l → mR w B t (T t)) → (∀ t, l < t → t ≤ c → mR w B t (T (t - 1))) → l - a < n → ∃ B', f_M_moment_1_83 K n l a w (nu p) (de p) F B = some (0, zup3 F 13 w 72 (c + 1), B') ∧ MZ w B B' ∧ ∀ t, 0 ≤ t → t ≤ c → mR w B' t (puT T a p t) := by
  intro n
  induction n with
  | zero => intro l B _ _ _ _ hn; exfalso; omega
  | succ n ih =>
    intro l B al lc m1 m2 hn
    rw [f_M_moment_1_83, if_pos (by unfold r32; omega), if_pos (by unfold r32; omega)]
    by_cases e : l ≤ a
    · rw [if_pos e, if_pos w0, if_pos (by omega), h72]
      refine ⟨mU w a p B, rfl, fun c' i k x nn => mU_n (by omega), fun t t0 t1 => ?_⟩
      by_cases e1 : t = a
      · rw [e1, show puT T a p a = p by unfold puT; rw [if_neg (show ¬ a < a by omega), if_pos rfl]]
        exact mR_u
      · refine mR_n ?_ e1
        by_cases e2 : t < a
        · rw [show puT T a p t = T t by unfold puT; rw [if_pos e2]]
          exact m1 t t0 (by omega)
        · rw [show puT T a p t = T (t - 1) by unfold puT; rw [if_neg e2, if_neg e1]]
          exact m2 t (by omega) t1
    · rw [if_neg e, if_pos w0, if_pos (by omega), if_pos (by omega)]
      obtain ⟨k1, k2⟩ := m1 (l - 1) (by omega) (by omega)
      have e1 : (zup4 B 13 w 73 l (nu (T (l - 1)))) 13 w 74 (l - 1) = de (T (l - 1)) := by rw [zup4_v, if_neg (by omega)]; exact k2
      rw [k1, e1]
      obtain ⟨B', g1, g2, g3⟩ := ih (l - 1) (mU w l (T (l - 1)) B) (by omega) (by omega) (fun t t0 t1 => mR_n (m1 t t0 (by omega)) (by omega)) (fun t t0 t1 => by
        by_cases e2 : t = l
        · rw [e2]; exact mR_u
        · exact mR_n (m2 t (by omega) t1) e2) (by omega)
      exact ⟨B', g1, fun c' i k x nn => by rw [g2 c' i k x nn, mU_n (by omega)], g3⟩
theorem x_mom1 {c p : Int} {T : Int → Int} {A : Int → Prop} {F : zF} {B : zB} (hK : 812851200 < K) (w0 : 0 ≤ w ∧ w < 3) (h72 : F 13 w 72 = c) (c0 : 0 ≤ c) (c1 : c < 800) (p0 : 0 ≤ p) (p1 : p ≤ 1000000000000) (hT : TR w c T B) (hI : SI c T) (hR : RS c T A) : ∃ F' B' c' T', f_M_moment_1 K w (nu p) (de p) F B = some (0, F', B') ∧ MF w F F' ∧ MZ w B B' ∧ F' 13 w 72 = c' ∧ 0 ≤ c' ∧ c' ≤ c + 1 ∧ TR w c' T' B' ∧ SI c' T' ∧ RS c' T' (fun x => A x ∨ x = p) := by
  have np := nd_r p0 p1
  have h77 : ∀ a, 0 ≤ a → a ≤ c → (a = 0 ∨ T (a - 1) < p) → (∀ t, a ≤ t → t < c → p < T t) → ∃ F' B' c' T', f_M_moment_1_77 K a w (nu p) (de p) F B = some (0, F', B') ∧ MF w F F' ∧ MZ w B B' ∧ F' 13 w 72 = c' ∧ 0 ≤ c' ∧ c' ≤ c + 1 ∧ TR w c' T' B' ∧ SI c' T' ∧ RS c' T' (fun x => A x ∨ x = p) := fun a a0 a1 l g => by
    unfold f_M_moment_1_77
    rw [if_pos w0, h72]
    obtain ⟨B', e, z, m⟩ := x_mom83 (K := K) (T := T) (p := p) (F := F) w0 h72 c1 a0 K c B a1 (Int.le_refl _) (fun t t0 t1 => (hT t t0 t1).2) (fun t a b => by omega) (by omega)
    refine ⟨_, B', c + 1, puT T a p, e, fun c' i k nn => by rw [zup3_v, if_neg nn], z, by rw [zup3_v, if_pos ⟨rfl, rfl, rfl⟩], by omega, Int.le_refl _, fun t t0 t1 => ⟨?_, m t t0 (by omega)⟩, puT_i hI a0 a1 l g, puT_r hR a0 a1⟩
    unfold puT
    by_cases e1 : t < a
    · rw [if_pos e1]; exact (hT t t0 (by omega)).1
    · rw [if_neg e1]
      by_cases e2 : t = a
      · rw [if_pos e2]; exact ⟨p0, p1⟩
      · rw [if_neg e2]; exact (hT (t - 1) (by omega) (by omega)).1
  have h43 : ∀ a, 0 ≤ a → a ≤ c → (a = 0 ∨ T (a - 1) ≤ p) → (∀ t, a ≤ t → t < c → p < T t) → ∃ F' B' c' T', f_M_moment_1_43 K a w (nu p) (de p) F B = some (0, F', B') ∧ MF w F F' ∧ MZ w B B' ∧ F' 13 w 72 = c' ∧ 0 ≤ c' ∧ c' ≤ c + 1 ∧ TR w c' T' B' ∧ SI c' T' ∧ RS c' T' (fun x => A x ∨ x = p) := fun a a0 a1 l g => by
    unfold f_M_moment_1_43
    rw [if_pos (by unfold r32; omega)]
    by_cases e : a ≤ 0
    · rw [if_pos e]; exact h77 a a0 a1 (Or.inl (by omega)) g
    · rw [if_neg e, if_pos w0, if_pos (by omega)]
      obtain ⟨⟨q0, q1⟩, k1, k2⟩ := hT (a - 1) (by omega) (by omega)
      have nq := nd_r q0 q1
      rw [k1, k2, if_pos (by unfold r64; omega), if_pos (by unfold r64; omega)]
      have ne : ¬ T (a - 1) = p → a = 0 ∨ T (a - 1) < p := fun z => Or.inr (by omega)
      by_cases y : zcmp (nu (T (a - 1))) (nu p) = 0
      · rw [if_pos y, if_pos (by unfold r64; omega), if_pos (by unfold r64; omega)]
        by_cases z : zcmp (de (T (a - 1))) (de p) = 0
        · have ep : T (a - 1) = p := nd_iv q0 p0 (zcmp_0.mp y) (zcmp_0.mp z)
          rw [if_pos z]
          refine ⟨F, B, c, T, rfl, fun _ _ _ _ => rfl, fun _ _ _ _ _ => rfl, h72, c0, by omega, hT, hI, RS_c hR (fun x => ⟨Or.inl, fun o => ?_⟩)⟩
          rcases o with o | o
          · exact o
          · exact (hR x).mp ⟨a - 1, by omega, by omega, by rw [ep, o]⟩
        · rw [if_neg z]; exact h77 a a0 a1 (ne (fun k => z (zcmp_0.mpr (by rw [k])))) g
      · rw [if_neg y]; exact h77 a a0 a1 (ne (fun k => y (zcmp_0.mpr (by rw [k])))) g
  have h6 : ∀ (n : Nat) (a : Int), 0 ≤ a → a ≤ c → (∀ t, a ≤ t → t < c → p < T t) → a < n → ∃ F' B' c' T', f_M_moment_1_6 K n a w (nu p) (de p) F B = some (0, F', B') ∧ MF w F F' ∧ MZ w B B' ∧ F' 13 w 72 = c' ∧ 0 ≤ c' ∧ c' ≤ c + 1 ∧ TR w c' T' B' ∧ SI c' T' ∧ RS c' T' (fun x => A x ∨ x = p) := by
    intro n
    induction n with
    | zero => intro a _ _ _ hn; exfalso; omega
    | succ n ih =>
      intro a a0 a1 g hn
      rw [f_M_moment_1_6, if_pos (by unfold r32; omega)]
      by_cases e : a ≤ 0
      · rw [if_pos e]; exact h43 a a0 a1 (Or.inl (by omega)) g
      · rw [if_neg e, if_pos w0, if_pos (by omega)]
        obtain ⟨⟨q0, q1⟩, k1, k2⟩ := hT (a - 1) (by omega) (by omega)
        rw [k1, k2, L_cmpR hK (FR_r q0) (FR_r p0) (by omega) (by omega), zb_s, if_pos cmp3.1]
        by_cases y : (if T (a - 1) < p then (-1 : Int) else if T (a - 1) = p then 0 else 1) ≤ 0
        · rw [if_pos y]; exact h43 a a0 a1 (Or.inr (cmp3.2.mp y)) g
        · rw [if_neg y]
          have l : ¬ T (a - 1) ≤ p := fun k => y (cmp3.2.mpr k)
          refine ih (a - 1) (by omega) (by omega) (fun t t0 t1 => ?_) (by omega)
          by_cases e2 : t = a - 1
          · rw [e2]; omega
          · exact g t (by omega) t1
  unfold f_M_moment_1
  rw [if_pos w0, h72]
  exact h6 K c c0 (Int.le_refl _) (fun t a b => by omega) (by omega)
/-- the events told so far: those of the voices before u, and i of voice u -/
noncomputable def aE2 (S : zV) (u i x : Int) : Prop := ∃ u' i', 0 ≤ u' ∧ 0 ≤ i' ∧ i' < S u' 0 0 0 ∧ (u' < u ∨ (u' = u ∧ i' < i)) ∧ S u' 1 i' 0 = x
noncomputable def MS2 (w : Int) (S : zV) (u i : Int) (F0 F : zF) (B0 B : zB) : Prop := MF w F0 F ∧ MZ w B0 B ∧ (0 ≤ F 13 w 72 ∧ F 13 w 72 ≤ 200 * u + i) ∧ ∃ T, TR w (F 13 w 72) T B ∧ SI (F 13 w 72) T ∧ RS (F 13 w 72) T (aE2 S u i)
theorem x_mts17 {u : Int} {F0 : zF} {B0 : zB} {rec : Int → Int → zF → zB → zO} (hK : 812851200 < K) (hS : SG V S) (hR0 : SRm V w S F0 B0) (u0 : 0 ≤ u) (u1 : u < V) : ∀ (d n : Nat) (i : Int) (F : zF) (B : zB), MS2 w S u i F0 F B0 B → 0 ≤ i → i + d = S u 0 0 0 → d < n → ∃ F' B', f_M_moments_17 rec K n i u w F B = rec (u + 1) w F' B' ∧ MS2 w S (u + 1) 0 F0 F' B0 B' := by
  obtain ⟨⟨_, v4⟩, hs⟩ := hS
  obtain ⟨w0, _, hr⟩ := hR0
  obtain ⟨g1, g2, g3, g4⟩ := hs u u0 u1
  obtain ⟨r1, r2⟩ := hr u u0 u1
  intro d
  induction d with
  | zero =>
    intro n i F B h i0 id hn
    obtain ⟨n, rfl⟩ : ∃ j, n = j + 1 := ⟨n - 1, by omega⟩
    obtain ⟨f, z, c, T, t1, t2, t3⟩ := h
    have e12 : B 13 w 12 u = S u 0 0 0 := by rw [z 13 w 12 u (by omega)]; exact r1
    rw [f_M_moments_17, if_pos w0, if_pos (by omega), if_pos (by unfold r32; omega), e12, if_pos (by unfold r32; omega), if_pos (by omega)]
    refine ⟨F, B, rfl, f, z, by omega, T, t1, t2, RS_c t3 (fun x => ⟨?_, ?_⟩)⟩
    · rintro ⟨u', i', a0, a1, a2, a3, a4⟩
      exact ⟨u', i', a0, a1, a2, by omega, a4⟩
    · rintro ⟨u', i', a0, a1, a2, a3, a4⟩
      refine ⟨u', i', a0, a1, a2, ?_, a4⟩
      by_cases e : u' = u
      · rw [e] at a2; exact Or.inr ⟨e, by omega⟩
      · exact Or.inl (by omega)
  | succ d ih =>
    intro n i F B h i0 id hn
    obtain ⟨n, rfl⟩ : ∃ j, n = j + 1 := ⟨n - 1, by omega⟩
    obtain ⟨f, z, c, T, t1, t2, t3⟩ := h
    have e12 : B 13 w 12 u = S u 0 0 0 := by rw [z 13 w 12 u (by omega)]; exact r1
    obtain ⟨q1, q2, _⟩ := r2 i i0 (by omega)
    have e14 : B 13 w 14 (1000 * u + i) = nu (S u 1 i 0) := by rw [z 13 w 14 _ (by omega)]; exact q1
    have e15 : B 13 w 15 (1000 * u + i) = de (S u 1 i 0) := by rw [z 13 w 15 _ (by omega)]; exact q2
    obtain ⟨p0, p1⟩ := (g3 i i0 (by omega)).1
    obtain ⟨F', B', c', T', x1, x2, x3, x4, x5, x6, x7, x8, x9⟩ := x_mom1 (K := K) (A := aE2 S u i) hK w0 rfl c.1 (by omega) p0 p1 t1 t2 t3
    rw [f_M_moments_17, if_pos w0, if_pos (by omega), if_pos (by unfold r32; omega), e12, if_pos (by unfold r32; omega), if_neg (by omega), if_pos (by omega), e14, e15, x1, zb_s]
    have x10 : RS c' T' (aE2 S u (i + 1)) := by
      refine RS_c x9 (fun x => ⟨?_, ?_⟩)
      · rintro (⟨u', i', a0, a1, a2, a3, a4⟩ | e)
        · exact ⟨u', i', a0, a1, a2, by omega, a4⟩
        · exact ⟨u, i, u0, i0, by omega, Or.inr ⟨rfl, by omega⟩, e.symm⟩
      · rintro ⟨u', i', a0, a1, a2, a3, a4⟩
        by_cases e : u' = u ∧ i' = i
        · rw [e.1, e.2] at a4; exact Or.inr a4.symm
        · exact Or.inl ⟨u', i', a0, a1, a2, by omega, a4⟩
    exact ih n (i + 1) F' B' ⟨fun c i k nn => by rw [x2 c i k nn, f c i k nn], fun c i k x nn => by rw [x3 c i k x nn, z c i k x nn], by omega, T', by rw [x4]; exact x7, by rw [x4]; exact x8, by rw [x4]; exact x10⟩ (by omega) (by omega) (by omega)
theorem x_mts7 {F0 : zF} {B0 : zB} (hK : 812851200 < K) (hS : SG V S) (hR0 : SRm V w S F0 B0) : ∀ (d n : Nat) (u : Int) (F : zF) (B : zB), MS2 w S u 0 F0 F B0 B → 0 ≤ u → u + d = V → d < n → ∃ F' B', f_M_moments_7 K n u w F B = f_M_moments_69 K K 0 w F' B' ∧ MS2 w S V 0 F0 F' B0 B' := by
  have hS' := hS
  have hR0' := hR0
  obtain ⟨⟨v1, v4⟩, hs⟩ := hS
  obtain ⟨w0, h1, hr⟩ := hR0
  intro d
  induction d with
  | zero =>
    intro n u F B h u0 ud hn
    obtain ⟨n, rfl⟩ : ∃ j, n = j + 1 := ⟨n - 1, by omega⟩
    have e1 : F 13 w 1 = V := by rw [h.1 13 w 1 (by omega)]; exact h1
    obtain rfl : u = V := by omega
    rw [f_M_moments_7, if_pos w0, if_pos (by unfold r32; omega), e1, if_pos (by unfold r32; omega), if_pos (by omega)]
    exact ⟨F, B, rfl, h⟩
  | succ d ih =>
    intro n u F B h u0 ud hn
    obtain ⟨n, rfl⟩ : ∃ j, n = j + 1 := ⟨n - 1, by omega⟩
    have e1 : F 13 w 1 = V := by rw [h.1 13 w 1 (by omega)]; exact h1
    have g1 := (hs u u0 (by omega)).1
    obtain ⟨F1, B1, x1, x2⟩ := x_mts17 (rec := f_M_moments_7 K n) hK hS' hR0' u0 (show u < V by omega) (S u 0 0 0).toNat K 0 F B h (by decide) (by omega) (by omega)
    rw [f_M_moments_7, if_pos w0, if_pos (by unfold r32; omega), e1, if_pos (by unfold r32; omega), if_neg (by omega), x1]
    exact ih n (u + 1) F1 B1 x2 (by omega) (by omega) (by omega)
/-- which event sounds: what is written of it so far -/
noncomputable def LJ (w : Int) (S : zV) (c : Int) (T : Int → Int) (u t : Int) (B : zB) : Prop := ∀ u' t', 0 ≤ u' → u' < 4 → 0 ≤ t' → t' < c → (u' < u ∨ (u' = u ∧ t' < t)) → (0 ≤ B 13 w 75 (4 * t' + u') ∧ B 13 w 75 (4 * t' + u') < S u' 0 0 0) ∧ S u' 1 (B 13 w 75 (4 * t' + u')) 0 ≤ T t' ∧ (B 13 w 75 (4 * t' + u') + 1 < S u' 0 0 0 → T t' < S u' 1 (B 13 w 75 (4 * t' + u') + 1) 0)
noncomputable def m75 (w : Int) (B B' : zB) : Prop := ∀ c i k x, ¬ (c = 13 ∧ i = w ∧ k = 75) → B' c i k x = B c i k x
theorem x_mts91 {u t c : Int} {T : Int → Int} {F : zF} {B : zB} {rec69 : Int → Int → zF → zB → zO} {rec : Int → Int → Int → Int → zF → zB → zO} (hK : 812851200 < K) (hS : SG V S) (hR : SRm V w S F B) (u0 : 0 ≤ u) (u1 : u < V) (t0 : 0 ≤ t) (t1 : t < c) (c8 : c ≤ 800) (hT : TR w c T B) : ∀ (d n : Nat) (e : Int), 0 ≤ e → e + d + 1 = S u 0 0 0 → S u 1 e 0 ≤ T t → d < n → ∃ e', f_M_moments_91 rec69 rec K n t e u w F B = rec (t + 1) e' u w F (zup4 B 13 w 75 (4 * t + u) e') ∧ (0 ≤ e' ∧ e' < S u 0 0 0) ∧ S u 1 e' 0 ≤ T t ∧ (e' + 1 < S u 0 0 0 → T t < S u 1 (e' + 1) 0) := by
  obtain ⟨⟨_, v4⟩, hs⟩ := hS
  obtain ⟨w0, _, hr⟩ := hR
  obtain ⟨g1, g2, g3, g4⟩ := hs u u0 u1
  obtain ⟨r1, r2⟩ := hr u u0 u1
  obtain ⟨⟨q0, q1⟩, k1, k2⟩ := hT t t0 t1
  have h157 : ∀ e, f_M_moments_157 rec69 rec K t e u w F B = rec (t + 1) e u w F (zup4 B 13 w 75 (4 * t + u) e) := fun e => by
    unfold f_M_moments_157
    rw [if_pos w0, if_pos (by omega)]
  intro d
  induction d with
  | zero =>
    intro n e e0 ed le hn
    obtain ⟨n, rfl⟩ : ∃ j, n = j + 1 := ⟨n - 1, by omega⟩
    rw [f_M_moments_91, if_pos w0, if_pos (by omega), if_pos (by unfold r32; omega), r1, if_pos (by unfold r32; omega), if_pos (by omega), h157]
    exact ⟨e, rfl, ⟨e0, by omega⟩, le, fun z => by omega⟩
  | succ d ih =>
    intro n e e0 ed le hn
    obtain ⟨n, rfl⟩ : ∃ j, n = j + 1 := ⟨n - 1, by omega⟩
    obtain ⟨x1, x2, _⟩ := r2 (e + 1) (by omega) (by omega)
    obtain ⟨y0, y1⟩ := (g3 (e + 1) (by omega) (by omega)).1
    rw [f_M_moments_91, if_pos w0, if_pos (by omega), if_pos (by unfold r32; omega), r1, if_pos (by unfold r32; omega), if_neg (by omega), if_pos (by omega), if_pos (by omega), show 1000 * u + e + 1 = 1000 * u + (e + 1) by omega, x1, x2, k1, k2, L_cmpR hK (FR_r y0) (FR_r q0) (by omega) (by omega), zb_s, if_pos cmp3.1]
    by_cases z : 0 < (if S u 1 (e + 1) 0 < T t then (-1 : Int) else if S u 1 (e + 1) 0 = T t then 0 else 1)
    · have l : ¬ S u 1 (e + 1) 0 ≤ T t := fun k => by have := cmp3.2.mpr k; omega
      rw [if_pos z, h157]
      exact ⟨e, rfl, ⟨e0, by omega⟩, le, fun _ => by omega⟩
    · have l : S u 1 (e + 1) 0 ≤ T t := cmp3.2.mp (by omega)
      rw [if_neg z]
      exact ih n (e + 1) (by omega) (by omega) l (by omega)
theorem x_mts82 {u c : Int} {T : Int → Int} {F : zF} {B0 : zB} {rec : Int → Int → zF → zB → zO} (hK : 812851200 < K) (hS : SG V S) (hR0 : SRm V w S F B0) (u0 : 0 ≤ u) (u1 : u < V) (h72 : F 13 w 72 = c) (c8 : 0 ≤ c ∧ c ≤ 800) (hT : TR w c T B0) (hI : SI c T) : ∀ (d n : Nat) (t e : Int) (B : zB), m75 w B0 B → LJ w S c T u t B → 0 ≤ t → t + d = c → (0 ≤ e ∧ e < S u 0 0 0) → (0 < d → S u 1 e 0 ≤ T t) → d < n → ∃ B', f_M_moments_82 rec K n t e u w F B = rec (u + 1) w F B' ∧ m75 w B0 B' ∧ LJ w S c T (u + 1) 0 B' := by
  have w0 := hR0.1
  have v4 := hS.1
  have g1 := (hS.2 u u0 u1).1
  intro d
  induction d with
  | zero =>
    intro n t e B z hL t0 td e0 le hn
    obtain ⟨n, rfl⟩ : ∃ j, n = j + 1 := ⟨n - 1, by omega⟩
    rw [f_M_moments_82, if_pos w0, if_pos (by unfold r32; omega), h72, if_pos (by unfold r32; omega), if_pos (by omega)]
    exact ⟨B, rfl, z, fun u' t' a0 a1 a2 a3 a4 => hL u' t' a0 a1 a2 a3 (by omega)⟩
  | succ d ih =>
    intro n t e B z hL t0 td e0 le hn
    obtain ⟨n, rfl⟩ : ∃ j, n = j + 1 := ⟨n - 1, by omega⟩
    have hR : SRm V w S F B := SRm_f hR0 rfl (fun k x hk => z 13 w k x (by omega))
    have hT' : TR w c T B := TR_f hT (fun k x hk => z 13 w k x (by omega))
    obtain ⟨e', x1, x2, x3, x4⟩ := x_mts91 (rec69 := rec) (rec := f_M_moments_82 rec K n) hK hS hR u0 u1 t0 (show t < c by omega) c8.2 hT' (S u 0 0 0 - e - 1).toNat K e e0.1 (by omega) (le (by omega)) (by omega)
    rw [f_M_moments_82, if_pos w0, if_pos (by unfold r32; omega), h72, if_pos (by unfold r32; omega), if_neg (by omega), x1]
    refine ih n (t + 1) e' _ (fun c i k x nn => by rw [zup4_v, if_neg (by omega)]; exact z c i k x nn) (fun u' t' a0 a1 a2 a3 a4 => ?_) (by omega) (by omega) x2 (fun zd => ?_) (by omega)
    · by_cases q : u' = u ∧ t' = t
      · rw [q.1, q.2, show (zup4 B 13 w 75 (4 * t + u) e') 13 w 75 (4 * t + u) = e' by rw [zup4_v, if_pos ⟨rfl, rfl, rfl, rfl⟩]]
        exact ⟨x2, x3, x4⟩
      · rw [show (zup4 B 13 w 75 (4 * t + u) e') 13 w 75 (4 * t' + u') = B 13 w 75 (4 * t' + u') by rw [zup4_v, if_neg (by omega)]]
        exact hL u' t' a0 a1 a2 a3 (by omega)
    · have := hI t t0 (by omega)
      omega
theorem x_mts69 {c : Int} {T : Int → Int} {F : zF} {B0 : zB} (hK : 812851200 < K) (hS : SG V S) (hR0 : SRm V w S F B0) (h72 : F 13 w 72 = c) (c8 : 0 ≤ c ∧ c ≤ 800) (hT : TR w c T B0) (hI : SI c T) : ∀ (d n : Nat) (u : Int) (B : zB), m75 w B0 B → LJ w S c T u 0 B → 0 ≤ u → u + d = V → d < n → ∃ B', f_M_moments_69 K n u w F B = some (0, F, B') ∧ m75 w B0 B' ∧ LJ w S c T V 0 B' := by
  have w0 := hR0.1
  have h1 := hR0.2.1
  have v4 := hS.1
  intro d
  induction d with
  | zero =>
    intro n u B z hL u0 ud hn
    obtain ⟨n, rfl⟩ : ∃ j, n = j + 1 := ⟨n - 1, by omega⟩
    obtain rfl : u = V := by omega
    rw [f_M_moments_69, if_pos w0, if_pos (by unfold r32; omega), h1, if_pos (by unfold r32; omega), if_pos (by omega)]
    exact ⟨B, rfl, z, hL⟩
  | succ d ih =>
    intro n u B z hL u0 ud hn
    obtain ⟨n, rfl⟩ : ∃ j, n = j + 1 := ⟨n - 1, by omega⟩
    have u1 : u < V := by omega
    obtain ⟨g1, g2, _⟩ := hS.2 u u0 u1
    have hR : SRm V w S F B := SRm_f hR0 rfl (fun k x hk => z 13 w k x (by omega))
    have hT' : TR w c T B := TR_f hT (fun k x hk => z 13 w k x (by omega))
    obtain ⟨B1, x1, x2, x3⟩ := x_mts82 (rec := f_M_moments_69 K n) hK hS hR u0 u1 h72 c8 hT' hI c.toNat K 0 0 B (fun _ _ _ _ _ => rfl) hL (by decide) (by omega) (by omega) (fun zd => by rw [g2]; exact (hT' 0 (by decide) (by omega)).1.1) (by omega)
    rw [f_M_moments_69, if_pos w0, if_pos (by unfold r32; omega), h1, if_pos (by unfold r32; omega), if_neg (by omega), x1]
    exact ih n (u + 1) B1 (fun c i k x nn => by rw [x2 c i k x nn, z c i k x nn]) x3 (by omega) (by omega) (by omega)
/-- the reference's moments, exactly -/
noncomputable def MXo (V w : Int) (S : zV) (T : Int → Int) (F : zF) (B : zB) : Prop := TR w (F 13 w 72) T B ∧ MO V S (F 13 w 72) T ∧ LI V S (F 13 w 72) T (fun u t => B 13 w 75 (4 * t + u))
theorem MXo_f {T : Int → Int} {F F' : zF} {B B' : zB} (h : MXo V w S T F B) (f : F' 13 w 72 = F 13 w 72) (b : ∀ k x, 73 ≤ k → k ≤ 75 → B' 13 w k x = B 13 w k x) : MXo V w S T F' B' := by
  obtain ⟨h1, h2, h3⟩ := h
  unfold MXo
  rw [f]
  refine ⟨TR_f h1 (fun k x hk => b k x (by omega) (by omega)), h2, fun u t u0 u1 t0 t1 => ?_⟩
  have := h3 u t u0 u1 t0 t1
  simp only [b 75 _ (by decide) (by decide)]
  exact this
theorem x_moments {F : zF} {B : zB} (hK : 812851200 < K) (hS : SG V S) (hR : SRm V w S F B) : ∃ F' B' T, f_M_moments K w F B = some (0, F', B') ∧ MF w F F' ∧ MZ w B B' ∧ MXo V w S T F' B' := by
  have w0 := hR.1
  have v4 := hS.1
  have e : (zup3 F 13 w 72 0) 13 w 72 = 0 := by rw [zup3_v, if_pos ⟨rfl, rfl, rfl⟩]
  have f : MF w F (zup3 F 13 w 72 0) := fun c i k nn => by rw [zup3_v, if_neg nn]
  obtain ⟨F1, B1, x1, x2, x3, x4, T, x5, x6, x7⟩ := x_mts7 hK hS hR V.toNat K 0 (zup3 F 13 w 72 0) B ⟨f, fun _ _ _ _ _ => rfl, by omega, fun _ => 0, fun t t0 t1 => by omega, fun t t0 t1 => by omega, fun x => ⟨fun ⟨t, t0, t1, _⟩ => by omega, fun ⟨u', i', a0, a1, a2, a3, a4⟩ => by omega⟩⟩ (by decide) (by omega) (by omega)
  have hR1 : SRm V w S F1 B1 := SRm_f hR (x2 13 w 1 (by omega)) (fun k x hk => x3 13 w k x (by omega))
  obtain ⟨B2, y1, y2, y3⟩ := x_mts69 hK hS hR1 rfl (by omega) x5 x6 V.toNat K 0 B1 (fun _ _ _ _ _ => rfl) (fun u' t' a0 a1 a2 a3 a4 => by omega) (by decide) (by omega) (by omega)
  refine ⟨F1, B2, T, ?_, x2, fun c i k x nn => by rw [y2 c i k x (by omega), x3 c i k x nn], TR_f x5 (fun k x hk => y2 13 w k x (by omega)), ⟨by omega, x6, RS_c x7 (fun x => ⟨?_, ?_⟩)⟩, fun u t u0 u1 t0 t1 => y3 u t u0 (by omega) t0 t1 (Or.inl u1)⟩
  · unfold f_M_moments
    rw [if_pos w0, x1, y1]
  · rintro ⟨u', i', a0, a1, a2, a3, a4⟩
    exact ⟨u', i', a0, by omega, a1, a2, a4⟩
  · rintro ⟨u', i', a0, a1, a2, a3, a4⟩
    exact ⟨u', i', a0, a2, a3, Or.inl a1, a4⟩
end
end
section
section
/-! ===== how wide a column is, reference: exactly ===== -/
/-- note y of bar b at place x, among the first U -/
noncomputable def sNt (V w b x U : Int) (B : zB) (y : Int) : Prop := ∃ u, 0 ≤ u ∧ u < V ∧ 800 * u ≤ y ∧ y < 800 * u + B 13 w 13 u ∧ B 13 w 31 y = b ∧ B 13 w 32 y = nu x ∧ B 13 w 33 y = de x ∧ y < U
noncomputable def aNt (V w b U : Int) (B : zB) (x : Int) : Prop := 0 ≤ x ∧ ∃ y, sNt V w b x U B y
/-- the signs and points at a place -/
noncomputable def FQy (V w b x U : Int) (B : zB) (f dt : Int) : Prop := ((f = 0 ∧ ∀ y, sNt V w b x U B y → B 13 w 37 y ≤ 0) ∨ (f = 1 ∧ ∃ y, sNt V w b x U B y ∧ 0 < B 13 w 37 y)) ∧ (0 ≤ dt ∧ dt ≤ 2) ∧ (∀ y, sNt V w b x U B y → B 13 w 35 y ≤ dt) ∧ (dt = 0 ∨ ∃ y, sNt V w b x U B y ∧ B 13 w 35 y = dt)
theorem FQy_c {V w b x U U' f dt : Int} {B : zB} (h : FQy V w b x U B f dt) (e : ∀ y, sNt V w b x U' B y ↔ sNt V w b x U B y) : FQy V w b x U' B f dt := by
  unfold FQy at h ⊢
  simp only [e]
  exact h
theorem FQy_a {V w b x U U' f dt f' dt' y0 : Int} {B : zB} (h : FQy V w b x U B f dt) (e : ∀ y, sNt V w b x U' B y ↔ sNt V w b x U B y ∨ y = y0) (hf : (f = 0 ∧ B 13 w 37 y0 ≤ 0 ∧ f' = 0) ∨ (f' = 1 ∧ (f = 1 ∨ 0 < B 13 w 37 y0))) (hd : (dt' = dt ∧ B 13 w 35 y0 ≤ dt) ∨ (dt' = B 13 w 35 y0 ∧ dt < B 13 w 35 y0 ∧ B 13 w 35 y0 ≤ 2)) : FQy V w b x U' B f' dt' := by
  obtain ⟨h1, h2, h3, h4⟩ := h
  refine ⟨?_, by clear h1 h4; omega, fun y hy => ?_, ?_⟩
  · rcases hf with ⟨a, c, d⟩ | ⟨a, c⟩
    · rcases h1 with ⟨_, g⟩ | ⟨z, _⟩
      · refine Or.inl ⟨d, fun y hy => ?_⟩
        rcases (e y).mp hy with k | k
        · exact g y k
        · rw [k]; exact c
      · omega
    · refine Or.inr ⟨a, ?_⟩
      rcases c with c | c
      · rcases h1 with ⟨z, _⟩ | ⟨_, y, hy, p⟩
        · omega
        · exact ⟨y, (e y).mpr (Or.inl hy), p⟩
      · exact ⟨y0, (e y0).mpr (Or.inr rfl), c⟩
  · rcases (e y).mp hy with k | k
    · have := h3 y k
      clear h1 h4
      omega
    · rw [k]
      clear h1 h4
      omega
  · rcases hd with ⟨a, _⟩ | ⟨a, c, _⟩
    · rw [a]
      rcases h4 with z | ⟨y, hy, p⟩
      · exact Or.inl z
      · exact Or.inr ⟨y, (e y).mpr (Or.inl hy), p⟩
    · exact Or.inr ⟨y0, (e y0).mpr (Or.inr rfl), a.symm⟩
/-- what a column's width comes to: lg for the time till the next -/
noncomputable def WDx (V w b x : Int) (B : zB) (lg r : Int) : Prop := ∃ f dt, FQy V w b x (800 * V) B f dt ∧ r = 8 + 4 * lg + (if f = 0 then 0 else 6) + 3 * dt
theorem sNt_f {V w b x U : Int} {B B' : zB} (f : ∀ k z, k ≤ 41 → B' 13 w k z = B 13 w k z) (y : Int) : sNt V w b x U B' y ↔ sNt V w b x U B y := by
  have f13 : ∀ z, B' 13 w 13 z = B 13 w 13 z := fun z => f 13 z (by decide)
  have f31 : ∀ z, B' 13 w 31 z = B 13 w 31 z := fun z => f 31 z (by decide)
  have f32 : ∀ z, B' 13 w 32 z = B 13 w 32 z := fun z => f 32 z (by decide)
  have f33 : ∀ z, B' 13 w 33 z = B 13 w 33 z := fun z => f 33 z (by decide)
  unfold sNt
  simp only [f13, f31, f32, f33]
theorem FQy_f {V w b x U p q : Int} {B B' : zB} (f : ∀ k z, k ≤ 41 → B' 13 w k z = B 13 w k z) (h : FQy V w b x U B p q) : FQy V w b x U B' p q := by
  have f35 : ∀ z, B' 13 w 35 z = B 13 w 35 z := fun z => f 35 z (by decide)
  have f37 : ∀ z, B' 13 w 37 z = B 13 w 37 z := fun z => f 37 z (by decide)
  unfold FQy at h ⊢
  simp only [sNt_f f, f35, f37]
  exact h
theorem WDx_f {V w b x lg r : Int} {B B' : zB} (f : ∀ k z, k ≤ 41 → B' 13 w k z = B 13 w k z) (h : WDx V w b x B lg r) : WDx V w b x B' lg r := by
  obtain ⟨p, q, h1, h2⟩ := h
  exact ⟨p, q, FQy_f f h1, h2⟩
theorem aNt_f {V w b U x : Int} {B B' : zB} (f : ∀ k z, k ≤ 41 → B' 13 w k z = B 13 w k z) : aNt V w b U B' x ↔ aNt V w b U B x := by
  unfold aNt
  simp only [sNt_f f]
/-- a width is one -/
theorem FQy_u {V w b x U f dt f' dt' : Int} {B : zB} (h : FQy V w b x U B f dt) (h' : FQy V w b x U B f' dt') : f = f' ∧ dt = dt' := by
  obtain ⟨a1, a2, a3, a4⟩ := h
  obtain ⟨b1, b2, b3, b4⟩ := h'
  refine ⟨?_, ?_⟩
  · rcases a1 with ⟨z, g⟩ | ⟨z, y, hy, p⟩
    · rcases b1 with ⟨z', _⟩ | ⟨z', y, hy, p⟩
      · omega
      · have := g y hy
        omega
    · rcases b1 with ⟨z', g⟩ | ⟨z', _⟩
      · have := g y hy
        omega
      · omega
  · rcases a4 with z | ⟨y, hy, p⟩
    · rcases b4 with z' | ⟨y', hy', p'⟩
      · omega
      · have := a3 y' hy'
        omega
    · have := b3 y hy
      rcases b4 with z' | ⟨y', hy', p'⟩
      · omega
      · have := a3 y' hy'
        omega
theorem WDx_u {V w b x lg r r' : Int} {B : zB} (h : WDx V w b x B lg r) (h' : WDx V w b x B lg r') : r = r' := by
  obtain ⟨f, dt, h1, h2⟩ := h
  obtain ⟨f', dt', h1', h2'⟩ := h'
  obtain ⟨e1, e2⟩ := FQy_u h1 h1'
  rw [h2, h2', e1, e2]
/-- how often a number may be halved -/
noncomputable def lw2 : Nat → Int → Int
  | 0, _ => 0
  | n + 1, x => if x < 2 then 0 else 1 + lw2 n (x / 2)
theorem p2_1 : ∀ k : Nat, 1 ≤ (2 : Int) ^ k
  | 0 => by decide
  | k + 1 => by
    have := p2_1 k
    rw [Int.pow_succ]
    omega
theorem lw2_b : ∀ (k n : Nat) (X : Int), k < n → (k = 0 ∨ (2 : Int) ^ k ≤ X) → X < (2 : Int) ^ (k + 1) → lw2 n X = k := by
  intro k
  induction k with
  | zero =>
    intro n X kn _ h
    obtain ⟨n, rfl⟩ : ∃ j, n = j + 1 := ⟨n - 1, by omega⟩
    have : (2 : Int) ^ (0 + 1) = 2 := by decide
    rw [lw2, if_pos (by omega)]
    rfl
  | succ k ih =>
    intro n X kn h h'
    obtain ⟨n, rfl⟩ : ∃ j, n = j + 1 := ⟨n - 1, by omega⟩
    have p0 := p2_1 k
    have p1 : (2 : Int) ^ (k + 1) = 2 ^ k * 2 := Int.pow_succ 2 k
    have p2 : (2 : Int) ^ (k + 1 + 1) = 2 ^ (k + 1) * 2 := Int.pow_succ 2 (k + 1)
    have h2 : (2 : Int) ^ (k + 1) ≤ X := h.resolve_left (by omega)
    rw [lw2, if_neg (by omega), ih n (X / 2) (by omega) (Or.inr (by omega)) (by omega)]
    omega
theorem lg_c {D m : Int} (D0 : 0 ≤ D) : 128 * nu D < de D * m ↔ D / 6350400 < m := by
  obtain ⟨d0, _, _, e⟩ := FR_r D0
  have hw : WW = 812851200 := rfl
  rw [hw] at e
  have a1 : D * 128 * de D = D * de D * 128 := by ac_rfl
  have a2 : m * 812851200 * de D = de D * m * 812851200 := by ac_rfl
  constructor
  · intro h
    have h3 : (D * 128) * de D < (m * 812851200) * de D := by omega
    have := Int.lt_of_mul_lt_mul_right h3 (by omega)
    omega
  · intro h
    have h0 : D * 128 < m * 812851200 := by omega
    have h3 := Int.mul_lt_mul_of_pos_right h0 (show 0 < de D by omega)
    omega
theorem zlsh_1 {a : Int} (h0 : 0 ≤ a) (h1 : a < 1099511627776) : zlshl a 1 = a * 2 := by
  obtain ⟨n, rfl⟩ := Int.eq_ofNat_of_zero_le h0
  have k1 : (BitVec.ofInt 64 (n : Int)).toNat = n := by
    rw [BitVec.toNat_ofInt]
    show ((n : Int) % 18446744073709551616).toNat = n
    omega
  have e0 : (BitVec.ofInt 64 (n : Int) <<< (1 : Nat)).toNat = n * 2 := by
    rw [BitVec.toNat_shiftLeft, k1, Nat.shiftLeft_eq]
    show n * 2 % 18446744073709551616 = n * 2
    omega
  show (BitVec.ofInt 64 (n : Int) <<< (1 : Nat)).toInt = _
  rw [BitVec.toInt_eq_toNat_of_lt (by rw [e0]; omega), e0]
  omega
theorem zlsh_2 {a : Int} (h0 : 0 ≤ a) (h1 : a < 1099511627776) : zlshl a 2 = a * 4 := by
  obtain ⟨n, rfl⟩ := Int.eq_ofNat_of_zero_le h0
  have k1 : (BitVec.ofInt 64 (n : Int)).toNat = n := by
    rw [BitVec.toNat_ofInt]
    show ((n : Int) % 18446744073709551616).toNat = n
    omega
  have e0 : (BitVec.ofInt 64 (n : Int) <<< (2 : Nat)).toNat = n * 4 := by
    rw [BitVec.toNat_shiftLeft, k1, Nat.shiftLeft_eq]
    show n * 4 % 18446744073709551616 = n * 4
    omega
  show (BitVec.ofInt 64 (n : Int) <<< (2 : Nat)).toInt = _
  rw [BitVec.toInt_eq_toNat_of_lt (by rw [e0]; omega), e0]
  omega
theorem zlsh_3 {a : Int} (h0 : 0 ≤ a) (h1 : a < 1099511627776) : zlshl a 3 = a * 8 := by
  obtain ⟨n, rfl⟩ := Int.eq_ofNat_of_zero_le h0
  have k1 : (BitVec.ofInt 64 (n : Int)).toNat = n := by
    rw [BitVec.toNat_ofInt]
    show ((n : Int) % 18446744073709551616).toNat = n
    omega
  have e0 : (BitVec.ofInt 64 (n : Int) <<< (3 : Nat)).toNat = n * 8 := by
    rw [BitVec.toNat_shiftLeft, k1, Nat.shiftLeft_eq]
    show n * 8 % 18446744073709551616 = n * 8
    omega
  show (BitVec.ofInt 64 (n : Int) <<< (3 : Nat)).toInt = _
  rw [BitVec.toInt_eq_toNat_of_lt (by rw [e0]; omega), e0]
  omega
theorem zlsh_4 {a : Int} (h0 : 0 ≤ a) (h1 : a < 1099511627776) : zlshl a 4 = a * 16 := by
  obtain ⟨n, rfl⟩ := Int.eq_ofNat_of_zero_le h0
  have k1 : (BitVec.ofInt 64 (n : Int)).toNat = n := by
    rw [BitVec.toNat_ofInt]
    show ((n : Int) % 18446744073709551616).toNat = n
    omega
  have e0 : (BitVec.ofInt 64 (n : Int) <<< (4 : Nat)).toNat = n * 16 := by
    rw [BitVec.toNat_shiftLeft, k1, Nat.shiftLeft_eq]
    show n * 16 % 18446744073709551616 = n * 16
    omega
  show (BitVec.ofInt 64 (n : Int) <<< (4 : Nat)).toInt = _
  rw [BitVec.toInt_eq_toNat_of_lt (by rw [e0]; omega), e0]
  omega
theorem zlsh_5 {a : Int} (h0 : 0 ≤ a) (h1 : a < 1099511627776) : zlshl a 5 = a * 32 := by
  obtain ⟨n, rfl⟩ := Int.eq_ofNat_of_zero_le h0
  have k1 : (BitVec.ofInt 64 (n : Int)).toNat = n := by
    rw [BitVec.toNat_ofInt]
    show ((n : Int) % 18446744073709551616).toNat = n
    omega
  have e0 : (BitVec.ofInt 64 (n : Int) <<< (5 : Nat)).toNat = n * 32 := by
    rw [BitVec.toNat_shiftLeft, k1, Nat.shiftLeft_eq]
    show n * 32 % 18446744073709551616 = n * 32
    omega
  show (BitVec.ofInt 64 (n : Int) <<< (5 : Nat)).toInt = _
  rw [BitVec.toInt_eq_toNat_of_lt (by rw [e0]; omega), e0]
  omega
theorem zlsh_6 {a : Int} (h0 : 0 ≤ a) (h1 : a < 1099511627776) : zlshl a 6 = a * 64 := by
  obtain ⟨n, rfl⟩ := Int.eq_ofNat_of_zero_le h0
  have k1 : (BitVec.ofInt 64 (n : Int)).toNat = n := by
    rw [BitVec.toNat_ofInt]
    show ((n : Int) % 18446744073709551616).toNat = n
    omega
  have e0 : (BitVec.ofInt 64 (n : Int) <<< (6 : Nat)).toNat = n * 64 := by
    rw [BitVec.toNat_shiftLeft, k1, Nat.shiftLeft_eq]
    show n * 64 % 18446744073709551616 = n * 64
    omega
  show (BitVec.ofInt 64 (n : Int) <<< (6 : Nat)).toInt = _
  rw [BitVec.toInt_eq_toNat_of_lt (by rw [e0]; omega), e0]
  omega
theorem zlsh_7 {a : Int} (h0 : 0 ≤ a) (h1 : a < 1099511627776) : zlshl a 7 = a * 128 := by
  obtain ⟨n, rfl⟩ := Int.eq_ofNat_of_zero_le h0
  have k1 : (BitVec.ofInt 64 (n : Int)).toNat = n := by
    rw [BitVec.toNat_ofInt]
    show ((n : Int) % 18446744073709551616).toNat = n
    omega
  have e0 : (BitVec.ofInt 64 (n : Int) <<< (7 : Nat)).toNat = n * 128 := by
    rw [BitVec.toNat_shiftLeft, k1, Nat.shiftLeft_eq]
    show n * 128 % 18446744073709551616 = n * 128
    omega
  show (BitVec.ofInt 64 (n : Int) <<< (7 : Nat)).toInt = _
  rw [BitVec.toInt_eq_toNat_of_lt (by rw [e0]; omega), e0]
  omega
theorem zlsh_8 {a : Int} (h0 : 0 ≤ a) (h1 : a < 1099511627776) : zlshl a 8 = a * 256 := by
  obtain ⟨n, rfl⟩ := Int.eq_ofNat_of_zero_le h0
  have k1 : (BitVec.ofInt 64 (n : Int)).toNat = n := by
    rw [BitVec.toNat_ofInt]
    show ((n : Int) % 18446744073709551616).toNat = n
    omega
  have e0 : (BitVec.ofInt 64 (n : Int) <<< (8 : Nat)).toNat = n * 256 := by
    rw [BitVec.toNat_shiftLeft, k1, Nat.shiftLeft_eq]
    show n * 256 % 18446744073709551616 = n * 256
    omega
  show (BitVec.ofInt 64 (n : Int) <<< (8 : Nat)).toInt = _
  rw [BitVec.toInt_eq_toNat_of_lt (by rw [e0]; omega), e0]
  omega
theorem zlsh_9 {a : Int} (h0 : 0 ≤ a) (h1 : a < 1099511627776) : zlshl a 9 = a * 512 := by
  obtain ⟨n, rfl⟩ := Int.eq_ofNat_of_zero_le h0
  have k1 : (BitVec.ofInt 64 (n : Int)).toNat = n := by
    rw [BitVec.toNat_ofInt]
    show ((n : Int) % 18446744073709551616).toNat = n
    omega
  have e0 : (BitVec.ofInt 64 (n : Int) <<< (9 : Nat)).toNat = n * 512 := by
    rw [BitVec.toNat_shiftLeft, k1, Nat.shiftLeft_eq]
    show n * 512 % 18446744073709551616 = n * 512
    omega
  show (BitVec.ofInt 64 (n : Int) <<< (9 : Nat)).toInt = _
  rw [BitVec.toInt_eq_toNat_of_lt (by rw [e0]; omega), e0]
  omega
theorem zlsh_10 {a : Int} (h0 : 0 ≤ a) (h1 : a < 1099511627776) : zlshl a 10 = a * 1024 := zlshl10 h0 h1
theorem x_wid92 {K n : Nat} {w b j D : Int} {F : zF} {B : zB} (D0 : 0 ≤ D) (D1 : D ≤ 4877107200) (e1 : F 14 0 1 = de D) : f_M_wide_92 K (n + 1 + 1 + 1 + 1 + 1 + 1 + 1 + 1 + 1 + 1) 0 (128 * nu D) w b j F B = f_M_wide_122 K K 0 0 0 (lw2 40 (D / 6350400)) w b j F B := by
  have nr := nd_r D0 (by omega)
  have s0 : ∀ n, f_M_wide_92 K (n + 1) 0 (128 * nu D) w b j F B = if D / 6350400 < 2 then f_M_wide_122 K K 0 0 0 0 w b j F B else f_M_wide_92 K n 1 (128 * nu D) w b j F B := fun n => by
    rw [f_M_wide_92, if_pos (show r64 (128 * nu D) by unfold r64; omega), if_pos (zlshl_R _ _), e1, show (0 : Int) + 1 = 1 from rfl, zlsh_1 (by omega) (by omega)]
    by_cases z : D / 6350400 < 2
    · rw [if_pos z, if_pos (zcmp_lt.mpr ((lg_c D0).mpr z))]
    · rw [if_neg z, if_neg (fun h => z ((lg_c D0).mp (zcmp_lt.mp h)))]
  have s1 : ∀ n, f_M_wide_92 K (n + 1) 1 (128 * nu D) w b j F B = if D / 6350400 < 4 then f_M_wide_122 K K 0 0 0 1 w b j F B else f_M_wide_92 K n 2 (128 * nu D) w b j F B := fun n => by
    rw [f_M_wide_92, if_pos (show r64 (128 * nu D) by unfold r64; omega), if_pos (zlshl_R _ _), e1, show (1 : Int) + 1 = 2 from rfl, zlsh_2 (by omega) (by omega)]
    by_cases z : D / 6350400 < 4
    · rw [if_pos z, if_pos (zcmp_lt.mpr ((lg_c D0).mpr z))]
    · rw [if_neg z, if_neg (fun h => z ((lg_c D0).mp (zcmp_lt.mp h)))]
  have s2 : ∀ n, f_M_wide_92 K (n + 1) 2 (128 * nu D) w b j F B = if D / 6350400 < 8 then f_M_wide_122 K K 0 0 0 2 w b j F B else f_M_wide_92 K n 3 (128 * nu D) w b j F B := fun n => by
    rw [f_M_wide_92, if_pos (show r64 (128 * nu D) by unfold r64; omega), if_pos (zlshl_R _ _), e1, show (2 : Int) + 1 = 3 from rfl, zlsh_3 (by omega) (by omega)]
    by_cases z : D / 6350400 < 8
    · rw [if_pos z, if_pos (zcmp_lt.mpr ((lg_c D0).mpr z))]
    · rw [if_neg z, if_neg (fun h => z ((lg_c D0).mp (zcmp_lt.mp h)))]
  have s3 : ∀ n, f_M_wide_92 K (n + 1) 3 (128 * nu D) w b j F B = if D / 6350400 < 16 then f_M_wide_122 K K 0 0 0 3 w b j F B else f_M_wide_92 K n 4 (128 * nu D) w b j F B := fun n => by
    rw [f_M_wide_92, if_pos (show r64 (128 * nu D) by unfold r64; omega), if_pos (zlshl_R _ _), e1, show (3 : Int) + 1 = 4 from rfl, zlsh_4 (by omega) (by omega)]
    by_cases z : D / 6350400 < 16
    · rw [if_pos z, if_pos (zcmp_lt.mpr ((lg_c D0).mpr z))]
    · rw [if_neg z, if_neg (fun h => z ((lg_c D0).mp (zcmp_lt.mp h)))]
  have s4 : ∀ n, f_M_wide_92 K (n + 1) 4 (128 * nu D) w b j F B = if D / 6350400 < 32 then f_M_wide_122 K K 0 0 0 4 w b j F B else f_M_wide_92 K n 5 (128 * nu D) w b j F B := fun n => by
    rw [f_M_wide_92, if_pos (show r64 (128 * nu D) by unfold r64; omega), if_pos (zlshl_R _ _), e1, show (4 : Int) + 1 = 5 from rfl, zlsh_5 (by omega) (by omega)]
    by_cases z : D / 6350400 < 32
    · rw [if_pos z, if_pos (zcmp_lt.mpr ((lg_c D0).mpr z))]
    · rw [if_neg z, if_neg (fun h => z ((lg_c D0).mp (zcmp_lt.mp h)))]
  have s5 : ∀ n, f_M_wide_92 K (n + 1) 5 (128 * nu D) w b j F B = if D / 6350400 < 64 then f_M_wide_122 K K 0 0 0 5 w b j F B else f_M_wide_92 K n 6 (128 * nu D) w b j F B := fun n => by
    rw [f_M_wide_92, if_pos (show r64 (128 * nu D) by unfold r64; omega), if_pos (zlshl_R _ _), e1, show (5 : Int) + 1 = 6 from rfl, zlsh_6 (by omega) (by omega)]
    by_cases z : D / 6350400 < 64
    · rw [if_pos z, if_pos (zcmp_lt.mpr ((lg_c D0).mpr z))]
    · rw [if_neg z, if_neg (fun h => z ((lg_c D0).mp (zcmp_lt.mp h)))]
  have s6 : ∀ n, f_M_wide_92 K (n + 1) 6 (128 * nu D) w b j F B = if D / 6350400 < 128 then f_M_wide_122 K K 0 0 0 6 w b j F B else f_M_wide_92 K n 7 (128 * nu D) w b j F B := fun n => by
    rw [f_M_wide_92, if_pos (show r64 (128 * nu D) by unfold r64; omega), if_pos (zlshl_R _ _), e1, show (6 : Int) + 1 = 7 from rfl, zlsh_7 (by omega) (by omega)]
    by_cases z : D / 6350400 < 128
    · rw [if_pos z, if_pos (zcmp_lt.mpr ((lg_c D0).mpr z))]
    · rw [if_neg z, if_neg (fun h => z ((lg_c D0).mp (zcmp_lt.mp h)))]
  have s7 : ∀ n, f_M_wide_92 K (n + 1) 7 (128 * nu D) w b j F B = if D / 6350400 < 256 then f_M_wide_122 K K 0 0 0 7 w b j F B else f_M_wide_92 K n 8 (128 * nu D) w b j F B := fun n => by
    rw [f_M_wide_92, if_pos (show r64 (128 * nu D) by unfold r64; omega), if_pos (zlshl_R _ _), e1, show (7 : Int) + 1 = 8 from rfl, zlsh_8 (by omega) (by omega)]
    by_cases z : D / 6350400 < 256
    · rw [if_pos z, if_pos (zcmp_lt.mpr ((lg_c D0).mpr z))]
    · rw [if_neg z, if_neg (fun h => z ((lg_c D0).mp (zcmp_lt.mp h)))]
  have s8 : ∀ n, f_M_wide_92 K (n + 1) 8 (128 * nu D) w b j F B = if D / 6350400 < 512 then f_M_wide_122 K K 0 0 0 8 w b j F B else f_M_wide_92 K n 9 (128 * nu D) w b j F B := fun n => by
    rw [f_M_wide_92, if_pos (show r64 (128 * nu D) by unfold r64; omega), if_pos (zlshl_R _ _), e1, show (8 : Int) + 1 = 9 from rfl, zlsh_9 (by omega) (by omega)]
    by_cases z : D / 6350400 < 512
    · rw [if_pos z, if_pos (zcmp_lt.mpr ((lg_c D0).mpr z))]
    · rw [if_neg z, if_neg (fun h => z ((lg_c D0).mp (zcmp_lt.mp h)))]
  have s9 : ∀ n, f_M_wide_92 K (n + 1) 9 (128 * nu D) w b j F B = if D / 6350400 < 1024 then f_M_wide_122 K K 0 0 0 9 w b j F B else f_M_wide_92 K n 10 (128 * nu D) w b j F B := fun n => by
    rw [f_M_wide_92, if_pos (show r64 (128 * nu D) by unfold r64; omega), if_pos (zlshl_R _ _), e1, show (9 : Int) + 1 = 10 from rfl, zlsh_10 (by omega) (by omega)]
    by_cases z : D / 6350400 < 1024
    · rw [if_pos z, if_pos (zcmp_lt.mpr ((lg_c D0).mpr z))]
    · rw [if_neg z, if_neg (fun h => z ((lg_c D0).mp (zcmp_lt.mp h)))]
  by_cases z0 : D / 6350400 < 2
  · rw [s0, if_pos z0, lw2_b 0 40 (D / 6350400) (by decide) (Or.inl rfl) (by rw [show (2 : Int) ^ (0 + 1) = 2 by decide]; omega)]
    rfl
  by_cases z1 : D / 6350400 < 4
  · rw [s0, if_neg z0, s1, if_pos z1, lw2_b 1 40 (D / 6350400) (by decide) (Or.inr (by rw [show (2 : Int) ^ 1 = 2 by decide]; omega)) (by rw [show (2 : Int) ^ (1 + 1) = 4 by decide]; omega)]
    rfl
  by_cases z2 : D / 6350400 < 8
  · rw [s0, if_neg z0, s1, if_neg z1, s2, if_pos z2, lw2_b 2 40 (D / 6350400) (by decide) (Or.inr (by rw [show (2 : Int) ^ 2 = 4 by decide]; omega)) (by rw [show (2 : Int) ^ (2 + 1) = 8 by decide]; omega)]
    rfl
  by_cases z3 : D / 6350400 < 16
  · rw [s0, if_neg z0, s1, if_neg z1, s2, if_neg z2, s3, if_pos z3, lw2_b 3 40 (D / 6350400) (by decide) (Or.inr (by rw [show (2 : Int) ^ 3 = 8 by decide]; omega)) (by rw [show (2 : Int) ^ (3 + 1) = 16 by decide]; omega)]
    rfl
  by_cases z4 : D / 6350400 < 32
  · rw [s0, if_neg z0, s1, if_neg z1, s2, if_neg z2, s3, if_neg z3, s4, if_pos z4, lw2_b 4 40 (D / 6350400) (by decide) (Or.inr (by rw [show (2 : Int) ^ 4 = 16 by decide]; omega)) (by rw [show (2 : Int) ^ (4 + 1) = 32 by decide]; omega)]
    rfl
  by_cases z5 : D / 6350400 < 64
  · rw [s0, if_neg z0, s1, if_neg z1, s2, if_neg z2, s3, if_neg z3, s4, if_neg z4, s5, if_pos z5, lw2_b 5 40 (D / 6350400) (by decide) (Or.inr (by rw [show (2 : Int) ^ 5 = 32 by decide]; omega)) (by rw [show (2 : Int) ^ (5 + 1) = 64 by decide]; omega)]
    rfl
  by_cases z6 : D / 6350400 < 128
  · rw [s0, if_neg z0, s1, if_neg z1, s2, if_neg z2, s3, if_neg z3, s4, if_neg z4, s5, if_neg z5, s6, if_pos z6, lw2_b 6 40 (D / 6350400) (by decide) (Or.inr (by rw [show (2 : Int) ^ 6 = 64 by decide]; omega)) (by rw [show (2 : Int) ^ (6 + 1) = 128 by decide]; omega)]
    rfl
  by_cases z7 : D / 6350400 < 256
  · rw [s0, if_neg z0, s1, if_neg z1, s2, if_neg z2, s3, if_neg z3, s4, if_neg z4, s5, if_neg z5, s6, if_neg z6, s7, if_pos z7, lw2_b 7 40 (D / 6350400) (by decide) (Or.inr (by rw [show (2 : Int) ^ 7 = 128 by decide]; omega)) (by rw [show (2 : Int) ^ (7 + 1) = 256 by decide]; omega)]
    rfl
  by_cases z8 : D / 6350400 < 512
  · rw [s0, if_neg z0, s1, if_neg z1, s2, if_neg z2, s3, if_neg z3, s4, if_neg z4, s5, if_neg z5, s6, if_neg z6, s7, if_neg z7, s8, if_pos z8, lw2_b 8 40 (D / 6350400) (by decide) (Or.inr (by rw [show (2 : Int) ^ 8 = 256 by decide]; omega)) (by rw [show (2 : Int) ^ (8 + 1) = 512 by decide]; omega)]
    rfl
  rw [s0, if_neg z0, s1, if_neg z1, s2, if_neg z2, s3, if_neg z3, s4, if_neg z4, s5, if_neg z5, s6, if_neg z6, s7, if_neg z7, s8, if_neg z8, s9, if_pos (by omega), lw2_b 9 40 (D / 6350400) (by decide) (Or.inr (by rw [show (2 : Int) ^ 9 = 512 by decide]; omega)) (by rw [show (2 : Int) ^ (9 + 1) = 1024 by decide]; omega)]
  rfl
theorem x_wid134 {K : Nat} {V w b j d7 x : Int} {F : zF} {B : zB} (hR : RDW V w F B) (hX : XS B) (hb : r32 b) (j0 : 0 ≤ j ∧ j < 3200) (x0 : 0 ≤ x ∧ x ≤ 1000000000000) (hj : CP w B j x) {u : Int} (u0 : 0 ≤ u) (u1 : u < V) {rec : Int → Int → Int → Int → Int → Int → Int → zF → zB → zO} : ∀ (n : Nat) (i f dt : Int), FQy V w b x (800 * u + i) B f dt → 0 ≤ i → i ≤ B 13 w 13 u → B 13 w 13 u - i < n → ∃ f' dt', f_M_wide_134 rec K n i u f dt d7 w b j F B = rec (u + 1) f' dt' d7 w b j F B ∧ FQy V w b x (800 * (u + 1)) B f' dt' := by
  have b0 := rd_0 hR
  have bv := rd_v hR u0 u1
  have nx := nd_r x0.1 x0.2
  have hV4 : V ≤ 4 := b0.2.1.2.2
  intro n
  induction n with
  | zero => intro i f dt _ _ _ hk; exfalso; omega
  | succ n ih =>
    intro i f dt h i0 i1 hk
    have hf : r32 f := by
      rcases h.1 with ⟨z, _⟩ | ⟨z, _⟩
      · rw [z]; decide
      · rw [z]; decide
    have hd := h.2.1
    rw [f_M_wide_134, if_pos b0.1, if_pos (show 0 ≤ u ∧ u < 4 by omega), if_pos (show r32 i by unfold r32; omega), if_pos (show r32 (B 13 w 13 u) by unfold r32; omega)]
    by_cases h1 : B 13 w 13 u ≤ i
    · rw [if_pos h1]
      refine ⟨f, dt, rfl, FQy_c h (fun y => ⟨fun hy => ?_, fun hy => ?_⟩)⟩
      · obtain ⟨u', a0, a1, a2, a3, a4, a5, a6, a7⟩ := hy
        have := rd_v hR a0 a1
        refine ⟨u', a0, a1, a2, a3, a4, a5, a6, ?_⟩
        by_cases e : u' = u
        · rw [e] at a3; omega
        · omega
      · obtain ⟨u', a0, a1, a2, a3, a4, a5, a6, a7⟩ := hy
        exact ⟨u', a0, a1, a2, a3, a4, a5, a6, by omega⟩
    have nn := rd_n (y := 800 * u + i) hR u0 u1 (by omega) (by omega)
    obtain ⟨p, ⟨p0, p1⟩, p2, p3⟩ := rd_q (y := 800 * u + i) hR u0 u1 (by omega) (by omega)
    have b6 := barV_6 b0.2.2.2.1 (rd_5 hR)
    have np := nd_r p0 (by omega)
    have a8 := hX.2 w (800 * u + i)
    -- a note that is not there
    have no : ¬ (B 13 w 31 (800 * u + i) = b ∧ B 13 w 32 (800 * u + i) = nu x ∧ B 13 w 33 (800 * u + i) = de x) → ∃ f' dt', f_M_wide_134 rec K n (i + 1) u f dt d7 w b j F B = rec (u + 1) f' dt' d7 w b j F B ∧ FQy V w b x (800 * (u + 1)) B f' dt' := fun hn => by
      refine ih (i + 1) f dt (FQy_c h (fun y => ⟨fun hy => ?_, fun hy => ?_⟩)) (by omega) (by omega) (by omega)
      · obtain ⟨u', a0, a1, a2, a3, a4, a5, a6, a7⟩ := hy
        refine ⟨u', a0, a1, a2, a3, a4, a5, a6, ?_⟩
        by_cases e : y = 800 * u + i
        · rw [e] at a4 a5 a6
          exact absurd ⟨a4, a5, a6⟩ hn
        · omega
      · obtain ⟨u', a0, a1, a2, a3, a4, a5, a6, a7⟩ := hy
        exact ⟨u', a0, a1, a2, a3, a4, a5, a6, by omega⟩
    rw [if_neg h1, if_pos (show 0 ≤ 800 * u + i ∧ 800 * u + i < 3200 by omega), if_pos (show r32 (B 13 w 31 (800 * u + i)) by unfold r32; omega), if_pos hb]
    by_cases h3 : B 13 w 31 (800 * u + i) = b
    case neg =>
      rw [if_neg h3, f_M_wide_248]
      exact no (fun z => h3 z.1)
    rw [if_pos h3, if_pos j0, if_pos (show r64 (B 13 w 32 (800 * u + i)) by rw [p2]; unfold r64; omega), if_pos (show r64 (B 13 w 43 j) by rw [hj.1]; unfold r64; omega)]
    by_cases h5 : zcmp (B 13 w 32 (800 * u + i)) (B 13 w 43 j) = 0
    case neg =>
      rw [if_neg h5, f_M_wide_248]
      exact no (fun z => h5 (zcmp_0.mpr (by rw [z.2.1, hj.1])))
    rw [if_pos h5, if_pos (show r64 (B 13 w 33 (800 * u + i)) by rw [p3]; unfold r64; omega), if_pos (show r64 (B 13 w 44 j) by rw [hj.2]; unfold r64; omega)]
    by_cases h6 : zcmp (B 13 w 33 (800 * u + i)) (B 13 w 44 j) = 0
    case neg =>
      rw [if_neg h6, f_M_wide_248]
      exact no (fun z => h6 (zcmp_0.mpr (by rw [z.2.2, hj.2])))
    have g5 : B 13 w 32 (800 * u + i) = nu x := by rw [zcmp_0.mp h5]; exact hj.1
    have g6 : B 13 w 33 (800 * u + i) = de x := by rw [zcmp_0.mp h6]; exact hj.2
    have ey : ∀ y, sNt V w b x (800 * u + (i + 1)) B y ↔ sNt V w b x (800 * u + i) B y ∨ y = 800 * u + i := fun y => by
      constructor
      · intro hy
        obtain ⟨u', a0, a1, a2, a3, a4, a5, a6, a7⟩ := hy
        by_cases e : y = 800 * u + i
        · exact Or.inr e
        · exact Or.inl ⟨u', a0, a1, a2, a3, a4, a5, a6, by omega⟩
      · intro hy
        rcases hy with hy | e
        · obtain ⟨u', a0, a1, a2, a3, a4, a5, a6, a7⟩ := hy
          exact ⟨u', a0, a1, a2, a3, a4, a5, a6, by omega⟩
        · rw [e]
          exact ⟨u, u0, u1, by omega, by omega, h3, g5, g6, by omega⟩
    have fin : ∀ s0 : Int, (f = 0 ∧ B 13 w 37 (800 * u + i) ≤ 0 ∧ s0 = 0) ∨ (s0 = 1 ∧ (f = 1 ∨ 0 < B 13 w 37 (800 * u + i))) → ∃ f' dt', f_M_wide_225 rec (f_M_wide_134 rec K n) K (800 * u + i) i u dt d7 w b j s0 F B = rec (u + 1) f' dt' d7 w b j F B ∧ FQy V w b x (800 * (u + 1)) B f' dt' := fun s0 hs => by
      unfold f_M_wide_225
      rw [if_pos b0.1, if_pos (show 0 ≤ 800 * u + i ∧ 800 * u + i < 3200 by omega), if_pos (show r32 (B 13 w 35 (800 * u + i)) by unfold r32; omega), if_pos (show r32 dt by unfold r32; omega)]
      by_cases z : B 13 w 35 (800 * u + i) ≤ dt
      · rw [if_pos z, f_M_wide_248]
        exact ih (i + 1) s0 dt (FQy_a h ey hs (Or.inl ⟨rfl, z⟩)) (by omega) (by omega) (by omega)
      · rw [if_neg z, f_M_wide_248]
        exact ih (i + 1) s0 _ (FQy_a h ey hs (Or.inr ⟨rfl, by omega, by omega⟩)) (by omega) (by omega) (by omega)
    rw [if_pos h6, if_pos hf]
    by_cases h7 : f = 0
    · rw [if_pos h7, if_pos a8.2.1]
      by_cases h9 : B 13 w 37 (800 * u + i) ≤ 0
      · rw [if_pos h9]
        exact fin 0 (Or.inl ⟨h7, h9, rfl⟩)
      · rw [if_neg h9, f_M_wide_220]
        exact fin 1 (Or.inr ⟨rfl, Or.inr (by omega)⟩)
    · rw [if_neg h7, f_M_wide_220]
      refine fin 1 (Or.inr ⟨rfl, Or.inl ?_⟩)
      rcases h.1 with ⟨y, _⟩ | ⟨y, _⟩
      · exact absurd y h7
      · exact y
theorem x_wid122 {K : Nat} {V w b j d7 x : Int} {F : zF} {B : zB} (hK : 1000 ≤ K) (hR : RDW V w F B) (hX : XS B) (hb : r32 b) (j0 : 0 ≤ j ∧ j < 3200) (x0 : 0 ≤ x ∧ x ≤ 1000000000000) (hj : CP w B j x) : ∀ (n : Nat) (u f dt : Int), FQy V w b x (800 * u) B f dt → 0 ≤ u → u ≤ V → V - u < n → ∃ r, f_M_wide_122 K n u f dt d7 w b j F B = some (r, F, B) ∧ WDx V w b x B d7 r := by
  have b0 := rd_0 hR
  intro n
  induction n with
  | zero => intro u f dt _ _ _ hk; exfalso; omega
  | succ n ih =>
    intro u f dt h u0 u1 hk
    rw [f_M_wide_122, if_pos b0.1, if_pos (show r32 u by unfold r32; omega), if_pos (show r32 (F 13 w 1) by unfold r32; omega)]
    by_cases z : F 13 w 1 ≤ u
    · have hf : r32 f := by
        rcases h.1 with ⟨y, _⟩ | ⟨y, _⟩
        · rw [y]; decide
        · rw [y]; decide
      have e : u = V := by omega
      rw [e] at h
      rw [if_pos z, if_pos hf]
      by_cases z' : f = 0
      · rw [if_pos z', f_M_wide_278]
        exact ⟨_, rfl, f, dt, h, by rw [if_pos z']⟩
      · rw [if_neg z', f_M_wide_278]
        exact ⟨_, rfl, f, dt, h, by rw [if_neg z']⟩
    · rw [if_neg z]
      have bv := rd_v hR u0 (show u < V by omega)
      obtain ⟨f', dt', e1, e2⟩ := x_wid134 (K := K) (d7 := d7) (j := j) (rec := f_M_wide_122 K n) hR hX hb j0 x0 hj u0 (show u < V by omega) K 0 f dt (by rw [Int.add_zero]; exact h) (by decide) (by omega) (by omega)
      rw [e1]
      exact ih (u + 1) f' dt' e2 (by omega) (by omega) (by omega)
theorem x_wid64 {K : Nat} {V w b j a c p q : Int} {F : zF} {B : zB} (hK : 812851200 < K) (hR : RDW V w F B) (hX : XS B) (hb : r32 b) (j0 : 0 ≤ j ∧ j < 3200) (hf : FR a c p) (hq : CP w B j q) (q0 : 0 ≤ q) (q1 : q ≤ p) (p1 : p ≤ 4877107200) : ∃ r F', f_M_wide_64 K w b j a c F B = some (r, F', B) ∧ CG F F' ∧ WDx V w b q B (lw2 40 ((p - q) / 6350400)) r := by
  have b0 := rd_0 hR
  obtain ⟨m, hm⟩ : ∃ m, K = m + 1 + 1 + 1 + 1 + 1 + 1 + 1 + 1 + 1 + 1 := ⟨K - 10, by omega⟩
  have e92 := x_wid92 (K := K) (n := m) (w := w) (b := b) (j := j) (D := p - q) (F := fr F (p - q)) (B := B) (by omega) (by omega) fr_1
  rw [← hm] at e92
  unfold f_M_wide_64
  rw [if_pos b0.1, if_pos j0, hq.1, hq.2, L_minusR hK hf (FR_r q0) q1 (by omega), zb_s, fr_0, e92]
  obtain ⟨r, e, h⟩ := x_wid122 (K := K) (d7 := lw2 40 ((p - q) / 6350400)) (x := q) (F := fr F (p - q)) (B := B) (by omega) (RDW_fr (p := p - q) hR) hX hb j0 ⟨q0, by omega⟩ hq K 0 0 0 ⟨Or.inl ⟨rfl, fun y hy => by
    obtain ⟨u', a0, a1, a2, a3, a4, a5, a6, a7⟩ := hy
    omega⟩, by decide, fun y hy => by
    obtain ⟨u', a0, a1, a2, a3, a4, a5, a6, a7⟩ := hy
    omega, Or.inl rfl⟩ (by decide) (by omega) (by omega)
  exact ⟨r, _, e, fun c i k n => fr_n n, h⟩
theorem x_wide {K : Nat} {V w b j e T : Int} {P : Int → Int} {F : zF} {B : zB} (hK : 812851200 < K) (hR : RDW V w F B) (hX : XS B) (hT : T = barV (F 13 w 4) (F 13 w 5)) (b1 : 0 ≤ b ∧ b < 100) (he : B 13 w 42 (b + 1) = e) (j0 : 0 ≤ j) (j1 : j < e) (e1 : e ≤ 3200) (hP : ∀ t, j ≤ t → t < e → CP w B t (P t) ∧ 0 ≤ P t ∧ P t < T) (hs : j + 1 < e → P j < P (j + 1)) : ∃ r F', f_M_wide K w b j F B = some (r, F', B) ∧ CG F F' ∧ WDx V w b (P j) B (lw2 40 (((if j + 1 = e then T else P (j + 1)) - P j) / 6350400)) r := by
  have b0 := rd_0 hR
  have b6 := barV_6 b0.2.2.2.1 (rd_5 hR)
  have bv := bar_v b0.2.2.2.1 (rd_5 hR)
  rw [← hT] at b6 bv
  obtain ⟨k1, k2, k3⟩ := hP j (Int.le_refl _) j1
  have r4 : r32 (F 13 w 4) := by unfold r32; omega
  have r5 : r32 (F 13 w 5) := by unfold r32; omega
  unfold f_M_wide
  rw [if_pos b0.1, if_pos (show 0 ≤ b + 1 ∧ b + 1 < 101 by omega), if_pos (show r32 (j + 1) by unfold r32; omega), he, if_pos (show r32 e by unfold r32; omega)]
  by_cases z : j + 1 = e
  · rw [if_pos z, if_pos z]
    unfold f_M_wide_19
    rw [if_pos (by decide), if_neg (by decide), if_pos b0.1, if_pos r4]
    unfold f_M_wide_43
    rw [if_pos (by decide), if_neg (by decide), if_pos b0.1, if_pos r5]
    exact x_wid64 hK hR hX (by unfold r32; omega) (by omega) bv.1 k1 k2 (by omega) b6
  · rw [if_neg z, if_neg z]
    unfold f_M_wide_19
    rw [if_pos (by decide), if_pos rfl, if_pos b0.1, if_pos (by omega)]
    unfold f_M_wide_43
    rw [if_pos (by decide), if_pos rfl, if_pos b0.1, if_pos (by omega)]
    obtain ⟨q1, q2, q3⟩ := hP (j + 1) (by omega) (by omega)
    rw [q1.1, q1.2]
    have := hs (by omega)
    exact x_wid64 hK hR hX (by unfold r32; omega) (by omega) (FR_r q2) k1 k2 (by omega) (by omega)
end
end
section
section
/-! ===== the columns of a read piece, reference: exactly ===== -/
theorem SI_c {c : Int} {T T' : Int → Int} (h : SI c T) (e : ∀ t, 0 ≤ t → t < c → T' t = T t) : SI c T' := fun t t0 t1 => by
  rw [e t t0 (by omega), e (t + 1) (by omega) t1]
  exact h t t0 t1
theorem RS_t {c : Int} {T T' : Int → Int} {A : Int → Prop} (h : RS c T A) (e : ∀ t, 0 ≤ t → t < c → T' t = T t) : RS c T' A := fun x => by
  rw [← h x]
  constructor
  · rintro ⟨t, t0, t1, z⟩
    exact ⟨t, t0, t1, by rw [← e t t0 t1]; exact z⟩
  · rintro ⟨t, t0, t1, z⟩
    exact ⟨t, t0, t1, by rw [e t t0 t1]; exact z⟩
/-- the sum of n numbers from a on -/
noncomputable def smR (f : Int → Int) : Int → Nat → Int
  | _, 0 => 0
  | a, n + 1 => f a + smR f (a + 1) n
theorem smR_c {f f' : Int → Int} : ∀ (n : Nat) (a : Int), (∀ j, a ≤ j → j < a + n → f' j = f j) → smR f' a n = smR f a n := by
  intro n
  induction n with
  | zero => intro a _; rfl
  | succ n ih =>
    intro a h
    rw [smR, smR, h a (Int.le_refl _) (by omega), ih (a + 1) (fun j j0 j1 => h j (by omega) (by omega))]
noncomputable def DQx (w : Int) (B B' : zB) : Prop := ∀ c i k x, ¬ (c = 13 ∧ i = w ∧ 42 ≤ k ∧ k ≤ 46) → B' c i k x = B c i k x
theorem x_col11 {K : Nat} {w b s l p T : Int} {P : Int → Int} {F : zF} {B : zB} (w0 : 0 ≤ w ∧ w < 3) (T1 : T ≤ 1000000000000) (s0 : 0 ≤ s) (l1 : l ≤ 3200) (hC : ∀ j, 0 ≤ j → j < l → CP w B j (P j) ∧ 0 ≤ P j ∧ P j < T) (p0 : 0 ≤ p) (p1 : p < T) : ∀ (n : Nat) (t : Int), s ≤ t → t ≤ l → l - t < n → (∀ j, s ≤ j → j < t → ¬ P j = p) → (f_M_column_11 K n t l w b l (nu p) (de p) F B = f_M_column_51 K K l w b l (nu p) (de p) F B ∧ ∀ j, s ≤ j → j < l → ¬ P j = p) ∨ (f_M_column_11 K n t l w b l (nu p) (de p) F B = some (l, F, B) ∧ ∃ j, s ≤ j ∧ j < l ∧ P j = p) := by
  intro n
  have np := nd_r p0 (by omega)
  induction n with
  | zero => intro t _ _ hn; exfalso; omega
  | succ n ih =>
    intro t ts tl hn nf
    rw [f_M_column_11, if_pos (by unfold r32; omega), if_pos (by unfold r32; omega)]
    by_cases a : l ≤ t
    · rw [if_pos a]; exact Or.inl ⟨rfl, fun j j0 j1 => nf j j0 (by omega)⟩
    · rw [if_neg a, if_pos w0, if_pos (by omega)]
      obtain ⟨⟨k1, k2⟩, q0, q1⟩ := hC t (by omega) (by omega)
      have nq := nd_r q0 (by omega)
      have nx : ¬ P t = p → (f_M_column_45 (f_M_column_11 K n) K t l w b l (nu p) (de p) F B = f_M_column_51 K K l w b l (nu p) (de p) F B ∧ ∀ j, s ≤ j → j < l → ¬ P j = p) ∨ (f_M_column_45 (f_M_column_11 K n) K t l w b l (nu p) (de p) F B = some (l, F, B) ∧ ∃ j, s ≤ j ∧ j < l ∧ P j = p) := fun ne => by
        rw [f_M_column_45]
        refine ih (t + 1) (by omega) (by omega) (by omega) (fun j j0 j1 => ?_)
        by_cases e : j = t
        · rw [e]; exact ne
        · exact nf j j0 (by omega)
      rw [k1, k2, if_pos (by unfold r64; omega), if_pos (by unfold r64; omega)]
      by_cases y : nu (P t) = nu p
      · rw [if_pos (zcmp_0.mpr y), if_pos (by unfold r64; omega), if_pos (by unfold r64; omega)]
        by_cases z : de (P t) = de p
        · rw [if_pos (zcmp_0.mpr z)]
          exact Or.inr ⟨rfl, t, ts, by omega, nd_inj q0 p0 y z⟩
        · rw [if_neg (fun h => z (zcmp_0.mp h))]
          exact nx (fun e => z (by rw [e]))
      · rw [if_neg (fun h => y (zcmp_0.mp h))]
        exact nx (fun e => y (by rw [e]))
theorem x_column {K : Nat} {w b s l p T : Int} {P : Int → Int} {A : Int → Prop} {F : zF} {B : zB} (hKm : 812851200 < K) (w0 : 0 ≤ w ∧ w < 3) (b0 : 0 ≤ b ∧ b < 101) (hs : B 13 w 42 b = s) (T1 : T ≤ 1000000000000) (s0 : 0 ≤ s) (sl : s ≤ l) (hC : ∀ j, 0 ≤ j → j < l → CP w B j (P j) ∧ 0 ≤ P j ∧ P j < T) (l1 : l < 3200) (p0 : 0 ≤ p) (p1 : p < T) (hI : SI (l - s) (fun t => P (s + t))) (hR : RS (l - s) (fun t => P (s + t)) A) : ∃ (r : Int) (P' : Int → Int) (B' : zB), f_M_column K w b l (nu p) (de p) F B = some (r, F, B') ∧ (r = l ∨ r = l + 1) ∧ CZ w s B B' ∧ (∀ j, 0 ≤ j → j < r → CP w B' j (P' j) ∧ 0 ≤ P' j ∧ P' j < T) ∧ (∀ j, j < s → P' j = P j) ∧ SI (r - s) (fun t => P' (s + t)) ∧ RS (r - s) (fun t => P' (s + t)) (fun x => A x ∨ x = p) := by
  unfold f_M_column
  rw [if_pos w0, if_pos b0, hs]
  rcases x_col11 (K := K) (b := b) (F := F) w0 T1 s0 (by omega) hC p0 p1 K s (Int.le_refl _) sl (by omega) (fun j a c => by omega) with ⟨e, nf⟩ | ⟨e, j, j0, j1, j2⟩
  · rw [e]
    obtain ⟨t, B', g1, g2, g3, g4, g5, g6, g7, g8, g9⟩ := s_col51 (K := K) (F := F) (P := P) hKm w0 b0 hs s0 l1 p0 (by omega) (fun j a c => ⟨(hC j a c).2.1, by have := (hC j a c).2.2; omega⟩) K l B (fun _ _ _ _ _ => rfl) sl (Int.le_refl _) (fun j a c => (hC j a c).1) (fun j a c => by omega) (fun j a c => by omega) (by omega)
    have ef : (fun i => puT P t p (s + i)) = puT (fun i => P (s + i)) (t - s) p := by
      funext i
      unfold puT
      by_cases x : i < t - s
      · rw [if_pos (show s + i < t by omega), if_pos x]
      · rw [if_neg (show ¬ s + i < t by omega), if_neg x]
        by_cases y : i = t - s
        · rw [if_pos (show s + i = t by omega), if_pos y]
        · rw [if_neg (show ¬ s + i = t by omega), if_neg y, show s + i - 1 = s + (i - 1) by omega]
    refine ⟨l + 1, puT P t p, B', g1, Or.inr rfl, g4, fun j a c => ?_, fun j a => ?_, ?_, ?_⟩
    · unfold puT
      by_cases x : j < t
      · rw [if_pos x]; exact ⟨g5 j a x, (hC j a (by omega)).2⟩
      · rw [if_neg x]
        by_cases y : j = t
        · rw [if_pos y, y]; exact ⟨g6, p0, p1⟩
        · rw [if_neg y]; exact ⟨g7 j (by omega) (by omega), (hC (j - 1) (by omega) (by omega)).2⟩
    · unfold puT
      rw [if_pos (by omega)]
    · rw [ef, show l + 1 - s = l - s + 1 by omega]
      refine puT_i hI (by omega) (by omega) ?_ (fun i i0 i1 => ?_)
      · by_cases z : t = s
        · exact Or.inl (by omega)
        · refine Or.inr ?_
          show P (s + (t - s - 1)) < p
          rw [show s + (t - s - 1) = t - 1 by omega]
          have a1 := g8 (by omega)
          have a2 := nf (t - 1) (by omega) (by omega)
          omega
      · have a1 := g9 (by omega)
        have m : P (s + (t - s)) ≤ P (s + i) := SI_le (T := fun i => P (s + i)) hI (by omega) i0 i1
        rw [show s + (t - s) = t by omega] at m
        show p < P (s + i)
        omega
    · rw [ef, show l + 1 - s = l - s + 1 by omega]
      exact puT_r hR (by omega) (by omega)
  · refine ⟨l, P, B, e, Or.inl rfl, fun _ _ _ _ _ => rfl, hC, fun _ _ => rfl, hI, RS_c hR (fun x => ⟨Or.inl, fun h => ?_⟩)⟩
    rcases h with h | h
    · exact h
    · exact (hR x).mp ⟨j - s, by omega, by omega, by show P (s + (j - s)) = x; rw [show s + (j - s) = j by omega, j2, h]⟩
/-- bar t's columns: from s to e -/
noncomputable def CXe (V w T t s e : Int) (P : Int → Int) (B0 B : zB) : Prop := (0 ≤ s ∧ s ≤ e ∧ e ≤ 3200) ∧ SI (e - s) (fun i => P (s + i)) ∧ RS (e - s) (fun i => P (s + i)) (aNt V w t (800 * V) B0) ∧ (∀ j, s ≤ j → j < e → CP w B j (P j) ∧ (0 ≤ P j ∧ P j < T) ∧ WDx V w t (P j) B0 (lw2 40 (((if j + 1 = e then T else P (j + 1)) - P j) / 6350400)) (B 13 w 45 j)) ∧ B 13 w 46 t = 6 + smR (fun j => B 13 w 45 j) s (e - s).toNat
theorem CXe_f {V w T t s e : Int} {P P' : Int → Int} {B0 B B' : zB} (h : CXe V w T t s e P B0 B) (hp : ∀ j, s ≤ j → j < e → P' j = P j) (b : ∀ k j, k = 43 ∨ k = 44 ∨ k = 45 → s ≤ j → j < e → B' 13 w k j = B 13 w k j) (b6 : B' 13 w 46 t = B 13 w 46 t) : CXe V w T t s e P' B0 B' := by
  obtain ⟨h1, h2, h3, h4, h5⟩ := h
  refine ⟨h1, SI_c h2 (fun i i0 i1 => hp _ (by omega) (by omega)), RS_t h3 (fun i i0 i1 => hp _ (by omega) (by omega)), fun j j0 j1 => ?_, ?_⟩
  · obtain ⟨k1, k2, k3⟩ := h4 j j0 j1
    have e1 : (if j + 1 = e then T else P' (j + 1)) = if j + 1 = e then T else P (j + 1) := by
      by_cases z : j + 1 = e
      · rw [if_pos z, if_pos z]
      · rw [if_neg z, if_neg z, hp (j + 1) (by omega) (by omega)]
    unfold CP at k1 ⊢
    rw [e1, hp j j0 j1, b 43 j (by omega) j0 j1, b 44 j (by omega) j0 j1, b 45 j (by omega) j0 j1]
    exact ⟨k1, k2, k3⟩
  · rw [b6, h5, smR_c (f := fun j => B 13 w 45 j) (f' := fun j => B' 13 w 45 j) _ s (fun j j0 j1 => b 45 j (by omega) j0 (by omega))]
/-- the bars before b -/
noncomputable def CXb (V w T b : Int) (P : Int → Int) (B0 B : zB) : Prop := (0 < b → B 13 w 42 0 = 0) ∧ ∀ t, 0 ≤ t → t < b → CXe V w T t (B 13 w 42 t) (B 13 w 42 (t + 1)) P B0 B ∧ B 13 w 42 (t + 1) ≤ B 13 w 42 b
theorem CXb_f {V w T b s : Int} {P P' : Int → Int} {B0 B B' : zB} (h : CXb V w T b P B0 B) (hb : B 13 w 42 b = s) (hp : ∀ j, j < s → P' j = P j) (b2 : ∀ t, 0 ≤ t → t ≤ b → B' 13 w 42 t = B 13 w 42 t) (b3 : ∀ k j, k = 43 ∨ k = 44 ∨ k = 45 → j < s → B' 13 w k j = B 13 w k j) (b6 : ∀ t, t < b → B' 13 w 46 t = B 13 w 46 t) : CXb V w T b P' B0 B' := by
  refine ⟨fun z => by rw [b2 0 (by decide) (by omega)]; exact h.1 z, fun t t0 t1 => ?_⟩
  obtain ⟨h1, h2⟩ := h.2 t t0 t1
  rw [b2 t t0 (by omega), b2 (t + 1) (by omega) (by omega), b2 b (by omega) (Int.le_refl _)]
  refine ⟨CXe_f h1 (fun j _ j1 => hp j (by omega)) (fun k j hk _ j1 => b3 k j hk (by omega)) (b6 t t1), h2⟩
/-- within bar b -/
noncomputable def CX1 (V w T b s l u i : Int) (P : Int → Int) (B0 B : zB) : Prop := DQx w B0 B ∧ B 13 w 42 b = s ∧ ((0 ≤ s ∧ s ≤ l ∧ l ≤ 3200) ∧ ∀ j, 0 ≤ j → j < l → CP w B j (P j) ∧ 0 ≤ P j ∧ P j < T) ∧ l ≤ (cn (qn V w B0 b u i) 3200 : Nat) ∧ (SI (l - s) (fun t => P (s + t)) ∧ RS (l - s) (fun t => P (s + t)) (aNt V w b (800 * u + i) B0)) ∧ CXb V w T b P B0 B
theorem x_cl34 {K : Nat} {V w T b s u : Int} {F : zF} {B0 : zB} {rec4 : Int → Int → Int → zF → zB → zO} {rec : Int → Int → Int → Int → zF → zB → zO} (hK : 812851200 < K) (hR0 : RDW V w F B0) (hT : T = barV (F 13 w 4) (F 13 w 5)) (b1 : 0 ≤ b ∧ b < 100) (u0 : 0 ≤ u) (u1 : u < V) : ∀ (n : Nat) (i l : Int) (P : Int → Int) (B : zB), CX1 V w T b s l u i P B0 B → 0 ≤ i → i ≤ B0 13 w 13 u → B0 13 w 13 u - i < n → ∃ (l' : Int) (P' : Int → Int) (B' : zB), f_M_columns_34 rec4 rec K n i u b l w F B = rec (u + 1) b l' w F B' ∧ CX1 V w T b s l' (u + 1) 0 P' B0 B' := by
  have b0 := rd_0 hR0
  have bv := rd_v hR0 u0 u1
  have b6 := barV_6 b0.2.2.2.1 (rd_5 hR0)
  have V4 : V ≤ 4 := b0.2.1.2.2
  intro n
  induction n with
  | zero => intro i l P B _ _ _ hn; exfalso; omega
  | succ n ih =>
    intro i l P B h i0 i1 hn
    obtain ⟨q, h42, ⟨hc0, hC⟩, hc, ⟨hI, hR⟩, hB⟩ := h
    have e13 : B 13 w 13 u = B0 13 w 13 u := q 13 w 13 u (by omega)
    have cl := cn_le (qn V w B0 b u i) 3200
    rw [f_M_columns_34, if_pos b0.1, if_pos (show 0 ≤ u ∧ u < 4 by omega), if_pos (show r32 i by unfold r32; omega), e13, if_pos (show r32 (B0 13 w 13 u) by unfold r32; omega)]
    by_cases a : B0 13 w 13 u ≤ i
    · rw [if_pos a]
      refine ⟨l, P, B, rfl, q, h42, ⟨hc0, hC⟩, ?_, ⟨hI, RS_c hR (fun x => ⟨fun hy => ?_, fun hy => ?_⟩)⟩, hB⟩
      · have := cn_mono (q := qn V w B0 b u i) (q' := qn V w B0 b (u + 1) 0) 3200 (fun y _ hy => by
          simp only [qn, decide_eq_true_eq] at hy ⊢
          omega)
        omega
      · obtain ⟨x0, y, u', a0, a1, a2, a3, a4, a5, a6, a7⟩ := hy
        exact ⟨x0, y, u', a0, a1, a2, a3, a4, a5, a6, by omega⟩
      · obtain ⟨x0, y, u', a0, a1, a2, a3, a4, a5, a6, a7⟩ := hy
        refine ⟨x0, y, u', a0, a1, a2, a3, a4, a5, a6, ?_⟩
        have := rd_v hR0 a0 a1
        by_cases z : u' = u
        · rw [z] at a3; omega
        · omega
    have e31 : B 13 w 31 (800 * u + i) = B0 13 w 31 (800 * u + i) := q 13 w 31 (800 * u + i) (by omega)
    have e32 : B 13 w 32 (800 * u + i) = B0 13 w 32 (800 * u + i) := q 13 w 32 (800 * u + i) (by omega)
    have e33 : B 13 w 33 (800 * u + i) = B0 13 w 33 (800 * u + i) := q 13 w 33 (800 * u + i) (by omega)
    have nn := rd_n (y := 800 * u + i) hR0 u0 u1 (by omega) (by omega)
    obtain ⟨p, ⟨p0, p1⟩, p2, p3⟩ := rd_q (y := 800 * u + i) hR0 u0 u1 (by omega) (by omega)
    rw [if_neg a, if_pos (show 0 ≤ 800 * u + i ∧ 800 * u + i < 3200 by omega), e31, if_pos (show r32 (B0 13 w 31 (800 * u + i)) by unfold r32; omega), if_pos (show r32 b by unfold r32; omega)]
    by_cases z : B0 13 w 31 (800 * u + i) = b
    · -- a note of this bar
      obtain ⟨Y, hY⟩ : ∃ Y : Nat, (Y : Int) = 800 * u + i := ⟨(800 * u + i).toNat, by omega⟩
      have st := cn_lt (q := qn V w B0 b u i) (q' := qn V w B0 b u (i + 1)) (y0 := Y) (by
        simp only [qn, decide_eq_true_eq]
        rw [hY]
        omega) (by
        simp only [qn, decide_eq_true_eq]
        rw [hY, show (800 * u + i) / 800 = u by omega, show (800 * u + i) % 800 = i by omega]
        omega) 3200 (by omega) (fun y _ hy => by
        simp only [qn, decide_eq_true_eq] at hy ⊢
        omega)
      have st2 := cn_le (qn V w B0 b u (i + 1)) 3200
      obtain ⟨r, P', B', c1, c2, c3, c4, c5, c6, c7⟩ := x_column (K := K) (P := P) (F := F) (B := B) (T := T) (b := b) (l := l) (p := p) hK b0.1 (by omega) h42 (by omega) hc0.1 hc0.2.1 hC (by omega) p0 (by omega) hI hR
      rw [if_pos z, e32, e33, p2, p3, c1, zb_s, f_M_columns_90]
      refine ih (i + 1) r P' B' ⟨fun c i k x hh => by rw [c3 c i k x (by omega), q c i k x hh], by rw [c3 13 w 42 b (by omega)]; exact h42, ⟨by omega, c4⟩, by omega, ⟨c6, RS_c c7 (fun x => ⟨fun hy => ?_, fun hy => ?_⟩)⟩, CXb_f hB h42 c5 (fun t _ _ => c3 13 w 42 t (by omega)) (fun k j hk j1 => c3 13 w k j (by omega)) (fun t _ => c3 13 w 46 t (by omega))⟩ (by omega) (by omega) (by omega)
      · rcases hy with ⟨x0, y, u', a0, a1, a2, a3, a4, a5, a6, a7⟩ | hy
        · exact ⟨x0, y, u', a0, a1, a2, a3, a4, a5, a6, by omega⟩
        · rw [hy]
          exact ⟨p0, 800 * u + i, u, u0, u1, by omega, by omega, z, p2, p3, by omega⟩
      · obtain ⟨x0, y, u', a0, a1, a2, a3, a4, a5, a6, a7⟩ := hy
        by_cases e : y = 800 * u + i
        · rw [e, p2] at a5
          rw [e, p3] at a6
          exact Or.inr (nd_inj x0 p0 a5.symm a6.symm)
        · exact Or.inl ⟨x0, y, u', a0, a1, a2, a3, a4, a5, a6, by omega⟩
    · rw [if_neg z, f_M_columns_90]
      refine ih (i + 1) l P B ⟨q, h42, ⟨hc0, hC⟩, ?_, ⟨hI, RS_c hR (fun x => ⟨fun hy => ?_, fun hy => ?_⟩)⟩, hB⟩ (by omega) (by omega) (by omega)
      · have := cn_mono (q := qn V w B0 b u i) (q' := qn V w B0 b u (i + 1)) 3200 (fun y _ hy => by
          simp only [qn, decide_eq_true_eq] at hy ⊢
          omega)
        omega
      · obtain ⟨x0, y, u', a0, a1, a2, a3, a4, a5, a6, a7⟩ := hy
        exact ⟨x0, y, u', a0, a1, a2, a3, a4, a5, a6, by omega⟩
      · obtain ⟨x0, y, u', a0, a1, a2, a3, a4, a5, a6, a7⟩ := hy
        by_cases e : y = 800 * u + i
        · rw [e] at a4
          exact absurd a4 z
        · exact ⟨x0, y, u', a0, a1, a2, a3, a4, a5, a6, by omega⟩
/-- the widths of a bar's columns -/
theorem x_cl127 {K : Nat} {V w T b s e : Int} {P : Int → Int} {F1 : zF} {B1 : zB} {rec : Int → Int → Int → zF → zB → zO} (hK : 812851200 < K) (hR : RDW V w F1 B1) (hX : XS B1) (hT : T = barV (F1 13 w 4) (F1 13 w 5)) (b1 : 0 ≤ b ∧ b < 100) (he : B1 13 w 42 (b + 1) = e) (s0 : 0 ≤ s) (e1 : e ≤ 3200) (hP : ∀ t, s ≤ t → t < e → CP w B1 t (P t) ∧ 0 ≤ P t ∧ P t < T) (hs : ∀ j, s ≤ j → j + 1 < e → P j < P (j + 1)) : ∀ (r n : Nat) (j : Int) (F : zF) (B : zB), CG F1 F → (∀ c i k x, ¬ (c = 13 ∧ i = w ∧ (k = 45 ∨ k = 46)) → B c i k x = B1 c i k x) → s ≤ j → j + r = e → r < n → ∃ F' B', f_M_columns_127 rec K n j b e w F B = rec (b + 1) e w F' B' ∧ CG F1 F' ∧ (∀ c i k x, ¬ (c = 13 ∧ i = w ∧ ((k = 45 ∧ j ≤ x ∧ x < e) ∨ (k = 46 ∧ x = b))) → B' c i k x = B c i k x) ∧ (∀ t, j ≤ t → t < e → WDx V w b (P t) B1 (lw2 40 (((if t + 1 = e then T else P (t + 1)) - P t) / 6350400)) (B' 13 w 45 t)) ∧ B' 13 w 46 b = B 13 w 46 b + smR (fun t => B' 13 w 45 t) j r := by
  have b0 := rd_0 hR
  intro r
  induction r with
  | zero =>
    intro n j F B g f j0 j1 hn
    obtain ⟨n, rfl⟩ : ∃ k, n = k + 1 := ⟨n - 1, by omega⟩
    rw [f_M_columns_127, if_pos (show r32 j by unfold r32; omega), if_pos (show r32 e by unfold r32; omega), if_pos (show e ≤ j by omega)]
    exact ⟨F, B, rfl, g, fun _ _ _ _ _ => rfl, fun t a c => by omega, by rw [smR, Int.add_zero]⟩
  | succ r ih =>
    intro n j F B g f j0 j1 hn
    obtain ⟨n, rfl⟩ : ∃ k, n = k + 1 := ⟨n - 1, by omega⟩
    have hR' : RDW V w F B := RDW_f hR (fun k _ _ => g 13 w k (by omega)) (fun k x _ h' => f 13 w k x (by omega))
    have hX' : XS B := XS_f hX (fun i k x h1 h2 => f 13 i k x (by omega)) (fun x => f 14 0 58 x (by omega))
    obtain ⟨v, F2, x1, x2, x3⟩ := x_wide (K := K) (P := P) (e := e) (j := j) (b := b) (T := T) hK hR' hX' (by rw [g 13 w 4 (by omega), g 13 w 5 (by omega)]; exact hT) b1 (by rw [f 13 w 42 _ (by omega)]; exact he) (by omega) (by omega) e1 (fun t t0 t1 => by
      obtain ⟨k1, k2, k3⟩ := hP t (by omega) t1
      unfold CP at k1 ⊢
      rw [f 13 w 43 t (by omega), f 13 w 44 t (by omega)]
      exact ⟨k1, k2, k3⟩) (hs j j0)
    have v1 : (zup4 B 13 w 45 j v) 13 w 46 b = B 13 w 46 b := by rw [zup4_v, if_neg (by omega)]
    have v2 : (zup4 B 13 w 45 j v) 13 w 45 j = v := by rw [zup4_v, if_pos (by omega)]
    rw [f_M_columns_127, if_pos (show r32 j by unfold r32; omega), if_pos (show r32 e by unfold r32; omega), if_neg (show ¬ e ≤ j by omega), if_pos b0.1, x1, zb_s, if_pos (show 0 ≤ j ∧ j < 3200 by omega), if_pos b1, v1, v2]
    obtain ⟨F', B', y1, y2, y3, y4, y5⟩ := ih n (j + 1) F2 (zup4 (zup4 B 13 w 45 j v) 13 w 46 b (B 13 w 46 b + v)) (CG_t g x2) (fun c i k x nn => by rw [zup4_v, if_neg (by omega), zup4_v, if_neg (by omega)]; exact f c i k x nn) (by omega) (by omega) (by omega)
    have e45 : B' 13 w 45 j = v := by rw [y3 13 w 45 j (by omega), zup4_v, if_neg (by omega), zup4_v, if_pos (by omega)]
    refine ⟨F', B', y1, y2, fun c i k x nn => by rw [y3 c i k x (by omega), zup4_v, if_neg (by omega), zup4_v, if_neg (by omega)], fun t t0 t1 => ?_, ?_⟩
    · by_cases z : t = j
      · rw [z, e45]
        exact WDx_f (fun k y hk => (f 13 w k y (by omega)).symm) x3
      · exact y4 t (by omega) t1
    · rw [y5, zup4_v, if_pos (by omega), smR, e45]
      omega
/-- behind bar b - 1 -/
noncomputable def CX2 (V w T b l : Int) (F0 F : zF) (B0 B : zB) : Prop := CG F0 F ∧ DQx w B0 B ∧ (0 ≤ l ∧ l ≤ (cn (qn V w B0 b 0 0) 3200 : Nat)) ∧ (0 < b → B 13 w 42 b = l) ∧ ∃ P : Int → Int, (∀ j, 0 ≤ j → j < l → CP w B j (P j) ∧ 0 ≤ P j ∧ P j < T) ∧ CXb V w T b P B0 B
theorem x_cl22 {K : Nat} {V w T b s : Int} {F0 F : zF} {B0 : zB} {rec : Int → Int → Int → zF → zB → zO} (hK : 812851200 < K) (hR0 : RDW V w F B0) (hX0 : XS B0) (hg : CG F0 F) (hT : T = barV (F 13 w 4) (F 13 w 5)) (b1 : 0 ≤ b ∧ b < 100) (s0 : b = 0 → s = 0) : ∀ (n : Nat) (u l : Int) (P : Int → Int) (B : zB), CX1 V w T b s l u 0 P B0 B → 0 ≤ u → u ≤ V → V - u < n → ∃ l' F' B', f_M_columns_22 rec K n u b l w F B = rec (b + 1) l' w F' B' ∧ CX2 V w T (b + 1) l' F0 F' B0 B' := by
  have b0 := rd_0 hR0
  intro n
  induction n with
  | zero => intro u l P B _ _ _ hn; exfalso; omega
  | succ n ih =>
    intro u l P B h u0 u1 hn
    rw [f_M_columns_22, if_pos b0.1, if_pos (show r32 u by unfold r32; omega), if_pos (show r32 (F 13 w 1) by unfold r32; omega)]
    by_cases a : F 13 w 1 ≤ u
    · obtain ⟨q, h42, ⟨hc0, hC⟩, hc, ⟨hI, hR⟩, hB⟩ := h
      have eu : u = V := by omega
      rw [if_pos a, if_pos (show 0 ≤ b + 1 ∧ b + 1 < 101 by omega), if_pos b1, if_pos (show 0 ≤ b ∧ b < 101 by omega)]
      generalize hB1 : zup4 (zup4 B 13 w 42 (b + 1) l) 13 w 46 b 6 = B1
      have n1 : ∀ c i k x, ¬ (c = 13 ∧ i = w ∧ k = 42 ∧ x = b + 1) → ¬ (c = 13 ∧ i = w ∧ k = 46 ∧ x = b) → B1 c i k x = B c i k x := fun c i k x a1 a2 => by rw [← hB1, zup4_v, if_neg (by omega), zup4_v, if_neg (by omega)]
      have v1 : B1 13 w 42 (b + 1) = l := by rw [← hB1, zup4_v, if_neg (by omega), zup4_v, if_pos (by omega)]
      have v2 : B1 13 w 42 b = s := by rw [n1 13 w 42 b (by omega) (by omega)]; exact h42
      have v3 : B1 13 w 46 b = 6 := by rw [← hB1, zup4_v, if_pos (by omega)]
      have q1 : DQx w B0 B1 := fun c i k x nn => by rw [n1 c i k x (by omega) (by omega), q c i k x nn]
      have hR1 : RDW V w F B1 := RDW_f hR0 (fun _ _ _ => rfl) (fun k x _ h' => q1 13 w k x (by omega))
      have hX1 : XS B1 := XS_f hX0 (fun i k x h1 h2 => q1 13 i k x (by omega)) (fun x => q1 14 0 58 x (by omega))
      have hP1 : ∀ t, 0 ≤ t → t < l → CP w B1 t (P t) ∧ 0 ≤ P t ∧ P t < T := fun t t0 t1 => by
        obtain ⟨k1, k2, k3⟩ := hC t t0 t1
        unfold CP at k1 ⊢
        rw [n1 13 w 43 t (by omega) (by omega), n1 13 w 44 t (by omega) (by omega)]
        exact ⟨k1, k2, k3⟩
      rw [v2]
      obtain ⟨F', B', y1, y2, y3, y4, y5⟩ := x_cl127 (K := K) (V := V) (T := T) (s := s) (e := l) (P := P) (F1 := F) (B1 := B1) (rec := rec) hK hR1 hX1 hT b1 v1 hc0.1 hc0.2.2 (fun t t0 t1 => hP1 t (by omega) t1) (fun j j0 j1 => by
        have m := hI (j - s) (by omega) (by omega)
        have m' : P (s + (j - s)) < P (s + (j - s + 1)) := m
        rw [show s + (j - s) = j by omega, show s + (j - s + 1) = j + 1 by omega] at m'
        exact m') (l - s).toNat K s F B1 (fun _ _ _ _ => rfl) (fun _ _ _ _ _ => rfl) (Int.le_refl _) (by omega) (by omega)
      rw [y1]
      have ff : ∀ k x, ¬ (k = 45 ∧ s ≤ x ∧ x < l) → ¬ (k = 46 ∧ x = b) → ¬ (k = 42 ∧ x = b + 1) → B' 13 w k x = B 13 w k x := fun k x a1 a2 a3 => by rw [y3 13 w k x (by omega), n1 13 w k x (by omega) (by omega)]
      have w1 : B' 13 w 42 (b + 1) = l := by rw [y3 13 w 42 (b + 1) (by omega)]; exact v1
      have w2 : B' 13 w 42 b = s := by rw [y3 13 w 42 b (by omega)]; exact v2
      have hB' : CXb V w T b P B0 B' := CXb_f hB h42 (fun _ _ => rfl) (fun t _ t1 => ff 42 t (by omega) (by omega) (by omega)) (fun k j hk j1 => ff k j (by omega) (by omega) (by omega)) (fun t t1 => ff 46 t (by omega) (by omega) (by omega))
      have hP' : ∀ t, 0 ≤ t → t < l → CP w B' t (P t) ∧ 0 ≤ P t ∧ P t < T := fun t t0 t1 => by
        obtain ⟨k1, k2, k3⟩ := hC t t0 t1
        unfold CP at k1 ⊢
        rw [ff 43 t (by omega) (by omega) (by omega), ff 44 t (by omega) (by omega) (by omega)]
        exact ⟨k1, k2, k3⟩
      refine ⟨l, F', B', rfl, CG_t hg y2, fun c i k x nn => by rw [y3 c i k x (by omega), q1 c i k x nn], ⟨by omega, ?_⟩, fun _ => w1, P, hP', fun _ => ?_, fun t t0 t1 => ?_⟩
      · have := cn_mono (q := qn V w B0 b u 0) (q' := qn V w B0 (b + 1) 0 0) 3200 (fun y _ hy => by
          simp only [qn, decide_eq_true_eq] at hy ⊢
          omega)
        omega
      · by_cases z : b = 0
        · rw [z] at w2
          rw [w2]
          exact s0 z
        · exact hB'.1 (by omega)
      · by_cases z : t = b
        · subst z
          rw [w1, w2]
          refine ⟨⟨hc0, hI, RS_c hR (fun x => ?_), fun j j0 j1 => ?_, ?_⟩, Int.le_refl _⟩
          · rw [eu, Int.add_zero]
          · obtain ⟨k1, k2⟩ := hP' j (by omega) j1
            exact ⟨k1, k2, WDx_f (fun k y hk => (q1 13 w k y (by omega)).symm) (y4 j j0 j1)⟩
          · rw [y5, v3]
        · obtain ⟨k1, k2⟩ := hB'.2 t t0 (by omega)
          refine ⟨k1, ?_⟩
          rw [w1]
          rw [w2] at k2
          omega
    · rw [if_neg a]
      have bv := rd_v hR0 u0 (show u < V by omega)
      obtain ⟨l', P', B', x1, x2⟩ := x_cl34 (K := K) (T := T) (s := s) (rec4 := rec) (rec := f_M_columns_22 rec K n) hK hR0 hT b1 u0 (show u < V by omega) K 0 l P B h (by decide) (by omega) (by omega)
      rw [x1]
      exact ih (u + 1) l' P' B' x2 (by omega) (by omega) (by omega)
/-- a kept piece's columns, reference -/
noncomputable def CXk (V w : Int) (F : zF) (B : zB) : Prop := ∃ P, CXb V w (barV (F 13 w 4) (F 13 w 5)) (F 13 w 7) P B B
theorem CXk_e {V w : Int} {F F' : zF} {B B' : zB} (h : CXk V w F B) (f : ∀ k, k = 4 ∨ k = 5 ∨ k = 7 → F' 13 w k = F 13 w k) (b : ∀ k x, k ≤ 46 → B' 13 w k x = B 13 w k x) : CXk V w F' B' := by
  obtain ⟨P, h1, h2⟩ := h
  refine ⟨P, ?_⟩
  rw [f 4 (by omega), f 5 (by omega), f 7 (by omega)]
  refine ⟨fun z => by rw [b 42 0 (by decide)]; exact h1 z, fun t t0 t1 => ?_⟩
  obtain ⟨⟨k1, k2, k3, k4, k5⟩, k6⟩ := h2 t t0 t1
  rw [b 42 _ (by decide), b 42 _ (by decide), b 42 _ (by decide)]
  refine ⟨CXe_f ⟨k1, k2, RS_c k3 (fun x => (aNt_f (fun k z hk => b k z (by omega))).symm), fun j j0 j1 => ?_, k5⟩ (fun _ _ _ => rfl) (fun k j hk _ _ => b k j (by omega)) (b 46 t (by decide)), k6⟩
  obtain ⟨m1, m2, m3⟩ := k4 j j0 j1
  exact ⟨m1, m2, WDx_f (fun k z hk => b k z (by omega)) m3⟩
theorem x_cl4 {K : Nat} {V w T : Int} {F0 : zF} {B0 : zB} (hK : 812851200 < K) (hR0 : RDW V w F0 B0) (hX0 : XS B0) (hT : T = barV (F0 13 w 4) (F0 13 w 5)) : ∀ (n : Nat) (b l : Int) (F : zF) (B : zB), CX2 V w T b l F0 F B0 B → (b = 0 → l = 0) → 0 ≤ b → b ≤ F0 13 w 7 → F0 13 w 7 - b < n → ∃ F' B', f_M_columns_4 K n b l w F B = some (0, F', B') ∧ CG F0 F' ∧ DQx w B0 B' ∧ CXk V w F0 B' := by
  have b0 := rd_0 hR0
  intro n
  induction n with
  | zero => intro b l F B _ _ _ _ hn; exfalso; omega
  | succ n ih =>
    intro b l F B h l00 i0 i1 hn
    obtain ⟨hg, q, hl, h42, P, hP, hB⟩ := h
    have cl := cn_le (qn V w B0 b 0 0) 3200
    have e7 := hg 13 w 7 (by omega)
    rw [f_M_columns_4, if_pos b0.1, if_pos (show r32 b by unfold r32; omega), if_pos (show r32 (F 13 w 7) by unfold r32; omega)]
    by_cases a : F 13 w 7 ≤ b
    · have eb : b = F0 13 w 7 := by omega
      rw [if_pos a]
      refine ⟨F, B, rfl, hg, q, P, ?_⟩
      rw [← hT, ← eb]
      refine ⟨hB.1, fun t t0 t1 => ?_⟩
      obtain ⟨⟨k1, k2, k3, k4, k5⟩, k6⟩ := hB.2 t t0 t1
      refine ⟨⟨k1, k2, RS_c k3 (fun x => (aNt_f (fun k z hk => q 13 w k z (by omega))).symm), fun j j0 j1 => ?_, k5⟩, k6⟩
      obtain ⟨m1, m2, m3⟩ := k4 j j0 j1
      exact ⟨m1, m2, WDx_f (fun k z hk => q 13 w k z (by omega)) m3⟩
    · rw [if_neg a, if_pos (show 0 ≤ b ∧ b < 101 by omega)]
      have hRF : RDW V w F B0 := RDW_g hR0 hg
      have un : ∀ c i k x, ¬ (c = 13 ∧ i = w ∧ k = 42 ∧ x = b) → (zup4 B 13 w 42 b l) c i k x = B c i k x := fun c i k x nn => by rw [zup4_v, if_neg nn]
      have uv : (zup4 B 13 w 42 b l) 13 w 42 b = l := by rw [zup4_v, if_pos (by omega)]
      have u42 : ∀ t, 0 ≤ t → t ≤ b → (0 < b) → (zup4 B 13 w 42 b l) 13 w 42 t = B 13 w 42 t := fun t t0 t1 bp => by
        by_cases z : t = b
        · rw [z, uv, h42 bp]
        · exact un 13 w 42 t (by omega)
      have hB4 : CXb V w T b P B0 (zup4 B 13 w 42 b l) := by
        by_cases z : 0 < b
        · exact CXb_f (s := l) hB (h42 z) (fun _ _ => rfl) (fun t t0 t1 => u42 t t0 t1 z) (fun k j _ _ => un 13 w k j (by omega)) (fun t _ => un 13 w 46 t (by omega))
        · exact ⟨fun z' => absurd z' z, fun t t0 t1 => by omega⟩
      obtain ⟨l', F', B', x1, x2⟩ := x_cl22 (K := K) (T := T) (s := l) (F0 := F0) (rec := f_M_columns_4 K n) hK hRF hX0 hg (by rw [hg 13 w 4 (by omega), hg 13 w 5 (by omega)]; exact hT) (show 0 ≤ b ∧ b < 100 by omega) l00 K 0 l P (zup4 B 13 w 42 b l) ⟨fun c i k x nn => by rw [un c i k x (by omega), q c i k x nn], uv, ⟨by omega, fun j j0 j1 => by
        obtain ⟨k1, k2⟩ := hP j j0 j1
        unfold CP at k1 ⊢
        rw [un 13 w 43 j (by omega), un 13 w 44 j (by omega)]
        exact ⟨k1, k2⟩⟩, hl.2, ⟨fun t t0 t1 => by omega, fun x => ⟨fun hy => by
        obtain ⟨t, t0, t1, _⟩ := hy
        omega, fun hy => by
        obtain ⟨x0, y, u', a0, a1, a2, a3, a4, a5, a6, a7⟩ := hy
        omega⟩⟩, hB4⟩ (by decide) (by omega) (by omega)
      rw [x1]
      exact ih (b + 1) l' F' B' x2 (fun z => by omega) (by omega) (by omega) (by omega)
theorem x_columns {K : Nat} {V w : Int} {F : zF} {B : zB} (hK : 812851200 < K) (hR : RDW V w F B) (hX : XS B) : ∃ F' B', f_M_columns K w F B = some (0, F', B') ∧ CG F F' ∧ CXk V w F B' := by
  have b0 := rd_0 hR
  unfold f_M_columns
  obtain ⟨F', B', x1, x2, _, x4⟩ := x_cl4 (K := K) hK hR hX rfl K 0 0 F B ⟨fun _ _ _ _ => rfl, fun _ _ _ _ _ => rfl, ⟨by decide, by omega⟩, fun z => absurd z (by decide), fun _ => 0, fun j j0 j1 => by omega, fun z => absurd z (by decide), fun t t0 t1 => by omega⟩ (fun _ => rfl) (by decide) (by omega) (by omega)
  exact ⟨F', B', x1, x2, x4⟩
end
end
section
section
/-! ===== faults between voices, reference ===== -/
theorem s_tone {K : Nat} {s a : Int} {F : zF} {B : zB} (s0 : 0 ≤ s) (s1 : s ≤ 62) (a0 : -2 ≤ a) (a1 : a ≤ 2) : zS (f_M_tone K s a F B) (fun r F' B' => F' = F ∧ B' = B ∧ 9 ≤ r ∧ r ≤ 130) := by
  rw [L_tone s0 (by omega)]
  exact zS_s ⟨rfl, rfl, by split <;> omega, by split <;> omega⟩
theorem s_mod {K : Nat} {a b : Int} {F : zF} {B : zB} (ha : r32 a) (hb : 0 < b) (hb2 : b ≤ 1000) : zS (f_M_mod K a b F B) (fun r F' B' => F' = F ∧ B' = B ∧ 0 ≤ r ∧ r < b) := by
  rw [L_mod ha hb (by unfold r32; omega)]
  exact zS_s ⟨rfl, rfl, Int.emod_nonneg _ (by omega), Int.emod_lt_of_pos _ hb⟩
/-- a slot that holds a pitch, or none -/
noncomputable def PV (w : Int) (B : zB) (r : Int) : Prop := -1 ≤ r ∧ r < 24000 ∧ (0 ≤ r → (0 ≤ B 13 w 28 r ∧ B 13 w 28 r ≤ 62) ∧ (-2 ≤ B 13 w 29 r ∧ B 13 w 29 r ≤ 2))
theorem s_lnOf7 {K : Nat} {V w u : Int} {F : zF} {B : zB} (hR : RDW V w F B) (u0 : 0 ≤ u) (u1 : u < V) {x : Int} (x0 : 1000 * u ≤ x) (x1 : x < 1000 * u + B 13 w 12 u) : ∀ (n : Nat) (l m : Int), 6 * x ≤ l → l ≤ 6 * x + B 13 w 21 x → (m = -1 ∨ (6 * x ≤ m ∧ m < l)) → 6 * x + B 13 w 21 x - l < n → zS (f_M_lineOf_7 K n l m w x F B) (fun r F' B' => F' = F ∧ B' = B ∧ (r = -1 ∨ (6 * x ≤ r ∧ r < 6 * x + B 13 w 21 x))) := by
  intro n
  induction n with
  | zero => intro l m l0 l1 hm hk; exfalso; omega
  | succ n ih =>
    intro l m l0 l1 hm hk
    have b0 := rd_0 hR
    have bv := rd_v hR u0 u1
    have be := rd_e hR u0 u1 x0 x1
    rw [f_M_lineOf_7]
    refine zS_g (by omega) ?_ -- 1
    refine zS_g (by omega) ?_ -- 2
    refine zS_g (by unfold r32; omega) ?_ -- 3
    refine zS_g (by unfold r32; omega) ?_ -- 4
    refine zS_i (fun h1 => ?_) (fun h1 => ?_) -- 5: (((6 * x) + (B 13 w 21 x)) ≤ l)
    · exact zS_s ⟨rfl, rfl, by omega⟩
    · refine zS_g (by unfold r32; omega) ?_ -- 7
      refine zS_i (fun h2 => ?_) (fun h2 => ?_) -- 8: (m < 0)
      · unfold f_M_lineOf_59
        unfold f_M_lineOf_61
        exact ih _ _ (by omega) (by omega) (by omega) (by omega) -- 11 f_M_lineOf_7
      · refine zS_g (by omega) ?_ -- 12
        have a3 := rd_p (u := u) (x := x) (k := l - 6 * x) hR u0 u1 x0 x1 (by omega) (by omega)
        have a3e : 6 * x + (l - 6 * x) = l := by omega
        rw [a3e] at a3
        refine zS_b (s_tone (K := K) (s := (B 13 w 28 l)) (a := (B 13 w 29 l)) (by omega) (by omega) (by omega) (by omega)) ?_
        rintro o5 F B ⟨rfl, rfl, q4⟩
        refine zS_g (by omega) ?_ -- 14
        have a7 := rd_p (u := u) (x := x) (k := m - 6 * x) hR u0 u1 x0 x1 (by omega) (by omega)
        have a7e : 6 * x + (m - 6 * x) = m := by omega
        rw [a7e] at a7
        refine zS_b (s_tone (K := K) (s := (B 13 w 28 m)) (a := (B 13 w 29 m)) (by omega) (by omega) (by omega) (by omega)) ?_
        rintro o9 F B ⟨rfl, rfl, q8⟩
        refine zS_g (by unfold r32; omega) ?_ -- 16
        refine zS_g (by unfold r32; omega) ?_ -- 17
        refine zS_i (fun h11 => ?_) (fun h11 => ?_) -- 18: (o5 < o9)
        · unfold f_M_lineOf_61
          exact ih _ _ (by omega) (by omega) (by omega) (by omega) -- 20 f_M_lineOf_7
        · unfold f_M_lineOf_59
          unfold f_M_lineOf_61
          exact ih _ _ (by omega) (by omega) (by omega) (by omega) -- 23 f_M_lineOf_7
theorem s_lineOf {K : Nat} {V w u : Int} {F : zF} {B : zB} (hR : RDW V w F B) (u0 : 0 ≤ u) (u1 : u < V) {x : Int} (x0 : 1000 * u ≤ x) (x1 : x < 1000 * u + B 13 w 12 u) (hK : 1000 ≤ K) : zS (f_M_lineOf K w x F B) (fun r F' B' => F' = F ∧ B' = B ∧ PV w B r) := by
  have be := rd_e hR u0 u1 x0 x1
  have b0 := rd_0 hR
  have bv := rd_v hR u0 u1
  refine zS_m (s_lnOf7 hR u0 u1 x0 x1 K (6 * x) (-1) (Int.le_refl _) (by omega) (Or.inl rfl) (by omega)) ?_
  rintro r F' B' ⟨e1, e2, h⟩
  refine ⟨e1, e2, by omega, by omega, fun r0 => ?_⟩
  have := rd_p (x := x) (k := r - 6 * x) hR u0 u1 x0 x1 (by omega) (by omega)
  rw [show 6 * x + (r - 6 * x) = r by omega] at this
  exact this
/-- moments that stand -/
noncomputable def MW5 (V w : Int) (F : zF) (B : zB) : Prop := (0 ≤ F 13 w 72 ∧ F 13 w 72 ≤ 800) ∧ (∀ x, 0 ≤ x → x < F 13 w 72 → MP w B x) ∧ ∀ u t, 0 ≤ u → u < V → 0 ≤ t → t < F 13 w 72 → 0 ≤ B 13 w 75 (4 * t + u) ∧ B 13 w 75 (4 * t + u) < B 13 w 12 u
theorem s_lineAt {K : Nat} {V w : Int} {F : zF} {B : zB} (hR : RDW V w F B) (hM : MW5 V w F B) (hK : 1000 ≤ K) {t u : Int} (t0 : 0 ≤ t) (t1 : t < F 13 w 72) (u0 : 0 ≤ u) (u1 : u < V) : zS (f_M_lineAt K w t u F B) (fun r F' B' => F' = F ∧ B' = B ∧ PV w B r) := by
  have b0 := rd_0 hR
  have m0 := hM.1
  have bv := rd_v hR u0 u1
  unfold f_M_lineAt
  refine zS_g (by omega) ?_ -- 1
  refine zS_g (by omega) ?_ -- 2
  have a1 := hM.2.2 u t (by omega) (by omega) (by omega) (by omega)
  refine zS_b (s_lineOf (K := K) (u := u) (x := ((1000 * u) + (B 13 w 75 ((4 * t) + u)))) hR (by omega) (by omega) (by omega) (by omega) hK) ?_
  rintro o3 F B ⟨rfl, rfl, q2⟩
  exact zS_s ⟨rfl, rfl, by assumption⟩
theorem s_beginsAt {K : Nat} {V w : Int} {F : zF} {B : zB} (hR : RDW V w F B) (hM : MW5 V w F B) (hK : 1000 ≤ K) {t u : Int} (t0 : 0 ≤ t) (t1 : t < F 13 w 72) (u0 : 0 ≤ u) (u1 : u < V) (t2 : 1 ≤ t) : zS (f_M_beginsAt K w t u F B) (fun r F' B' => F' = F ∧ B' = B ∧ (r = 0 ∨ r = 1)) := by
  have b0 := rd_0 hR
  have m0 := hM.1
  have bv := rd_v hR u0 u1
  unfold f_M_beginsAt
  refine zS_g (by omega) ?_ -- 1
  refine zS_g (by omega) ?_ -- 2
  refine zS_g (by omega) ?_ -- 3
  have a1 := hM.2.2 u t (by omega) (by omega) (by omega) (by omega)
  refine zS_g (by unfold r32; omega) ?_ -- 4
  have a2 := hM.2.2 u (t - 1) (by omega) (by omega) (by omega) (by omega)
  refine zS_g (by unfold r32; omega) ?_ -- 5
  refine zS_i (fun h3 => ?_) (fun h3 => ?_) -- 6: ((B 13 w 75 ((4 * t) + u)) = (B 13 w 75 ((4 * (t - 1)) + u)))
  · unfold f_M_beginsAt_30
    refine zS_g (by omega) ?_ -- 8
    exact zS_s ⟨rfl, rfl, by omega⟩
  · unfold f_M_beginsAt_30
    refine zS_g (by omega) ?_ -- 11
    exact zS_s ⟨rfl, rfl, by omega⟩
theorem s_toneAt {K : Nat} {w z : Int} {F : zF} {B : zB} (w0 : 0 ≤ w ∧ w < 3) (hz : PV w B z) (z0 : 0 ≤ z) : zS (f_M_toneAt K w z F B) (fun r F' B' => F' = F ∧ B' = B ∧ (9 ≤ r ∧ r ≤ 130)) := by
  obtain ⟨z1, z2, z3⟩ := hz
  unfold f_M_toneAt
  refine zS_g (by omega) ?_ -- 1
  refine zS_g (by omega) ?_ -- 2
  refine zS_b (s_tone (K := K) (s := (B 13 w 28 z)) (a := (B 13 w 29 z)) (by omega) (by omega) (by omega) (by omega)) ?_
  rintro o2 F B ⟨rfl, rfl, q1⟩
  exact zS_s ⟨rfl, rfl, by omega⟩
theorem s_isPlainStep {K : Nat} {a b : Int} {F : zF} {B : zB} (ra : r32 a) (rb : r32 b) : zS (f_M_isPlainStep K a b F B) (fun r F' B' => F' = F ∧ B' = B ∧ (r = 0 ∨ r = 1)) := by
  unfold f_M_isPlainStep
  refine zS_g (by unfold r32; omega) ?_ -- 1
  refine zS_i (fun h1 => ?_) (fun h1 => ?_) -- 2: (a = 0)
  · refine zS_g (by unfold r32; omega) ?_ -- 3
    refine zS_i (fun h2 => ?_) (fun h2 => ?_) -- 4: (b = 0)
    · unfold f_M_isPlainStep_13
      refine zS_g (by omega) ?_ -- 6
      exact zS_s ⟨rfl, rfl, by omega⟩
    · unfold f_M_isPlainStep_13
      refine zS_g (by omega) ?_ -- 9
      exact zS_s ⟨rfl, rfl, by omega⟩
  · refine zS_i (fun h3 => ?_) (fun h3 => ?_) -- 11: (a = 1)
    · refine zS_g (by unfold r32; omega) ?_ -- 12
      refine zS_i (fun h4 => ?_) (fun h4 => ?_) -- 13: (b = 1)
      · unfold f_M_isPlainStep_29
        unfold f_M_isPlainStep_34
        refine zS_g (by omega) ?_ -- 16
        exact zS_s ⟨rfl, rfl, by omega⟩
      · refine zS_i (fun h5 => ?_) (fun h5 => ?_) -- 18: (b = 2)
        · unfold f_M_isPlainStep_29
          unfold f_M_isPlainStep_34
          refine zS_g (by omega) ?_ -- 21
          exact zS_s ⟨rfl, rfl, by omega⟩
        · unfold f_M_isPlainStep_34
          refine zS_g (by omega) ?_ -- 24
          exact zS_s ⟨rfl, rfl, by omega⟩
    · refine zS_i (fun h6 => ?_) (fun h6 => ?_) -- 26: (a = 2)
      · refine zS_g (by unfold r32; omega) ?_ -- 27
        refine zS_i (fun h7 => ?_) (fun h7 => ?_) -- 28: (b = 3)
        · unfold f_M_isPlainStep_50
          unfold f_M_isPlainStep_55
          refine zS_g (by omega) ?_ -- 31
          exact zS_s ⟨rfl, rfl, by omega⟩
        · refine zS_i (fun h8 => ?_) (fun h8 => ?_) -- 33: (b = 4)
          · unfold f_M_isPlainStep_50
            unfold f_M_isPlainStep_55
            refine zS_g (by omega) ?_ -- 36
            exact zS_s ⟨rfl, rfl, by omega⟩
          · unfold f_M_isPlainStep_55
            refine zS_g (by omega) ?_ -- 39
            exact zS_s ⟨rfl, rfl, by omega⟩
      · refine zS_i (fun h9 => ?_) (fun h9 => ?_) -- 41: (a = 3)
        · refine zS_g (by unfold r32; omega) ?_ -- 42
          refine zS_i (fun h10 => ?_) (fun h10 => ?_) -- 43: (b = 5)
          · unfold f_M_isPlainStep_71
            refine zS_g (by omega) ?_ -- 45
            exact zS_s ⟨rfl, rfl, by omega⟩
          · unfold f_M_isPlainStep_71
            refine zS_g (by omega) ?_ -- 48
            exact zS_s ⟨rfl, rfl, by omega⟩
        · refine zS_i (fun h11 => ?_) (fun h11 => ?_) -- 50: (a = 4)
          · refine zS_g (by unfold r32; omega) ?_ -- 51
            refine zS_i (fun h12 => ?_) (fun h12 => ?_) -- 52: (b = 7)
            · unfold f_M_isPlainStep_88
              refine zS_g (by omega) ?_ -- 54
              exact zS_s ⟨rfl, rfl, by omega⟩
            · unfold f_M_isPlainStep_88
              refine zS_g (by omega) ?_ -- 57
              exact zS_s ⟨rfl, rfl, by omega⟩
          · refine zS_i (fun h13 => ?_) (fun h13 => ?_) -- 59: (a = 5)
            · refine zS_g (by unfold r32; omega) ?_ -- 60
              refine zS_i (fun h14 => ?_) (fun h14 => ?_) -- 61: (b = 8)
              · unfold f_M_isPlainStep_106
                unfold f_M_isPlainStep_131
                refine zS_g (by omega) ?_ -- 64
                exact zS_s ⟨rfl, rfl, by omega⟩
              · refine zS_i (fun h15 => ?_) (fun h15 => ?_) -- 66: (b = 9)
                · unfold f_M_isPlainStep_106
                  unfold f_M_isPlainStep_131
                  refine zS_g (by omega) ?_ -- 69
                  exact zS_s ⟨rfl, rfl, by omega⟩
                · unfold f_M_isPlainStep_131
                  refine zS_g (by omega) ?_ -- 72
                  exact zS_s ⟨rfl, rfl, by omega⟩
            · refine zS_g (by unfold r32; omega) ?_ -- 74
              refine zS_i (fun h16 => ?_) (fun h16 => ?_) -- 75: (b = 10)
              · unfold f_M_isPlainStep_126
                unfold f_M_isPlainStep_131
                refine zS_g (by omega) ?_ -- 78
                exact zS_s ⟨rfl, rfl, by omega⟩
              · refine zS_i (fun h17 => ?_) (fun h17 => ?_) -- 80: (b = 11)
                · unfold f_M_isPlainStep_126
                  unfold f_M_isPlainStep_131
                  refine zS_g (by omega) ?_ -- 83
                  exact zS_s ⟨rfl, rfl, by omega⟩
                · unfold f_M_isPlainStep_131
                  refine zS_g (by omega) ?_ -- 86
                  exact zS_s ⟨rfl, rfl, by omega⟩
theorem s_isOver {K : Nat} {w y z : Int} {F : zF} {B : zB} (b0 : (0 ≤ w ∧ w < 3) ∧ True) (vy : PV w B y) (vz : PV w B z) : zS (f_M_isOver K w y z F B) (fun r F' B' => F' = F ∧ B' = B ∧ (r = 0 ∨ r = 1)) := by
  have vy1 := vy.1
  have vy2 := vy.2.1
  have vz1 := vz.1
  have vz2 := vz.2.1
  unfold f_M_isOver
  refine zS_g (by unfold r32; omega) ?_ -- 1
  refine zS_i (fun h1 => ?_) (fun h1 => ?_) -- 2: (y < 0)
  · unfold f_M_isOver_25
    unfold f_M_isOver_26
    refine zS_g (by omega) ?_ -- 5
    exact zS_s ⟨rfl, rfl, by omega⟩
  · refine zS_g (by unfold r32; omega) ?_ -- 7
    refine zS_i (fun h2 => ?_) (fun h2 => ?_) -- 8: (z < 0)
    · unfold f_M_isOver_25
      unfold f_M_isOver_26
      refine zS_g (by omega) ?_ -- 11
      exact zS_s ⟨rfl, rfl, by omega⟩
    · refine zS_b (s_toneAt (K := K) b0.1 vz (by omega)) ?_
      rintro o4 F B ⟨rfl, rfl, q3⟩
      refine zS_b (s_toneAt (K := K) b0.1 vy (by omega)) ?_
      rintro o7 F B ⟨rfl, rfl, q6⟩
      refine zS_g (by unfold r32; omega) ?_ -- 15
      refine zS_g (by unfold r32; omega) ?_ -- 16
      refine zS_i (fun h9 => ?_) (fun h9 => ?_) -- 17: (o4 ≤ o7)
      · unfold f_M_isOver_25
        unfold f_M_isOver_26
        refine zS_g (by omega) ?_ -- 20
        exact zS_s ⟨rfl, rfl, by omega⟩
      · unfold f_M_isOver_26
        refine zS_g (by omega) ?_ -- 23
        exact zS_s ⟨rfl, rfl, by omega⟩
theorem s_isAlone {K : Nat} {V w : Int} {F : zF} {B : zB} (hR : RDW V w F B) (hM : MW5 V w F B) (hK : 1000 ≤ K) {t : Int} (t0 : 1 ≤ t) (t1 : t < F 13 w 72) {u k : Int} (u0 : 0 ≤ u) (u1 : u < V) (rk : r32 k) : zS (f_M_isAlone K w t k u F B) (fun r F' B' => F' = F ∧ B' = B ∧ (r = 0 ∨ r = 1)) := by
  have b0 := rd_0 hR
  have m0 := hM.1
  unfold f_M_isAlone
  refine zS_b (s_lineAt (K := K) (t := t) (u := u) hR hM hK (by omega) (by omega) (by omega) (by omega)) ?_
  rintro o2 F B ⟨rfl, rfl, v1⟩
  have vo2 := v1
  obtain ⟨v1a, v1b, v1c⟩ := v1
  refine zS_b (s_lineAt (K := K) (t := (t - 1)) (u := u) hR hM hK (by omega) (by omega) (by omega) (by omega)) ?_
  rintro o5 F B ⟨rfl, rfl, v4⟩
  have vo5 := v4
  obtain ⟨v4a, v4b, v4c⟩ := v4
  refine zS_g (by unfold r32; omega) ?_ -- 3
  refine zS_i (fun h7 => ?_) (fun h7 => ?_) -- 4: (o2 < 0)
  · unfold f_M_isAlone_37
    exact zS_s ⟨rfl, rfl, by omega⟩
  · refine zS_g (by unfold r32; omega) ?_ -- 7
    refine zS_i (fun h8 => ?_) (fun h8 => ?_) -- 8: (o5 < 0)
    · unfold f_M_isAlone_37
      exact zS_s ⟨rfl, rfl, by omega⟩
    · refine zS_b (s_beginsAt (K := K) (t := t) (u := u) hR hM hK (by omega) (by omega) (by omega) (by omega) (by omega)) ?_
      rintro o10 F B ⟨rfl, rfl, q9⟩
      refine zS_g (by unfold r32; omega) ?_ -- 12
      refine zS_i (fun h12 => ?_) (fun h12 => ?_) -- 13: (o10 = 0)
      · unfold f_M_isAlone_37
        exact zS_s ⟨rfl, rfl, by omega⟩
      · refine zS_g (by omega) ?_ -- 16
        refine zS_g (by omega) ?_ -- 17
        refine zS_g (by omega) ?_ -- 18
        refine zS_g (by unfold r32; omega) ?_ -- 19
        refine zS_i (fun h13 => ?_) (fun h13 => ?_) -- 20: (0 ≤ ((B 13 w 28 o2) - (B 13 w 28 o5)))
        · unfold f_M_isAlone_69
          refine zS_g (by unfold r32; omega) ?_ -- 22
          refine zS_i (fun h14 => ?_) (fun h14 => ?_) -- 23: (k = 5)
          · refine zS_g (by unfold r32; omega) ?_ -- 24
            refine zS_i (fun h15 => ?_) (fun h15 => ?_) -- 25: (((B 13 w 28 o2) - (B 13 w 28 o5)) ≤ 7)
            · unfold f_M_isAlone_88
              refine zS_g (by omega) ?_ -- 27
              exact zS_s ⟨rfl, rfl, by omega⟩
            · unfold f_M_isAlone_88
              refine zS_g (by omega) ?_ -- 30
              exact zS_s ⟨rfl, rfl, by omega⟩
          · refine zS_b (s_toneAt (K := K) b0.1 vo2 (by omega)) ?_
            rintro o17 F B ⟨rfl, rfl, q16⟩
            refine zS_b (s_toneAt (K := K) b0.1 vo5 (by omega)) ?_
            rintro o20 F B ⟨rfl, rfl, q19⟩
            refine zS_g (by unfold r32; omega) ?_ -- 34
            refine zS_i (fun h22 => ?_) (fun h22 => ?_) -- 35: (((B 13 w 28 o2) - (B 13 w 28 o5)) < 0)
            · unfold f_M_isAlone_119
              unfold f_M_isAlone_127
              refine zS_b (s_mod (K := K) (a := (-(o17 - o20))) (b := 12) (by unfold r32; omega) (by decide) (by decide)) ?_
              rintro o24 F B ⟨rfl, rfl, q23⟩
              have z26 := zrm_R ((B 13 w 28 o2) - (B 13 w 28 o5)) 7
              refine zS_b (s_isPlainStep (K := K) (a := (zrm ((B 13 w 28 o2) - (B 13 w 28 o5)) 7)) (b := o24) (by first | exact zrm_R _ _ | (unfold r32; omega)) (by unfold r32; omega)) ?_
              rintro o28 F B ⟨rfl, rfl, q27⟩
              refine zS_g (by unfold r32; omega) ?_ -- 40
              refine zS_i (fun h30 => ?_) (fun h30 => ?_) -- 41: (o28 = 0)
              · unfold f_M_isAlone_152
                refine zS_g (by omega) ?_ -- 43
                exact zS_s ⟨rfl, rfl, by omega⟩
              · unfold f_M_isAlone_152
                refine zS_g (by omega) ?_ -- 46
                exact zS_s ⟨rfl, rfl, by omega⟩
            · refine zS_i (fun h31 => ?_) (fun h31 => ?_) -- 48: (((B 13 w 28 o2) - (B 13 w 28 o5)) = 0)
              · refine zS_g (by unfold r32; omega) ?_ -- 49
                refine zS_i (fun h32 => ?_) (fun h32 => ?_) -- 50: (0 ≤ (o17 - o20))
                · unfold f_M_isAlone_125
                  unfold f_M_isAlone_127
                  refine zS_b (s_mod (K := K) (a := (o17 - o20)) (b := 12) (by unfold r32; omega) (by decide) (by decide)) ?_
                  rintro o34 F B ⟨rfl, rfl, q33⟩
                  have z36 := zrm_R ((B 13 w 28 o2) - (B 13 w 28 o5)) 7
                  refine zS_b (s_isPlainStep (K := K) (a := (zrm ((B 13 w 28 o2) - (B 13 w 28 o5)) 7)) (b := o34) (by first | exact zrm_R _ _ | (unfold r32; omega)) (by unfold r32; omega)) ?_
                  rintro o38 F B ⟨rfl, rfl, q37⟩
                  refine zS_g (by unfold r32; omega) ?_ -- 55
                  refine zS_i (fun h40 => ?_) (fun h40 => ?_) -- 56: (o38 = 0)
                  · unfold f_M_isAlone_152
                    refine zS_g (by omega) ?_ -- 58
                    exact zS_s ⟨rfl, rfl, by omega⟩
                  · unfold f_M_isAlone_152
                    refine zS_g (by omega) ?_ -- 61
                    exact zS_s ⟨rfl, rfl, by omega⟩
                · unfold f_M_isAlone_119
                  unfold f_M_isAlone_127
                  refine zS_b (s_mod (K := K) (a := (-(o17 - o20))) (b := 12) (by unfold r32; omega) (by decide) (by decide)) ?_
                  rintro o42 F B ⟨rfl, rfl, q41⟩
                  have z44 := zrm_R ((B 13 w 28 o2) - (B 13 w 28 o5)) 7
                  refine zS_b (s_isPlainStep (K := K) (a := (zrm ((B 13 w 28 o2) - (B 13 w 28 o5)) 7)) (b := o42) (by first | exact zrm_R _ _ | (unfold r32; omega)) (by unfold r32; omega)) ?_
                  rintro o46 F B ⟨rfl, rfl, q45⟩
                  refine zS_g (by unfold r32; omega) ?_ -- 67
                  refine zS_i (fun h48 => ?_) (fun h48 => ?_) -- 68: (o46 = 0)
                  · unfold f_M_isAlone_152
                    refine zS_g (by omega) ?_ -- 70
                    exact zS_s ⟨rfl, rfl, by omega⟩
                  · unfold f_M_isAlone_152
                    refine zS_g (by omega) ?_ -- 73
                    exact zS_s ⟨rfl, rfl, by omega⟩
              · unfold f_M_isAlone_125
                unfold f_M_isAlone_127
                refine zS_b (s_mod (K := K) (a := (o17 - o20)) (b := 12) (by unfold r32; omega) (by decide) (by decide)) ?_
                rintro o50 F B ⟨rfl, rfl, q49⟩
                have z52 := zrm_R ((B 13 w 28 o2) - (B 13 w 28 o5)) 7
                refine zS_b (s_isPlainStep (K := K) (a := (zrm ((B 13 w 28 o2) - (B 13 w 28 o5)) 7)) (b := o50) (by first | exact zrm_R _ _ | (unfold r32; omega)) (by unfold r32; omega)) ?_
                rintro o54 F B ⟨rfl, rfl, q53⟩
                refine zS_g (by unfold r32; omega) ?_ -- 79
                refine zS_i (fun h56 => ?_) (fun h56 => ?_) -- 80: (o54 = 0)
                · unfold f_M_isAlone_152
                  refine zS_g (by omega) ?_ -- 82
                  exact zS_s ⟨rfl, rfl, by omega⟩
                · unfold f_M_isAlone_152
                  refine zS_g (by omega) ?_ -- 85
                  exact zS_s ⟨rfl, rfl, by omega⟩
        · unfold f_M_isAlone_69
          refine zS_g (by unfold r32; omega) ?_ -- 88
          refine zS_i (fun h57 => ?_) (fun h57 => ?_) -- 89: (k = 5)
          · refine zS_g (by unfold r32; omega) ?_ -- 90
            refine zS_i (fun h58 => ?_) (fun h58 => ?_) -- 91: ((-((B 13 w 28 o2) - (B 13 w 28 o5))) ≤ 7)
            · unfold f_M_isAlone_88
              refine zS_g (by omega) ?_ -- 93
              exact zS_s ⟨rfl, rfl, by omega⟩
            · unfold f_M_isAlone_88
              refine zS_g (by omega) ?_ -- 96
              exact zS_s ⟨rfl, rfl, by omega⟩
          · refine zS_b (s_toneAt (K := K) b0.1 vo2 (by omega)) ?_
            rintro o60 F B ⟨rfl, rfl, q59⟩
            refine zS_b (s_toneAt (K := K) b0.1 vo5 (by omega)) ?_
            rintro o63 F B ⟨rfl, rfl, q62⟩
            refine zS_g (by unfold r32; omega) ?_ -- 100
            refine zS_i (fun h65 => ?_) (fun h65 => ?_) -- 101: (((B 13 w 28 o2) - (B 13 w 28 o5)) < 0)
            · unfold f_M_isAlone_119
              unfold f_M_isAlone_127
              refine zS_b (s_mod (K := K) (a := (-(o60 - o63))) (b := 12) (by unfold r32; omega) (by decide) (by decide)) ?_
              rintro o67 F B ⟨rfl, rfl, q66⟩
              have z69 := zrm_R (-((B 13 w 28 o2) - (B 13 w 28 o5))) 7
              refine zS_b (s_isPlainStep (K := K) (a := (zrm (-((B 13 w 28 o2) - (B 13 w 28 o5))) 7)) (b := o67) (by first | exact zrm_R _ _ | (unfold r32; omega)) (by unfold r32; omega)) ?_
              rintro o71 F B ⟨rfl, rfl, q70⟩
              refine zS_g (by unfold r32; omega) ?_ -- 106
              refine zS_i (fun h73 => ?_) (fun h73 => ?_) -- 107: (o71 = 0)
              · unfold f_M_isAlone_152
                refine zS_g (by omega) ?_ -- 109
                exact zS_s ⟨rfl, rfl, by omega⟩
              · unfold f_M_isAlone_152
                refine zS_g (by omega) ?_ -- 112
                exact zS_s ⟨rfl, rfl, by omega⟩
            · refine zS_i (fun h74 => ?_) (fun h74 => ?_) -- 114: (((B 13 w 28 o2) - (B 13 w 28 o5)) = 0)
              · refine zS_g (by unfold r32; omega) ?_ -- 115
                refine zS_i (fun h75 => ?_) (fun h75 => ?_) -- 116: (0 ≤ (o60 - o63))
                · unfold f_M_isAlone_125
                  unfold f_M_isAlone_127
                  refine zS_b (s_mod (K := K) (a := (o60 - o63)) (b := 12) (by unfold r32; omega) (by decide) (by decide)) ?_
                  rintro o77 F B ⟨rfl, rfl, q76⟩
                  have z79 := zrm_R (-((B 13 w 28 o2) - (B 13 w 28 o5))) 7
                  refine zS_b (s_isPlainStep (K := K) (a := (zrm (-((B 13 w 28 o2) - (B 13 w 28 o5))) 7)) (b := o77) (by first | exact zrm_R _ _ | (unfold r32; omega)) (by unfold r32; omega)) ?_
                  rintro o81 F B ⟨rfl, rfl, q80⟩
                  refine zS_g (by unfold r32; omega) ?_ -- 121
                  refine zS_i (fun h83 => ?_) (fun h83 => ?_) -- 122: (o81 = 0)
                  · unfold f_M_isAlone_152
                    refine zS_g (by omega) ?_ -- 124
                    exact zS_s ⟨rfl, rfl, by omega⟩
                  · unfold f_M_isAlone_152
                    refine zS_g (by omega) ?_ -- 127
                    exact zS_s ⟨rfl, rfl, by omega⟩
                · unfold f_M_isAlone_119
                  unfold f_M_isAlone_127
                  refine zS_b (s_mod (K := K) (a := (-(o60 - o63))) (b := 12) (by unfold r32; omega) (by decide) (by decide)) ?_
                  rintro o85 F B ⟨rfl, rfl, q84⟩
                  have z87 := zrm_R (-((B 13 w 28 o2) - (B 13 w 28 o5))) 7
                  refine zS_b (s_isPlainStep (K := K) (a := (zrm (-((B 13 w 28 o2) - (B 13 w 28 o5))) 7)) (b := o85) (by first | exact zrm_R _ _ | (unfold r32; omega)) (by unfold r32; omega)) ?_
                  rintro o89 F B ⟨rfl, rfl, q88⟩
                  refine zS_g (by unfold r32; omega) ?_ -- 133
                  refine zS_i (fun h91 => ?_) (fun h91 => ?_) -- 134: (o89 = 0)
                  · unfold f_M_isAlone_152
                    refine zS_g (by omega) ?_ -- 136
                    exact zS_s ⟨rfl, rfl, by omega⟩
                  · unfold f_M_isAlone_152
                    refine zS_g (by omega) ?_ -- 139
                    exact zS_s ⟨rfl, rfl, by omega⟩
              · unfold f_M_isAlone_125
                unfold f_M_isAlone_127
                refine zS_b (s_mod (K := K) (a := (o60 - o63)) (b := 12) (by unfold r32; omega) (by decide) (by decide)) ?_
                rintro o93 F B ⟨rfl, rfl, q92⟩
                have z95 := zrm_R (-((B 13 w 28 o2) - (B 13 w 28 o5))) 7
                refine zS_b (s_isPlainStep (K := K) (a := (zrm (-((B 13 w 28 o2) - (B 13 w 28 o5))) 7)) (b := o93) (by first | exact zrm_R _ _ | (unfold r32; omega)) (by unfold r32; omega)) ?_
                rintro o97 F B ⟨rfl, rfl, q96⟩
                refine zS_g (by unfold r32; omega) ?_ -- 145
                refine zS_i (fun h99 => ?_) (fun h99 => ?_) -- 146: (o97 = 0)
                · unfold f_M_isAlone_152
                  refine zS_g (by omega) ?_ -- 148
                  exact zS_s ⟨rfl, rfl, by omega⟩
                · unfold f_M_isAlone_152
                  refine zS_g (by omega) ?_ -- 151
                  exact zS_s ⟨rfl, rfl, by omega⟩
theorem s_isCrossed {K : Nat} {V w : Int} {F : zF} {B : zB} (hR : RDW V w F B) (hM : MW5 V w F B) (hK : 1000 ≤ K) {t : Int} (t0 : 1 ≤ t) (t1 : t < F 13 w 72) {u v : Int} (u0 : 0 ≤ u) (u1 : u < V) (v0 : 0 ≤ v) (v1 : v < V) : zS (f_M_isCrossed K w t u v F B) (fun r F' B' => F' = F ∧ B' = B ∧ (r = 0 ∨ r = 1)) := by
  have b0 := rd_0 hR
  have m0 := hM.1
  unfold f_M_isCrossed
  refine zS_b (s_lineAt (K := K) (t := t) (u := u) hR hM hK (by omega) (by omega) (by omega) (by omega)) ?_
  rintro o2 F B ⟨rfl, rfl, v1⟩
  have vo2 := v1
  obtain ⟨v1a, v1b, v1c⟩ := v1
  refine zS_b (s_lineAt (K := K) (t := t) (u := v) hR hM hK (by omega) (by omega) (by omega) (by omega)) ?_
  rintro o5 F B ⟨rfl, rfl, v4⟩
  have vo5 := v4
  obtain ⟨v4a, v4b, v4c⟩ := v4
  refine zS_b (s_isOver (K := K) ⟨b0.1, True.intro⟩ vo2 vo5) ?_
  rintro o8 F B ⟨rfl, rfl, q7⟩
  refine zS_g (by unfold r32; omega) ?_ -- 4
  refine zS_i (fun h10 => ?_) (fun h10 => ?_) -- 5: (o8 = 0)
  · unfold f_M_isCrossed_46
    unfold f_M_isCrossed_47
    refine zS_g (by omega) ?_ -- 8
    exact zS_s ⟨rfl, rfl, by omega⟩
  · refine zS_b (s_lineAt (K := K) (t := (t - 1)) (u := u) hR hM hK (by omega) (by omega) (by omega) (by omega)) ?_
    rintro o12 F B ⟨rfl, rfl, v11⟩
    have vo12 := v11
    obtain ⟨v11a, v11b, v11c⟩ := v11
    refine zS_b (s_lineAt (K := K) (t := (t - 1)) (u := v) hR hM hK (by omega) (by omega) (by omega) (by omega)) ?_
    rintro o15 F B ⟨rfl, rfl, v14⟩
    have vo15 := v14
    obtain ⟨v14a, v14b, v14c⟩ := v14
    refine zS_b (s_isOver (K := K) ⟨b0.1, True.intro⟩ vo12 vo15) ?_
    rintro o18 F B ⟨rfl, rfl, q17⟩
    refine zS_g (by unfold r32; omega) ?_ -- 13
    refine zS_i (fun h20 => ?_) (fun h20 => ?_) -- 14: (o18 = 0)
    · unfold f_M_isCrossed_47
      refine zS_g (by omega) ?_ -- 16
      exact zS_s ⟨rfl, rfl, by omega⟩
    · unfold f_M_isCrossed_46
      unfold f_M_isCrossed_47
      refine zS_g (by omega) ?_ -- 20
      exact zS_s ⟨rfl, rfl, by omega⟩
theorem s_perfect {K : Nat} {w y z : Int} {F : zF} {B : zB} (b0 : (0 ≤ w ∧ w < 3) ∧ True) (vy : PV w B y) (vz : PV w B z) (y0 : 0 ≤ y) (z0 : 0 ≤ z) : zS (f_M_perfect K w y z F B) (fun r F' B' => F' = F ∧ B' = B ∧ (0 ≤ r ∧ r ≤ 2)) := by
  have vy1 := vy.2.2 y0
  have vy2 := vy.2.1
  have vz1 := vz.2.2 z0
  have vz2 := vz.2.1
  unfold f_M_perfect
  refine zS_b (s_toneAt (K := K) b0.1 vy (by omega)) ?_
  rintro o2 F B ⟨rfl, rfl, q1⟩
  refine zS_b (s_toneAt (K := K) b0.1 vz (by omega)) ?_
  rintro o5 F B ⟨rfl, rfl, q4⟩
  refine zS_g (by unfold r32; omega) ?_ -- 3
  refine zS_g (by unfold r32; omega) ?_ -- 4
  refine zS_i (fun h7 => ?_) (fun h7 => ?_) -- 5: (o2 < o5)
  · unfold f_M_perfect_18
    refine zS_g (by unfold r32; omega) ?_ -- 7
    refine zS_i (fun h8 => ?_) (fun h8 => ?_) -- 8: (0 = 0)
    · unfold f_M_perfect_28
      refine zS_g (by unfold r32; omega) ?_ -- 10
      refine zS_i (fun h9 => ?_) (fun h9 => ?_) -- 11: (0 = 0)
      · unfold f_M_perfect_39
        refine zS_g (by omega) ?_ -- 13
        refine zS_g (by omega) ?_ -- 14
        refine zS_g (by omega) ?_ -- 15
        refine zS_b (s_mod (K := K) (a := ((B 13 w 28 z) - (B 13 w 28 y))) (b := 7) (by unfold r32; omega) (by decide) (by decide)) ?_
        rintro o11 F B ⟨rfl, rfl, q10⟩
        refine zS_b (s_toneAt (K := K) b0.1 vz (by omega)) ?_
        rintro o14 F B ⟨rfl, rfl, q13⟩
        refine zS_b (s_toneAt (K := K) b0.1 vy (by omega)) ?_
        rintro o17 F B ⟨rfl, rfl, q16⟩
        refine zS_b (s_mod (K := K) (a := (o14 - o17)) (b := 12) (by unfold r32; omega) (by decide) (by decide)) ?_
        rintro o20 F B ⟨rfl, rfl, q19⟩
        refine zS_g (by unfold r32; omega) ?_ -- 20
        refine zS_i (fun h22 => ?_) (fun h22 => ?_) -- 21: (o11 = 0)
        · refine zS_g (by unfold r32; omega) ?_ -- 22
          refine zS_i (fun h23 => ?_) (fun h23 => ?_) -- 23: (o20 = 0)
          · unfold f_M_perfect_115
            exact zS_s ⟨rfl, rfl, by omega⟩
          · unfold f_M_perfect_97
            refine zS_g (by unfold r32; omega) ?_ -- 27
            refine zS_i (fun h24 => ?_) (fun h24 => ?_) -- 28: (o11 = 4)
            · refine zS_g (by unfold r32; omega) ?_ -- 29
              refine zS_i (fun h25 => ?_) (fun h25 => ?_) -- 30: (o20 = 7)
              · unfold f_M_perfect_115
                exact zS_s ⟨rfl, rfl, by omega⟩
              · unfold f_M_perfect_114
                unfold f_M_perfect_115
                exact zS_s ⟨rfl, rfl, by omega⟩
            · unfold f_M_perfect_114
              unfold f_M_perfect_115
              exact zS_s ⟨rfl, rfl, by omega⟩
        · unfold f_M_perfect_97
          refine zS_g (by unfold r32; omega) ?_ -- 40
          refine zS_i (fun h26 => ?_) (fun h26 => ?_) -- 41: (o11 = 4)
          · refine zS_g (by unfold r32; omega) ?_ -- 42
            refine zS_i (fun h27 => ?_) (fun h27 => ?_) -- 43: (o20 = 7)
            · unfold f_M_perfect_115
              exact zS_s ⟨rfl, rfl, by omega⟩
            · unfold f_M_perfect_114
              unfold f_M_perfect_115
              exact zS_s ⟨rfl, rfl, by omega⟩
          · unfold f_M_perfect_114
            unfold f_M_perfect_115
            exact zS_s ⟨rfl, rfl, by omega⟩
      · unfold f_M_perfect_39
        refine zS_g (by omega) ?_ -- 53
        refine zS_g (by omega) ?_ -- 54
        refine zS_g (by omega) ?_ -- 55
        refine zS_b (s_mod (K := K) (a := ((B 13 w 28 z) - (B 13 w 28 z))) (b := 7) (by unfold r32; omega) (by decide) (by decide)) ?_
        rintro o29 F B ⟨rfl, rfl, q28⟩
        refine zS_b (s_toneAt (K := K) b0.1 vz (by omega)) ?_
        rintro o32 F B ⟨rfl, rfl, q31⟩
        refine zS_b (s_toneAt (K := K) b0.1 vz (by omega)) ?_
        rintro o35 F B ⟨rfl, rfl, q34⟩
        refine zS_b (s_mod (K := K) (a := (o32 - o35)) (b := 12) (by unfold r32; omega) (by decide) (by decide)) ?_
        rintro o38 F B ⟨rfl, rfl, q37⟩
        refine zS_g (by unfold r32; omega) ?_ -- 60
        refine zS_i (fun h40 => ?_) (fun h40 => ?_) -- 61: (o29 = 0)
        · refine zS_g (by unfold r32; omega) ?_ -- 62
          refine zS_i (fun h41 => ?_) (fun h41 => ?_) -- 63: (o38 = 0)
          · unfold f_M_perfect_115
            exact zS_s ⟨rfl, rfl, by omega⟩
          · unfold f_M_perfect_97
            refine zS_g (by unfold r32; omega) ?_ -- 67
            refine zS_i (fun h42 => ?_) (fun h42 => ?_) -- 68: (o29 = 4)
            · refine zS_g (by unfold r32; omega) ?_ -- 69
              refine zS_i (fun h43 => ?_) (fun h43 => ?_) -- 70: (o38 = 7)
              · unfold f_M_perfect_115
                exact zS_s ⟨rfl, rfl, by omega⟩
              · unfold f_M_perfect_114
                unfold f_M_perfect_115
                exact zS_s ⟨rfl, rfl, by omega⟩
            · unfold f_M_perfect_114
              unfold f_M_perfect_115
              exact zS_s ⟨rfl, rfl, by omega⟩
        · unfold f_M_perfect_97
          refine zS_g (by unfold r32; omega) ?_ -- 80
          refine zS_i (fun h44 => ?_) (fun h44 => ?_) -- 81: (o29 = 4)
          · refine zS_g (by unfold r32; omega) ?_ -- 82
            refine zS_i (fun h45 => ?_) (fun h45 => ?_) -- 83: (o38 = 7)
            · unfold f_M_perfect_115
              exact zS_s ⟨rfl, rfl, by omega⟩
            · unfold f_M_perfect_114
              unfold f_M_perfect_115
              exact zS_s ⟨rfl, rfl, by omega⟩
          · unfold f_M_perfect_114
            unfold f_M_perfect_115
            exact zS_s ⟨rfl, rfl, by omega⟩
    · unfold f_M_perfect_28
      refine zS_g (by unfold r32; omega) ?_ -- 93
      refine zS_i (fun h46 => ?_) (fun h46 => ?_) -- 94: (0 = 0)
      · unfold f_M_perfect_39
        refine zS_g (by omega) ?_ -- 96
        refine zS_g (by omega) ?_ -- 97
        refine zS_g (by omega) ?_ -- 98
        refine zS_b (s_mod (K := K) (a := ((B 13 w 28 y) - (B 13 w 28 y))) (b := 7) (by unfold r32; omega) (by decide) (by decide)) ?_
        rintro o48 F B ⟨rfl, rfl, q47⟩
        refine zS_b (s_toneAt (K := K) b0.1 vy (by omega)) ?_
        rintro o51 F B ⟨rfl, rfl, q50⟩
        refine zS_b (s_toneAt (K := K) b0.1 vy (by omega)) ?_
        rintro o54 F B ⟨rfl, rfl, q53⟩
        refine zS_b (s_mod (K := K) (a := (o51 - o54)) (b := 12) (by unfold r32; omega) (by decide) (by decide)) ?_
        rintro o57 F B ⟨rfl, rfl, q56⟩
        refine zS_g (by unfold r32; omega) ?_ -- 103
        refine zS_i (fun h59 => ?_) (fun h59 => ?_) -- 104: (o48 = 0)
        · refine zS_g (by unfold r32; omega) ?_ -- 105
          refine zS_i (fun h60 => ?_) (fun h60 => ?_) -- 106: (o57 = 0)
          · unfold f_M_perfect_115
            exact zS_s ⟨rfl, rfl, by omega⟩
          · unfold f_M_perfect_97
            refine zS_g (by unfold r32; omega) ?_ -- 110
            refine zS_i (fun h61 => ?_) (fun h61 => ?_) -- 111: (o48 = 4)
            · refine zS_g (by unfold r32; omega) ?_ -- 112
              refine zS_i (fun h62 => ?_) (fun h62 => ?_) -- 113: (o57 = 7)
              · unfold f_M_perfect_115
                exact zS_s ⟨rfl, rfl, by omega⟩
              · unfold f_M_perfect_114
                unfold f_M_perfect_115
                exact zS_s ⟨rfl, rfl, by omega⟩
            · unfold f_M_perfect_114
              unfold f_M_perfect_115
              exact zS_s ⟨rfl, rfl, by omega⟩
        · unfold f_M_perfect_97
          refine zS_g (by unfold r32; omega) ?_ -- 123
          refine zS_i (fun h63 => ?_) (fun h63 => ?_) -- 124: (o48 = 4)
          · refine zS_g (by unfold r32; omega) ?_ -- 125
            refine zS_i (fun h64 => ?_) (fun h64 => ?_) -- 126: (o57 = 7)
            · unfold f_M_perfect_115
              exact zS_s ⟨rfl, rfl, by omega⟩
            · unfold f_M_perfect_114
              unfold f_M_perfect_115
              exact zS_s ⟨rfl, rfl, by omega⟩
          · unfold f_M_perfect_114
            unfold f_M_perfect_115
            exact zS_s ⟨rfl, rfl, by omega⟩
      · unfold f_M_perfect_39
        refine zS_g (by omega) ?_ -- 136
        refine zS_g (by omega) ?_ -- 137
        refine zS_g (by omega) ?_ -- 138
        refine zS_b (s_mod (K := K) (a := ((B 13 w 28 y) - (B 13 w 28 z))) (b := 7) (by unfold r32; omega) (by decide) (by decide)) ?_
        rintro o66 F B ⟨rfl, rfl, q65⟩
        refine zS_b (s_toneAt (K := K) b0.1 vy (by omega)) ?_
        rintro o69 F B ⟨rfl, rfl, q68⟩
        refine zS_b (s_toneAt (K := K) b0.1 vz (by omega)) ?_
        rintro o72 F B ⟨rfl, rfl, q71⟩
        refine zS_b (s_mod (K := K) (a := (o69 - o72)) (b := 12) (by unfold r32; omega) (by decide) (by decide)) ?_
        rintro o75 F B ⟨rfl, rfl, q74⟩
        refine zS_g (by unfold r32; omega) ?_ -- 143
        refine zS_i (fun h77 => ?_) (fun h77 => ?_) -- 144: (o66 = 0)
        · refine zS_g (by unfold r32; omega) ?_ -- 145
          refine zS_i (fun h78 => ?_) (fun h78 => ?_) -- 146: (o75 = 0)
          · unfold f_M_perfect_115
            exact zS_s ⟨rfl, rfl, by omega⟩
          · unfold f_M_perfect_97
            refine zS_g (by unfold r32; omega) ?_ -- 150
            refine zS_i (fun h79 => ?_) (fun h79 => ?_) -- 151: (o66 = 4)
            · refine zS_g (by unfold r32; omega) ?_ -- 152
              refine zS_i (fun h80 => ?_) (fun h80 => ?_) -- 153: (o75 = 7)
              · unfold f_M_perfect_115
                exact zS_s ⟨rfl, rfl, by omega⟩
              · unfold f_M_perfect_114
                unfold f_M_perfect_115
                exact zS_s ⟨rfl, rfl, by omega⟩
            · unfold f_M_perfect_114
              unfold f_M_perfect_115
              exact zS_s ⟨rfl, rfl, by omega⟩
        · unfold f_M_perfect_97
          refine zS_g (by unfold r32; omega) ?_ -- 163
          refine zS_i (fun h81 => ?_) (fun h81 => ?_) -- 164: (o66 = 4)
          · refine zS_g (by unfold r32; omega) ?_ -- 165
            refine zS_i (fun h82 => ?_) (fun h82 => ?_) -- 166: (o75 = 7)
            · unfold f_M_perfect_115
              exact zS_s ⟨rfl, rfl, by omega⟩
            · unfold f_M_perfect_114
              unfold f_M_perfect_115
              exact zS_s ⟨rfl, rfl, by omega⟩
          · unfold f_M_perfect_114
            unfold f_M_perfect_115
            exact zS_s ⟨rfl, rfl, by omega⟩
  · unfold f_M_perfect_18
    refine zS_g (by unfold r32; omega) ?_ -- 176
    refine zS_i (fun h83 => ?_) (fun h83 => ?_) -- 177: (1 = 0)
    · unfold f_M_perfect_28
      refine zS_g (by unfold r32; omega) ?_ -- 179
      refine zS_i (fun h84 => ?_) (fun h84 => ?_) -- 180: (1 = 0)
      · unfold f_M_perfect_39
        refine zS_g (by omega) ?_ -- 182
        refine zS_g (by omega) ?_ -- 183
        refine zS_g (by omega) ?_ -- 184
        refine zS_b (s_mod (K := K) (a := ((B 13 w 28 z) - (B 13 w 28 y))) (b := 7) (by unfold r32; omega) (by decide) (by decide)) ?_
        rintro o86 F B ⟨rfl, rfl, q85⟩
        refine zS_b (s_toneAt (K := K) b0.1 vz (by omega)) ?_
        rintro o89 F B ⟨rfl, rfl, q88⟩
        refine zS_b (s_toneAt (K := K) b0.1 vy (by omega)) ?_
        rintro o92 F B ⟨rfl, rfl, q91⟩
        refine zS_b (s_mod (K := K) (a := (o89 - o92)) (b := 12) (by unfold r32; omega) (by decide) (by decide)) ?_
        rintro o95 F B ⟨rfl, rfl, q94⟩
        refine zS_g (by unfold r32; omega) ?_ -- 189
        refine zS_i (fun h97 => ?_) (fun h97 => ?_) -- 190: (o86 = 0)
        · refine zS_g (by unfold r32; omega) ?_ -- 191
          refine zS_i (fun h98 => ?_) (fun h98 => ?_) -- 192: (o95 = 0)
          · unfold f_M_perfect_115
            exact zS_s ⟨rfl, rfl, by omega⟩
          · unfold f_M_perfect_97
            refine zS_g (by unfold r32; omega) ?_ -- 196
            refine zS_i (fun h99 => ?_) (fun h99 => ?_) -- 197: (o86 = 4)
            · refine zS_g (by unfold r32; omega) ?_ -- 198
              refine zS_i (fun h100 => ?_) (fun h100 => ?_) -- 199: (o95 = 7)
              · unfold f_M_perfect_115
                exact zS_s ⟨rfl, rfl, by omega⟩
              · unfold f_M_perfect_114
                unfold f_M_perfect_115
                exact zS_s ⟨rfl, rfl, by omega⟩
            · unfold f_M_perfect_114
              unfold f_M_perfect_115
              exact zS_s ⟨rfl, rfl, by omega⟩
        · unfold f_M_perfect_97
          refine zS_g (by unfold r32; omega) ?_ -- 209
          refine zS_i (fun h101 => ?_) (fun h101 => ?_) -- 210: (o86 = 4)
          · refine zS_g (by unfold r32; omega) ?_ -- 211
            refine zS_i (fun h102 => ?_) (fun h102 => ?_) -- 212: (o95 = 7)
            · unfold f_M_perfect_115
              exact zS_s ⟨rfl, rfl, by omega⟩
            · unfold f_M_perfect_114
              unfold f_M_perfect_115
              exact zS_s ⟨rfl, rfl, by omega⟩
          · unfold f_M_perfect_114
            unfold f_M_perfect_115
            exact zS_s ⟨rfl, rfl, by omega⟩
      · unfold f_M_perfect_39
        refine zS_g (by omega) ?_ -- 222
        refine zS_g (by omega) ?_ -- 223
        refine zS_g (by omega) ?_ -- 224
        refine zS_b (s_mod (K := K) (a := ((B 13 w 28 z) - (B 13 w 28 z))) (b := 7) (by unfold r32; omega) (by decide) (by decide)) ?_
        rintro o104 F B ⟨rfl, rfl, q103⟩
        refine zS_b (s_toneAt (K := K) b0.1 vz (by omega)) ?_
        rintro o107 F B ⟨rfl, rfl, q106⟩
        refine zS_b (s_toneAt (K := K) b0.1 vz (by omega)) ?_
        rintro o110 F B ⟨rfl, rfl, q109⟩
        refine zS_b (s_mod (K := K) (a := (o107 - o110)) (b := 12) (by unfold r32; omega) (by decide) (by decide)) ?_
        rintro o113 F B ⟨rfl, rfl, q112⟩
        refine zS_g (by unfold r32; omega) ?_ -- 229
        refine zS_i (fun h115 => ?_) (fun h115 => ?_) -- 230: (o104 = 0)
        · refine zS_g (by unfold r32; omega) ?_ -- 231
          refine zS_i (fun h116 => ?_) (fun h116 => ?_) -- 232: (o113 = 0)
          · unfold f_M_perfect_115
            exact zS_s ⟨rfl, rfl, by omega⟩
          · unfold f_M_perfect_97
            refine zS_g (by unfold r32; omega) ?_ -- 236
            refine zS_i (fun h117 => ?_) (fun h117 => ?_) -- 237: (o104 = 4)
            · refine zS_g (by unfold r32; omega) ?_ -- 238
              refine zS_i (fun h118 => ?_) (fun h118 => ?_) -- 239: (o113 = 7)
              · unfold f_M_perfect_115
                exact zS_s ⟨rfl, rfl, by omega⟩
              · unfold f_M_perfect_114
                unfold f_M_perfect_115
                exact zS_s ⟨rfl, rfl, by omega⟩
            · unfold f_M_perfect_114
              unfold f_M_perfect_115
              exact zS_s ⟨rfl, rfl, by omega⟩
        · unfold f_M_perfect_97
          refine zS_g (by unfold r32; omega) ?_ -- 249
          refine zS_i (fun h119 => ?_) (fun h119 => ?_) -- 250: (o104 = 4)
          · refine zS_g (by unfold r32; omega) ?_ -- 251
            refine zS_i (fun h120 => ?_) (fun h120 => ?_) -- 252: (o113 = 7)
            · unfold f_M_perfect_115
              exact zS_s ⟨rfl, rfl, by omega⟩
            · unfold f_M_perfect_114
              unfold f_M_perfect_115
              exact zS_s ⟨rfl, rfl, by omega⟩
          · unfold f_M_perfect_114
            unfold f_M_perfect_115
            exact zS_s ⟨rfl, rfl, by omega⟩
    · unfold f_M_perfect_28
      refine zS_g (by unfold r32; omega) ?_ -- 262
      refine zS_i (fun h121 => ?_) (fun h121 => ?_) -- 263: (1 = 0)
      · unfold f_M_perfect_39
        refine zS_g (by omega) ?_ -- 265
        refine zS_g (by omega) ?_ -- 266
        refine zS_g (by omega) ?_ -- 267
        refine zS_b (s_mod (K := K) (a := ((B 13 w 28 y) - (B 13 w 28 y))) (b := 7) (by unfold r32; omega) (by decide) (by decide)) ?_
        rintro o123 F B ⟨rfl, rfl, q122⟩
        refine zS_b (s_toneAt (K := K) b0.1 vy (by omega)) ?_
        rintro o126 F B ⟨rfl, rfl, q125⟩
        refine zS_b (s_toneAt (K := K) b0.1 vy (by omega)) ?_
        rintro o129 F B ⟨rfl, rfl, q128⟩
        refine zS_b (s_mod (K := K) (a := (o126 - o129)) (b := 12) (by unfold r32; omega) (by decide) (by decide)) ?_
        rintro o132 F B ⟨rfl, rfl, q131⟩
        refine zS_g (by unfold r32; omega) ?_ -- 272
        refine zS_i (fun h134 => ?_) (fun h134 => ?_) -- 273: (o123 = 0)
        · refine zS_g (by unfold r32; omega) ?_ -- 274
          refine zS_i (fun h135 => ?_) (fun h135 => ?_) -- 275: (o132 = 0)
          · unfold f_M_perfect_115
            exact zS_s ⟨rfl, rfl, by omega⟩
          · unfold f_M_perfect_97
            refine zS_g (by unfold r32; omega) ?_ -- 279
            refine zS_i (fun h136 => ?_) (fun h136 => ?_) -- 280: (o123 = 4)
            · refine zS_g (by unfold r32; omega) ?_ -- 281
              refine zS_i (fun h137 => ?_) (fun h137 => ?_) -- 282: (o132 = 7)
              · unfold f_M_perfect_115
                exact zS_s ⟨rfl, rfl, by omega⟩
              · unfold f_M_perfect_114
                unfold f_M_perfect_115
                exact zS_s ⟨rfl, rfl, by omega⟩
            · unfold f_M_perfect_114
              unfold f_M_perfect_115
              exact zS_s ⟨rfl, rfl, by omega⟩
        · unfold f_M_perfect_97
          refine zS_g (by unfold r32; omega) ?_ -- 292
          refine zS_i (fun h138 => ?_) (fun h138 => ?_) -- 293: (o123 = 4)
          · refine zS_g (by unfold r32; omega) ?_ -- 294
            refine zS_i (fun h139 => ?_) (fun h139 => ?_) -- 295: (o132 = 7)
            · unfold f_M_perfect_115
              exact zS_s ⟨rfl, rfl, by omega⟩
            · unfold f_M_perfect_114
              unfold f_M_perfect_115
              exact zS_s ⟨rfl, rfl, by omega⟩
          · unfold f_M_perfect_114
            unfold f_M_perfect_115
            exact zS_s ⟨rfl, rfl, by omega⟩
      · unfold f_M_perfect_39
        refine zS_g (by omega) ?_ -- 305
        refine zS_g (by omega) ?_ -- 306
        refine zS_g (by omega) ?_ -- 307
        refine zS_b (s_mod (K := K) (a := ((B 13 w 28 y) - (B 13 w 28 z))) (b := 7) (by unfold r32; omega) (by decide) (by decide)) ?_
        rintro o141 F B ⟨rfl, rfl, q140⟩
        refine zS_b (s_toneAt (K := K) b0.1 vy (by omega)) ?_
        rintro o144 F B ⟨rfl, rfl, q143⟩
        refine zS_b (s_toneAt (K := K) b0.1 vz (by omega)) ?_
        rintro o147 F B ⟨rfl, rfl, q146⟩
        refine zS_b (s_mod (K := K) (a := (o144 - o147)) (b := 12) (by unfold r32; omega) (by decide) (by decide)) ?_
        rintro o150 F B ⟨rfl, rfl, q149⟩
        refine zS_g (by unfold r32; omega) ?_ -- 312
        refine zS_i (fun h152 => ?_) (fun h152 => ?_) -- 313: (o141 = 0)
        · refine zS_g (by unfold r32; omega) ?_ -- 314
          refine zS_i (fun h153 => ?_) (fun h153 => ?_) -- 315: (o150 = 0)
          · unfold f_M_perfect_115
            exact zS_s ⟨rfl, rfl, by omega⟩
          · unfold f_M_perfect_97
            refine zS_g (by unfold r32; omega) ?_ -- 319
            refine zS_i (fun h154 => ?_) (fun h154 => ?_) -- 320: (o141 = 4)
            · refine zS_g (by unfold r32; omega) ?_ -- 321
              refine zS_i (fun h155 => ?_) (fun h155 => ?_) -- 322: (o150 = 7)
              · unfold f_M_perfect_115
                exact zS_s ⟨rfl, rfl, by omega⟩
              · unfold f_M_perfect_114
                unfold f_M_perfect_115
                exact zS_s ⟨rfl, rfl, by omega⟩
            · unfold f_M_perfect_114
              unfold f_M_perfect_115
              exact zS_s ⟨rfl, rfl, by omega⟩
        · unfold f_M_perfect_97
          refine zS_g (by unfold r32; omega) ?_ -- 332
          refine zS_i (fun h156 => ?_) (fun h156 => ?_) -- 333: (o141 = 4)
          · refine zS_g (by unfold r32; omega) ?_ -- 334
            refine zS_i (fun h157 => ?_) (fun h157 => ?_) -- 335: (o150 = 7)
            · unfold f_M_perfect_115
              exact zS_s ⟨rfl, rfl, by omega⟩
            · unfold f_M_perfect_114
              unfold f_M_perfect_115
              exact zS_s ⟨rfl, rfl, by omega⟩
          · unfold f_M_perfect_114
            unfold f_M_perfect_115
            exact zS_s ⟨rfl, rfl, by omega⟩
theorem s_isPar134 {K : Nat} {w s : Int} {F : zF} {B : zB} (b0 : (0 ≤ w ∧ w < 3) ∧ True) {y1 y2 y3 y4 k : Int} (v1 : PV w B y1) (v2 : PV w B y2) (v3 : PV w B y3) (v4 : PV w B y4) (g1 : 0 ≤ y1) (g2 : 0 ≤ y2) (g3 : 0 ≤ y3) (g4 : 0 ≤ y4) (rk : r32 k) (rs : r32 s) : zS (f_M_isParallel_134 K y4 y3 y2 y1 w k s F B) (fun r F' B' => F' = F ∧ B' = B ∧ (r = 0 ∨ r = 1)) := by
  have vy1 := v1
  have vy2 := v2
  have vy3 := v3
  have vy4 := v4
  have c1 := v1.2.2 g1
  have c2 := v2.2.2 g2
  have c3 := v3.2.2 g3
  have c4 := v4.2.2 g4
  have d1 := v1.2.1
  have d2 := v2.2.1
  have d3 := v3.2.1
  have d4 := v4.2.1
  unfold f_M_isParallel_134
  refine zS_g (by unfold r32; omega) ?_ -- 1
  refine zS_i (fun h1 => ?_) (fun h1 => ?_) -- 2: (s = 0)
  · exact zS_s ⟨rfl, rfl, by omega⟩
  · refine zS_b (s_perfect (K := K) ⟨b0.1, True.intro⟩ vy1 vy2 (by omega) (by omega)) ?_
    rintro o3 F B ⟨rfl, rfl, q2⟩
    refine zS_b (s_perfect (K := K) ⟨b0.1, True.intro⟩ vy3 vy4 (by omega) (by omega)) ?_
    rintro o6 F B ⟨rfl, rfl, q5⟩
    refine zS_g (by unfold r32; omega) ?_ -- 6
    refine zS_i (fun h8 => ?_) (fun h8 => ?_) -- 7: (3 ≤ k)
    · refine zS_b (s_toneAt (K := K) b0.1 vy1 (by omega)) ?_
      rintro o10 F B ⟨rfl, rfl, q9⟩
      refine zS_b (s_toneAt (K := K) b0.1 vy2 (by omega)) ?_
      rintro o13 F B ⟨rfl, rfl, q12⟩
      refine zS_g (by unfold r32; omega) ?_ -- 10
      refine zS_g (by unfold r32; omega) ?_ -- 11
      refine zS_i (fun h15 => ?_) (fun h15 => ?_) -- 12: (o10 < o13)
      · refine zS_g (by omega) ?_ -- 13
        refine zS_g (by omega) ?_ -- 14
        refine zS_g (by omega) ?_ -- 15
        unfold f_M_isParallel_234
        refine zS_g (by unfold r32; omega) ?_ -- 17
        refine zS_i (fun h16 => ?_) (fun h16 => ?_) -- 18: (o3 ≤ 0)
        · unfold f_M_isParallel_265
          unfold f_M_isParallel_266
          refine zS_g (by omega) ?_ -- 21
          exact zS_s ⟨rfl, rfl, by omega⟩
        · refine zS_g (by unfold r32; omega) ?_ -- 23
          refine zS_i (fun h17 => ?_) (fun h17 => ?_) -- 24: (o6 = o3)
          · unfold f_M_isParallel_265
            unfold f_M_isParallel_266
            refine zS_g (by omega) ?_ -- 27
            exact zS_s ⟨rfl, rfl, by omega⟩
          · refine zS_g (by unfold r32; omega) ?_ -- 29
            refine zS_i (fun h18 => ?_) (fun h18 => ?_) -- 30: (2 < ((B 13 w 28 y2) - (B 13 w 28 y4)))
            · unfold f_M_isParallel_261
              unfold f_M_isParallel_266
              refine zS_g (by omega) ?_ -- 33
              exact zS_s ⟨rfl, rfl, by omega⟩
            · refine zS_i (fun h19 => ?_) (fun h19 => ?_) -- 35: ((-2) ≤ ((B 13 w 28 y2) - (B 13 w 28 y4)))
              · unfold f_M_isParallel_265
                unfold f_M_isParallel_266
                refine zS_g (by omega) ?_ -- 38
                exact zS_s ⟨rfl, rfl, by omega⟩
              · unfold f_M_isParallel_261
                unfold f_M_isParallel_266
                refine zS_g (by omega) ?_ -- 42
                exact zS_s ⟨rfl, rfl, by omega⟩
      · refine zS_g (by omega) ?_ -- 44
        refine zS_g (by omega) ?_ -- 45
        refine zS_g (by omega) ?_ -- 46
        unfold f_M_isParallel_234
        refine zS_g (by unfold r32; omega) ?_ -- 48
        refine zS_i (fun h20 => ?_) (fun h20 => ?_) -- 49: (o3 ≤ 0)
        · unfold f_M_isParallel_265
          unfold f_M_isParallel_266
          refine zS_g (by omega) ?_ -- 52
          exact zS_s ⟨rfl, rfl, by omega⟩
        · refine zS_g (by unfold r32; omega) ?_ -- 54
          refine zS_i (fun h21 => ?_) (fun h21 => ?_) -- 55: (o6 = o3)
          · unfold f_M_isParallel_265
            unfold f_M_isParallel_266
            refine zS_g (by omega) ?_ -- 58
            exact zS_s ⟨rfl, rfl, by omega⟩
          · refine zS_g (by unfold r32; omega) ?_ -- 60
            refine zS_i (fun h22 => ?_) (fun h22 => ?_) -- 61: (2 < ((B 13 w 28 y1) - (B 13 w 28 y3)))
            · unfold f_M_isParallel_261
              unfold f_M_isParallel_266
              refine zS_g (by omega) ?_ -- 64
              exact zS_s ⟨rfl, rfl, by omega⟩
            · refine zS_i (fun h23 => ?_) (fun h23 => ?_) -- 66: ((-2) ≤ ((B 13 w 28 y1) - (B 13 w 28 y3)))
              · unfold f_M_isParallel_265
                unfold f_M_isParallel_266
                refine zS_g (by omega) ?_ -- 69
                exact zS_s ⟨rfl, rfl, by omega⟩
              · unfold f_M_isParallel_261
                unfold f_M_isParallel_266
                refine zS_g (by omega) ?_ -- 73
                exact zS_s ⟨rfl, rfl, by omega⟩
    · refine zS_g (by unfold r32; omega) ?_ -- 75
      refine zS_i (fun h24 => ?_) (fun h24 => ?_) -- 76: (o3 = k)
      · refine zS_g (by unfold r32; omega) ?_ -- 77
        refine zS_i (fun h25 => ?_) (fun h25 => ?_) -- 78: (o6 = k)
        · unfold f_M_isParallel_185
          refine zS_g (by omega) ?_ -- 80
          exact zS_s ⟨rfl, rfl, by omega⟩
        · unfold f_M_isParallel_184
          unfold f_M_isParallel_185
          refine zS_g (by omega) ?_ -- 84
          exact zS_s ⟨rfl, rfl, by omega⟩
      · unfold f_M_isParallel_184
        unfold f_M_isParallel_185
        refine zS_g (by omega) ?_ -- 88
        exact zS_s ⟨rfl, rfl, by omega⟩
theorem s_isParallel {K : Nat} {V w : Int} {F : zF} {B : zB} (hR : RDW V w F B) (hM : MW5 V w F B) (hK : 1000 ≤ K) {t : Int} (t0 : 1 ≤ t) (t1 : t < F 13 w 72) {u v k : Int} (u0 : 0 ≤ u) (u1 : u < V) (v0 : 0 ≤ v) (v1 : v < V) (rk : r32 k) : zS (f_M_isParallel K w t k u v F B) (fun r F' B' => F' = F ∧ B' = B ∧ (r = 0 ∨ r = 1)) := by
  have b0 := rd_0 hR
  have m0 := hM.1
  unfold f_M_isParallel
  refine zS_b (s_lineAt (K := K) (t := t) (u := u) hR hM hK (by omega) (by omega) (by omega) (by omega)) ?_
  rintro o2 F B ⟨rfl, rfl, v1⟩
  have vo2 := v1
  obtain ⟨v1a, v1b, v1c⟩ := v1
  refine zS_b (s_lineAt (K := K) (t := t) (u := v) hR hM hK (by omega) (by omega) (by omega) (by omega)) ?_
  rintro o5 F B ⟨rfl, rfl, v4⟩
  have vo5 := v4
  obtain ⟨v4a, v4b, v4c⟩ := v4
  refine zS_b (s_lineAt (K := K) (t := (t - 1)) (u := u) hR hM hK (by omega) (by omega) (by omega) (by omega)) ?_
  rintro o8 F B ⟨rfl, rfl, v7⟩
  have vo8 := v7
  obtain ⟨v7a, v7b, v7c⟩ := v7
  refine zS_b (s_lineAt (K := K) (t := (t - 1)) (u := v) hR hM hK (by omega) (by omega) (by omega) (by omega)) ?_
  rintro o11 F B ⟨rfl, rfl, v10⟩
  have vo11 := v10
  obtain ⟨v10a, v10b, v10c⟩ := v10
  refine zS_g (by unfold r32; omega) ?_ -- 5
  refine zS_i (fun h13 => ?_) (fun h13 => ?_) -- 6: (o2 < 0)
  · unfold f_M_isParallel_77
    exact zS_s ⟨rfl, rfl, by omega⟩
  · refine zS_g (by unfold r32; omega) ?_ -- 9
    refine zS_i (fun h14 => ?_) (fun h14 => ?_) -- 10: (o5 < 0)
    · unfold f_M_isParallel_77
      exact zS_s ⟨rfl, rfl, by omega⟩
    · refine zS_g (by unfold r32; omega) ?_ -- 13
      refine zS_i (fun h15 => ?_) (fun h15 => ?_) -- 14: (o8 < 0)
      · unfold f_M_isParallel_77
        exact zS_s ⟨rfl, rfl, by omega⟩
      · refine zS_g (by unfold r32; omega) ?_ -- 17
        refine zS_i (fun h16 => ?_) (fun h16 => ?_) -- 18: (o11 < 0)
        · unfold f_M_isParallel_77
          exact zS_s ⟨rfl, rfl, by omega⟩
        · refine zS_b (s_beginsAt (K := K) (t := t) (u := u) hR hM hK (by omega) (by omega) (by omega) (by omega) (by omega)) ?_
          rintro o18 F B ⟨rfl, rfl, q17⟩
          refine zS_g (by unfold r32; omega) ?_ -- 22
          refine zS_i (fun h20 => ?_) (fun h20 => ?_) -- 23: (o18 = 0)
          · unfold f_M_isParallel_77
            exact zS_s ⟨rfl, rfl, by omega⟩
          · refine zS_b (s_beginsAt (K := K) (t := t) (u := v) hR hM hK (by omega) (by omega) (by omega) (by omega) (by omega)) ?_
            rintro o22 F B ⟨rfl, rfl, q21⟩
            refine zS_g (by unfold r32; omega) ?_ -- 27
            refine zS_i (fun h24 => ?_) (fun h24 => ?_) -- 28: (o22 = 0)
            · unfold f_M_isParallel_77
              exact zS_s ⟨rfl, rfl, by omega⟩
            · refine zS_b (s_toneAt (K := K) b0.1 vo2 (by omega)) ?_
              rintro o26 F B ⟨rfl, rfl, q25⟩
              refine zS_b (s_toneAt (K := K) b0.1 vo8 (by omega)) ?_
              rintro o29 F B ⟨rfl, rfl, q28⟩
              refine zS_b (s_toneAt (K := K) b0.1 vo5 (by omega)) ?_
              rintro o32 F B ⟨rfl, rfl, q31⟩
              refine zS_b (s_toneAt (K := K) b0.1 vo11 (by omega)) ?_
              rintro o35 F B ⟨rfl, rfl, q34⟩
              refine zS_g (by unfold r32; omega) ?_ -- 35
              refine zS_i (fun h37 => ?_) (fun h37 => ?_) -- 36: ((o26 - o29) ≤ 0)
              · unfold f_M_isParallel_119
                refine zS_g (by unfold r32; omega) ?_ -- 38
                refine zS_i (fun h38 => ?_) (fun h38 => ?_) -- 39: (0 ≤ (o26 - o29))
                · unfold f_M_isParallel_133
                  exact s_isPar134 ⟨b0.1, True.intro⟩ vo2 vo5 vo8 vo11 (by omega) (by omega) (by omega) (by omega) rk (by decide) -- 41 f_M_isParallel_134
                · refine zS_g (by unfold r32; omega) ?_ -- 42
                  refine zS_i (fun h39 => ?_) (fun h39 => ?_) -- 43: (0 ≤ (o32 - o35))
                  · unfold f_M_isParallel_133
                    exact s_isPar134 ⟨b0.1, True.intro⟩ vo2 vo5 vo8 vo11 (by omega) (by omega) (by omega) (by omega) rk (by decide) -- 45 f_M_isParallel_134
                  · unfold f_M_isParallel_129
                    exact s_isPar134 ⟨b0.1, True.intro⟩ vo2 vo5 vo8 vo11 (by omega) (by omega) (by omega) (by omega) rk (by decide) -- 47 f_M_isParallel_134
              · refine zS_g (by unfold r32; omega) ?_ -- 48
                refine zS_i (fun h40 => ?_) (fun h40 => ?_) -- 49: (0 < (o32 - o35))
                · unfold f_M_isParallel_129
                  exact s_isPar134 ⟨b0.1, True.intro⟩ vo2 vo5 vo8 vo11 (by omega) (by omega) (by omega) (by omega) rk (by decide) -- 51 f_M_isParallel_134
                · unfold f_M_isParallel_119
                  refine zS_g (by unfold r32; omega) ?_ -- 53
                  refine zS_i (fun h41 => ?_) (fun h41 => ?_) -- 54: (0 ≤ (o26 - o29))
                  · unfold f_M_isParallel_133
                    exact s_isPar134 ⟨b0.1, True.intro⟩ vo2 vo5 vo8 vo11 (by omega) (by omega) (by omega) (by omega) rk (by decide) -- 56 f_M_isParallel_134
                  · refine zS_g (by unfold r32; omega) ?_ -- 57
                    refine zS_i (fun h42 => ?_) (fun h42 => ?_) -- 58: (0 ≤ (o32 - o35))
                    · unfold f_M_isParallel_133
                      exact s_isPar134 ⟨b0.1, True.intro⟩ vo2 vo5 vo8 vo11 (by omega) (by omega) (by omega) (by omega) rk (by decide) -- 60 f_M_isParallel_134
                    · unfold f_M_isParallel_129
                      exact s_isPar134 ⟨b0.1, True.intro⟩ vo2 vo5 vo8 vo11 (by omega) (by omega) (by omega) (by omega) rk (by decide) -- 62 f_M_isParallel_134
end
end
section
section
/-! ===== faults between voices, reference: all of them ===== -/
noncomputable def X77 (B : zB) : Prop := ∀ i x, r32 (B 13 i 77 x) ∧ r32 (B 13 i 78 x) ∧ r32 (B 13 i 79 x) ∧ r32 (B 13 i 80 x)
noncomputable def BQ (w : Int) (F0 F : zF) (B0 B : zB) : Prop := (∀ c i k, ¬ (c = 13 ∧ i = w ∧ k = 76) → F c i k = F0 c i k) ∧ (0 ≤ F 13 w 76 ∧ F 13 w 76 ≤ 300) ∧ (∀ c i k x, ¬ (c = 13 ∧ i = w ∧ 77 ≤ k ∧ k ≤ 80) → B c i k x = B0 c i k x) ∧ X77 B
theorem RDW_b {V w : Int} {F F' : zF} {B B' : zB} (h : RDW V w F B) (q : BQ w F F' B B') : RDW V w F' B' := RDW_f h (fun k _ _ => q.1 13 w k (by omega)) (fun k x _ h' => q.2.2.1 13 w k x (by omega))
theorem MW5_f {V w : Int} {F F' : zF} {B B' : zB} (h : MW5 V w F B) (f : F' 13 w 72 = F 13 w 72) (b : ∀ k x, (k = 12 ∨ k = 73 ∨ k = 74 ∨ k = 75) → B' 13 w k x = B 13 w k x) : MW5 V w F' B' := by
  unfold MW5 MP at *
  rw [f]
  have b12 := fun x => b 12 x (by omega)
  have b73 := fun x => b 73 x (by omega)
  have b74 := fun x => b 74 x (by omega)
  have b75 := fun x => b 75 x (by omega)
  simp only [b12, b73, b74, b75]
  exact h
theorem MW5_b {V w : Int} {F F' : zF} {B B' : zB} (h : MW5 V w F B) (q : BQ w F F' B B') : MW5 V w F' B' := MW5_f h (q.1 13 w 72 (by omega)) (fun k x hk => q.2.2.1 13 w k x (by omega))
theorem s_flt1 {K : Nat} {w a b c d : Int} {F0 F : zF} {B0 B : zB} (w0 : 0 ≤ w ∧ w < 3) (q : BQ w F0 F B0 B) (ra : r32 a) (rb : r32 b) (rc : r32 c) (rd : r32 d) : zS (f_M_fault_1 K w a b c d F B) (fun _ F' B' => BQ w F0 F' B0 B') := by
  obtain ⟨q1, q2, q3, q4⟩ := q
  unfold f_M_fault_1
  refine zS_g w0 ?_
  refine zS_g (by unfold r32; omega) ?_
  refine zS_i (fun h => ?_) (fun h => ?_)
  · exact zS_s ⟨q1, q2, q3, q4⟩
  · refine zS_g (by omega) ?_
    refine zS_s ⟨fun c i k n => by rw [zup3_v, if_neg n]; exact q1 c i k n, by rw [zup3_v, if_pos (by omega)]; omega, fun c i k x n => by rw [zup4_v, if_neg (by omega), zup4_v, if_neg (by omega), zup4_v, if_neg (by omega), zup4_v, if_neg (by omega)]; exact q3 c i k x n, fun i x => ?_⟩
    obtain ⟨x1, x2, x3, x4⟩ := q4 i x
    have key : ∀ {C : zB} {k k' : Nat} {j v : Int}, r32 v → r32 (C 13 i k' x) → r32 ((zup4 C 13 w k j v) 13 i k' x) := fun hv hc => by
      rw [zup4_v]
      split
      · exact hv
      · exact hc
    exact ⟨key rd (key rc (key rb (key ra x1))), key rd (key rc (key rb (key ra x2))), key rd (key rc (key rb (key ra x3))), key rd (key rc (key rb (key ra x4)))⟩
theorem s_btw69 {K : Nat} {V w t k u : Int} {F0 : zF} {B0 : zB} {rec7 : Int → Int → zF → zB → zO} {rec17 : Int → Int → Int → zF → zB → zO} {rec : Int → Int → Int → Int → zF → zB → zO} {Q : Int → zF → zB → Prop} (hK : 1000 ≤ K) (hR0 : RDW V w F0 B0) (hM0 : MW5 V w F0 B0) (t0 : 1 ≤ t) (t1 : t < F0 13 w 72) (k0 : 1 ≤ k ∧ k ≤ 7) (u0 : 0 ≤ u) (u1 : u < V) (hrec : ∀ F B, BQ w F0 F B0 B → zS (rec (u + 1) k t w F B) Q) : ∀ (n : Nat) (v : Int) (F : zF) (B : zB), BQ w F0 F B0 B → 0 ≤ v → v ≤ V → V - v < n → zS (f_M_between_0_69 rec7 rec17 rec K n v u k t w F B) Q := by
  have b0 := rd_0 hR0
  have mm := hM0.1
  intro n
  induction n with
  | zero => intro v F B _ _ _ hn; exfalso; omega
  | succ n ih =>
    intro v F B q v0 v1 hn
    have hR := RDW_b hR0 q
    have hM := MW5_b hM0 q
    have e1 := q.1 13 w 1 (by omega)
    have e72 := q.1 13 w 72 (by omega)
    have nx : ∀ F B, BQ w F0 F B0 B → v < V → zS (f_M_between_0_121 rec7 rec17 rec (f_M_between_0_69 rec7 rec17 rec K n) K v u k t w F B) Q := fun F B q' hv => by
      unfold f_M_between_0_121
      exact ih (v + 1) F B q' (by omega) (by omega) (by omega)
    have ft : ∀ F B, BQ w F0 F B0 B → v < V → zS (f_M_between_0_111 rec7 rec17 rec (f_M_between_0_69 rec7 rec17 rec K n) K v u k t w F B) Q := fun F B q' hv => by
      unfold f_M_between_0_111
      refine zS_b (s_flt1 b0.1 q' (by unfold r32; omega) (by unfold r32; omega) (by unfold r32; omega) (by unfold r32; omega)) ?_
      intro _ F1 B1 q1
      exact nx F1 B1 q1 hv
    rw [f_M_between_0_69]
    refine zS_g b0.1 ?_
    refine zS_g (by unfold r32; omega) ?_
    refine zS_g (by unfold r32; omega) ?_
    refine zS_i (fun h => ?_) (fun h => ?_)
    · unfold f_M_between_0_127
      exact hrec F B q
    · refine zS_g (by unfold r32; omega) ?_
      refine zS_i (fun h2 => ?_) (fun h2 => ?_)
      · refine zS_b (s_isCrossed (K := K) hR hM hK t0 (by omega) u0 u1 v0 (by omega)) ?_
        rintro r F B ⟨rfl, rfl, hr⟩
        refine zS_g (by unfold r32; omega) ?_
        refine zS_i (fun h3 => ?_) (fun h3 => ?_)
        · exact nx _ _ q (by omega)
        · exact ft _ _ q (by omega)
      · refine zS_b (s_isParallel (K := K) hR hM hK t0 (by omega) u0 u1 v0 (by omega) (by unfold r32; omega)) ?_
        rintro r F B ⟨rfl, rfl, hr⟩
        refine zS_g (by unfold r32; omega) ?_
        refine zS_i (fun h3 => ?_) (fun h3 => ?_)
        · exact nx _ _ q (by omega)
        · exact ft _ _ q (by omega)
theorem s_btw26 {K : Nat} {V w t k : Int} {F0 : zF} {B0 : zB} {rec7 : Int → Int → zF → zB → zO} {rec : Int → Int → Int → zF → zB → zO} {Q : Int → zF → zB → Prop} (hK : 1000 ≤ K) (hR0 : RDW V w F0 B0) (hM0 : MW5 V w F0 B0) (t0 : 1 ≤ t) (t1 : t < F0 13 w 72) (k0 : 1 ≤ k ∧ k ≤ 7) (hrec : ∀ F B, BQ w F0 F B0 B → zS (rec (k + 1) t w F B) Q) : ∀ (n : Nat) (u : Int) (F : zF) (B : zB), BQ w F0 F B0 B → 0 ≤ u → u ≤ V → V - u < n → zS (f_M_between_0_26 rec7 rec K n u k t w F B) Q := by
  have b0 := rd_0 hR0
  have mm := hM0.1
  intro n
  induction n with
  | zero => intro v F B _ _ _ hn; exfalso; omega
  | succ n ih =>
    intro u F B q u0 u1 hn
    have hR := RDW_b hR0 q
    have hM := MW5_b hM0 q
    have e1 := q.1 13 w 1 (by omega)
    have e72 := q.1 13 w 72 (by omega)
    rw [f_M_between_0_26]
    refine zS_g b0.1 ?_
    refine zS_g (by unfold r32; omega) ?_
    refine zS_g (by unfold r32; omega) ?_
    refine zS_i (fun h => ?_) (fun h => ?_)
    · exact hrec F B q
    · refine zS_g (by unfold r32; omega) ?_
      refine zS_i (fun h2 => ?_) (fun h2 => ?_)
      · exact s_btw69 hK hR0 hM0 t0 t1 k0 u0 (by omega) (fun F B q' => ih (u + 1) F B q' (by omega) (by omega) (by omega)) K (u + 1) F B q (by omega) (by omega) (by omega)
      · refine zS_b (s_isAlone (K := K) hR hM hK t0 (by omega) u0 (by omega) (by unfold r32; omega)) ?_
        rintro r F B ⟨rfl, rfl, hr⟩
        refine zS_g (by unfold r32; omega) ?_
        refine zS_i (fun h3 => ?_) (fun h3 => ?_)
        · unfold f_M_between_0_127
          exact ih (u + 1) _ _ q (by omega) (by omega) (by omega)
        · refine zS_b (s_flt1 b0.1 q (by unfold r32; omega) (by unfold r32; omega) (by unfold r32; omega) (by decide)) ?_
          intro _ F1 B1 q1
          unfold f_M_between_0_127
          exact ih (u + 1) _ _ q1 (by omega) (by omega) (by omega)
theorem s_btw17 {K : Nat} {V w t : Int} {F0 : zF} {B0 : zB} {rec : Int → Int → zF → zB → zO} {Q : Int → zF → zB → Prop} (hK : 1000 ≤ K) (hR0 : RDW V w F0 B0) (hM0 : MW5 V w F0 B0) (t0 : 1 ≤ t) (t1 : t < F0 13 w 72) (hrec : ∀ F B, BQ w F0 F B0 B → zS (rec (t + 1) w F B) Q) : ∀ (n : Nat) (k : Int) (F : zF) (B : zB), BQ w F0 F B0 B → 1 ≤ k → k ≤ 7 → 7 - k < n → zS (f_M_between_0_17 rec K n k t w F B) Q := by
  have b0 := rd_0 hR0
  intro n
  induction n with
  | zero => intro v F B _ _ _ hn; exfalso; omega
  | succ n ih =>
    intro k F B q k0 k1 hn
    rw [f_M_between_0_17]
    refine zS_g (by unfold r32; omega) ?_
    refine zS_i (fun h => ?_) (fun h => ?_)
    · exact hrec F B q
    · exact s_btw26 hK hR0 hM0 t0 t1 ⟨k0, k1⟩ (fun F B q' => ih (k + 1) F B q' (by omega) (by omega) (by omega)) K 0 F B q (by decide) (by omega) (by omega)
theorem s_btw7 {K : Nat} {V w : Int} {F0 : zF} {B0 : zB} (hK : 1000 ≤ K) (hR0 : RDW V w F0 B0) (hM0 : MW5 V w F0 B0) : ∀ (n : Nat) (t : Int) (F : zF) (B : zB), BQ w F0 F B0 B → 1 ≤ t → t ≤ 801 → 801 - t < n → zS (f_M_between_0_7 K n t w F B) (fun _ F' B' => BQ w F0 F' B0 B') := by
  have b0 := rd_0 hR0
  have mm := hM0.1
  intro n
  induction n with
  | zero => intro t F B q t0 t1 hn; exfalso; omega
  | succ n ih =>
    intro t F B q t0 t1 hn
    have e72 := q.1 13 w 72 (by omega)
    rw [f_M_between_0_7]
    refine zS_g b0.1 ?_
    refine zS_g (by unfold r32; omega) ?_
    refine zS_g (by unfold r32; omega) ?_
    refine zS_i (fun h => ?_) (fun h => ?_)
    · exact zS_s q
    · exact s_btw17 hK hR0 hM0 t0 (by omega) (fun F B q' => ih (t + 1) F B q' (by omega) (by omega) (by omega)) K 1 F B q (by decide) (by decide) (by omega)
theorem s_between {K : Nat} {V w : Int} {F : zF} {B : zB} (hK : 1000 ≤ K) (hR : RDW V w F B) (hM : MW5 V w F B) (hX : X77 B) : zS (f_M_between_0 K w F B) (fun _ F' B' => BQ w F F' B B') := by
  have b0 := rd_0 hR
  unfold f_M_between_0
  refine zS_g b0.1 ?_
  exact s_btw7 hK hR hM K 1 _ B ⟨fun c i k n => by rw [zup3_v, if_neg n], by rw [zup3_v, if_pos (by omega)]; decide, fun _ _ _ _ _ => rfl, hX⟩ (by decide) (by decide) (by omega)
end
end
