section
section
/-! ===== a text read into the work piece, whatever comes of it: what stays ===== -/
def IR (K : zK) (Km : Nat) (p p0 p1 w w0 w1 : Int) (F : zF) (B : zB) (Fm : zF) (Bm : zB) : Prop := IA K Km ∧ IB F ∧ ID K B Bm ∧ (F 12 0 7 = p ∧ B 12 0 3 0 = p0 ∧ B 12 0 3 1 = p1 ∧ Fm 14 0 6 = w ∧ Bm 14 0 5 0 = w0 ∧ Bm 14 0 5 1 = w1) ∧ IW w w0 w1 ∧ IQp K p p0 p1 ∧ IG K p p0 p1 B ∧ IF K F ∧ SL K p0 w0 F B Fm Bm ∧ SL K p1 w1 F B Fm Bm
/-- what reading a text into piece p, w may change -/
def PhF (K K' : zK) (p w : Int) (F : zF) (B : zB) (Fm : zF) (Bm : zB) (F' : zF) (B' : zB) (Fm' : zF) (Bm' : zB) : Prop :=
  (K'.1 = K.1 ∧ (∀ c, K.2 c ≤ K'.2 c) ∧ (∀ c, ¬ (c = 1 ∨ c = 4) → K'.2 c = K.2 c) ∧ K'.2 1 = K.2 1 + 200 * (K'.2 4 - K.2 4) ∧ K'.2 4 + em B' p = K.2 4 + em B p) ∧
  (∀ c y k, y < K.2 c → ¬ (c = 0 ∧ y = 0) → ¬ (c = 10 ∧ y = 0) → ¬ (c = 3 ∧ y = 0 ∧ k ≠ 11) → ¬ (c = 11 ∧ y = 0) → ¬ (c = 6 ∧ y = p ∧ (1 ≤ k ∧ k ≤ 7 ∨ k = 10 ∨ k = 11 ∨ k = 13)) → ¬ (c = 2 ∧ y = F 6 p 8 ∧ k = 0) → ¬ (c = 4 ∧ ∃ v, 0 ≤ v ∧ v < 4 ∧ y = B 6 p 0 v) → ¬ (c = 1 ∧ ∃ v, 0 ≤ v ∧ v < 4 ∧ 0 ≤ B' 6 p 0 v ∧ ownE B' (B' 6 p 0 v) y) → F' c y k = F c y k) ∧
  (∀ c y k x, y < K.2 c → ¬ (c = 3 ∧ y = 0) → ¬ (c = 10 ∧ y = 0) → ¬ (c = 11 ∧ y = 0) → ¬ (c = 6 ∧ y = p ∧ k = 0) → ¬ (c = 4 ∧ 5 ≤ k ∧ ∃ v, 0 ≤ v ∧ v < 4 ∧ y = B 6 p 0 v) → ¬ (c = 1 ∧ ∃ v, 0 ≤ v ∧ v < 4 ∧ 0 ≤ B' 6 p 0 v ∧ ownE B' (B' 6 p 0 v) y) → B' c y k x = B c y k x) ∧
  (∀ v, 0 ≤ v → v < 4 → B' 6 p 0 v = B 6 p 0 v ∨ (B 6 p 0 v < 0 ∧ K.2 4 ≤ B' 6 p 0 v)) ∧
  (∀ c i k, ¬ (c = 14 ∧ i = 0 ∧ (k ≤ 1 ∨ k = 3 ∨ (12 ≤ k ∧ k ≤ 57))) → ¬ (c = 13 ∧ i = w ∧ 1 ≤ k ∧ k ≤ 7) → Fm' c i k = Fm c i k) ∧
  (∀ c i k x, ¬ (c = 14 ∧ i = 0 ∧ (7 ≤ k ∧ k ≤ 11 ∨ 25 ≤ k ∧ k ≤ 34 ∨ 42 ≤ k ∧ k ≤ 51)) → ¬ (c = 13 ∧ i = w ∧ 8 ≤ k ∧ k ≤ 35) → Bm' c i k x = Bm c i k x) ∧
  (GS K' B' ∧ (∀ j, r32 (B' 10 0 5 j)) ∧ (∀ q s, 0 ≤ q → q < K'.2 4 → 0 ≤ s → s < 63 → r32 (B' 4 q 12 s)))
theorem IR_ph {K K' : zK} {Km : Nat} {p p0 p1 w w0 w1 : Int} {F F' : zF} {B B' : zB} {Fm Fm' : zF} {Bm Bm' : zB} (h : IR K Km p p0 p1 w w0 w1 F B Fm Bm) (hp : 0 ≤ p) (f : PhF K K' p w F B Fm Bm F' B' Fm' Bm') : IR K' Km p p0 p1 w w0 w1 F' B' Fm' Bm' := by
  obtain ⟨⟨a1, a2, a3⟩, hB, ⟨d1, d2, d3, d4, d5, d6, d7⟩, ⟨n1, n2, n3, n4, n5, n6⟩, hW, hQ, hG, hF, s0, s1⟩ := h
  obtain ⟨⟨k1, k2, k3, k4, k5⟩, fF, fB, fS, fM, fN, g1, g2, g3⟩ := f
  obtain ⟨⟨q1, q2, q3⟩, q4, q5⟩ := hQ
  have kk : ∀ c, ¬ (c = 1 ∨ c = 4) → K'.2 c = K.2 c := k3
  have f12 : ∀ k, F' 12 0 k = F 12 0 k := fun k => fF 12 0 k (by first | decide | omega) (by first | decide | omega) (by first | decide | omega) (by first | decide | omega) (by first | decide | omega) (by first | decide | omega) (by first | decide | omega) (by first | decide | omega) (by first | decide | omega)
  have b12 : ∀ k x, B' 12 0 k x = B 12 0 k x := fun k x => fB 12 0 k x (by first | decide | omega) (by first | decide | omega) (by first | decide | omega) (by first | decide | omega) (by first | decide | omega) (by first | decide | omega) (by first | decide | omega)
  have b6 : ∀ y, y < K.2 6 → ¬ y = p → ∀ k x, B' 6 y k x = B 6 y k x := fun y hy hn k x => fB 6 y k x hy (by first | decide | omega) (by first | decide | omega) (by first | decide | omega) (by first | decide | omega) (by first | decide | omega) (by first | decide | omega)
  have hsl : ∀ y v, ¬ y = p → ¬ v = w → SL K y v F B Fm Bm → SL K' y v F' B' Fm' Bm' := fun y v hy hv s => by
    have np : ∀ q, (∃ u, 0 ≤ u ∧ u < 4 ∧ B 6 y 0 u = q) → 0 ≤ q → 0 ≤ y → y < K.2 6 → ¬ ∃ u, 0 ≤ u ∧ u < 4 ∧ q = B 6 p 0 u := fun q ⟨u, u0, u1, e⟩ hq y0 y1 ⟨u', u0', u1', e'⟩ => hy (d1.2.2.1 y u p u' y0 y1 u0 u1 hp q1 u0' u1' (by first | decide | omega) (by first | decide | omega)).1
    refine SL_e s k2 (fun y0 y1 k _ => fF 6 y k y1 (by first | decide | omega) (by first | decide | omega) (by first | decide | omega) (by first | decide | omega) (by first | decide | omega) (by first | decide | omega) (by first | decide | omega) (by first | decide | omega)) (fun y0 y1 v => b6 y y1 hy 0 v) (fun q k a b e y0 y1 => ?_) (fun q i k a b e y0 y1 i0 i1 => ?_) (fun k => fM 13 v k (by first | decide | omega) (by first | decide | omega)) (fun k x => fN 13 v k x (by first | decide | omega) (by first | decide | omega))
    · have := np q e a y0 y1
      exact ⟨fF 4 q k b (by first | decide | omega) (by first | decide | omega) (by first | decide | omega) (by first | decide | omega) (by first | decide | omega) (by first | decide | omega) (fun z => this z.2) (by first | decide | omega), fun x => fB 4 q k x b (by first | decide | omega) (by first | decide | omega) (by first | decide | omega) (by first | decide | omega) (fun z => this z.2.2) (by first | decide | omega)⟩
    · have nq := np q e a y0 y1
      have hi := d1.2.2.2.1 q i a b i0 i1
      have b5 : B' 4 q 5 i = B 4 q 5 i := fB 4 q 5 i b (by first | decide | omega) (by first | decide | omega) (by first | decide | omega) (by first | decide | omega) (fun z => nq z.2.2) (by first | decide | omega)
      have no : ¬ ∃ v, 0 ≤ v ∧ v < 4 ∧ 0 ≤ B' 6 p 0 v ∧ ownE B' (B' 6 p 0 v) (B 4 q 5 i) := fun ⟨t, t0, t1, t2, j, j0, j1, je⟩ => by
        have l := g1.2.1 p t hp (by rw [kk 6 (by decide)]; exact q1) t0 t1
        have := (g1.2.2.2.2 (B' 6 p 0 t) j q i t2 l j0 j1 a (Int.lt_of_lt_of_le b (k2 4)) i0 i1 (by rw [je, b5])).1
        rcases fS t t0 t1 with z | z
        · exact nq ⟨t, t0, t1, (by first | decide | omega)⟩
        · omega
      exact ⟨fF 1 _ k hi.2 (by first | decide | omega) (by first | decide | omega) (by first | decide | omega) (by first | decide | omega) (by first | decide | omega) (by first | decide | omega) (by first | decide | omega) (fun z => no z.2), fun x => fB 1 _ k x hi.2 (by first | decide | omega) (by first | decide | omega) (by first | decide | omega) (by first | decide | omega) (by first | decide | omega) (fun z => no z.2)⟩
  have w13 : ∀ i k x, 36 ≤ k → Bm' 13 i k x = Bm 13 i k x := fun i k x hk => fN 13 i k x (by first | decide | omega) (by first | decide | omega)
  refine ⟨⟨by rw [k1]; exact a1, a2, ?_⟩, ?_, ⟨g1, g2, g3, ?_, XS_f d5 (fun i k x a b => w13 i k x a) (fun x => fN 14 0 58 x (by first | decide | omega) (by first | decide | omega)), XC_f d6 (fun i k x hk => w13 i k x (by first | decide | omega)), X77_f d7 (fun i k x a b => w13 i k x (by first | decide | omega))⟩, ⟨by rw [f12]; exact n1, by rw [b12]; exact n2, by rw [b12]; exact n3, by rw [fM 14 0 6 (by first | decide | omega) (by first | decide | omega)]; exact n4, by rw [fN 14 0 5 0 (by first | decide | omega) (by first | decide | omega)]; exact n5, by rw [fN 14 0 5 1 (by first | decide | omega) (by first | decide | omega)]; exact n6⟩, hW, ?_, ?_, ?_, hsl p0 w0 (q4 hp).1 hW.2.2.2.1 s0, hsl p1 w1 (q4 hp).2 hW.2.2.2.2.1 s1⟩
  · rw [kk 0 (by decide), kk 2 (by decide), kk 3 (by decide), kk 5 (by decide), kk 7 (by decide), kk 8 (by decide), kk 9 (by decide), kk 10 (by decide), kk 11 (by decide), kk 12 (by decide)]
    exact a3
  · unfold IB at *
    rw [f12, f12, f12, f12, f12, fF 3 0 11 (by first | decide | omega) (by first | decide | omega) (by first | decide | omega) (by first | decide | omega) (by first | decide | omega) (by first | decide | omega) (by first | decide | omega) (by first | decide | omega) (by first | decide | omega)]
    exact hB
  · unfold MW at *
    have r : ∀ k, 13 ≤ k → k ≤ 15 → Bm' 14 0 k = Bm 14 0 k := fun k a b => by funext y; exact fN 14 0 k y (by first | decide | omega) (by first | decide | omega)
    rw [r 13 (by decide) (by decide), r 14 (by decide) (by decide), r 15 (by decide) (by decide)]
    exact d4
  · unfold IQp
    rw [kk 6 (by decide)]
    exact ⟨⟨q1, q2, q3⟩, q4, q5⟩
  · unfold IG at *
    have e0 : slE B' p0 = slE B p0 := slE_e (fun a v => b6 p0 q2 (q4 hp).1 0 v)
    have e1 : slE B' p1 = slE B p1 := slE_e (fun a v => b6 p1 q3 (q4 hp).2 0 v)
    have e : ∀ C : zB, slE C p = em C p := fun C => by unfold slE; rw [if_neg (by first | decide | omega)]
    rw [kk 6 (by decide), e0, e1, e B']
    rw [e B] at hG
    omega
  · intro y y0 y1
    rw [kk 6 (by decide)] at y1
    rw [kk 2 (by decide), kk 5 (by decide), kk 9 (by decide)]
    have g : ∀ k, ¬ (1 ≤ k ∧ k ≤ 7 ∨ k = 10 ∨ k = 11 ∨ k = 13) → F' 6 y k = F 6 y k := fun k hk => fF 6 y k y1 (by first | decide | omega) (by first | decide | omega) (by first | decide | omega) (by first | decide | omega) (by first | decide | omega) (by first | decide | omega) (by first | decide | omega) (by first | decide | omega)
    rw [g 8 (by decide), g 9 (by decide), g 12 (by decide)]
    exact hF y y0 y1
/-- the work piece is cleared -/
theorem C_pclr {K : zK} {p : Int} {F : zF} {B : zB} (hp : 0 ≤ p ∧ p < K.2 6) (h8 : F 6 p 8 < K.2 2) : ∃ F', f_Piece_clear K p F B = some (0, F', B) ∧ (∀ c y k, ¬ (c = 6 ∧ y = p ∧ (1 ≤ k ∧ k ≤ 7 ∨ k = 10 ∨ k = 11 ∨ k = 13)) → ¬ (c = 2 ∧ y = F 6 p 8 ∧ k = 0) → F' c y k = F c y k) ∧ (F' 6 p 1 = 0 ∧ F' 6 p 2 = 0 ∧ F' 6 p 3 = 0 ∧ F' 6 p 4 = 4 ∧ F' 6 p 5 = 4 ∧ F' 6 p 6 = 120 ∧ F' 6 p 10 = 0 ∧ F' 6 p 11 = 0 ∧ F' 6 p 13 = 0) ∧ (0 ≤ F 6 p 8 → F' 2 (F 6 p 8) 0 = 0) := by
  unfold f_Piece_clear f_Piece_clear_66
  rw [if_pos hp]
  by_cases a : F 6 p 8 < 0
  · rw [if_pos a]
    refine ⟨_, rfl, fun c y k b d => ?_, ⟨?_, ?_, ?_, ?_, ?_, ?_, ?_, ?_, ?_⟩, fun z => (by first | decide | omega)⟩
    · rw [zup3_v, if_neg (by first | decide | omega), zup3_v, if_neg (by first | decide | omega), zup3_v, if_neg (by first | decide | omega), zup3_v, if_neg (by first | decide | omega), zup3_v, if_neg (by first | decide | omega), zup3_v, if_neg (by first | decide | omega), zup3_v, if_neg (by first | decide | omega), zup3_v, if_neg (by first | decide | omega), zup3_v, if_neg (by first | decide | omega), zup3_v, if_neg (by first | decide | omega)]
    all_goals simp [zup3_v]
  · rw [if_neg a, if_pos (by first | decide | omega)]
    refine ⟨_, rfl, fun c y k b d => ?_, ⟨?_, ?_, ?_, ?_, ?_, ?_, ?_, ?_, ?_⟩, fun z => ?_⟩
    · rw [zup3_v, if_neg (by first | decide | omega), zup3_v, if_neg (by first | decide | omega), zup3_v, if_neg (by first | decide | omega), zup3_v, if_neg (by first | decide | omega), zup3_v, if_neg (by first | decide | omega), zup3_v, if_neg (by first | decide | omega), zup3_v, if_neg (by first | decide | omega), zup3_v, if_neg (by first | decide | omega), zup3_v, if_neg (by first | decide | omega), zup3_v, if_neg (by first | decide | omega), zup3_v, if_neg (by first | decide | omega)]
    all_goals simp [zup3_v]
end
end
section
section
/-! ===== read, both sides ===== -/
theorem PhF_1 {K K3 : zK} {p w : Int} {F F2 F3 F4 : zF} {B B3 : zB} {Fm Fm3 : zF} {Bm Bm3 : zB} (h2 : ∀ c y k, ¬ (c = 6 ∧ y = p ∧ (1 ≤ k ∧ k ≤ 7 ∨ k = 10 ∨ k = 11 ∨ k = 13)) → ¬ (c = 2 ∧ y = F 6 p 8 ∧ k = 0) → F2 c y k = F c y k) (f : PF K p w F2 B Fm Bm K3 F3 B3 Fm3 Bm3) (g : GS K3 B3) (r : ∀ q s, 0 ≤ q → q < K.2 4 → 0 ≤ s → s < 63 → r32 (B 4 q 12 s)) (h4 : ∀ c y k, ¬ (c = 0 ∧ y = 0) → F4 c y k = F3 c y k) : PhF K K3 p w F B Fm Bm F4 B3 Fm3 Bm3 := by
  obtain ⟨a1, a2, a3, a4, a5, a6, a7, a8, ⟨a9, a10, a11⟩, _, _⟩ := f
  refine ⟨⟨a1.1, a1.2, a9, a10, a11⟩, fun c y k y1 b1 b2 b3 b4 b5 b6 b7 b8 => ?_, fun c y k x y1 b1 b2 b3 b4 b5 b6 => a3 c y k x y1 b1 b2 b4, a4, fun c i k b1 b2 => a5 c i k (by first | decide | omega) (by first | decide | omega), fun c i k x b1 b2 => a6 c i k x (by first | decide | omega) (by first | decide | omega), g, a7, fun q s q0 q1 s0 s1 => ?_⟩
  · rw [h4 c y k b1, a2 c y k y1 b2 b3 (by first | decide | omega) b7, h2 c y k b5 b6]
  · by_cases e : q < K.2 4
    · rw [a3 4 q 12 s e (by first | decide | omega) (by first | decide | omega) (by first | decide | omega)]; exact r q s q0 e s0 s1
    · exact a8 q s (by first | decide | omega) q1
theorem PhF_2 {K K3 : zK} {p w : Int} {F F3 F1 F' : zF} {B B3 B1 : zB} {Fm Fm3 Fm1 Fm' : zF} {Bm Bm3 Bm1 : zB} (hp : 0 ≤ p ∧ p < K.2 6) (f : PhF K K3 p w F B Fm Bm F3 B3 Fm3 Bm3) (v : VTF p w F3 B3 (zup3 Fm3 14 0 35 0) Bm3 F1 B1 Fm1 Bm1) (g : GS K3 B1) (h1 : ∀ c y k, ¬ (c = 0 ∧ y = 0 ∧ (k = 1 ∨ k = 2)) → ¬ (c = 6 ∧ y = p ∧ k = 7) → F' c y k = F1 c y k) (h2 : ∀ c y j, ¬ (c = 14 ∧ y = 0 ∧ (j ≤ 1 ∨ j = 17 ∨ j = 18)) → Fm' c y j = Fm1 c y j) (k10 : 0 < K.2 10) : PhF K K3 p w F B Fm Bm F' B1 Fm' Bm1 := by
  obtain ⟨⟨k1, k2, k3, k4, k5⟩, fF, fB, fS, fM, fN, g1, g2, g3⟩ := f
  obtain ⟨v1, v2, v3, v4, v5, v6⟩ := v
  have e6 : ∀ u, B1 6 p 0 u = B3 6 p 0 u := fun u => v2 6 p 0 u (by first | decide | omega) (by first | decide | omega) (by first | decide | omega)
  have own : ∀ y, (∃ u, 0 ≤ u ∧ u < 4 ∧ 0 ≤ B3 6 p 0 u ∧ ownE B3 (B3 6 p 0 u) y) → ∃ u, 0 ≤ u ∧ u < 4 ∧ 0 ≤ B1 6 p 0 u ∧ ownE B1 (B1 6 p 0 u) y := fun y ⟨u, u0, u1, u2, u3⟩ => ⟨u, u0, u1, by rw [e6]; exact u2, by rw [e6]; exact (v3 u y u0 u1).mpr u3⟩
  have old : ∀ y, y < K.2 4 → (∃ u, 0 ≤ u ∧ u < 4 ∧ 0 ≤ B3 6 p 0 u ∧ y = B3 6 p 0 u) → ∃ u, 0 ≤ u ∧ u < 4 ∧ y = B 6 p 0 u := fun y hy ⟨u, u0, u1, u2, u3⟩ => by
    rcases fS u u0 u1 with z | z
    · exact ⟨u, u0, u1, (by first | decide | omega)⟩
    · omega
  refine ⟨⟨k1, k2, k3, k4, by rw [em_e e6]; exact k5⟩, fun c y k y1 b1 b2 b3 b4 b5 b6 b7 b8 => ?_, fun c y k x y1 b1 b2 b3 b4 b5 b6 => ?_, fun u u0 u1 => by rw [e6]; exact fS u u0 u1, fun c i k b1 b2 => ?_, fun c i k x b1 b2 => ?_, g, fun j => ?_, fun q s q0 q1 s0 s1 => v6 q (fun t t0 t1 => g3 q t q0 q1 t0 t1) s s0 s1⟩
  · rw [h1 c y k (by first | decide | omega) (by first | decide | omega), v1 c y k b4 (fun z => b7 ⟨z.1, old y (by have := z.1; subst this; exact y1) z.2.2⟩) (fun z => b8 ⟨z.1, own y z.2⟩), fF c y k y1 b1 b2 b3 b4 b5 b6 b7 (fun z => b8 ⟨z.1, own y z.2⟩)]
  · rw [v2 c y k x b3 (fun z => b5 ⟨z.1, z.2.1, old y (by have := z.1; subst this; exact y1) z.2.2⟩) (fun z => b6 ⟨z.1, own y z.2⟩), fB c y k x y1 b1 b2 b3 b4 b5 (fun z => b6 ⟨z.1, own y z.2⟩)]
  · rw [h2 c i k (by first | decide | omega), v4 c i k (by first | decide | omega) (by first | decide | omega), zup3_v, if_neg (by first | decide | omega), fM c i k b1 b2]
  · rw [v5 c i k x (by first | decide | omega) (by first | decide | omega), fN c i k x b1 b2]
  · rw [v2 10 0 5 j (by first | decide | omega) (by first | decide | omega) (by first | decide | omega)]; exact g2 j
theorem zb_as {x : zO} {t : zF → zB → zO} {k : Int → zF → zB → zO} : zbind x (fun _ F B => zbind (t F B) k) = zbind (zbind x (fun _ F B => t F B)) k := by
  cases x with
  | none => rfl
  | some q => rfl
end
end
