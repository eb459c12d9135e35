section
/-! ===== what stands between calls: the tape and the pieces ===== -/
def IA (K : zK) (Km : Nat) : Prop := 3002 ≤ K.1 ∧ 70000000000 < Km ∧ (2 ≤ K.2 0 ∧ 0 ≤ K.2 2 ∧ 0 < K.2 3 ∧ 0 ≤ K.2 5 ∧ 0 < K.2 7 ∧ 0 ≤ K.2 8 ∧ 0 ≤ K.2 9 ∧ 0 < K.2 10 ∧ 0 < K.2 11 ∧ 0 < K.2 12)
def IB (F : zF) : Prop := F 12 0 0 = 0 ∧ F 12 0 2 = 1 ∧ F 12 0 4 = 0 ∧ F 12 0 5 = 0 ∧ F 12 0 6 = 0 ∧ F 3 0 11 = 0
def ID (K : zK) (B Bm : zB) : Prop := GS K B ∧ (∀ j, r32 (B 10 0 5 j)) ∧ (∀ q s, 0 ≤ q → q < K.2 4 → 0 ≤ s → s < 63 → r32 (B 4 q 12 s)) ∧ MW Bm ∧ XS Bm ∧ XC Bm ∧ X77 Bm
def IT (F : zF) (B : zB) (Fm : zF) (Bm : zB) : Prop := F 0 0 1 = Fm 14 0 3 ∧ 0 ≤ F 0 0 1 ∧ F 0 0 1 ≤ 3000 ∧ (∀ y, 0 ≤ B 0 0 0 y ∧ B 0 0 0 y < 256) ∧ tmB Bm = B 0 0 0
def SL (K : zK) (p w : Int) (F : zF) (B : zB) (Fm : zF) (Bm : zB) : Prop := (p < 0 ∧ Fm 13 w 0 = 0) ∨ (0 ≤ p ∧ Fm 13 w 0 = 1 ∧ ∃ V, PK K V p w F B Fm Bm ∧ MK V w Fm Bm)
/-- the places: the work piece and the two that are kept -/
def IW (w w0 w1 : Int) : Prop := (0 ≤ w ∧ w < 3) ∧ (0 ≤ w0 ∧ w0 < 3) ∧ (0 ≤ w1 ∧ w1 < 3) ∧ ¬ w0 = w ∧ ¬ w1 = w ∧ ¬ w0 = w1
def IQp (K : zK) (p p0 p1 : Int) : Prop := (p < K.2 6 ∧ p0 < K.2 6 ∧ p1 < K.2 6) ∧ (0 ≤ p → ¬ p0 = p ∧ ¬ p1 = p) ∧ (0 ≤ p0 → ¬ p0 = p1)
def slE (B : zB) (p : Int) : Int := if p < 0 then 0 else em B p
def slN (p : Int) : Int := if p < 0 then 1 else 0
def IG (K : zK) (p p0 p1 : Int) (B : zB) : Prop := K.2 6 + slN p + slN p0 + slN p1 = 3 ∧ K.2 4 + slE B p + slE B p0 + slE B p1 = 4 * K.2 6 ∧ K.2 1 = 1 + 200 * K.2 4
def IF (K : zK) (F : zF) : Prop := ∀ p, 0 ≤ p → p < K.2 6 → F 6 p 8 < K.2 2 ∧ F 6 p 9 < K.2 5 ∧ F 6 p 12 < K.2 9
def IC (K : zK) (Km : Nat) (p p0 p1 w w0 w1 : Int) (F : zF) (B : zB) (Fm : zF) (Bm : zB) : Prop := IA K Km ∧ IB F ∧ ID K B Bm ∧ IT F B Fm Bm ∧ (F 12 0 7 = p ∧ B 12 0 3 0 = p0 ∧ B 12 0 3 1 = p1 ∧ Fm 14 0 6 = w ∧ Bm 14 0 5 0 = w0 ∧ Bm 14 0 5 1 = w1) ∧ IW w w0 w1 ∧ IQp K p p0 p1 ∧ IG K p p0 p1 B ∧ IF K F ∧ SL K p0 w0 F B Fm Bm ∧ SL K p1 w1 F B Fm Bm
/-- a piece that is not touched stays as it is -/
theorem SL_e {K K' : zK} {p w : Int} {F F' : zF} {B B' : zB} {Fm Fm' : zF} {Bm Bm' : zB} (h : SL K p w F B Fm Bm) (hk : ∀ c, K.2 c ≤ K'.2 c) (f6 : 0 ≤ p → p < K.2 6 → ∀ k, k ≤ 7 → F' 6 p k = F 6 p k) (b6 : 0 ≤ p → p < K.2 6 → ∀ v, B' 6 p 0 v = B 6 p 0 v) (f4 : ∀ q k, 0 ≤ q → q < K.2 4 → (∃ u, 0 ≤ u ∧ u < 4 ∧ B 6 p 0 u = q) → 0 ≤ p → p < K.2 6 → F' 4 q k = F 4 q k ∧ ∀ x, B' 4 q k x = B 4 q k x) (f1 : ∀ q i k, 0 ≤ q → q < K.2 4 → (∃ u, 0 ≤ u ∧ u < 4 ∧ B 6 p 0 u = q) → 0 ≤ p → p < K.2 6 → 0 ≤ i → i < 200 → F' 1 (B 4 q 5 i) k = F 1 (B 4 q 5 i) k ∧ ∀ x, B' 1 (B 4 q 5 i) k x = B 1 (B 4 q 5 i) k x) (fm : ∀ k, Fm' 13 w k = Fm 13 w k) (bm : ∀ k x, Bm' 13 w k x = Bm 13 w k x) : SL K' p w F' B' Fm' Bm' := by
  rcases h with ⟨a, b⟩ | ⟨a, b, V, c, d⟩
  · exact Or.inl ⟨a, by rw [fm]; exact b⟩
  · refine Or.inr ⟨a, by rw [fm]; exact b, V, ?_, MK_e d ⟨fm 7, fm 72, fm 76⟩ (by funext k x; exact bm k x)⟩
    have hp := c.1.1
    have hV := c.1.2.2.1
    have hq : ∀ u, 0 ≤ u → u < V → (0 ≤ B 6 p 0 u ∧ B 6 p 0 u < K.2 4) := fun u u0 u1 => (c.2.2 u u0 u1).1.1
    refine PK_e c hk (f6 hp.1 hp.2) (by funext v; exact b6 hp.1 hp.2 v) (fun u u0 u1 => ?_) (fun u u0 u1 => ?_) (fun u i u0 u1 i0 i1 => ?_) (fun u i u0 u1 i0 i1 => ?_) (fun k _ _ => fm k) (fun k x _ => bm k x)
    · funext k; exact (f4 _ k (hq u u0 u1).1 (hq u u0 u1).2 ⟨u, u0, (by first | decide | omega), rfl⟩ hp.1 hp.2).1
    · funext k x; exact (f4 _ k (hq u u0 u1).1 (hq u u0 u1).2 ⟨u, u0, (by first | decide | omega), rfl⟩ hp.1 hp.2).2 x
    · funext k; exact (f1 _ i k (hq u u0 u1).1 (hq u u0 u1).2 ⟨u, u0, (by first | decide | omega), rfl⟩ hp.1 hp.2 i0 i1).1
    · funext k x; exact (f1 _ i k (hq u u0 u1).1 (hq u u0 u1).2 ⟨u, u0, (by first | decide | omega), rfl⟩ hp.1 hp.2 i0 i1).2 x
theorem slE_e {B B' : zB} {p : Int} (h : 0 ≤ p → ∀ v, B' 6 p 0 v = B 6 p 0 v) : slE B' p = slE B p := by
  unfold slE
  by_cases a : p < 0
  · rw [if_pos a, if_pos a]
  · rw [if_neg a, if_neg a]; exact em_e (h (by first | decide | omega))
/-- a work piece is made -/
theorem IC_new {K : zK} {Km : Nat} {p p0 p1 w w0 w1 : Int} {F : zF} {B : zB} {Fm : zF} {Bm : zB} (h : IC K Km p p0 p1 w w0 w1 F B Fm Bm) (hp : p < 0) : IC (K.1, zinN K.2 6) Km (K.2 6) p0 p1 w w0 w1 (zup3 (zinF F 6 (K.2 6) [0, 0, 0, 0, 0, 0, 0, 0, (-1), (-1), 0, 0, (-1), 0]) 12 0 7 (K.2 6)) (zinB B 6 (K.2 6) (fun k _ => if k = 0 then -1 else 0)) Fm Bm := by
  obtain ⟨⟨a1, a2, a3⟩, hB, ⟨d1, d2, d3, d4⟩, hT, ⟨n1, n2, n3, n4, n5, n6⟩, hW, hQ, hG, hF, s0, s1⟩ := h
  have k6 : 0 ≤ K.2 6 := (d1.1 6 (by decide)).1
  have k4 : 0 ≤ K.2 4 := (d1.1 4 (by decide)).1
  have kn : ∀ c, ¬ c = 6 → zinN K.2 6 c = K.2 c := fun c hc => by rw [zinN_v, if_neg hc]
  have k6' : zinN K.2 6 6 = K.2 6 + 1 := by rw [zinN_v, if_pos rfl]
  have hk : ∀ c, K.2 c ≤ zinN K.2 6 c := fun c => by
    rw [zinN_v]
    split
    · rename_i e; rw [e]; omega
    · exact Int.le_refl _
  generalize hF1 : zup3 (zinF F 6 (K.2 6) [0, 0, 0, 0, 0, 0, 0, 0, (-1), (-1), 0, 0, (-1), 0]) 12 0 7 (K.2 6) = F1
  generalize hB1 : zinB B 6 (K.2 6) (fun k _ => if k = 0 then -1 else 0) = B1
  have fn : ∀ c y k, ¬ (c = 6 ∧ y = K.2 6) → ¬ (c = 12 ∧ y = 0 ∧ k = 7) → F1 c y k = F c y k := fun c y k a b => by rw [← hF1, zup3_v, if_neg b, zinF_v, if_neg a]
  have bn : ∀ c y k x, ¬ (c = 6 ∧ y = K.2 6) → B1 c y k x = B c y k x := fun c y k x a => by rw [← hB1, zinB_v, if_neg a]
  have b6 : ∀ v, B1 6 (K.2 6) 0 v = -1 := fun v => by rw [← hB1, zinB_v, if_pos ⟨rfl, rfl⟩, if_pos rfl]
  have B0 : ∀ x, B1 0 0 0 x = B 0 0 0 x := fun x => bn 0 0 0 x (by first | decide | omega)
  have hsl : ∀ q w, q < K.2 6 → SL K q w F B Fm Bm → SL (K.1, zinN K.2 6) q w F1 B1 Fm Bm := fun q w hq s => SL_e s hk (fun a b k _ => fn 6 q k (by first | decide | omega) (by first | decide | omega)) (fun a b v => bn 6 q 0 v (by first | decide | omega)) (fun y k a b _ _ _ => ⟨fn 4 y k (by first | decide | omega) (by first | decide | omega), fun x => bn 4 y k x (by first | decide | omega)⟩) (fun y i k a b _ _ _ _ _ => ⟨fn 1 _ k (by first | decide | omega) (by first | decide | omega), fun x => bn 1 _ k x (by first | decide | omega)⟩) (fun _ => rfl) (fun _ _ => rfl)
  have em4 : em B1 (K.2 6) = 4 := by unfold em; rw [b6, b6, b6, b6]; decide
  have ee : ∀ q, q < K.2 6 → slE B1 q = slE B q := fun q hq => slE_e (fun _ v => bn 6 q 0 v (by first | decide | omega))
  refine ⟨⟨a1, a2, ?_⟩, ?_, ⟨?_, fun j => by rw [bn 10 0 5 j (by first | decide | omega)]; exact d2 j, fun q s q0 q1 s0 s1 => ?_, d4⟩, ?_, ⟨?_, by rw [bn 12 0 3 0 (by first | decide | omega)]; exact n2, by rw [bn 12 0 3 1 (by first | decide | omega)]; exact n3, n4, n5, n6⟩, hW, ?_, ?_, ?_, hsl p0 w0 hQ.1.2.1 s0, hsl p1 w1 hQ.1.2.2 s1⟩
  · show 2 ≤ zinN K.2 6 0 ∧ 0 ≤ zinN K.2 6 2 ∧ 0 < zinN K.2 6 3 ∧ 0 ≤ zinN K.2 6 5 ∧ 0 < zinN K.2 6 7 ∧ 0 ≤ zinN K.2 6 8 ∧ 0 ≤ zinN K.2 6 9 ∧ 0 < zinN K.2 6 10 ∧ 0 < zinN K.2 6 11 ∧ 0 < zinN K.2 6 12
    rw [kn 0 (by decide), kn 2 (by decide), kn 3 (by decide), kn 5 (by decide), kn 7 (by decide), kn 8 (by decide), kn 9 (by decide), kn 10 (by decide), kn 11 (by decide), kn 12 (by decide)]
    exact a3
  · unfold IB
    rw [fn 12 0 0 (by first | decide | omega) (by first | decide | omega), fn 12 0 2 (by first | decide | omega) (by first | decide | omega), fn 12 0 4 (by first | decide | omega) (by first | decide | omega), fn 12 0 5 (by first | decide | omega) (by first | decide | omega), fn 12 0 6 (by first | decide | omega) (by first | decide | omega), fn 3 0 11 (by first | decide | omega) (by first | decide | omega)]
    exact hB
  · obtain ⟨g1, g2, g3, g4, g5⟩ := d1
    have e4 : ∀ y x, B1 4 y 5 x = B 4 y 5 x := fun y x => bn 4 y 5 x (by first | decide | omega)
    refine ⟨fun c hc => ⟨Int.le_trans (g1 c hc).1 (hk c), Int.le_trans (g1 c hc).2 (hk 1)⟩, fun y v y0 y1 v0 v1 => ?_, fun y v y' v' y0 y1 v0 v1 y0' y1' v0' v1' z e => ?_, fun q x q0 q1 x0 x1 => ?_, fun q x q' x' q0 q1 x0 x1 q0' q1' x0' x1' e => ?_⟩
    · show B1 6 y 0 v < zinN K.2 6 4
      have y1 : y < zinN K.2 6 6 := y1
      rw [kn 4 (by decide)]
      by_cases e : y = K.2 6
      · rw [e, b6]; omega
      · rw [bn 6 y 0 v (by first | decide | omega)]; exact g2 y v y0 (by first | decide | omega) v0 v1
    · have y1 : y < zinN K.2 6 6 := y1
      have y1' : y' < zinN K.2 6 6 := y1'
      by_cases c : y = K.2 6
      · rw [c, b6] at z; omega
      · rw [bn 6 y 0 v (by first | decide | omega)] at z e
        by_cases c' : y' = K.2 6
        · rw [c', b6] at e; omega
        · rw [bn 6 y' 0 v' (by first | decide | omega)] at e
          exact g3 y v y' v' y0 (by first | decide | omega) v0 v1 y0' (by first | decide | omega) v0' v1' z e
    · have q1 : q < zinN K.2 6 4 := q1
      rw [kn 4 (by decide)] at q1
      rw [e4]
      show 1 ≤ B 4 q 5 x ∧ B 4 q 5 x < zinN K.2 6 1
      rw [kn 1 (by decide)]
      exact g4 q x q0 q1 x0 x1
    · have q1 : q < zinN K.2 6 4 := q1
      have q1' : q' < zinN K.2 6 4 := q1'
      rw [kn 4 (by decide)] at q1 q1'
      rw [e4, e4] at e
      exact g5 q x q' x' q0 q1 x0 x1 q0' q1' x0' x1' e
  · have q1 : q < zinN K.2 6 4 := q1
    rw [kn 4 (by decide)] at q1
    rw [bn 4 q 12 s (by first | decide | omega)]
    exact d3 q s q0 q1 s0 s1
  · unfold IT at *
    have : B1 0 0 0 = B 0 0 0 := by funext x; exact B0 x
    rw [this, fn 0 0 1 (by first | decide | omega) (by first | decide | omega)]
    exact hT
  · rw [← hF1, zup3_v, if_pos (by first | decide | omega)]
  · unfold IQp at *
    show (K.2 6 < zinN K.2 6 6 ∧ p0 < zinN K.2 6 6 ∧ p1 < zinN K.2 6 6) ∧ _
    omega
  · unfold IG at *
    show zinN K.2 6 6 + slN (K.2 6) + slN p0 + slN p1 = 3 ∧ zinN K.2 6 4 + slE B1 (K.2 6) + slE B1 p0 + slE B1 p1 = 4 * zinN K.2 6 6 ∧ zinN K.2 6 1 = 1 + 200 * zinN K.2 6 4
    rw [ee p0 hQ.1.2.1, ee p1 hQ.1.2.2, k6', kn 4 (by decide), kn 1 (by decide)]
    have : slE B1 (K.2 6) = 4 := by unfold slE; rw [if_neg (by first | decide | omega)]; exact em4
    have x1 : slN (K.2 6) = 0 := by unfold slN; rw [if_neg (by first | decide | omega)]
    have x2 : slN p = 1 := by unfold slN; rw [if_pos hp]
    have x3 : slE B p = 0 := by unfold slE; rw [if_pos hp]
    omega
  · intro y y0 y1
    have y1 : y < zinN K.2 6 6 := y1
    show F1 6 y 8 < zinN K.2 6 2 ∧ F1 6 y 9 < zinN K.2 6 5 ∧ F1 6 y 12 < zinN K.2 6 9
    rw [kn 2 (by decide), kn 5 (by decide), kn 9 (by decide)]
    by_cases e : y = K.2 6
    · rw [e, ← hF1, zup3_v, if_neg (by first | decide | omega), zup3_v, if_neg (by first | decide | omega), zup3_v, if_neg (by first | decide | omega), zinF_v, if_pos ⟨rfl, rfl⟩, zinF_v, if_pos ⟨rfl, rfl⟩, zinF_v, if_pos ⟨rfl, rfl⟩]
      show (-1 : Int) < K.2 2 ∧ (-1 : Int) < K.2 5 ∧ (-1 : Int) < K.2 9
      omega
    · rw [fn 6 y 8 (by first | decide | omega) (by first | decide | omega), fn 6 y 9 (by first | decide | omega) (by first | decide | omega), fn 6 y 12 (by first | decide | omega) (by first | decide | omega)]
      exact hF y y0 (by first | decide | omega)
end
