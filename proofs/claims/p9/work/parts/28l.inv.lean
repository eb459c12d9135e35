section
section
/-! ===== what stands between calls: the tape and the pieces ===== -/
def IA (K : zK) (Km : Nat) : Prop := 3002 ≤ K.1 ∧ 70000000000 < Km ∧ (2 ≤ K.2 0 ∧ 0 ≤ K.2 2 ∧ 0 < K.2 3 ∧ 0 ≤ K.2 5 ∧ 0 < K.2 7 ∧ 0 ≤ K.2 8 ∧ 0 ≤ K.2 9 ∧ 0 < K.2 10 ∧ 0 < K.2 11 ∧ 0 < K.2 12)
def IB (F : zF) : Prop := F 12 0 0 = 0 ∧ F 12 0 2 = 1 ∧ F 12 0 4 = 0 ∧ F 12 0 5 = 0 ∧ F 12 0 6 = 0 ∧ F 3 0 11 = 0
def ID (K : zK) (B Bm : zB) : Prop := GS K B ∧ (∀ j, r32 (B 10 0 5 j)) ∧ (∀ q s, 0 ≤ q → q < K.2 4 → 0 ≤ s → s < 63 → r32 (B 4 q 12 s)) ∧ MW Bm ∧ XS Bm ∧ XC Bm ∧ X77 Bm
def IT (F : zF) (B : zB) (Fm : zF) (Bm : zB) : Prop := F 0 0 1 = Fm 14 0 3 ∧ 0 ≤ F 0 0 1 ∧ F 0 0 1 ≤ 3000 ∧ (∀ y, 0 ≤ B 0 0 0 y ∧ B 0 0 0 y < 256) ∧ tmB Bm = B 0 0 0
def SL (K : zK) (p w : Int) (F : zF) (B : zB) (Fm : zF) (Bm : zB) : Prop := (p < 0 ∧ Fm 13 w 0 = 0) ∨ (0 ≤ p ∧ Fm 13 w 0 = 1 ∧ ∃ V, PK K V p w F B Fm Bm ∧ MK V w Fm Bm)
/-- the places: the work piece and the two that are kept -/
def IW (w w0 w1 : Int) : Prop := (0 ≤ w ∧ w < 3) ∧ (0 ≤ w0 ∧ w0 < 3) ∧ (0 ≤ w1 ∧ w1 < 3) ∧ ¬ w0 = w ∧ ¬ w1 = w ∧ ¬ w0 = w1
def IQp (K : zK) (p p0 p1 : Int) : Prop := (p < K.2 6 ∧ p0 < K.2 6 ∧ p1 < K.2 6) ∧ (0 ≤ p → ¬ p0 = p ∧ ¬ p1 = p) ∧ (0 ≤ p0 → ¬ p0 = p1)
def slE (B : zB) (p : Int) : Int := if p < 0 then 0 else em B p
def slN (p : Int) : Int := if p < 0 then 1 else 0
def IG (K : zK) (p p0 p1 : Int) (B : zB) : Prop := K.2 6 + slN p + slN p0 + slN p1 = 3 ∧ K.2 4 + slE B p + slE B p0 + slE B p1 = 4 * K.2 6 ∧ K.2 1 = 1 + 200 * K.2 4
def IF (K : zK) (F : zF) : Prop := ∀ p, 0 ≤ p → p < K.2 6 → F 6 p 8 < K.2 2 ∧ F 6 p 9 < K.2 5 ∧ F 6 p 12 < K.2 9
def IC (K : zK) (Km : Nat) (p p0 p1 w w0 w1 : Int) (F : zF) (B : zB) (Fm : zF) (Bm : zB) : Prop := IA K Km ∧ IB F ∧ ID K B Bm ∧ IT F B Fm Bm ∧ (F 12 0 7 = p ∧ B 12 0 3 0 = p0 ∧ B 12 0 3 1 = p1 ∧ Fm 14 0 6 = w ∧ Bm 14 0 5 0 = w0 ∧ Bm 14 0 5 1 = w1) ∧ IW w w0 w1 ∧ IQp K p p0 p1 ∧ IG K p p0 p1 B ∧ IF K F ∧ SL K p0 w0 F B Fm Bm ∧ SL K p1 w1 F B Fm Bm
/-- a piece that is not touched stays as it is -/
theorem SL_e {K K' : zK} {p w : Int} {F F' : zF} {B B' : zB} {Fm Fm' : zF} {Bm Bm' : zB} (h : SL K p w F B Fm Bm) (hk : ∀ c, K.2 c ≤ K'.2 c) (f6 : 0 ≤ p → p < K.2 6 → ∀ k, k ≤ 7 → F' 6 p k = F 6 p k) (b6 : 0 ≤ p → p < K.2 6 → ∀ v, B' 6 p 0 v = B 6 p 0 v) (f4 : ∀ q k, 0 ≤ q → q < K.2 4 → (∃ u, 0 ≤ u ∧ u < 4 ∧ B 6 p 0 u = q) → 0 ≤ p → p < K.2 6 → F' 4 q k = F 4 q k ∧ ∀ x, B' 4 q k x = B 4 q k x) (f1 : ∀ q i k, 0 ≤ q → q < K.2 4 → (∃ u, 0 ≤ u ∧ u < 4 ∧ B 6 p 0 u = q) → 0 ≤ p → p < K.2 6 → 0 ≤ i → i < 200 → F' 1 (B 4 q 5 i) k = F 1 (B 4 q 5 i) k ∧ ∀ x, B' 1 (B 4 q 5 i) k x = B 1 (B 4 q 5 i) k x) (fm : ∀ k, Fm' 13 w k = Fm 13 w k) (bm : ∀ k x, Bm' 13 w k x = Bm 13 w k x) : SL K' p w F' B' Fm' Bm' := by
  rcases h with ⟨a, b⟩ | ⟨a, b, V, c, d⟩
  · exact Or.inl ⟨a, by rw [fm]; exact b⟩
  · refine Or.inr ⟨a, by rw [fm]; exact b, V, ?_, MK_e d ⟨fm 7, fm 72, fm 76⟩ (by funext k x; exact bm k x)⟩
    have hp := c.1.1
    have hV := c.1.2.2.1
    have hq : ∀ u, 0 ≤ u → u < V → (0 ≤ B 6 p 0 u ∧ B 6 p 0 u < K.2 4) := fun u u0 u1 => (c.2.2 u u0 u1).1.1
    refine PK_e c hk (f6 hp.1 hp.2) (by funext v; exact b6 hp.1 hp.2 v) (fun u u0 u1 => ?_) (fun u u0 u1 => ?_) (fun u i u0 u1 i0 i1 => ?_) (fun u i u0 u1 i0 i1 => ?_) (fun k _ _ => fm k) (fun k x _ => bm k x)
    · funext k; exact (f4 _ k (hq u u0 u1).1 (hq u u0 u1).2 ⟨u, u0, (by first | decide | omega), rfl⟩ hp.1 hp.2).1
    · funext k x; exact (f4 _ k (hq u u0 u1).1 (hq u u0 u1).2 ⟨u, u0, (by first | decide | omega), rfl⟩ hp.1 hp.2).2 x
    · funext k; exact (f1 _ i k (hq u u0 u1).1 (hq u u0 u1).2 ⟨u, u0, (by first | decide | omega), rfl⟩ hp.1 hp.2 i0 i1).1
    · funext k x; exact (f1 _ i k (hq u u0 u1).1 (hq u u0 u1).2 ⟨u, u0, (by first | decide | omega), rfl⟩ hp.1 hp.2 i0 i1).2 x
theorem slE_e {B B' : zB} {p : Int} (h : 0 ≤ p → ∀ v, B' 6 p 0 v = B 6 p 0 v) : slE B' p = slE B p := by
  unfold slE
  by_cases a : p < 0
  · rw [if_pos a, if_pos a]
  · rw [if_neg a, if_neg a]; exact em_e (h (by first | decide | omega))
/-- a work piece is made -/
theorem IC_new {K : zK} {Km : Nat} {p p0 p1 w w0 w1 : Int} {F : zF} {B : zB} {Fm : zF} {Bm : zB} (h : IC K Km p p0 p1 w w0 w1 F B Fm Bm) (hp : p < 0) : IC (K.1, zinN K.2 6) Km (K.2 6) p0 p1 w w0 w1 (zup3 (zinF F 6 (K.2 6) [0, 0, 0, 0, 0, 0, 0, 0, (-1), (-1), 0, 0, (-1), 0]) 12 0 7 (K.2 6)) (zinB B 6 (K.2 6) (fun k _ => if k = 0 then -1 else 0)) Fm Bm := by
  obtain ⟨⟨a1, a2, a3⟩, hB, ⟨d1, d2, d3, d4⟩, hT, ⟨n1, n2, n3, n4, n5, n6⟩, hW, hQ, hG, hF, s0, s1⟩ := h
  have k6 : 0 ≤ K.2 6 := (d1.1 6 (by decide)).1
  have k4 : 0 ≤ K.2 4 := (d1.1 4 (by decide)).1
  have kn : ∀ c, ¬ c = 6 → zinN K.2 6 c = K.2 c := fun c hc => by rw [zinN_v, if_neg hc]
  have k6' : zinN K.2 6 6 = K.2 6 + 1 := by rw [zinN_v, if_pos rfl]
  have hk : ∀ c, K.2 c ≤ zinN K.2 6 c := fun c => by
    rw [zinN_v]
    split
    · rename_i e; rw [e]; omega
    · exact Int.le_refl _
  generalize hF1 : zup3 (zinF F 6 (K.2 6) [0, 0, 0, 0, 0, 0, 0, 0, (-1), (-1), 0, 0, (-1), 0]) 12 0 7 (K.2 6) = F1
  generalize hB1 : zinB B 6 (K.2 6) (fun k _ => if k = 0 then -1 else 0) = B1
  have fn : ∀ c y k, ¬ (c = 6 ∧ y = K.2 6) → ¬ (c = 12 ∧ y = 0 ∧ k = 7) → F1 c y k = F c y k := fun c y k a b => by rw [← hF1, zup3_v, if_neg b, zinF_v, if_neg a]
  have bn : ∀ c y k x, ¬ (c = 6 ∧ y = K.2 6) → B1 c y k x = B c y k x := fun c y k x a => by rw [← hB1, zinB_v, if_neg a]
  have b6 : ∀ v, B1 6 (K.2 6) 0 v = -1 := fun v => by rw [← hB1, zinB_v, if_pos ⟨rfl, rfl⟩, if_pos rfl]
  have B0 : ∀ x, B1 0 0 0 x = B 0 0 0 x := fun x => bn 0 0 0 x (by first | decide | omega)
  have hsl : ∀ q w, q < K.2 6 → SL K q w F B Fm Bm → SL (K.1, zinN K.2 6) q w F1 B1 Fm Bm := fun q w hq s => SL_e s hk (fun a b k _ => fn 6 q k (by first | decide | omega) (by first | decide | omega)) (fun a b v => bn 6 q 0 v (by first | decide | omega)) (fun y k a b _ _ _ => ⟨fn 4 y k (by first | decide | omega) (by first | decide | omega), fun x => bn 4 y k x (by first | decide | omega)⟩) (fun y i k a b _ _ _ _ _ => ⟨fn 1 _ k (by first | decide | omega) (by first | decide | omega), fun x => bn 1 _ k x (by first | decide | omega)⟩) (fun _ => rfl) (fun _ _ => rfl)
  have em4 : em B1 (K.2 6) = 4 := by unfold em; rw [b6, b6, b6, b6]; decide
  have ee : ∀ q, q < K.2 6 → slE B1 q = slE B q := fun q hq => slE_e (fun _ v => bn 6 q 0 v (by first | decide | omega))
  refine ⟨⟨a1, a2, ?_⟩, ?_, ⟨?_, fun j => by rw [bn 10 0 5 j (by first | decide | omega)]; exact d2 j, fun q s q0 q1 s0 s1 => ?_, d4⟩, ?_, ⟨?_, by rw [bn 12 0 3 0 (by first | decide | omega)]; exact n2, by rw [bn 12 0 3 1 (by first | decide | omega)]; exact n3, n4, n5, n6⟩, hW, ?_, ?_, ?_, hsl p0 w0 hQ.1.2.1 s0, hsl p1 w1 hQ.1.2.2 s1⟩
  · show 2 ≤ zinN K.2 6 0 ∧ 0 ≤ zinN K.2 6 2 ∧ 0 < zinN K.2 6 3 ∧ 0 ≤ zinN K.2 6 5 ∧ 0 < zinN K.2 6 7 ∧ 0 ≤ zinN K.2 6 8 ∧ 0 ≤ zinN K.2 6 9 ∧ 0 < zinN K.2 6 10 ∧ 0 < zinN K.2 6 11 ∧ 0 < zinN K.2 6 12
    rw [kn 0 (by decide), kn 2 (by decide), kn 3 (by decide), kn 5 (by decide), kn 7 (by decide), kn 8 (by decide), kn 9 (by decide), kn 10 (by decide), kn 11 (by decide), kn 12 (by decide)]
    exact a3
  · unfold IB
    rw [fn 12 0 0 (by first | decide | omega) (by first | decide | omega), fn 12 0 2 (by first | decide | omega) (by first | decide | omega), fn 12 0 4 (by first | decide | omega) (by first | decide | omega), fn 12 0 5 (by first | decide | omega) (by first | decide | omega), fn 12 0 6 (by first | decide | omega) (by first | decide | omega), fn 3 0 11 (by first | decide | omega) (by first | decide | omega)]
    exact hB
  · obtain ⟨g1, g2, g3, g4, g5⟩ := d1
    have e4 : ∀ y x, B1 4 y 5 x = B 4 y 5 x := fun y x => bn 4 y 5 x (by first | decide | omega)
    refine ⟨fun c hc => ⟨Int.le_trans (g1 c hc).1 (hk c), Int.le_trans (g1 c hc).2 (hk 1)⟩, fun y v y0 y1 v0 v1 => ?_, fun y v y' v' y0 y1 v0 v1 y0' y1' v0' v1' z e => ?_, fun q x q0 q1 x0 x1 => ?_, fun q x q' x' q0 q1 x0 x1 q0' q1' x0' x1' e => ?_⟩
    · show B1 6 y 0 v < zinN K.2 6 4
      have y1 : y < zinN K.2 6 6 := y1
      rw [kn 4 (by decide)]
      by_cases e : y = K.2 6
      · rw [e, b6]; omega
      · rw [bn 6 y 0 v (by first | decide | omega)]; exact g2 y v y0 (by first | decide | omega) v0 v1
    · have y1 : y < zinN K.2 6 6 := y1
      have y1' : y' < zinN K.2 6 6 := y1'
      by_cases c : y = K.2 6
      · rw [c, b6] at z; omega
      · rw [bn 6 y 0 v (by first | decide | omega)] at z e
        by_cases c' : y' = K.2 6
        · rw [c', b6] at e; omega
        · rw [bn 6 y' 0 v' (by first | decide | omega)] at e
          exact g3 y v y' v' y0 (by first | decide | omega) v0 v1 y0' (by first | decide | omega) v0' v1' z e
    · have q1 : q < zinN K.2 6 4 := q1
      rw [kn 4 (by decide)] at q1
      rw [e4]
      show 1 ≤ B 4 q 5 x ∧ B 4 q 5 x < zinN K.2 6 1
      rw [kn 1 (by decide)]
      exact g4 q x q0 q1 x0 x1
    · have q1 : q < zinN K.2 6 4 := q1
      have q1' : q' < zinN K.2 6 4 := q1'
      rw [kn 4 (by decide)] at q1 q1'
      rw [e4, e4] at e
      exact g5 q x q' x' q0 q1 x0 x1 q0' q1' x0' x1' e
  · have q1 : q < zinN K.2 6 4 := q1
    rw [kn 4 (by decide)] at q1
    rw [bn 4 q 12 s (by first | decide | omega)]
    exact d3 q s q0 q1 s0 s1
  · unfold IT at *
    have : B1 0 0 0 = B 0 0 0 := by funext x; exact B0 x
    rw [this, fn 0 0 1 (by first | decide | omega) (by first | decide | omega)]
    exact hT
  · rw [← hF1, zup3_v, if_pos (by first | decide | omega)]
  · unfold IQp at *
    show (K.2 6 < zinN K.2 6 6 ∧ p0 < zinN K.2 6 6 ∧ p1 < zinN K.2 6 6) ∧ _
    omega
  · unfold IG at *
    show zinN K.2 6 6 + slN (K.2 6) + slN p0 + slN p1 = 3 ∧ zinN K.2 6 4 + slE B1 (K.2 6) + slE B1 p0 + slE B1 p1 = 4 * zinN K.2 6 6 ∧ zinN K.2 6 1 = 1 + 200 * zinN K.2 6 4
    rw [ee p0 hQ.1.2.1, ee p1 hQ.1.2.2, k6', kn 4 (by decide), kn 1 (by decide)]
    have : slE B1 (K.2 6) = 4 := by unfold slE; rw [if_neg (by first | decide | omega)]; exact em4
    have x1 : slN (K.2 6) = 0 := by unfold slN; rw [if_neg (by first | decide | omega)]
    have x2 : slN p = 1 := by unfold slN; rw [if_pos hp]
    have x3 : slE B p = 0 := by unfold slE; rw [if_pos hp]
    omega
  · intro y y0 y1
    have y1 : y < zinN K.2 6 6 := y1
    show F1 6 y 8 < zinN K.2 6 2 ∧ F1 6 y 9 < zinN K.2 6 5 ∧ F1 6 y 12 < zinN K.2 6 9
    rw [kn 2 (by decide), kn 5 (by decide), kn 9 (by decide)]
    by_cases e : y = K.2 6
    · rw [e, ← hF1, zup3_v, if_neg (by first | decide | omega), zup3_v, if_neg (by first | decide | omega), zup3_v, if_neg (by first | decide | omega), zinF_v, if_pos ⟨rfl, rfl⟩, zinF_v, if_pos ⟨rfl, rfl⟩, zinF_v, if_pos ⟨rfl, rfl⟩]
      show (-1 : Int) < K.2 2 ∧ (-1 : Int) < K.2 5 ∧ (-1 : Int) < K.2 9
      omega
    · rw [fn 6 y 8 (by first | decide | omega) (by first | decide | omega), fn 6 y 9 (by first | decide | omega) (by first | decide | omega), fn 6 y 12 (by first | decide | omega) (by first | decide | omega)]
      exact hF y y0 (by first | decide | omega)
end
end
section
section
/-! ===== a text read into the work piece, whatever comes of it: what stays ===== -/
def IR (K : zK) (Km : Nat) (p p0 p1 w w0 w1 : Int) (F : zF) (B : zB) (Fm : zF) (Bm : zB) : Prop := IA K Km ∧ IB F ∧ ID K B Bm ∧ (F 12 0 7 = p ∧ B 12 0 3 0 = p0 ∧ B 12 0 3 1 = p1 ∧ Fm 14 0 6 = w ∧ Bm 14 0 5 0 = w0 ∧ Bm 14 0 5 1 = w1) ∧ IW w w0 w1 ∧ IQp K p p0 p1 ∧ IG K p p0 p1 B ∧ IF K F ∧ SL K p0 w0 F B Fm Bm ∧ SL K p1 w1 F B Fm Bm
/-- what reading a text into piece p, w may change -/
def PhF (K K' : zK) (p w : Int) (F : zF) (B : zB) (Fm : zF) (Bm : zB) (F' : zF) (B' : zB) (Fm' : zF) (Bm' : zB) : Prop :=
  (K'.1 = K.1 ∧ (∀ c, K.2 c ≤ K'.2 c) ∧ (∀ c, ¬ (c = 1 ∨ c = 4) → K'.2 c = K.2 c) ∧ K'.2 1 = K.2 1 + 200 * (K'.2 4 - K.2 4) ∧ K'.2 4 + em B' p = K.2 4 + em B p) ∧
  (∀ c y k, y < K.2 c → ¬ (c = 0 ∧ y = 0) → ¬ (c = 10 ∧ y = 0) → ¬ (c = 3 ∧ y = 0 ∧ k ≠ 11) → ¬ (c = 11 ∧ y = 0) → ¬ (c = 6 ∧ y = p ∧ (1 ≤ k ∧ k ≤ 7 ∨ k = 10 ∨ k = 11 ∨ k = 13)) → ¬ (c = 2 ∧ y = F 6 p 8 ∧ k = 0) → ¬ (c = 4 ∧ ∃ v, 0 ≤ v ∧ v < 4 ∧ y = B 6 p 0 v) → ¬ (c = 1 ∧ ∃ v, 0 ≤ v ∧ v < 4 ∧ 0 ≤ B' 6 p 0 v ∧ ownE B' (B' 6 p 0 v) y) → F' c y k = F c y k) ∧
  (∀ c y k x, y < K.2 c → ¬ (c = 3 ∧ y = 0) → ¬ (c = 10 ∧ y = 0) → ¬ (c = 11 ∧ y = 0) → ¬ (c = 6 ∧ y = p ∧ k = 0) → ¬ (c = 4 ∧ 5 ≤ k ∧ ∃ v, 0 ≤ v ∧ v < 4 ∧ y = B 6 p 0 v) → ¬ (c = 1 ∧ ∃ v, 0 ≤ v ∧ v < 4 ∧ 0 ≤ B' 6 p 0 v ∧ ownE B' (B' 6 p 0 v) y) → B' c y k x = B c y k x) ∧
  (∀ v, 0 ≤ v → v < 4 → B' 6 p 0 v = B 6 p 0 v ∨ (B 6 p 0 v < 0 ∧ K.2 4 ≤ B' 6 p 0 v)) ∧
  (∀ c i k, ¬ (c = 14 ∧ i = 0 ∧ (k ≤ 1 ∨ k = 3 ∨ (12 ≤ k ∧ k ≤ 57))) → ¬ (c = 13 ∧ i = w ∧ 1 ≤ k ∧ k ≤ 7) → Fm' c i k = Fm c i k) ∧
  (∀ c i k x, ¬ (c = 14 ∧ i = 0 ∧ (7 ≤ k ∧ k ≤ 11 ∨ 25 ≤ k ∧ k ≤ 34 ∨ 42 ≤ k ∧ k ≤ 51)) → ¬ (c = 13 ∧ i = w ∧ 8 ≤ k ∧ k ≤ 35) → Bm' c i k x = Bm c i k x) ∧
  (GS K' B' ∧ (∀ j, r32 (B' 10 0 5 j)) ∧ (∀ q s, 0 ≤ q → q < K'.2 4 → 0 ≤ s → s < 63 → r32 (B' 4 q 12 s)))
theorem IR_ph {K K' : zK} {Km : Nat} {p p0 p1 w w0 w1 : Int} {F F' : zF} {B B' : zB} {Fm Fm' : zF} {Bm Bm' : zB} (h : IR K Km p p0 p1 w w0 w1 F B Fm Bm) (hp : 0 ≤ p) (f : PhF K K' p w F B Fm Bm F' B' Fm' Bm') : IR K' Km p p0 p1 w w0 w1 F' B' Fm' Bm' := by
  obtain ⟨⟨a1, a2, a3⟩, hB, ⟨d1, d2, d3, d4, d5, d6, d7⟩, ⟨n1, n2, n3, n4, n5, n6⟩, hW, hQ, hG, hF, s0, s1⟩ := h
  obtain ⟨⟨k1, k2, k3, k4, k5⟩, fF, fB, fS, fM, fN, g1, g2, g3⟩ := f
  obtain ⟨⟨q1, q2, q3⟩, q4, q5⟩ := hQ
  have kk : ∀ c, ¬ (c = 1 ∨ c = 4) → K'.2 c = K.2 c := k3
  have f12 : ∀ k, F' 12 0 k = F 12 0 k := fun k => fF 12 0 k (by first | decide | omega) (by first | decide | omega) (by first | decide | omega) (by first | decide | omega) (by first | decide | omega) (by first | decide | omega) (by first | decide | omega) (by first | decide | omega) (by first | decide | omega)
  have b12 : ∀ k x, B' 12 0 k x = B 12 0 k x := fun k x => fB 12 0 k x (by first | decide | omega) (by first | decide | omega) (by first | decide | omega) (by first | decide | omega) (by first | decide | omega) (by first | decide | omega) (by first | decide | omega)
  have b6 : ∀ y, y < K.2 6 → ¬ y = p → ∀ k x, B' 6 y k x = B 6 y k x := fun y hy hn k x => fB 6 y k x hy (by first | decide | omega) (by first | decide | omega) (by first | decide | omega) (by first | decide | omega) (by first | decide | omega) (by first | decide | omega)
  have hsl : ∀ y v, ¬ y = p → ¬ v = w → SL K y v F B Fm Bm → SL K' y v F' B' Fm' Bm' := fun y v hy hv s => by
    have np : ∀ q, (∃ u, 0 ≤ u ∧ u < 4 ∧ B 6 y 0 u = q) → 0 ≤ q → 0 ≤ y → y < K.2 6 → ¬ ∃ u, 0 ≤ u ∧ u < 4 ∧ q = B 6 p 0 u := fun q ⟨u, u0, u1, e⟩ hq y0 y1 ⟨u', u0', u1', e'⟩ => hy (d1.2.2.1 y u p u' y0 y1 u0 u1 hp q1 u0' u1' (by first | decide | omega) (by first | decide | omega)).1
    refine SL_e s k2 (fun y0 y1 k _ => fF 6 y k y1 (by first | decide | omega) (by first | decide | omega) (by first | decide | omega) (by first | decide | omega) (by first | decide | omega) (by first | decide | omega) (by first | decide | omega) (by first | decide | omega)) (fun y0 y1 v => b6 y y1 hy 0 v) (fun q k a b e y0 y1 => ?_) (fun q i k a b e y0 y1 i0 i1 => ?_) (fun k => fM 13 v k (by first | decide | omega) (by first | decide | omega)) (fun k x => fN 13 v k x (by first | decide | omega) (by first | decide | omega))
    · have := np q e a y0 y1
      exact ⟨fF 4 q k b (by first | decide | omega) (by first | decide | omega) (by first | decide | omega) (by first | decide | omega) (by first | decide | omega) (by first | decide | omega) (fun z => this z.2) (by first | decide | omega), fun x => fB 4 q k x b (by first | decide | omega) (by first | decide | omega) (by first | decide | omega) (by first | decide | omega) (fun z => this z.2.2) (by first | decide | omega)⟩
    · have nq := np q e a y0 y1
      have hi := d1.2.2.2.1 q i a b i0 i1
      have b5 : B' 4 q 5 i = B 4 q 5 i := fB 4 q 5 i b (by first | decide | omega) (by first | decide | omega) (by first | decide | omega) (by first | decide | omega) (fun z => nq z.2.2) (by first | decide | omega)
      have no : ¬ ∃ v, 0 ≤ v ∧ v < 4 ∧ 0 ≤ B' 6 p 0 v ∧ ownE B' (B' 6 p 0 v) (B 4 q 5 i) := fun ⟨t, t0, t1, t2, j, j0, j1, je⟩ => by
        have l := g1.2.1 p t hp (by rw [kk 6 (by decide)]; exact q1) t0 t1
        have := (g1.2.2.2.2 (B' 6 p 0 t) j q i t2 l j0 j1 a (Int.lt_of_lt_of_le b (k2 4)) i0 i1 (by rw [je, b5])).1
        rcases fS t t0 t1 with z | z
        · exact nq ⟨t, t0, t1, (by first | decide | omega)⟩
        · omega
      exact ⟨fF 1 _ k hi.2 (by first | decide | omega) (by first | decide | omega) (by first | decide | omega) (by first | decide | omega) (by first | decide | omega) (by first | decide | omega) (by first | decide | omega) (fun z => no z.2), fun x => fB 1 _ k x hi.2 (by first | decide | omega) (by first | decide | omega) (by first | decide | omega) (by first | decide | omega) (by first | decide | omega) (fun z => no z.2)⟩
  have w13 : ∀ i k x, 36 ≤ k → Bm' 13 i k x = Bm 13 i k x := fun i k x hk => fN 13 i k x (by first | decide | omega) (by first | decide | omega)
  refine ⟨⟨by rw [k1]; exact a1, a2, ?_⟩, ?_, ⟨g1, g2, g3, ?_, XS_f d5 (fun i k x a b => w13 i k x a) (fun x => fN 14 0 58 x (by first | decide | omega) (by first | decide | omega)), XC_f d6 (fun i k x hk => w13 i k x (by first | decide | omega)), X77_f d7 (fun i k x a b => w13 i k x (by first | decide | omega))⟩, ⟨by rw [f12]; exact n1, by rw [b12]; exact n2, by rw [b12]; exact n3, by rw [fM 14 0 6 (by first | decide | omega) (by first | decide | omega)]; exact n4, by rw [fN 14 0 5 0 (by first | decide | omega) (by first | decide | omega)]; exact n5, by rw [fN 14 0 5 1 (by first | decide | omega) (by first | decide | omega)]; exact n6⟩, hW, ?_, ?_, ?_, hsl p0 w0 (q4 hp).1 hW.2.2.2.1 s0, hsl p1 w1 (q4 hp).2 hW.2.2.2.2.1 s1⟩
  · rw [kk 0 (by decide), kk 2 (by decide), kk 3 (by decide), kk 5 (by decide), kk 7 (by decide), kk 8 (by decide), kk 9 (by decide), kk 10 (by decide), kk 11 (by decide), kk 12 (by decide)]
    exact a3
  · unfold IB at *
    rw [f12, f12, f12, f12, f12, fF 3 0 11 (by first | decide | omega) (by first | decide | omega) (by first | decide | omega) (by first | decide | omega) (by first | decide | omega) (by first | decide | omega) (by first | decide | omega) (by first | decide | omega) (by first | decide | omega)]
    exact hB
  · unfold MW at *
    have r : ∀ k, 13 ≤ k → k ≤ 15 → Bm' 14 0 k = Bm 14 0 k := fun k a b => by funext y; exact fN 14 0 k y (by first | decide | omega) (by first | decide | omega)
    rw [r 13 (by decide) (by decide), r 14 (by decide) (by decide), r 15 (by decide) (by decide)]
    exact d4
  · unfold IQp
    rw [kk 6 (by decide)]
    exact ⟨⟨q1, q2, q3⟩, q4, q5⟩
  · unfold IG at *
    have e0 : slE B' p0 = slE B p0 := slE_e (fun a v => b6 p0 q2 (q4 hp).1 0 v)
    have e1 : slE B' p1 = slE B p1 := slE_e (fun a v => b6 p1 q3 (q4 hp).2 0 v)
    have e : ∀ C : zB, slE C p = em C p := fun C => by unfold slE; rw [if_neg (by first | decide | omega)]
    rw [kk 6 (by decide), e0, e1, e B']
    rw [e B] at hG
    omega
  · intro y y0 y1
    rw [kk 6 (by decide)] at y1
    rw [kk 2 (by decide), kk 5 (by decide), kk 9 (by decide)]
    have g : ∀ k, ¬ (1 ≤ k ∧ k ≤ 7 ∨ k = 10 ∨ k = 11 ∨ k = 13) → F' 6 y k = F 6 y k := fun k hk => fF 6 y k y1 (by first | decide | omega) (by first | decide | omega) (by first | decide | omega) (by first | decide | omega) (by first | decide | omega) (by first | decide | omega) (by first | decide | omega) (by first | decide | omega)
    rw [g 8 (by decide), g 9 (by decide), g 12 (by decide)]
    exact hF y y0 y1
/-- the work piece is cleared -/
theorem C_pclr {K : zK} {p : Int} {F : zF} {B : zB} (hp : 0 ≤ p ∧ p < K.2 6) (h8 : F 6 p 8 < K.2 2) : ∃ F', f_Piece_clear K p F B = some (0, F', B) ∧ (∀ c y k, ¬ (c = 6 ∧ y = p ∧ (1 ≤ k ∧ k ≤ 7 ∨ k = 10 ∨ k = 11 ∨ k = 13)) → ¬ (c = 2 ∧ y = F 6 p 8 ∧ k = 0) → F' c y k = F c y k) ∧ (F' 6 p 1 = 0 ∧ F' 6 p 2 = 0 ∧ F' 6 p 3 = 0 ∧ F' 6 p 4 = 4 ∧ F' 6 p 5 = 4 ∧ F' 6 p 6 = 120 ∧ F' 6 p 10 = 0 ∧ F' 6 p 11 = 0 ∧ F' 6 p 13 = 0) ∧ (0 ≤ F 6 p 8 → F' 2 (F 6 p 8) 0 = 0) := by
  unfold f_Piece_clear f_Piece_clear_66
  rw [if_pos hp]
  by_cases a : F 6 p 8 < 0
  · rw [if_pos a]
    refine ⟨_, rfl, fun c y k b d => ?_, ⟨?_, ?_, ?_, ?_, ?_, ?_, ?_, ?_, ?_⟩, fun z => (by first | decide | omega)⟩
    · rw [zup3_v, if_neg (by first | decide | omega), zup3_v, if_neg (by first | decide | omega), zup3_v, if_neg (by first | decide | omega), zup3_v, if_neg (by first | decide | omega), zup3_v, if_neg (by first | decide | omega), zup3_v, if_neg (by first | decide | omega), zup3_v, if_neg (by first | decide | omega), zup3_v, if_neg (by first | decide | omega), zup3_v, if_neg (by first | decide | omega), zup3_v, if_neg (by first | decide | omega)]
    all_goals simp [zup3_v]
  · rw [if_neg a, if_pos (by first | decide | omega)]
    refine ⟨_, rfl, fun c y k b d => ?_, ⟨?_, ?_, ?_, ?_, ?_, ?_, ?_, ?_, ?_⟩, fun z => ?_⟩
    · rw [zup3_v, if_neg (by first | decide | omega), zup3_v, if_neg (by first | decide | omega), zup3_v, if_neg (by first | decide | omega), zup3_v, if_neg (by first | decide | omega), zup3_v, if_neg (by first | decide | omega), zup3_v, if_neg (by first | decide | omega), zup3_v, if_neg (by first | decide | omega), zup3_v, if_neg (by first | decide | omega), zup3_v, if_neg (by first | decide | omega), zup3_v, if_neg (by first | decide | omega), zup3_v, if_neg (by first | decide | omega)]
    all_goals simp [zup3_v]
end
end
section
section
/-! ===== read, both sides ===== -/
theorem PhF_1 {K K3 : zK} {p w : Int} {F F2 F3 F4 : zF} {B B3 : zB} {Fm Fm3 : zF} {Bm Bm3 : zB} (h2 : ∀ c y k, ¬ (c = 6 ∧ y = p ∧ (1 ≤ k ∧ k ≤ 7 ∨ k = 10 ∨ k = 11 ∨ k = 13)) → ¬ (c = 2 ∧ y = F 6 p 8 ∧ k = 0) → F2 c y k = F c y k) (f : PF K p w F2 B Fm Bm K3 F3 B3 Fm3 Bm3) (g : GS K3 B3) (r : ∀ q s, 0 ≤ q → q < K.2 4 → 0 ≤ s → s < 63 → r32 (B 4 q 12 s)) (h4 : ∀ c y k, ¬ (c = 0 ∧ y = 0) → F4 c y k = F3 c y k) : PhF K K3 p w F B Fm Bm F4 B3 Fm3 Bm3 := by
  obtain ⟨a1, a2, a3, a4, a5, a6, a7, a8, ⟨a9, a10, a11⟩, _, _⟩ := f
  refine ⟨⟨a1.1, a1.2, a9, a10, a11⟩, fun c y k y1 b1 b2 b3 b4 b5 b6 b7 b8 => ?_, fun c y k x y1 b1 b2 b3 b4 b5 b6 => a3 c y k x y1 b1 b2 b4, a4, fun c i k b1 b2 => a5 c i k (by first | decide | omega) (by first | decide | omega), fun c i k x b1 b2 => a6 c i k x (by first | decide | omega) (by first | decide | omega), g, a7, fun q s q0 q1 s0 s1 => ?_⟩
  · rw [h4 c y k b1, a2 c y k y1 b2 b3 (by first | decide | omega) b7, h2 c y k b5 b6]
  · by_cases e : q < K.2 4
    · rw [a3 4 q 12 s e (by first | decide | omega) (by first | decide | omega) (by first | decide | omega)]; exact r q s q0 e s0 s1
    · exact a8 q s (by first | decide | omega) q1
theorem PhF_2 {K K3 : zK} {p w : Int} {F F3 F1 F' : zF} {B B3 B1 : zB} {Fm Fm3 Fm1 Fm' : zF} {Bm Bm3 Bm1 : zB} (hp : 0 ≤ p ∧ p < K.2 6) (f : PhF K K3 p w F B Fm Bm F3 B3 Fm3 Bm3) (v : VTF p w F3 B3 (zup3 Fm3 14 0 35 0) Bm3 F1 B1 Fm1 Bm1) (g : GS K3 B1) (h1 : ∀ c y k, ¬ (c = 0 ∧ y = 0 ∧ (k = 1 ∨ k = 2)) → ¬ (c = 6 ∧ y = p ∧ k = 7) → F' c y k = F1 c y k) (h2 : ∀ c y j, ¬ (c = 14 ∧ y = 0 ∧ (j ≤ 1 ∨ j = 17 ∨ j = 18)) → Fm' c y j = Fm1 c y j) (k10 : 0 < K.2 10) : PhF K K3 p w F B Fm Bm F' B1 Fm' Bm1 := by
  obtain ⟨⟨k1, k2, k3, k4, k5⟩, fF, fB, fS, fM, fN, g1, g2, g3⟩ := f
  obtain ⟨v1, v2, v3, v4, v5, v6⟩ := v
  have e6 : ∀ u, B1 6 p 0 u = B3 6 p 0 u := fun u => v2 6 p 0 u (by first | decide | omega) (by first | decide | omega) (by first | decide | omega)
  have own : ∀ y, (∃ u, 0 ≤ u ∧ u < 4 ∧ 0 ≤ B3 6 p 0 u ∧ ownE B3 (B3 6 p 0 u) y) → ∃ u, 0 ≤ u ∧ u < 4 ∧ 0 ≤ B1 6 p 0 u ∧ ownE B1 (B1 6 p 0 u) y := fun y ⟨u, u0, u1, u2, u3⟩ => ⟨u, u0, u1, by rw [e6]; exact u2, by rw [e6]; exact (v3 u y u0 u1).mpr u3⟩
  have old : ∀ y, y < K.2 4 → (∃ u, 0 ≤ u ∧ u < 4 ∧ 0 ≤ B3 6 p 0 u ∧ y = B3 6 p 0 u) → ∃ u, 0 ≤ u ∧ u < 4 ∧ y = B 6 p 0 u := fun y hy ⟨u, u0, u1, u2, u3⟩ => by
    rcases fS u u0 u1 with z | z
    · exact ⟨u, u0, u1, (by first | decide | omega)⟩
    · omega
  refine ⟨⟨k1, k2, k3, k4, by rw [em_e e6]; exact k5⟩, fun c y k y1 b1 b2 b3 b4 b5 b6 b7 b8 => ?_, fun c y k x y1 b1 b2 b3 b4 b5 b6 => ?_, fun u u0 u1 => by rw [e6]; exact fS u u0 u1, fun c i k b1 b2 => ?_, fun c i k x b1 b2 => ?_, g, fun j => ?_, fun q s q0 q1 s0 s1 => v6 q (fun t t0 t1 => g3 q t q0 q1 t0 t1) s s0 s1⟩
  · rw [h1 c y k (by first | decide | omega) (by first | decide | omega), v1 c y k b4 (fun z => b7 ⟨z.1, old y (by have := z.1; subst this; exact y1) z.2.2⟩) (fun z => b8 ⟨z.1, own y z.2⟩), fF c y k y1 b1 b2 b3 b4 b5 b6 b7 (fun z => b8 ⟨z.1, own y z.2⟩)]
  · rw [v2 c y k x b3 (fun z => b5 ⟨z.1, z.2.1, old y (by have := z.1; subst this; exact y1) z.2.2⟩) (fun z => b6 ⟨z.1, own y z.2⟩), fB c y k x y1 b1 b2 b3 b4 b5 (fun z => b6 ⟨z.1, own y z.2⟩)]
  · rw [h2 c i k (by first | decide | omega), v4 c i k (by first | decide | omega) (by first | decide | omega), zup3_v, if_neg (by first | decide | omega), fM c i k b1 b2]
  · rw [v5 c i k x (by first | decide | omega) (by first | decide | omega), fN c i k x b1 b2]
  · rw [v2 10 0 5 j (by first | decide | omega) (by first | decide | omega) (by first | decide | omega)]; exact g2 j
theorem zb_as {x : zO} {t : zF → zB → zO} {k : Int → zF → zB → zO} : zbind x (fun _ F B => zbind (t F B) k) = zbind (zbind x (fun _ F B => t F B)) k := by
  cases x with
  | none => rfl
  | some q => rfl
end
end
section
section
/-! ===== read, both sides: what comes of it ===== -/
/-- a text that was read, and its piece kept at place l1 -/
def RdK (K : zK) (V p w wl l1 : Int) (F : zF) (B : zB) (Fm : zF) (Bm : zB) (Fm' : zF) (Bm' : zB) : Prop := (∀ c i k, ¬ (c = 14 ∧ i = 0 ∧ (k ≤ 1 ∨ k = 6)) → ¬ (c = 13 ∧ i = w ∧ (k = 0 ∨ 8 ≤ k)) → ¬ (c = 13 ∧ i = wl ∧ k = 0) → Fm' c i k = Fm c i k) ∧ (Fm' 14 0 6 = wl ∧ Fm' 13 w 0 = 1 ∧ Fm' 13 wl 0 = 0 ∧ Fm' 13 w 48 = 0 ∧ Fm' 13 w 53 = 0 ∧ Fm' 13 w 54 = 0 ∧ Fm' 13 w 60 = 0 ∧ Fm' 13 w 65 = 0 ∧ Fm' 13 w 66 = 0) ∧ (∀ c i k x, ¬ (c = 13 ∧ i = w ∧ (k = 20 ∨ 36 ≤ k)) → ¬ (c = 14 ∧ i = 0 ∧ k = 58) → ¬ (c = 14 ∧ i = 0 ∧ k = 5 ∧ x = l1) → Bm' c i k x = Bm c i k x) ∧ Bm' 14 0 5 l1 = w ∧ (XS Bm' ∧ XC Bm' ∧ X77 Bm') ∧ PK K V p w F B Fm' Bm' ∧ MK V w Fm' Bm'
theorem P_rdOK {K : zK} {Km : Nat} {N L V p w wl l1 : Int} {F3 F1 F5 : zF} {B3 B1 : zB} {Fm3 Fm1 Fm5 : zF} {Bm3 Bm1 : zB} (hI : VI K Km N L V N p w F3 B3 Fm3 Bm3) (V1 : 1 ≤ V) (v : VTF p w F3 B3 (zup3 Fm3 14 0 35 0) Bm3 F1 B1 Fm1 Bm1) (h1 : ∀ c y k, ¬ (c = 0 ∧ y = 0 ∧ (k = 1 ∨ k = 2)) → ¬ (c = 6 ∧ y = p ∧ k = 7) → F5 c y k = F1 c y k) (h2 : ∀ c y j, ¬ (c = 14 ∧ y = 0 ∧ (j ≤ 1 ∨ j = 17 ∨ j = 18)) → Fm5 c y j = Fm1 c y j) (h17 : Fm5 14 0 17 = 0) (h7 : F5 6 p 7 = Fm5 13 w 7 ∧ 0 ≤ F5 6 p 7 ∧ F5 6 p 7 ≤ 100 ∧ ∀ u, 0 ≤ u → u < V → Fm5 13 w 7 = clB (F1 4 (B1 6 p 0 u) 7) (barV (F3 6 p 4) (F3 6 p 5))) (hS : VLS K Km N L V p w (F3 6 p 4) (F3 6 p 5) V B3 (byB N Bm3) F1 B1 Fm1 Bm1) (x : XS Bm1 ∧ XC Bm1 ∧ X77 Bm1) (l0 : 0 ≤ l1 ∧ l1 < 2) (h5 : Bm1 14 0 5 l1 = wl) (wb : 0 ≤ wl ∧ wl < 3) (hw : ¬ wl = w) : ∃ Fm' Bm', f_M_read_35 Km l1 Fm5 Bm1 = some (0, Fm', Bm') ∧ RdK K V p w wl l1 F5 B1 Fm5 Bm1 Fm' Bm' := by
  obtain ⟨⟨hE, hPS, hHP, _⟩, hGS, iV1, iV2, iV3, hVv⟩ := hI
  obtain ⟨p0, w0, e6, k2, k3, k4, k5, k6, _⟩ := hHP
  obtain ⟨v1, v2, v3, v4, v5, v6⟩ := v
  obtain ⟨⟨hK, hKm, _⟩, _, _, hU, hD, _⟩ := hS
  have f6 : ∀ k, ¬ k = 7 → F5 6 p k = F3 6 p k := fun k hk => by rw [h1 6 p k (by first | decide | omega) (by first | decide | omega), v1 6 p k (by first | decide | omega) (by first | decide | omega) (by first | decide | omega)]
  have m13 : ∀ k, ¬ k = 7 → Fm5 13 w k = Fm3 13 w k := fun k hk => by rw [h2 13 w k (by first | decide | omega), v4 13 w k (by first | decide | omega) (by first | decide | omega), zup3_v, if_neg (by first | decide | omega)]
  have g6 : Fm5 14 0 6 = w := by rw [h2 14 0 6 (by first | decide | omega), v4 14 0 6 (by first | decide | omega) (by first | decide | omega), zup3_v, if_neg (by first | decide | omega)]; exact e6
  have gV : Fm5 13 w 1 = V := by rw [m13 1 (by first | decide | omega)]; exact iV2
  have b6 : ∀ u, B1 6 p 0 u = B3 6 p 0 u := fun u => v2 6 p 0 u (by first | decide | omega) (by first | decide | omega) (by first | decide | omega)
  obtain ⟨Bx, n', n0, y1, y2, y3⟩ := L_r57 (K := Km) (l1 := l1) (F := Fm5) (by first | decide | omega) w0 g6 gV iV3.2 V.toNat Km (u := 0) (B := Bm1) (by first | decide | omega) (by first | decide | omega) (by first | decide | omega) (fun t t0 t1 => by
    obtain ⟨m, g, d, _⟩ := hD t t0 t1
    refine ⟨m, d.2.1, d.1.2.2, fun i hi => ?_⟩
    have := (d.2.2.2.2.2.1 i hi).1.2.2.2.2.2.2.2.2.2.2.1
    exact ⟨this.2.1, this.2.2.1⟩)
  obtain ⟨n', rfl⟩ : ∃ j, n' = j + 1 := ⟨n' - 1, (by first | decide | omega)⟩
  have yx : ∀ k x, ¬ k = 20 → Bx 13 w k x = Bm1 13 w k x := fun k x hk => y3 13 w k x (by first | decide | omega)
  have PK0 : PK K V p w F5 B1 Fm5 Bx := by
    refine ⟨⟨p0, w0, ⟨V1, iV3.2⟩, by rw [f6 1 (by decide)]; exact iV1, gV⟩, ⟨by rw [f6 2 (by decide), m13 2 (by decide)]; exact k2, by rw [f6 3 (by decide), m13 3 (by decide)]; exact k3, by rw [f6 4 (by decide), m13 4 (by decide)]; exact k4, by rw [f6 5 (by decide), m13 5 (by decide)]; exact k5, by rw [f6 6 (by decide), m13 6 (by decide)]; exact k6, ⟨h7.1, h7.2.1, h7.2.2.1⟩⟩, fun u u0 u1 => ?_⟩
    obtain ⟨vr, _⟩ := hVv u u0 u1
    obtain ⟨r1, r2, r3, r4, r5, _, _, _, _, _, r11, r12⟩ := vr
    have q4 : ∀ k, k < 6 → F5 4 (B3 6 p 0 u) k = F3 4 (B3 6 p 0 u) k := fun k hk => by rw [h1 4 _ k (by first | decide | omega) (by first | decide | omega), v1 4 _ k (by first | decide | omega) (by first | decide | omega) (by first | decide | omega)]
    have q13 : ∀ k x, k < 12 → Bx 13 w k x = Bm3 13 w k x := fun k x hk => by rw [yx k x (by first | decide | omega), v5 13 w k x (by first | decide | omega) (by first | decide | omega)]
    obtain ⟨m, g, d, _⟩ := hD u u0 u1
    refine ⟨?_, m, g, ?_, ?_⟩
    · unfold VH
      rw [b6, q4 0 (by decide), q4 1 (by decide), q4 2 (by decide), q13 10 _ (by decide), q13 8 _ (by decide), q13 9 _ (by decide), q13 11 _ (by decide)]
      exact ⟨r1, r2, r4, r5, r3, r11, r12⟩
    · rw [f6 4 (by decide), f6 5 (by decide)]
      exact VK_d d (fun c y k a b => h1 c y k (by first | decide | omega) (by first | decide | omega)) (fun i hi => y2 u m i u0 u1 d.2.1 hi) (fun k x a _ => yx k x a)
    · rw [f6 4 (by decide), f6 5 (by decide), h1 4 _ 7 (by first | decide | omega) (by first | decide | omega)]
      exact h7.2.2.2 u u0 u1
  have hX : XS Bx := XS_f x.1 (fun i k z a b => y3 13 i k z (by first | decide | omega)) (fun z => y3 14 0 58 z (by first | decide | omega))
  have hC : XC Bx := XC_f x.2.1 (fun i k z hk => y3 13 i k z (by first | decide | omega))
  have h77 : X77 Bx := X77_f x.2.2 (fun i k z a b => y3 13 i k z (by first | decide | omega))
  obtain ⟨F', B', z1, z2, z3, z4, z5, z6, z7, z8, z9⟩ := L_tail (K := Km) (n := n') (l1 := l1) (w1 := wl) (F := Fm5) (B := Bx) (by first | decide | omega) g6 (PK_r PK0) hX hC h77 l0 (by rw [y3 14 0 5 l1 (by first | decide | omega)]; exact h5) wb hw
  refine ⟨F', B', ?_, z2, z3, fun c i k y a b d => ?_, z5, ⟨z6, z7, z8⟩, ?_, z9⟩
  · unfold f_M_read_35
    rw [L_good h17, zb_s, if_pos (by decide), if_neg (by decide), y1, z1]
  · rw [z4 c i k y (by first | decide | omega) b d, y3 c i k y (by first | decide | omega)]
  · exact PK_e PK0 (fun _ => Int.le_refl _) (fun _ _ => rfl) rfl (fun _ _ _ => rfl) (fun _ _ _ => rfl) (fun _ _ _ _ _ _ => rfl) (fun _ _ _ _ _ _ => rfl) (fun k a b => z2 13 w k (by first | decide | omega) (by first | decide | omega) (by first | decide | omega)) (fun k y hk => z4 13 w k y (by first | decide | omega) (by first | decide | omega) (by first | decide | omega))
/-- what a call of read comes to, both sides -/
theorem P_rd29 {K : zK} {Km : Nat} {p p0 p1 w w0 w1 l1 : Int} {F : zF} {B : zB} {Fm : zF} {Bm : zB} (h : IR K Km p p0 p1 w w0 w1 F B Fm Bm) (hT : IT F B Fm Bm) (hp : 0 ≤ p) (l0 : 0 ≤ l1 ∧ l1 < 2) : ∃ r K' F3 B3 Fm3 Bm3, PhF K K' p w F B Fm Bm F3 B3 Fm3 Bm3 ∧ (F3 0 0 1 = 0 ∧ Fm3 14 0 3 = 0) ∧ (F3 6 p 10 = 0 ∧ F3 6 p 11 = 0 ∧ F3 6 p 13 = 0 ∧ (0 ≤ F 6 p 8 → F3 2 (F 6 p 8) 0 = 0)) ∧ ((¬ r = 0 ∧ f_S_read_29 K 0 l1 F B = some (r, F3, B3, K') ∧ f_M_read Km l1 Fm Bm = some (r, Fm3, Bm3)) ∨ (r = 0 ∧ f_S_read_29 K 0 l1 F B = some (0, zup3 F3 12 0 7 (B3 12 0 3 l1), zup4 B3 12 0 3 l1 p, K') ∧ ∃ V Fm' Bm', f_M_read Km l1 Fm Bm = some (0, Fm', Bm') ∧ RdK K' V p w (Bm 14 0 5 l1) l1 F3 B3 Fm3 Bm3 Fm' Bm')) := by
  have h' := h
  obtain ⟨⟨a1, a2, a3⟩, ⟨o0, o2, o4, o5, o6, o11⟩, ⟨d1, d2, d3, d4, d5, d6, d7⟩, ⟨n1, n2, n3, n4, n5, n6⟩, hW, hQ, hG, hF, s0, s1⟩ := h
  obtain ⟨t1, t2, t3, t4, t5⟩ := hT
  have hpK : 0 ≤ p ∧ p < K.2 6 := ⟨hp, hQ.1.1⟩
  obtain ⟨F2, c1, c2, ⟨q1, q2, q3, q4, q5, q6, q10, q11, q13⟩, c4⟩ := C_pclr (B := B) hpK (hF p hp hpK.2).1
  have f12 : ∀ k, F2 12 0 k = F 12 0 k := fun k => c2 12 0 k (by first | decide | omega) (by first | decide | omega)
  have key := P_parse (K := K) (Km := Km) (n := F 0 0 1) (p := p) (w := w) (t := B 0 0 0) (F := F2) (B := B) (Fm := Fm) (Bm := Bm) a1 (by first | decide | omega) (by first | decide | omega) a3.2.2.1 (by first | decide | omega) (by rw [c2 3 0 11 (by first | decide | omega) (by first | decide | omega)]; exact o11) (c2 0 0 1 (by first | decide | omega) (by first | decide | omega)) t2 t3 t4 rfl d2 t1.symm t5 d4 d1 hpK hW.1 n4 q1 q2 q3 q4 q5 q6
  obtain ⟨r, F3, B3, K3, r', Fm3, Bm3, e1, e2, hPF, hGS, res⟩ := key
  have hph := PhF_1 (F4 := F3) c2 hPF hGS d3 (fun _ _ _ _ => rfl)
  have kk := hph.1.2.2.1
  have f3 : ∀ k, F3 12 0 k = F 12 0 k := fun k => by rw [hPF.2.1 12 0 k (by first | decide | omega) (by first | decide | omega) (by first | decide | omega) (by first | decide | omega) (by first | decide | omega), f12]
  have f36 : ∀ k, ¬ (1 ≤ k ∧ k ≤ 6) → F3 6 p k = F2 6 p k := fun k hk => hPF.2.1 6 p k hpK.2 (by first | decide | omega) (by first | decide | omega) (by first | decide | omega) (by first | decide | omega)
  have f32 : ∀ y k, y < K.2 2 → F3 2 y k = F2 2 y k := fun y k hy => hPF.2.1 2 y k hy (by first | decide | omega) (by first | decide | omega) (by first | decide | omega) (by first | decide | omega)
  have h8 := (hF p hp hpK.2).1
  -- the class up to its loop over voices
  have cE : f_S_read_29 K 0 l1 F B = f_S_read_54 K3.1 K3 0 r 0 l1 F3 B3 := by
    unfold f_S_read_29
    rw [if_pos ⟨Int.le_refl _, a3.2.2.2.2.2.2.2.2.2⟩, n1, if_pos hpK, c1, zbN_s, f12, o4, if_pos ⟨Int.le_refl _, a3.2.2.1⟩, f12, o0, if_pos (show 0 ≤ (0 : Int) ∧ 0 < K.2 0 by omega), f12, n1, if_pos hpK, e1]
    rfl
  -- the reference up to the judgement of its text
  have mE : f_M_read Km l1 Fm Bm = zbind (f_M_good Km Fm3 Bm3) (fun r7 F7 B7 => if r32 r7 then (if r7 = 0 then f_M_read_35 Km l1 F7 B7 else zbind (f_M_through Km F7 B7) (fun r10 F10 B10 => f_M_read_35 Km l1 F10 B10)) else none) := by
    unfold f_M_read
    rw [if_pos (by unfold r32; omega), if_neg (by first | decide | omega), if_pos (by first | decide | omega)]
    rw [zb_as (t := fun F B => f_M_text Km (zup3 F 14 0 3 0) B), e2, zb_s]
  have m3 : Fm3 14 0 3 = 0 ∨ True := Or.inr trivial
  have k12 : 0 < K3.2 12 := by rw [kk 12 (by decide)]; omega
  have k0 : 0 < K3.2 0 := by rw [kk 0 (by decide)]; omega
  have k11 : 0 < K3.2 11 := by rw [kk 11 (by decide)]; omega
  have k6 : p < K3.2 6 := by rw [kk 6 (by decide)]; exact hpK.2
  have kf : K3.1 = K.1 := hph.1.1
  rcases res with ⟨rfl, N, L, V, V1, hI⟩ | ⟨⟨er, b0, b1⟩, bd⟩
  · -- the text parses
    have h17 : Fm3 14 0 17 = 0 := hI.1.2.1.2.2.2.1
    obtain ⟨fl, F1, F5, B1, Fm1, Fm5, Bm1, x1, x2, x3, x4, x5, x6, x7, x8, x9, x10⟩ := P_thr (l1 := l1) hI V1 (by first | decide | omega) k0 k11 k12 (by rw [f3]; exact o0) (by rw [f3]; exact n1) (by rw [f3]; exact o5) (by rw [f3]; exact o4) h17 (fun u u0 u1 s s0 s1 => hph.2.2.2.2.2.2.2.2 _ s (hI.2.2.2.2.2 u u0 u1).1.1.1 (hI.2.2.2.2.2 u u0 u1).1.1.2 s0 s1)
    have hph2 := PhF_2 hpK hph x3 x8 x4 x6 (by first | decide | omega)
    have g6 : ∀ k, ¬ k = 7 → F5 6 p k = F3 6 p k := fun k hk => by rw [x4 6 p k (by first | decide | omega) (by first | decide | omega), x3.1 6 p k (by first | decide | omega) (by first | decide | omega) (by first | decide | omega)]
    have g2 : ∀ y k, F5 2 y k = F3 2 y k := fun y k => by rw [x4 2 y k (by first | decide | omega) (by first | decide | omega), x3.1 2 y k (by first | decide | omega) (by first | decide | omega) (by first | decide | omega)]
    have fl4 : F5 6 p 10 = 0 ∧ F5 6 p 11 = 0 ∧ F5 6 p 13 = 0 ∧ (0 ≤ F 6 p 8 → F5 2 (F 6 p 8) 0 = 0) := by
      rw [g6 10 (by decide), g6 11 (by decide), g6 13 (by decide), f36 10 (by decide), f36 11 (by decide), f36 13 (by decide)]
      exact ⟨q10, q11, q13, fun z => by rw [g2, f32 _ _ h8]; exact c4 z⟩
    have e17 : ∀ (x : zO), zbind (f_M_good Km Fm3 Bm3) (fun r7 F7 B7 => if r32 r7 then (if r7 = 0 then f_M_read_35 Km l1 F7 B7 else zbind (f_M_through Km F7 B7) (fun r10 F10 B10 => f_M_read_35 Km l1 F10 B10)) else none) = f_M_read_35 Km l1 Fm5 Bm1 := fun _ => by
      rw [L_good h17, zb_s, if_pos (by decide), if_neg (by decide), x2, zb_s]
    have fN := hph2.2.2.2.2.2.1
    have m3' : Fm5 14 0 3 = 0 := by
      rw [x6 14 0 3 (by first | decide | omega), x3.2.2.2.1 14 0 3 (by first | decide | omega) (by first | decide | omega), zup3_v, if_neg (by first | decide | omega)]
      exact hPF.2.2.2.2.2.2.2.2.2.1
    have f57 : F5 12 0 7 = p := by rw [x4 12 0 7 (by first | decide | omega) (by first | decide | omega), x3.1 12 0 7 (by first | decide | omega) (by first | decide | omega) (by first | decide | omega), f3]; exact n1
    have b12 : B1 12 0 3 l1 = B 12 0 3 l1 := by rw [x3.2.1 12 0 3 l1 (by first | decide | omega) (by first | decide | omega) (by first | decide | omega)]; exact hPF.2.2.1 12 0 3 l1 (by first | decide | omega) (by first | decide | omega) (by first | decide | omega) (by first | decide | omega)
    have pl : B 12 0 3 l1 < K.2 6 := by
      have : l1 = 0 ∨ l1 = 1 := by omega
      rcases this with rfl | rfl
      · rw [n2]; exact hQ.1.2.1
      · rw [n3]; exact hQ.1.2.2
    have wl : (0 ≤ Bm 14 0 5 l1 ∧ Bm 14 0 5 l1 < 3) ∧ ¬ Bm 14 0 5 l1 = w := by
      have : l1 = 0 ∨ l1 = 1 := by omega
      unfold IW at hW
      rcases this with rfl | rfl
      · rw [n5]; omega
      · rw [n6]; omega
    rcases x10 with ⟨rfl, z17, z7, zS⟩ | ⟨bd, e, b0, b1⟩
    · have w13 : ∀ i k x, 36 ≤ k → Bm1 13 i k x = Bm 13 i k x := fun i k x hk => fN 13 i k x (by first | decide | omega) (by first | decide | omega)
      obtain ⟨Fm', Bm', y1, y2⟩ := P_rdOK hI V1 x3 x4 x6 z17 z7 zS ⟨XS_f d5 (fun i k x a b => w13 i k x a) (fun x => fN 14 0 58 x (by first | decide | omega) (by first | decide | omega)), XC_f d6 (fun i k x hk => w13 i k x (by first | decide | omega)), X77_f d7 (fun i k x a b => w13 i k x (by first | decide | omega))⟩ l0 (fN 14 0 5 l1 (by first | decide | omega) (by first | decide | omega)) wl.1 wl.2
      refine ⟨0, K3, F5, B1, Fm5, Bm1, hph2, ⟨x5.1, m3'⟩, fl4, Or.inr ⟨rfl, ?_, V, Fm', Bm', by rw [mE, e17 none, y1], y2⟩⟩
      rw [cE, x1]
      unfold f_S_read_140
      rw [if_pos (by decide), if_pos rfl, if_pos ⟨Int.le_refl _, k12⟩, if_pos l0, f57, if_pos ⟨hp, k6⟩, b12, if_pos (by rw [kk 6 (by decide)]; exact pl)]
    · have fz : ¬ fl = 0 := by unfold bad at bd; omega
      refine ⟨fl, K3, F5, B1, Fm5, Bm1, hph2, ⟨x5.1, m3'⟩, fl4, Or.inl ⟨fz, ?_, ?_⟩⟩
      · rw [cE, x1]
        unfold f_S_read_140
        rw [if_pos x9, if_neg fz]
      · rw [mE, e17 none]
        unfold f_M_read_35
        rw [L_goodB bd, zb_s, if_pos (by decide), if_pos rfl, ← e]
  · -- the text does not parse
    have rz : ¬ r = 0 := by unfold bad at bd; omega
    have rr : r32 r := by unfold bad at bd; unfold r32; omega
    have v1 := hPF.2.2.2.2.2.2.2.2.2.2
    have hph2 := PhF_1 (F4 := zup3 (zup3 F3 0 0 1 0) 0 0 2 0) c2 hPF hGS d3 (fun c y k hh => by rw [zup3_v, if_neg (by first | decide | omega), zup3_v, if_neg (by first | decide | omega)])
    have z6 : ∀ c y k, ¬ (c = 0 ∧ y = 0) → (zup3 (zup3 F3 0 0 1 0) 0 0 2 0) c y k = F3 c y k := fun c y k hh => by rw [zup3_v, if_neg (by first | decide | omega), zup3_v, if_neg (by first | decide | omega)]
    refine ⟨r, K3, _, B3, Fm3, Bm3, hph2, ⟨by rw [zup3_v, if_neg (by first | decide | omega), zup3_v, if_pos (by first | decide | omega)], hPF.2.2.2.2.2.2.2.2.2.1⟩, ⟨by rw [z6 6 p 10 (by first | decide | omega), f36 10 (by decide)]; exact q10, by rw [z6 6 p 11 (by first | decide | omega), f36 11 (by decide)]; exact q11, by rw [z6 6 p 13 (by first | decide | omega), f36 13 (by decide)]; exact q13, fun z => by rw [z6 2 _ 0 (by first | decide | omega), f32 _ _ h8]; exact c4 z⟩, Or.inl ⟨rz, ?_, ?_⟩⟩
    · rw [cE]
      exact C_rdX (by first | decide | omega) k0 k12 ⟨hp, k6⟩ (by rw [f3]; exact n1) (by rw [f3]; exact o0) (by unfold r32; omega) rr rz
    · rw [mE, L_goodB bd, zb_s, if_pos (by decide), if_pos rfl]
      unfold f_M_read_35
      rw [L_goodB bd, zb_s, if_pos (by decide), if_pos rfl, ← er]
end
end
section
section
/-! ===== read keeps what stands between calls ===== -/
theorem IR_IC {K : zK} {Km : Nat} {p p0 p1 w w0 w1 : Int} {F : zF} {B : zB} {Fm : zF} {Bm : zB} (h : IR K Km p p0 p1 w w0 w1 F B Fm Bm) (t : IT F B Fm Bm) : IC K Km p p0 p1 w w0 w1 F B Fm Bm := by
  obtain ⟨a, b, c, d, e⟩ := h
  exact ⟨a, b, c, t, d, e⟩
theorem IC_IR {K : zK} {Km : Nat} {p p0 p1 w w0 w1 : Int} {F : zF} {B : zB} {Fm : zF} {Bm : zB} (h : IC K Km p p0 p1 w w0 w1 F B Fm Bm) : IR K Km p p0 p1 w w0 w1 F B Fm Bm ∧ IT F B Fm Bm := by
  obtain ⟨a, b, c, t, d, e⟩ := h
  exact ⟨⟨a, b, c, d, e⟩, t⟩
theorem IT_ph {K K' : zK} {p w : Int} {F F' : zF} {B B' : zB} {Fm Fm' : zF} {Bm Bm' : zB} (t : IT F B Fm Bm) (k : 0 < K.2 0) (f : PhF K K' p w F B Fm Bm F' B' Fm' Bm') (z : F' 0 0 1 = 0 ∧ Fm' 14 0 3 = 0) : IT F' B' Fm' Bm' := by
  obtain ⟨t1, t2, t3, t4, t5⟩ := t
  have e : B' 0 0 0 = B 0 0 0 := by funext x; exact f.2.2.1 0 0 0 x k (by first | decide | omega) (by first | decide | omega) (by first | decide | omega) (by first | decide | omega) (by first | decide | omega) (by first | decide | omega)
  refine ⟨by rw [z.1, z.2], (by first | decide | omega), (by first | decide | omega), by rw [e]; exact t4, ?_⟩
  rw [e, ← t5]
  unfold tmB
  funext y
  rw [f.2.2.2.2.2.1 14 0 2 y (by first | decide | omega) (by first | decide | omega)]
/-- the read piece changes places with one that was kept -/
theorem IR_sw {K : zK} {Km : Nat} {V p p0 p1 w w0 w1 l1 lo pl po wl wo : Int} {F : zF} {B : zB} {Fm Fm' : zF} {Bm Bm' : zB} (h : IR K Km p p0 p1 w w0 w1 F B Fm Bm) (hp : 0 ≤ p) (hl : (l1 = 0 ∧ lo = 1 ∧ pl = p0 ∧ po = p1 ∧ wl = w0 ∧ wo = w1) ∨ (l1 = 1 ∧ lo = 0 ∧ pl = p1 ∧ po = p0 ∧ wl = w1 ∧ wo = w0)) (r : RdK K V p w wl l1 F B Fm Bm Fm' Bm') : IA K Km ∧ IB (zup3 F 12 0 7 pl) ∧ ID K (zup4 B 12 0 3 l1 p) Bm' ∧ ((zup3 F 12 0 7 pl) 12 0 7 = pl ∧ (zup4 B 12 0 3 l1 p) 12 0 3 l1 = p ∧ (zup4 B 12 0 3 l1 p) 12 0 3 lo = po ∧ Fm' 14 0 6 = wl ∧ Bm' 14 0 5 l1 = w ∧ Bm' 14 0 5 lo = wo) ∧ IF K (zup3 F 12 0 7 pl) ∧ (∀ q, slE (zup4 B 12 0 3 l1 p) q = slE B q) ∧ SL K p w (zup3 F 12 0 7 pl) (zup4 B 12 0 3 l1 p) Fm' Bm' ∧ SL K po wo (zup3 F 12 0 7 pl) (zup4 B 12 0 3 l1 p) Fm' Bm' := by
  obtain ⟨hA, ⟨o0, o2, o4, o5, o6, o11⟩, ⟨d1, d2, d3, d4, d5, d6, d7⟩, ⟨n1, n2, n3, n4, n5, n6⟩, hW, hQ, hG, hF, s0, s1⟩ := h
  obtain ⟨r1, ⟨r2, r3, _⟩, r4, r5, ⟨r6, r7, r8⟩, r9, r10⟩ := r
  have fn : ∀ c y k, ¬ (c = 12 ∧ y = 0 ∧ k = 7) → (zup3 F 12 0 7 pl) c y k = F c y k := fun c y k a => by rw [zup3_v, if_neg a]
  have bn : ∀ c y k x, ¬ (c = 12 ∧ y = 0 ∧ k = 3 ∧ x = l1) → (zup4 B 12 0 3 l1 p) c y k x = B c y k x := fun c y k x a => by rw [zup4_v, if_neg a]
  have hwo : ¬ wo = w ∧ ¬ wo = wl := by unfold IW at hW; omega
  have hSo : SL K po wo F B Fm Bm := by
    rcases hl with ⟨_, _, _, e1, _, e2⟩ | ⟨_, _, _, e1, _, e2⟩
    · rw [e1, e2]; exact s1
    · rw [e1, e2]; exact s0
  have ho : B 12 0 3 lo = po ∧ Bm 14 0 5 lo = wo := by
    rcases hl with ⟨_, e0, _, e1, _, e2⟩ | ⟨_, e0, _, e1, _, e2⟩
    · rw [e0, e1, e2]; exact ⟨n3, n6⟩
    · rw [e0, e1, e2]; exact ⟨n2, n5⟩
  have nl : ¬ lo = l1 := by omega
  refine ⟨hA, ?_, ⟨GS_B d1 (fun y v _ _ => bn 6 y 0 v (by first | decide | omega)) (fun q x _ _ => bn 4 q 5 x (by first | decide | omega)), fun j => by rw [bn 10 0 5 j (by first | decide | omega)]; exact d2 j, fun q s a b c d => by rw [bn 4 q 12 s (by first | decide | omega)]; exact d3 q s a b c d, ?_, r6, r7, r8⟩, ⟨by rw [zup3_v, if_pos (by first | decide | omega)], by rw [zup4_v, if_pos (by first | decide | omega)], by rw [bn 12 0 3 lo (by first | decide | omega)]; exact ho.1, r2, r5, by rw [r4 14 0 5 lo (by first | decide | omega) (by first | decide | omega) (by first | decide | omega)]; exact ho.2⟩, ?_, fun q => slE_e (fun _ v => bn 6 q 0 v (by first | decide | omega)), Or.inr ⟨hp, r3, V, ?_, r10⟩, ?_⟩
  · unfold IB
    rw [fn 12 0 0 (by first | decide | omega), fn 12 0 2 (by first | decide | omega), fn 12 0 4 (by first | decide | omega), fn 12 0 5 (by first | decide | omega), fn 12 0 6 (by first | decide | omega), fn 3 0 11 (by first | decide | omega)]
    exact ⟨o0, o2, o4, o5, o6, o11⟩
  · unfold MW at *
    have r : ∀ k, 13 ≤ k → k ≤ 15 → Bm' 14 0 k = Bm 14 0 k := fun k a b => by funext y; exact r4 14 0 k y (by first | decide | omega) (by first | decide | omega) (by first | decide | omega)
    rw [r 13 (by decide) (by decide), r 14 (by decide) (by decide), r 15 (by decide) (by decide)]
    exact d4
  · intro y y0 y1
    rw [fn 6 y 8 (by first | decide | omega), fn 6 y 9 (by first | decide | omega), fn 6 y 12 (by first | decide | omega)]
    exact hF y y0 y1
  · exact PK_e r9 (fun _ => Int.le_refl _) (fun k _ => fn 6 p k (by first | decide | omega)) (by funext v; exact bn 6 p 0 v (by first | decide | omega)) (fun u _ _ => by funext k; exact fn 4 _ k (by first | decide | omega)) (fun u _ _ => by funext k x; exact bn 4 _ k x (by first | decide | omega)) (fun u i _ _ _ _ => by funext k; exact fn 1 _ k (by first | decide | omega)) (fun u i _ _ _ _ => by funext k x; exact bn 1 _ k x (by first | decide | omega)) (fun _ _ _ => rfl) (fun _ _ _ => rfl)
  · exact SL_e hSo (fun _ => Int.le_refl _) (fun _ _ k _ => fn 6 po k (by first | decide | omega)) (fun _ _ v => bn 6 po 0 v (by first | decide | omega)) (fun q k _ _ _ _ _ => ⟨fn 4 q k (by first | decide | omega), fun x => bn 4 q k x (by first | decide | omega)⟩) (fun q i k _ _ _ _ _ _ _ => ⟨fn 1 _ k (by first | decide | omega), fun x => bn 1 _ k x (by first | decide | omega)⟩) (fun k => r1 13 wo k (by first | decide | omega) (by first | decide | omega) (by first | decide | omega)) (fun k x => r4 13 wo k x (by first | decide | omega) (by first | decide | omega) (by first | decide | omega))
/-- the call of read, both sides, from any state between calls -/
theorem P_read29 {K : zK} {Km : Nat} {p p0 p1 w w0 w1 l1 : Int} {F : zF} {B : zB} {Fm : zF} {Bm : zB} (h : IC K Km p p0 p1 w w0 w1 F B Fm Bm) (hp : 0 ≤ p) (l0 : 0 ≤ l1 ∧ l1 < 2) : ∃ r K' F' B' Fm' Bm' q q0 q1 v v0 v1, f_S_read_29 K 0 l1 F B = some (r, F', B', K') ∧ f_M_read Km l1 Fm Bm = some (r, Fm', Bm') ∧ IC K' Km q q0 q1 v v0 v1 F' B' Fm' Bm' := by
  obtain ⟨hR, hT⟩ := IC_IR h
  obtain ⟨r, K', F3, B3, Fm3, Bm3, ph, z, fl, res⟩ := P_rd29 hR hT hp l0
  have k0 : 0 < K.2 0 := by have := hR.1.2.2.1; omega
  have hR' := IR_ph hR hp ph
  have hT' := IT_ph hT k0 ph z
  rcases res with ⟨rz, c, m⟩ | ⟨rfl, c, V, Fm', Bm', m, rk⟩
  · exact ⟨r, K', F3, B3, Fm3, Bm3, p, p0, p1, w, w0, w1, c, m, IR_IC hR' hT'⟩
  · have hT2 : IT (zup3 F3 12 0 7 (B3 12 0 3 l1)) (zup4 B3 12 0 3 l1 p) Fm' Bm' := by
      obtain ⟨t1, t2, t3, t4, t5⟩ := hT'
      have e : (zup4 B3 12 0 3 l1 p) 0 0 0 = B3 0 0 0 := by funext x; rw [zup4_v, if_neg (by first | decide | omega)]
      unfold IT
      rw [e, zup3_v, if_neg (by first | decide | omega), rk.1 14 0 3 (by first | decide | omega) (by first | decide | omega) (by first | decide | omega)]
      refine ⟨t1, t2, t3, t4, ?_⟩
      rw [← t5]
      unfold tmB
      funext y
      rw [rk.2.2.1 14 0 2 y (by first | decide | omega) (by first | decide | omega) (by first | decide | omega)]
    have n5 : Bm 14 0 5 0 = w0 ∧ Bm 14 0 5 1 = w1 := ⟨hR.2.2.2.1.2.2.2.2.1, hR.2.2.2.1.2.2.2.2.2⟩
    have nn := hR'.2.2.2.1
    have hW := hR'.2.2.2.2.1
    have hQ := hR'.2.2.2.2.2.1
    have hG := hR'.2.2.2.2.2.2.1
    have : l1 = 0 ∨ l1 = 1 := by omega
    rcases this with rfl | rfl
    · rw [n5.1] at rk
      rw [nn.2.1] at c hT2
      obtain ⟨s1, s2, s3, ⟨m1, m2, m3, m4, m5, m6⟩, s5, s6, s7, s8⟩ := IR_sw (l1 := 0) (lo := 1) (pl := p0) (po := p1) (wl := w0) (wo := w1) hR' hp (Or.inl ⟨rfl, rfl, rfl, rfl, rfl, rfl⟩) rk
      refine ⟨0, K', _, _, Fm', Bm', p0, p, p1, w0, w, w1, c, m, s1, s2, s3, hT2, ⟨m1, m2, m3, m4, m5, m6⟩, ?_, ?_, ?_, s5, s7, s8⟩
      · unfold IW at *; omega
      · unfold IQp at *; omega
      · unfold IG at *; rw [s6, s6, s6]; omega
    · rw [n5.2] at rk
      rw [nn.2.2.1] at c hT2
      obtain ⟨s1, s2, s3, ⟨m1, m2, m3, m4, m5, m6⟩, s5, s6, s7, s8⟩ := IR_sw (l1 := 1) (lo := 0) (pl := p1) (po := p0) (wl := w1) (wo := w0) hR' hp (Or.inr ⟨rfl, rfl, rfl, rfl, rfl, rfl⟩) rk
      refine ⟨0, K', _, _, Fm', Bm', p1, p0, p, w1, w0, w, c, m, s1, s2, s3, hT2, ⟨m1, m3, m2, m4, m6, m5⟩, ?_, ?_, ?_, s5, s8, s7⟩
      · unfold IW at *; omega
      · unfold IQp at *; omega
      · unfold IG at *; rw [s6, s6, s6]; omega
theorem P_read {K : zK} {Km : Nat} {p p0 p1 w w0 w1 l1 : Int} {F : zF} {B : zB} {Fm : zF} {Bm : zB} (h : IC K Km p p0 p1 w w0 w1 F B Fm Bm) (rl : r32 l1) : ∃ r K' F' B' Fm' Bm' q q0 q1 v v0 v1, f_S_read K 0 l1 F B = some (r, F', B', K') ∧ f_M_read Km l1 Fm Bm = some (r, Fm', Bm') ∧ IC K' Km q q0 q1 v v0 v1 F' B' Fm' Bm' := by
  by_cases l0 : 0 ≤ l1 ∧ l1 < 2
  · have hA := h.1.2.2
    have n1 := h.2.2.2.2.1.1
    have k12 : 0 ≤ (0 : Int) ∧ (0 : Int) < K.2 12 := ⟨Int.le_refl _, hA.2.2.2.2.2.2.2.2.2⟩
    have g6 : 0 ≤ K.2 6 := (h.2.2.1.1.1 6 (by decide)).1
    have g4 : 0 ≤ K.2 4 := (h.2.2.1.1.1 4 (by decide)).1
    by_cases hp : p < 0
    · have hN := IC_new h hp
      obtain ⟨r, K', F', B', Fm', Bm', q, q0, q1, v, v0, v1, c, m, hI⟩ := P_read29 (l1 := l1) hN g6 l0
      refine ⟨r, K', F', B', Fm', Bm', q, q0, q1, v, v0, v1, ?_, m, hI⟩
      have k6' : zinN K.2 6 6 = K.2 6 + 1 := by rw [zinN_v, if_pos rfl]
      have k12' : zinN K.2 6 12 = K.2 12 := by rw [zinN_v, if_neg (by decide)]
      unfold f_S_read f_Piece_init f_S_read_26
      rw [if_pos rl, if_neg (by first | decide | omega), if_pos l0.2, if_pos k12, n1, if_pos hp, if_pos g6, if_pos (by first | decide | omega), if_pos (by first | decide | omega), if_pos (by first | decide | omega), if_pos (by first | decide | omega)]
      simp only [zbM_s]
      rw [if_pos (show 0 ≤ K.2 6 ∧ K.2 6 < zinN K.2 6 6 by omega), if_pos (show 0 ≤ (0 : Int) ∧ (0 : Int) < zinN K.2 6 12 by omega), if_pos (show 0 ≤ (0 : Int) ∧ (0 : Int) < zinN K.2 6 12 by omega), if_pos (show K.2 6 < zinN K.2 6 6 by omega)]
      exact c
    · obtain ⟨r, K', F', B', Fm', Bm', q, q0, q1, v, v0, v1, c, m, hI⟩ := P_read29 (l1 := l1) h (by first | decide | omega) l0
      refine ⟨r, K', F', B', Fm', Bm', q, q0, q1, v, v0, v1, ?_, m, hI⟩
      unfold f_S_read
      rw [if_pos rl, if_neg (by first | decide | omega), if_pos l0.2, if_pos k12, n1, if_neg hp]
      exact c
  · refine ⟨-1, K, F, B, Fm, Bm, p, p0, p1, w, w0, w1, ?_, ?_, h⟩
    · unfold f_S_read f_S_read_9
      rw [if_pos rl]
      by_cases a : l1 < 0
      · rw [if_pos a]
      · rw [if_neg a, if_neg (by first | decide | omega)]
    · unfold f_M_read f_M_read_9
      rw [if_pos rl]
      by_cases a : l1 < 0
      · rw [if_pos a]
      · rw [if_neg a, if_neg (by first | decide | omega)]
end
end
section
section
/-! ===== sounds: ticks, forces, tones, pitches that hold on ===== -/
/-- the tick of a place -/
def tk (p : Int) : Int := p / 2116800
theorem tk_0 {p : Int} (h : 0 ≤ p) : 0 ≤ tk p := Int.ediv_nonneg h (by decide)
theorem tk_m {p q : Int} (h : p ≤ q) : tk p ≤ tk q := Int.ediv_le_ediv (by decide) h
theorem tk_b {p : Int} (h : p ≤ 1000000000000) : tk p ≤ 472411 := by
  have := tk_m h
  have : tk 1000000000000 ≤ 472411 := by decide
  omega
theorem C_tick {K : zK} {p : Int} {F : zF} {B : zB} (p0 : 0 ≤ p) (p1 : p ≤ 1000000000000) : f_Performance_tick K p F B = some (tk p, F, B) := by
  unfold f_Performance_tick tk
  rw [zldv_e (by first | decide | omega) (by first | decide | omega) (by decide) (by decide), show (812851200 : Int) = 384 * 2116800 by decide, Int.mul_ediv_mul_of_pos p 2116800 (show (0 : Int) < 384 by decide)]
theorem L_tick {K : Nat} {p : Int} {F : zF} {B : zB} (p0 : 0 ≤ p) (p1 : p ≤ 1000000000000) : f_M_tick K (nu p) (de p) F B = some (tk p, F, B) := by
  have h := FR_r p0
  have hb := FR_b h
  have hw : WW = 812851200 := rfl
  have e := (div_FR (c := 1) (d := 384) (q := 2116800) h.2.2.2 (by decide) h.1 (by decide) (by decide) (by decide)).1
  have t0 := tk_0 p0
  have t1 := tk_b p1
  have n0 := h.2.2.1
  have d0 := h.1
  unfold f_M_tick
  have v : zldv (384 * nu p) (de p) = tk p := by
    rw [zldv_e (by first | decide | omega) (by first | decide | omega) d0 (by first | decide | omega), Int.mul_comm 384]
    rw [Int.mul_one] at e
    exact e
  rw [if_pos (lI_n0 d0 (by unfold r64; omega)), v, if_pos (by unfold r32; omega)]
/-- how hard an event is struck -/
def foV (m l : Int) : Int := if 20 + 13 * l + (if zand m 16 = 0 then 0 else 15) ≤ 127 then 20 + 13 * l + (if zand m 16 = 0 then 0 else 15) else 127
theorem foV_b {m l : Int} (h : 0 ≤ l ∧ l ≤ 7) : 0 ≤ foV m l ∧ foV m l ≤ 127 := by
  unfold foV
  by_cases a : zand m 16 = 0
  · rw [if_pos a]; split <;> omega
  · rw [if_neg a]; split <;> omega
theorem mk8_f : ∀ n : Fin 128, (zand (n.val : Nat) 8 = 0 ∨ zand (n.val : Nat) 8 = 8) ∧ (zand (n.val : Nat) 16 = 0 ∨ zand (n.val : Nat) 16 = 16) ∧ (zand (n.val : Nat) 32 = 0 ∨ zand (n.val : Nat) 32 = 32) ∧ (zand (n.val : Nat) 64 = 0 ∨ zand (n.val : Nat) 64 = 64) := by decide
theorem mk8_i {a : Int} (h0 : 0 ≤ a) (h1 : a < 128) : (zand a 8 = 0 ∨ zand a 8 = 8) ∧ (zand a 16 = 0 ∨ zand a 16 = 16) ∧ (zand a 32 = 0 ∨ zand a 32 = 32) ∧ (zand a 64 = 0 ∨ zand a 64 = 64) := by
  have h := mk8_f ⟨a.toNat, (by first | decide | omega)⟩
  rw [show (((⟨a.toNat, (by first | decide | omega)⟩ : Fin 128).val : Nat) : Int) = a by show ((a.toNat : Nat) : Int) = a; omega] at h
  exact h
theorem C_force {K : zK} {e : Int} {F : zF} {B : zB} (he : 0 ≤ e ∧ e < K.2 1) (hl : 0 ≤ F 1 e 8 ∧ F 1 e 8 ≤ 7) : f_Performance_force K e F B = some (foV (F 1 e 7) (F 1 e 8), F, B) := by
  unfold f_Performance_force f_Performance_force_25 foV zmin
  rw [if_pos he, C_has he, zb_s]
  by_cases a : zand (F 1 e 7) 16 = 0
  · rw [if_pos a, if_pos (by decide), if_pos rfl, if_pos (by unfold r32; omega), if_pos a]
    by_cases b : 20 + 13 * F 1 e 8 + 0 ≤ 127
    · rw [if_pos b, if_neg (by first | decide | omega)]
    · rw [if_neg b, if_pos (by first | decide | omega)]
  · rw [if_neg a, if_pos (by decide), if_neg (by decide), if_pos (by unfold r32; omega), if_neg a]
    by_cases b : 20 + 13 * F 1 e 8 + 15 ≤ 127
    · rw [if_pos b, if_neg (by first | decide | omega)]
    · rw [if_neg b, if_pos (by first | decide | omega)]
/-- the reference's table of forces -/
def T61 (Bm : zB) : Prop := ∀ l, 0 ≤ l → l < 8 → Bm 14 0 61 l = 20 + 13 * l
theorem L_force {K : Nat} {w x : Int} {F : zF} {B : zB} (hT : T61 B) (w0 : 0 ≤ w ∧ w < 3) (x0 : 0 ≤ x ∧ x < 4000) (hm : 0 ≤ B 13 w 18 x ∧ B 13 w 18 x < 128) (hl : 0 ≤ B 13 w 19 x ∧ B 13 w 19 x ≤ 7) : f_M_forceOf K w x F B = some (foV (B 13 w 18 x) (B 13 w 19 x), F, B) := by
  obtain ⟨_, m16, _, _⟩ := mk8_i hm.1 hm.2
  unfold f_M_forceOf f_M_forceOf_29 f_M_forceOf_43 foV
  rw [if_pos w0, if_pos x0, if_pos (by first | decide | omega), if_pos (zand_R _ _), hT _ hl.1 (by first | decide | omega)]
  by_cases a : zand (B 13 w 18 x) 16 = 0
  · rw [if_pos (show zand (B 13 w 18 x) 16 ≤ 0 by omega), if_pos (show r32 (20 + 13 * B 13 w 19 x + 0) by unfold r32; omega), if_pos a]
    by_cases b : 20 + 13 * B 13 w 19 x + 0 ≤ 127
    · rw [if_pos b, if_pos b]
    · rw [if_neg b, if_neg b]
  · rw [if_neg (show ¬ zand (B 13 w 18 x) 16 ≤ 0 by omega), if_pos (show r32 (20 + 13 * B 13 w 19 x + 15) by unfold r32; omega), if_neg a]
    by_cases b : 20 + 13 * B 13 w 19 x + 15 ≤ 127
    · rw [if_pos b, if_pos b]
    · rw [if_neg b, if_neg b]
/-- the tone of a pitch -/
theorem C_tone {K : zK} {e k : Int} {F : zF} {B : zB} (he : 0 ≤ e ∧ e < K.2 1) (k0 : 0 ≤ k ∧ k < 6) (hs : 0 ≤ B 1 e 12 k ∧ B 1 e 12 k ≤ 62) : f_Event_tone K e k F B = some (tnv (B 1 e 12 k) + B 1 e 13 k, F, B) := by
  unfold f_Event_tone
  rw [if_pos he, if_pos k0, C_nat hs.1 hs.2, zb_s]
theorem L_toneT {K : Nat} {s a : Int} {F : zF} {B : zB} (h0 : 0 ≤ s) (h1 : s ≤ 62) : f_M_tone K s a F B = some (tnv s + a, F, B) := by
  rw [L_tone h0 (by first | decide | omega)]
  rfl
theorem tnv_r {s a : Int} (h0 : 0 ≤ s) (h1 : s ≤ 62) (a0 : -2 ≤ a) (a1 : a ≤ 2) : 0 ≤ tnv s + a ∧ tnv s + a ≤ 127 := by
  unfold tnv
  split <;> omega
/-- a pitch that an event has is found -/
theorem fP_i {rs ra : Int → Int} {c s a k : Int} (k1 : k < c) (e1 : rs k = s) (e2 : ra k = a) : ∀ (n : Nat) (j : Int), 0 ≤ j → j ≤ k → k - j < n → 0 ≤ fP rs ra c s a n j := by
  intro n
  induction n with
  | zero => intro j _ _ h; exfalso; omega
  | succ n ih =>
    intro j j0 jk h
    unfold fP
    split
    · omega
    · split
      · exact j0
      · rename_i h1 h2
        by_cases e : j = k
        · exfalso
          apply h2
          subst e
          exact ⟨e1, e2⟩
        · exact ih (j + 1) (by first | decide | omega) (by first | decide | omega) (by first | decide | omega)
end
end
section
section
/-! ===== pitches that hold on, both sides ===== -/
/-- where event e has the pitch s a, or below 0 -/
def hpB (e s a : Int) (F : zF) (B : zB) : Int := fP (B 1 e 12) (B 1 e 13) (F 1 e 10) s a 7 0
theorem hpB_b {e s a w x : Int} {F : zF} {B Bm : zB} (h : EVK w e x F B Bm) : -1 ≤ hpB e s a F B ∧ hpB e s a F B < 7 := fP_r (Int.le_refl _) h.2.2.2.2.2.2.2.2.2.2.2.2.1.2
theorem C_hpE {K : zK} {e s a w x : Int} {F : zF} {B Bm : zB} (hK : 3002 ≤ K.1) (he : 0 ≤ e ∧ e < K.2 1) (h : EVK w e x F B Bm) (rs : r32 s) (ra : r32 a) : f_Event_hasPitch K e s a F B = some (if hpB e s a F B < 0 then 0 else 1, F, B) := by
  have ep := h.2.2.2.2.2.2.2.2.2.2
  exact C_hasP hK he rfl ep.2.2.1.2 ep.2.2.1.1 (fun k k0 k1 => by have := ep.2.2.2.1 k k0 k1; unfold r32; omega) rs ra
theorem L_hpE {K : Nat} {e s a w x : Int} {F : zF} {B : zB} {Fm : zF} {Bm : zB} (hK : 3002 ≤ K) (w0 : 0 ≤ w ∧ w < 3) (hx : 0 ≤ x ∧ x < 4000) (h : EVK w e x F B Bm) (rs : r32 s) (ra : r32 a) : f_M_has K w x s a Fm Bm = some (hpB e s a F B, Fm, Bm) := by
  have ep := h.2.2.2.2.2.2.2.2.2.2
  rw [L_hasM hK w0 hx ep.2.1 ep.2.2.1.2 ep.2.2.1.1 (fun k k0 k1 => by have := ep.2.2.2.1 k k0 k1; unfold r32; omega) rs ra]
  unfold hpB
  rw [fP_c (rs' := fun k => Bm 13 w 28 (6 * x + k)) (ra' := fun k => Bm 13 w 29 (6 * x + k)) (fun j p r => ⟨(ep.2.2.2.1 j p r).1, (ep.2.2.2.1 j p r).2.1⟩)]
theorem hpB_i {e k w x : Int} {F : zF} {B Bm : zB} (h : EVK w e x F B Bm) (k0 : 0 ≤ k) (k1 : k < F 1 e 10) : 0 ≤ hpB e (B 1 e 12 k) (B 1 e 13 k) F B := by
  have ep := h.2.2.2.2.2.2.2.2.2.2.2.2.1
  exact fP_i k1 rfl rfl 7 0 (Int.le_refl _) k0 (by first | decide | omega)
/-- a voice as both sides keep it -/
def VS (K : zK) (q u w : Int) (m : Nat) (g : Int → Int) (F : zF) (B Bm : zB) : Prop := (0 ≤ q ∧ q < K.2 4) ∧ (0 ≤ w ∧ w < 3) ∧ (0 ≤ u ∧ u < 4) ∧ (F 4 q 6 = m ∧ 1 ≤ m ∧ m ≤ 200) ∧ Bm 13 w 12 u = m ∧ (∀ t : Int, 0 ≤ t → t < m → 0 ≤ B 4 q 5 t ∧ B 4 q 5 t < K.2 1) ∧ (∀ j : Int, 0 ≤ j → j < m → 1 ≤ g j) ∧ sumZ g m ≤ 1000000000000 ∧ (∀ i : Nat, i < m → EVK w (B 4 q 5 i) (1000 * u + i) F B Bm ∧ F 1 (B 4 q 5 i) 0 = sumZ g i ∧ Bm 13 w 14 (1000 * u + i) = nu (sumZ g i) ∧ Bm 13 w 15 (1000 * u + i) = de (sumZ g i) ∧ F 1 (B 4 q 5 i) 1 = g i ∧ (F 1 (B 4 q 5 i) 11 = Bm 13 w 27 (1000 * u + i) ∧ (F 1 (B 4 q 5 i) 11 = 0 ∨ F 1 (B 4 q 5 i) 11 = 1)) ∧ TIk q m F B i)
theorem VS_of {K : zK} {q u w bar : Int} {m : Nat} {g : Int → Int} {F : zF} {B Bm : zB} (h : VK K q u w m bar g F B Bm) (w0 : 0 ≤ w ∧ w < 3) (u0 : 0 ≤ u ∧ u < 4) (hb : 100 * bar ≤ 1000000000000) : VS K q u w m g F B Bm := by
  obtain ⟨a1, a4, a5, a6, a7, a8, a9, a10, c, nw, qn, gb⟩ := h
  refine ⟨qn.1, w0, u0, a1, a4, fun t t0 t1 => (qn.2.2.2.2.2.1 t t0 t1).1, a5, (by first | decide | omega), fun i hi => ?_⟩
  obtain ⟨ev, q1, q2, q3, q4⟩ := a8 i hi
  exact ⟨ev, q1, q2, q3, q4, a9 i hi, a10.2.2.2 i hi⟩
/-- event i holds the pitch s a on -/
def tieOn (q : Int) (i s a : Int) (F : zF) (B : zB) : Prop := ¬ zand (F 1 (B 4 q 5 i) 7) 1 = 0 ∧ 0 ≤ hpB (B 4 q 5 i) s a F B ∧ 0 ≤ hpB (B 4 q 5 (i + 1)) s a F B
theorem L_tiesE {K : zK} {Km : Nat} {q u w s a : Int} {m i : Nat} {g : Int → Int} {F : zF} {B : zB} {Fm : zF} {Bm : zB} (hKm : 3002 ≤ Km) (h : VS K q u w m g F B Bm) (hi : i < m) (rs : r32 s) (ra : r32 a) : (tieOn q i s a F B → f_M_ties Km w (1000 * u + i) s a Fm Bm = some (1, Fm, Bm)) ∧ (¬ tieOn q i s a F B → f_M_ties Km w (1000 * u + i) s a Fm Bm = some (0, Fm, Bm)) := by
  obtain ⟨h4, w0, u0, hm, _, hV, _, _, hE⟩ := h
  obtain ⟨ei, _, _, _, _, _, ti⟩ := hE i hi
  have e7 := ei.2.2.2.2.2.2.2.1
  obtain ⟨y1, _, _⟩ := mkb_i e7.2.1 e7.2.2
  have hx : 0 ≤ 1000 * u + (i : Int) ∧ 1000 * u + (i : Int) < 4000 := by omega
  have b1 := hpB_b (s := s) (a := a) ei
  unfold f_M_ties f_M_ties_37 f_M_ties_38 tieOn
  rw [if_pos w0, if_pos hx, if_pos (zand_R _ _), ← e7.1]
  by_cases z : zand (F 1 (B 4 q 5 i) 7) 1 = 0
  · rw [if_pos (show zand (F 1 (B 4 q 5 i) 7) 1 ≤ 0 by omega), if_pos (Or.inl rfl)]
    exact ⟨fun t => absurd z t.1, fun _ => rfl⟩
  · rw [if_neg (show ¬ zand (F 1 (B 4 q 5 i) 7) 1 ≤ 0 by omega), L_hpE hKm w0 hx ei rs ra, zb_s, if_pos (by unfold r32; omega)]
    by_cases y : hpB (B 4 q 5 i) s a F B < 0
    · rw [if_pos y, if_pos (Or.inl rfl)]
      exact ⟨fun t => (by first | decide | omega), fun _ => rfl⟩
    · have hi1 : i + 1 < m := by
        unfold TIk at ti
        rcases ti with t | t
        · omega
        · exact t
      obtain ⟨en, _⟩ := hE (i + 1) hi1
      have b2 := hpB_b (s := s) (a := a) en
      have ec : ((i + 1 : Nat) : Int) = (i : Int) + 1 := by omega
      rw [ec] at en b2
      rw [if_neg y, show 1000 * u + (i : Int) + 1 = 1000 * u + ((i : Int) + 1) by omega, L_hpE hKm w0 (by first | decide | omega) en rs ra, zb_s, if_pos (by unfold r32; omega)]
      by_cases x : hpB (B 4 q 5 ((i : Int) + 1)) s a F B < 0
      · rw [if_pos x, if_pos (Or.inl rfl)]
        exact ⟨fun t => (by first | decide | omega), fun _ => rfl⟩
      · rw [if_neg x, if_pos (Or.inr rfl)]
        exact ⟨fun _ => rfl, fun t => absurd ⟨z, (by first | decide | omega), (by first | decide | omega)⟩ t⟩
/-- a pitch of event i comes from the event ahead -/
theorem C_from {K : zK} {q u w k : Int} {m i : Nat} {g : Int → Int} {F : zF} {B Bm : zB} (hK : 3002 ≤ K.1) (h : VS K q u w m g F B Bm) (hi : i < m) (k0 : 0 ≤ k) (k1 : k < F 1 (B 4 q 5 i) 10) : ((0 < i ∧ tieOn q (i - 1) (B 1 (B 4 q 5 i) 12 k) (B 1 (B 4 q 5 i) 13 k) F B) → f_Part_isTiedFrom K q i k F B = some (1, F, B)) ∧ (¬ (0 < i ∧ tieOn q (i - 1) (B 1 (B 4 q 5 i) 12 k) (B 1 (B 4 q 5 i) 13 k) F B) → f_Part_isTiedFrom K q i k F B = some (0, F, B)) := by
  obtain ⟨h4, w0, u0, hm, _, hV, _, _, hE⟩ := h
  obtain ⟨ei, _⟩ := hE i hi
  have ep := ei.2.2.2.2.2.2.2.2.2.2
  have c6 := ep.2.2.1
  have pk := ep.2.2.2.1 k k0 k1
  have oi := hpB_i ei k0 k1
  unfold f_Part_isTiedFrom f_Part_isTiedFrom_56 f_Part_isTiedFrom_57
  rw [if_pos h4, if_pos (by first | decide | omega), if_pos (by unfold r32; omega)]
  by_cases z : (i : Int) ≤ 0
  · rw [if_pos z, if_pos (Or.inl rfl)]
    exact ⟨fun t => (by first | decide | omega), fun _ => rfl⟩
  · obtain ⟨j, hj⟩ : ∃ j, i = j + 1 := ⟨i - 1, (by first | decide | omega)⟩
    subst hj
    have ej : ((j + 1 : Nat) : Int) - 1 = (j : Int) := by omega
    have ej2 : (((j + 1 : Nat) : Int)) = (j : Int) + 1 := by omega
    obtain ⟨el, _⟩ := hE j (by first | decide | omega)
    have b1 := hpB_b (s := B 1 (B 4 q 5 ((j + 1 : Nat) : Int)) 12 k) (a := B 1 (B 4 q 5 ((j + 1 : Nat) : Int)) 13 k) el
    rw [if_neg z, ej, if_pos (by first | decide | omega), if_pos (hV j (by first | decide | omega) (by first | decide | omega)), C_has (hV j (by first | decide | omega) (by first | decide | omega)), zb_s]
    unfold tieOn
    by_cases y : zand (F 1 (B 4 q 5 j) 7) 1 = 0
    · rw [if_pos y, if_pos (by decide), if_pos rfl, if_pos (Or.inl rfl)]
      exact ⟨fun t => absurd y t.2.1, fun _ => rfl⟩
    · rw [if_neg y, if_pos (by decide), if_neg (by decide), if_pos (hV _ (by first | decide | omega) (by first | decide | omega)), if_pos (by first | decide | omega), if_pos (hV j (by first | decide | omega) (by first | decide | omega)), C_hpE hK (hV j (by first | decide | omega) (by first | decide | omega)) el (by unfold r32; omega) (by unfold r32; omega), zb_s]
      by_cases x : hpB (B 4 q 5 j) (B 1 (B 4 q 5 ((j + 1 : Nat) : Int)) 12 k) (B 1 (B 4 q 5 ((j + 1 : Nat) : Int)) 13 k) F B < 0
      · rw [if_pos x, if_pos (by decide), if_pos rfl, if_pos (Or.inl rfl)]
        exact ⟨fun t => (by first | decide | omega), fun _ => rfl⟩
      · rw [if_neg x, if_pos (by decide), if_neg (by decide), if_pos (Or.inr rfl)]
        refine ⟨fun _ => rfl, fun t => absurd ⟨(by first | decide | omega), y, (by first | decide | omega), ?_⟩ t⟩
        rw [← ej2]
        exact oi
end
end
section
section
/-! ===== a sound added, both sides ===== -/
def SR (V s j : Int) (B Bm : zB) : Prop := (B 5 s 340 j = Bm 14 0 67 j ∧ 0 ≤ B 5 s 340 j ∧ B 5 s 340 j < 4) ∧ (B 5 s 341 j = Bm 14 0 68 j ∧ 0 ≤ B 5 s 341 j ∧ B 5 s 341 j < 200) ∧ (B 5 s 342 j = Bm 14 0 65 j ∧ 0 ≤ B 5 s 342 j ∧ B 5 s 342 j ≤ 127) ∧ (B 5 s 343 j = Bm 14 0 66 j ∧ 0 ≤ B 5 s 343 j ∧ B 5 s 343 j ≤ 127) ∧ (B 5 s 344 j = Bm 14 0 63 j ∧ 0 ≤ B 5 s 344 j) ∧ (B 5 s 345 j = Bm 14 0 64 j ∧ B 5 s 345 j ≤ 500000) ∧ B 5 s 344 j < B 5 s 345 j ∧ B 5 s 340 j < V
def GA (V s : Int) (F : zF) (B : zB) (Fm : zF) (Bm : zB) : Prop := (F 5 s 1 = 0 ∧ F 5 s 0 = Fm 14 0 62 ∧ 0 ≤ F 5 s 0 ∧ F 5 s 0 ≤ 2000 ∧ ∀ j, 0 ≤ j → j < F 5 s 0 → SR V s j B Bm) ∨ (F 5 s 1 = 1 ∧ F 5 s 0 = 2000 ∧ 2000 < Fm 14 0 62)
/-- what gathering sounds changes -/
def gaF (s : Int) (F F' : zF) : Prop := ∀ c y k, ¬ (c = 5 ∧ y = s ∧ k ≤ 1) → F' c y k = F c y k
def gaB (s : Int) (B B' : zB) : Prop := ∀ c y k x, ¬ (c = 5 ∧ y = s ∧ 340 ≤ k) → B' c y k x = B c y k x
def gaG (F F' : zF) : Prop := ∀ c y k, ¬ (c = 14 ∧ y = 0 ∧ (k ≤ 1 ∨ k = 62)) → F' c y k = F c y k
def gaM (B B' : zB) : Prop := ∀ c y k x, ¬ (c = 14 ∧ y = 0 ∧ 63 ≤ k ∧ k ≤ 68) → B' c y k x = B c y k x
theorem gaF_t {s : Int} {F F1 F2 : zF} (h : gaF s F F1) (h' : gaF s F1 F2) : gaF s F F2 := fun c y k n => by rw [h' c y k n, h c y k n]
theorem gaB_t {s : Int} {B B1 B2 : zB} (h : gaB s B B1) (h' : gaB s B1 B2) : gaB s B B2 := fun c y k x n => by rw [h' c y k x n, h c y k x n]
theorem gaG_t {F F1 F2 : zF} (h : gaG F F1) (h' : gaG F1 F2) : gaG F F2 := fun c y k n => by rw [h' c y k n, h c y k n]
theorem gaM_t {B B1 B2 : zB} (h : gaM B B1) (h' : gaM B1 B2) : gaM B B2 := fun c y k x n => by rw [h' c y k x n, h c y k x n]
theorem GA_g {V s : Int} {F : zF} {B : zB} {Fm Fm' : zF} {Bm : zB} (h : GA V s F B Fm Bm) (e : Fm' 14 0 62 = Fm 14 0 62) : GA V s F B Fm' Bm := by
  unfold GA at *
  rw [e]
  exact h
theorem L_snd {K : Nat} {a b t fo v i : Int} {F : zF} {B : zB} (ab : a < b) (ra : 0 ≤ a) (rb : b ≤ 1000000) (c0 : 0 ≤ F 14 0 62) (c1 : F 14 0 62 ≤ 100000000) : ∃ B', f_M_sound_1 K a b t fo v i F B = some (0, zup3 F 14 0 62 (F 14 0 62 + 1), B') ∧ gaM B B' ∧ (F 14 0 62 < 2000 → (∀ k x, ¬ x = F 14 0 62 → B' 14 0 k x = B 14 0 k x) ∧ B' 14 0 63 (F 14 0 62) = a ∧ B' 14 0 64 (F 14 0 62) = b ∧ B' 14 0 65 (F 14 0 62) = t ∧ B' 14 0 66 (F 14 0 62) = fo ∧ B' 14 0 67 (F 14 0 62) = v ∧ B' 14 0 68 (F 14 0 62) = i) := by
  unfold f_M_sound_1 f_M_sound_1_79
  rw [if_pos (by unfold r32; omega), if_pos (by unfold r32; omega), if_neg (by first | decide | omega), if_pos (by unfold r32; omega)]
  by_cases z : 2000 ≤ F 14 0 62
  · rw [if_pos z]
    exact ⟨B, rfl, fun _ _ _ _ _ => rfl, fun h => (by first | decide | omega)⟩
  · rw [if_neg z, if_pos (by first | decide | omega)]
    refine ⟨_, rfl, fun c y k x n => ?_, fun _ => ⟨fun k x n => ?_, ?_, ?_, ?_, ?_, ?_, ?_⟩⟩
    · rw [zup4_v, if_neg (by first | decide | omega), zup4_v, if_neg (by first | decide | omega), zup4_v, if_neg (by first | decide | omega), zup4_v, if_neg (by first | decide | omega), zup4_v, if_neg (by first | decide | omega), zup4_v, if_neg (by first | decide | omega)]
    · rw [zup4_v, if_neg (by first | decide | omega), zup4_v, if_neg (by first | decide | omega), zup4_v, if_neg (by first | decide | omega), zup4_v, if_neg (by first | decide | omega), zup4_v, if_neg (by first | decide | omega), zup4_v, if_neg (by first | decide | omega)]
    all_goals simp [zup4_v]
theorem P_addS {K : zK} {Km : Nat} {V s v i t e a b : Int} {F : zF} {B : zB} {Fm : zF} {Bm : zB} (hs : 0 ≤ s ∧ s < K.2 5) (he : 0 ≤ e ∧ e < K.2 1) (hl : 0 ≤ F 1 e 8 ∧ F 1 e 8 ≤ 7) (v0 : 0 ≤ v ∧ v < 4) (vV : v < V) (i0 : 0 ≤ i ∧ i < 200) (t0 : 0 ≤ t ∧ t ≤ 127) (a0 : 0 ≤ a) (ab : a < b) (b1 : b ≤ 500000) (c0 : 0 ≤ Fm 14 0 62 ∧ Fm 14 0 62 ≤ 100000000) (h : GA V s F B Fm Bm) : ∃ F' B' Bm', f_Performance_addSound K s v i t e a b F B = some (0, F', B') ∧ f_M_sound_1 Km a b t (foV (F 1 e 7) (F 1 e 8)) v i Fm Bm = some (0, zup3 Fm 14 0 62 (Fm 14 0 62 + 1), Bm') ∧ gaF s F F' ∧ gaB s B B' ∧ gaM Bm Bm' ∧ GA V s F' B' (zup3 Fm 14 0 62 (Fm 14 0 62 + 1)) Bm' := by
  obtain ⟨Bm', m1, m2, m3⟩ := L_snd (K := Km) (t := t) (fo := foV (F 1 e 7) (F 1 e 8)) (v := v) (i := i) (B := Bm) ab a0 (by first | decide | omega) c0.1 c0.2
  have fb := foV_b (m := F 1 e 7) hl
  have z62 : (zup3 Fm 14 0 62 (Fm 14 0 62 + 1)) 14 0 62 = Fm 14 0 62 + 1 := by rw [zup3_v, if_pos (by first | decide | omega)]
  unfold f_Performance_addSound
  rw [if_pos hs]
  rcases h with ⟨g1, g2, g3, g4, g5⟩ | ⟨g1, g2, g3⟩
  · rw [if_pos (by unfold r32; omega)]
    by_cases z : F 5 s 0 < 2000
    · rw [if_pos z, if_pos (by first | decide | omega), C_force he hl, zb_s, if_pos (by first | decide | omega)]
      obtain ⟨n1, n2, n3, n4, n5, n6, n7⟩ := m3 (by first | decide | omega)
      generalize hB' : zup4 (zup4 (zup4 (zup4 (zup4 (zup4 B 5 s 340 (F 5 s 0) v) 5 s 341 (F 5 s 0) i) 5 s 342 (F 5 s 0) t) 5 s 343 (F 5 s 0) (foV (F 1 e 7) (F 1 e 8))) 5 s 344 (F 5 s 0) a) 5 s 345 (F 5 s 0) b = B'
      have bn : ∀ c y k x, ¬ (c = 5 ∧ y = s ∧ 340 ≤ k ∧ k ≤ 345 ∧ x = F 5 s 0) → B' c y k x = B c y k x := fun c y k x n => by rw [← hB', zup4_v, if_neg (by first | decide | omega), zup4_v, if_neg (by first | decide | omega), zup4_v, if_neg (by first | decide | omega), zup4_v, if_neg (by first | decide | omega), zup4_v, if_neg (by first | decide | omega), zup4_v, if_neg (by first | decide | omega)]
      have v0' : B' 5 s 340 (F 5 s 0) = v := by rw [← hB']; simp [zup4_v]
      have v1' : B' 5 s 341 (F 5 s 0) = i := by rw [← hB']; simp [zup4_v]
      have v2' : B' 5 s 342 (F 5 s 0) = t := by rw [← hB']; simp [zup4_v]
      have v3' : B' 5 s 343 (F 5 s 0) = foV (F 1 e 7) (F 1 e 8) := by rw [← hB']; simp [zup4_v]
      have v4' : B' 5 s 344 (F 5 s 0) = a := by rw [← hB']; simp [zup4_v]
      have v5' : B' 5 s 345 (F 5 s 0) = b := by rw [← hB']; simp [zup4_v]
      refine ⟨_, B', Bm', rfl, m1, fun c y k n => by rw [zup3_v, if_neg (by first | decide | omega)], fun c y k x n => bn c y k x (by first | decide | omega), m2, Or.inl ⟨by rw [zup3_v, if_neg (by first | decide | omega)]; exact g1, by rw [zup3_v, if_pos (by first | decide | omega), z62]; omega, by rw [zup3_v, if_pos (by first | decide | omega)]; omega, by rw [zup3_v, if_pos (by first | decide | omega)]; omega, fun j j0 j1 => ?_⟩⟩
      rw [zup3_v, if_pos (by first | decide | omega)] at j1
      by_cases y : j = F 5 s 0
      · unfold SR
        rw [← g2] at n2 n3 n4 n5 n6 n7
        rw [y, v0', v1', v2', v3', v4', v5', n2, n3, n4, n5, n6, n7]
        exact ⟨⟨rfl, v0⟩, ⟨rfl, i0⟩, ⟨rfl, t0⟩, ⟨rfl, fb⟩, ⟨rfl, a0⟩, ⟨rfl, b1⟩, ab, vV⟩
      · have := g5 j j0 (by first | decide | omega)
        unfold SR at this ⊢
        rw [bn 5 s 340 j (by first | decide | omega), bn 5 s 341 j (by first | decide | omega), bn 5 s 342 j (by first | decide | omega), bn 5 s 343 j (by first | decide | omega), bn 5 s 344 j (by first | decide | omega), bn 5 s 345 j (by first | decide | omega), n1 63 j (by first | decide | omega), n1 64 j (by first | decide | omega), n1 65 j (by first | decide | omega), n1 66 j (by first | decide | omega), n1 67 j (by first | decide | omega), n1 68 j (by first | decide | omega)]
        exact this
    · rw [if_neg z]
      exact ⟨_, B, Bm', rfl, m1, fun c y k n => by rw [zup3_v, if_neg (by first | decide | omega)], fun _ _ _ _ _ => rfl, m2, Or.inr ⟨by rw [zup3_v, if_pos (by first | decide | omega)], by rw [zup3_v, if_neg (by first | decide | omega)]; omega, by rw [z62]; omega⟩⟩
  · rw [if_pos (by unfold r32; omega), if_neg (by first | decide | omega)]
    exact ⟨_, B, Bm', rfl, m1, fun c y k n => by rw [zup3_v, if_neg (by first | decide | omega)], fun _ _ _ _ _ => rfl, m2, Or.inr ⟨by rw [zup3_v, if_pos (by first | decide | omega)], by rw [zup3_v, if_neg (by first | decide | omega)]; omega, by rw [z62]; omega⟩⟩
end
end
section
section
/-! ===== how long a pitch sounds, both sides ===== -/
/-- behind the last event that holds the pitch on, as the reference goes on -/
def plT (K : Nat) (l7 l6 l1 l2 l3 l4 l5 : Int) (F : zF) (B : zB) : zO := if 0 ≤ l1 ∧ l1 < 3 then if 0 ≤ l6 ∧ l6 < 4000 then zbind (f_M_tick K (B 13 l1 14 l6) (B 13 l1 15 l6) F B) (fun r6 F6 B6 => zbind (f_M_endTick K l1 l7 F6 B6) (fun r7 F7 B7 => if 0 ≤ l7 ∧ l7 < 4000 then if r32 (zand (B7 13 l1 18 l7) 8) then (if (zand (B7 13 l1 18 l7) 8) ≤ 0 then f_M_plain_81 K (r7 - r6) r6 l7 l6 l1 l2 l3 l4 l5 0 F7 B7 else f_M_plain_81 K (r7 - r6) r6 l7 l6 l1 l2 l3 l4 l5 1 F7 B7) else none else none)) else none else none
theorem P_last {K : zK} {Km : Nat} {q u w l6 i s a : Int} {m : Nat} {g : Int → Int} {F : zF} {B : zB} {Fm : zF} {Bm : zB} (hK : 3002 ≤ K.1) (hKm : 3002 ≤ Km) (h : VS K q u w m g F B Bm) (rs : r32 s) (ra : r32 a) : ∀ (r n n' j : Nat), j + r + 1 = m → r < n → r < n' → 0 ≤ hpB (B 4 q 5 j) s a F B → ∃ J : Nat, j ≤ J ∧ J < m ∧ f_Performance_lastTied_28 K n j a s q F B = some ((J : Int), F, B) ∧ f_M_plain_13 Km n' (1000 * u + j) l6 w u i s a Fm Bm = plT Km (1000 * u + J) l6 w u i s a Fm Bm := by
  intro r
  induction r with
  | zero =>
    intro n n' j jr hn hn' hp
    obtain ⟨n, rfl⟩ : ∃ k, n = k + 1 := ⟨n - 1, (by first | decide | omega)⟩
    obtain ⟨n', rfl⟩ : ∃ k, n' = k + 1 := ⟨n' - 1, (by first | decide | omega)⟩
    have hL := L_tiesE (Fm := Fm) hKm h (i := j) (by first | decide | omega) rs ra
    obtain ⟨h4, w0, u0, hm, _, hV, _, _, hE⟩ := h
    obtain ⟨ej, _, _, _, _, _, tj⟩ := hE j (by first | decide | omega)
    have e7 := ej.2.2.2.2.2.2.2.1
    obtain ⟨y1, _, _⟩ := mkb_i e7.2.1 e7.2.2
    have nt : ¬ tieOn q j s a F B := fun t => by
      unfold TIk at tj
      have := t.1
      omega
    refine ⟨j, Nat.le_refl _, (by first | decide | omega), ?_, ?_⟩
    · rw [f_Performance_lastTied_28, if_pos h4, if_pos (by unfold r32; omega), hm.1, if_pos (by unfold r32; omega), if_pos (by first | decide | omega), f_Performance_lastTied_77]
    · rw [f_M_plain_13, hL.2 nt, zb_s, if_pos (by decide), if_pos rfl]
      rfl
  | succ r ih =>
    intro n n' j jr hn hn' hp
    obtain ⟨n, rfl⟩ : ∃ k, n = k + 1 := ⟨n - 1, (by first | decide | omega)⟩
    obtain ⟨n', rfl⟩ : ∃ k, n' = k + 1 := ⟨n' - 1, (by first | decide | omega)⟩
    have hL := L_tiesE (Fm := Fm) hKm h (i := j) (by first | decide | omega) rs ra
    have h' := h
    obtain ⟨h4, w0, u0, hm, _, hV, _, _, hE⟩ := h
    obtain ⟨ej, _, _, _, _, _, tj⟩ := hE j (by first | decide | omega)
    obtain ⟨en, _⟩ := hE (j + 1) (by first | decide | omega)
    have ec : ((j + 1 : Nat) : Int) = (j : Int) + 1 := by omega
    rw [ec] at en
    have hvj := hV j (by first | decide | omega) (by first | decide | omega)
    have hvn := hV ((j : Int) + 1) (by first | decide | omega) (by first | decide | omega)
    have b2 := hpB_b (s := s) (a := a) en
    rw [f_Performance_lastTied_28, if_pos h4, if_pos (show r32 ((j : Int) + 1) by unfold r32; omega), hm.1, if_pos (show r32 (m : Int) by unfold r32; omega), if_neg (show ¬ (m : Int) ≤ (j : Int) + 1 by omega), if_pos (show 0 ≤ (j : Int) ∧ (j : Int) < 200 by omega), if_pos hvj, C_has hvj, zb_s]
    by_cases t : tieOn q j s a F B
    · have ih' := ih n n' (j + 1) (by first | decide | omega) (by first | decide | omega) (by first | decide | omega) (by rw [ec]; exact t.2.2)
      rw [ec] at ih'
      obtain ⟨J, x1, x2, x3, x4⟩ := ih'
      refine ⟨J, (by first | decide | omega), x2, ?_, ?_⟩
      · rw [if_neg t.1, if_pos (by decide), if_neg (by decide), if_pos (by first | decide | omega), if_pos hvn, C_hpE hK hvn en rs ra, zb_s, if_neg (show ¬ hpB (B 4 q 5 ((j : Int) + 1)) s a F B < 0 by have := t.2.2; omega), if_pos (by decide), if_neg (by decide)]
        exact x3
      · rw [f_M_plain_13, hL.1 t, zb_s, if_pos (by decide), if_neg (by decide), show 1000 * u + (j : Int) + 1 = 1000 * u + ((j : Int) + 1) by omega]
        exact x4
    · refine ⟨j, Nat.le_refl _, (by first | decide | omega), ?_, ?_⟩
      · by_cases z : zand (F 1 (B 4 q 5 j) 7) 1 = 0
        · rw [if_pos z, if_pos (by decide), if_pos rfl, f_Performance_lastTied_77]
        · have x : hpB (B 4 q 5 ((j : Int) + 1)) s a F B < 0 := by
            rcases Int.lt_or_le (hpB (B 4 q 5 ((j : Int) + 1)) s a F B) 0 with x | x
            · exact x
            · exact absurd ⟨z, hp, x⟩ t
          rw [if_neg z, if_pos (by decide), if_neg (by decide), if_pos (by first | decide | omega), if_pos hvn, C_hpE hK hvn en rs ra, zb_s, if_pos x, if_pos (by decide), if_pos rfl, f_Performance_lastTied_77]
      · rw [f_M_plain_13, hL.2 t, zb_s, if_pos (by decide), if_pos rfl]
        rfl
/-- how long a sound of d ticks is held -/
def duV (m sl d : Int) : Int := if zand m 8 = 0 then (if zand m 32 = 0 ∧ sl = 0 then d - d / 8 else d) else if 1 < d / 2 then d / 2 else 1
theorem duV_b {m sl d : Int} (h : 0 < d) : 1 ≤ duV m sl d ∧ duV m sl d ≤ d := by
  unfold duV
  split
  · split <;> omega
  · split <;> omega
theorem C_dur {K : zK} {e d : Int} {F : zF} {B : zB} (he : 0 ≤ e ∧ e < K.2 1) (h0 : 0 < d) (h1 : d ≤ 1000000) (hs : F 1 e 11 = 0 ∨ F 1 e 11 = 1) : f_Performance_sounded K e d F B = some (duV (F 1 e 7) (F 1 e 11) d, F, B) := by
  have d8 : zdv d 8 = d / 8 := zdv_e (by first | decide | omega) (by unfold r32; omega) (by decide) (by decide)
  have d2 : zdv d 2 = d / 2 := zdv_e (by first | decide | omega) (by unfold r32; omega) (by decide) (by decide)
  unfold f_Performance_sounded f_Performance_sounded_33 f_Performance_sounded_43 duV
  rw [if_pos he, C_has he, zb_s]
  by_cases a : zand (F 1 e 7) 8 = 0
  · rw [if_pos a, if_pos (by decide), if_pos rfl, C_has he, zb_s, if_pos a]
    by_cases b : zand (F 1 e 7) 32 = 0
    · rw [if_pos b, if_pos (by decide), if_pos rfl, if_pos (by unfold r32; omega), d8]
      by_cases c : F 1 e 11 = 0
      · rw [if_pos c, if_pos ⟨b, c⟩]
      · rw [if_neg c, if_neg (fun z => c z.2)]
    · rw [if_neg b, if_pos (by decide), if_neg (by decide), if_neg (fun z => b z.1)]
  · rw [if_neg a, if_pos (by decide), if_neg (by decide), d2, if_pos (by unfold r32; omega), if_neg a]
    unfold zmax
    rfl
theorem L_81 {K : Nat} {d t X x w u i s a : Int} {F : zF} {B : zB} (w0 : 0 ≤ w ∧ w < 3) (hX : 0 ≤ X ∧ X < 4000) (hm : 0 ≤ B 13 w 18 X ∧ B 13 w 18 X < 128) (h27 : B 13 w 27 X = 0 ∨ B 13 w 27 X = 1) (d1 : -1000000 ≤ d ∧ d ≤ 1000000) : (if (zand (B 13 w 18 X) 8) ≤ 0 then f_M_plain_81 K d t X x w u i s a 0 F B else f_M_plain_81 K d t X x w u i s a 1 F B) = if d ≤ 0 then some (0, F, B) else zbind (f_M_tone K s a F B) (fun r27 F27 B27 => zbind (f_M_forceOf K w x F27 B27) (fun r28 F28 B28 => zbind (f_M_sound_1 K t (t + duV (B 13 w 18 X) (B 13 w 27 X) d) r27 r28 u i F28 B28) (fun _ F29 B29 => some (0, F29, B29)))) := by
  obtain ⟨m8, _, m32, _⟩ := mk8_i hm.1 hm.2
  have z2 := zdv_R d 2
  have h164 : ∀ y, f_M_plain_164 K d t x w u i s a y F B = if d ≤ 0 then some (0, F, B) else zbind (f_M_tone K s a F B) (fun r27 F27 B27 => zbind (f_M_forceOf K w x F27 B27) (fun r28 F28 B28 => zbind (f_M_sound_1 K t (t + y) r27 r28 u i F28 B28) (fun _ F29 B29 => some (0, F29, B29)))) := fun y => by
    unfold f_M_plain_164 f_M_plain_198
    rw [if_pos (by unfold r32; omega)]
  by_cases dz : d ≤ 0
  · -- nothing sounds, whatever the marks
    have k : ∀ y, f_M_plain_164 K d t x w u i s a y F B = some (0, F, B) := fun y => by rw [h164, if_pos dz]
    have k116 : ∀ l10 l11, l10 = 0 ∨ l10 = 1 → l11 = 0 ∨ l11 = 1 → f_M_plain_116 K l10 d t x w u i s a l11 F B = some (0, F, B) := fun l10 l11 h10 h11 => by
      unfold f_M_plain_116 f_M_plain_134
      rw [if_pos z2, k, k, k, k]
      rcases h10 with rfl | rfl <;> rcases h11 with rfl | rfl <;> simp [r32]
    rw [if_pos dz]
    unfold f_M_plain_81 f_M_plain_111 f_M_plain_115
    rw [k116 0 1 (Or.inl rfl) (Or.inr rfl), k116 0 0 (Or.inl rfl) (Or.inl rfl), k116 1 0 (Or.inr rfl) (Or.inl rfl), if_pos w0, if_pos hX, if_pos (zand_R _ _), if_pos (show r32 (B 13 w 27 X) by unfold r32; omega)]
    simp [r32]
  · have d8 : zdv d 8 = d / 8 := zdv_e (by first | decide | omega) (by unfold r32; omega) (by decide) (by decide)
    have d2 : zdv d 2 = d / 2 := zdv_e (by first | decide | omega) (by unfold r32; omega) (by decide) (by decide)
    have k116 : ∀ l10 l11, l10 = 0 ∨ l10 = 1 → l11 = 0 ∨ l11 = 1 → f_M_plain_116 K l10 d t x w u i s a l11 F B = f_M_plain_164 K d t x w u i s a (if l11 = 0 then (if l10 = 0 then d - d / 8 else if 1 < d / 2 then d / 2 else 1) else d) F B := fun l10 l11 h10 h11 => by
      unfold f_M_plain_116 f_M_plain_134
      rw [if_pos z2, d2, d8]
      by_cases c : d / 2 ≤ 1
      · rw [if_pos c, if_neg (show ¬ 1 < d / 2 by omega)]
        rcases h10 with rfl | rfl <;> rcases h11 with rfl | rfl <;> simp [r32]
      · rw [if_neg c, if_pos (show 1 < d / 2 by omega)]
        rcases h10 with rfl | rfl <;> rcases h11 with rfl | rfl <;> simp [r32]
    rw [if_neg dz]
    unfold f_M_plain_81 f_M_plain_111 f_M_plain_115
    rw [k116 0 1 (Or.inl rfl) (Or.inr rfl), k116 0 0 (Or.inl rfl) (Or.inl rfl), k116 1 0 (Or.inr rfl) (Or.inl rfl), if_pos w0, if_pos hX, if_pos (zand_R _ _), if_pos (show r32 (B 13 w 27 X) by unfold r32; omega), h164, h164, h164, if_neg dz, if_neg dz, if_neg dz]
    rcases m8 with a8 | a8 <;> rcases m32 with a32 | a32 <;> rcases h27 with c | c <;> simp [r32, duV, a8, a32, c]
theorem L_endT {K : zK} {Km : Nat} {q u w : Int} {m J : Nat} {g : Int → Int} {F : zF} {B : zB} {Fm : zF} {Bm : zB} (hKm : 812851200 < Km) (h : VS K q u w m g F B Bm) (hJ : J < m) : f_M_endTick Km w (1000 * u + J) Fm Bm = some (tk (sumZ g J + g J), fr Fm (sumZ g J + g J), Bm) ∧ 0 ≤ sumZ g J ∧ 1 ≤ g J ∧ sumZ g J + g J ≤ 1000000000000 := by
  obtain ⟨h4, w0, u0, hm, _, hV, hg, hs, hE⟩ := h
  obtain ⟨ej, q1, q2, q3, q4, _⟩ := hE J hJ
  have e5 := ej.2.2.2.2.1
  have s0 := sumZ_0 hg J (by first | decide | omega)
  have s1 := sumZ_m hg (m - J - 1) (J + 1) (by first | decide | omega)
  have s2 : sumZ g (J + 1) = sumZ g J + g J := rfl
  have gJ := hg J (by first | decide | omega) (by first | decide | omega)
  refine ⟨?_, s0, gJ, (by first | decide | omega)⟩
  unfold f_M_endTick
  rw [if_pos w0, if_pos (by first | decide | omega), q2, q3, e5.1, e5.2.1, q4, L_plusR hKm (FR_r s0) (FR_r (by first | decide | omega)) (by first | decide | omega), zb_s, fr_0, fr_1, L_tick (by first | decide | omega) (by first | decide | omega), zb_s]
end
end
section
section
/-! ===== one event's sounds, both sides ===== -/
theorem VS_e {K : zK} {q u w s : Int} {m : Nat} {g : Int → Int} {F F' : zF} {B B' Bm Bm' : zB} (h : VS K q u w m g F B Bm) (f : gaF s F F') (b : gaB s B B') (n : gaM Bm Bm') : VS K q u w m g F' B' Bm' := by
  have f4 : F' 4 = F 4 := by funext y k; exact f 4 y k (by first | decide | omega)
  have f1 : F' 1 = F 1 := by funext y k; exact f 1 y k (by first | decide | omega)
  have b4 : B' 4 = B 4 := by funext y k x; exact b 4 y k x (by first | decide | omega)
  have b1 : B' 1 = B 1 := by funext y k x; exact b 1 y k x (by first | decide | omega)
  have m13 : Bm' 13 = Bm 13 := by funext y k x; exact n 13 y k x (by first | decide | omega)
  unfold VS EVK EPR TIk at *
  rw [f4, f1, b4, b1, m13]
  exact h
theorem T61_e {Bm Bm' : zB} (h : T61 Bm) (n : gaM Bm Bm') : T61 Bm' := fun l l0 l1 => by rw [n 14 0 61 l (by first | decide | omega)]; exact h l l0 l1
/-- a pitch that begins at event i: what is added on both sides -/
theorem P_pit {K : zK} {Km : Nat} {V s q u w k : Int} {m i : Nat} {g : Int → Int} {F : zF} {B : zB} {Fm : zF} {Bm : zB} (hK : 3002 ≤ K.1) (hKm : 812851200 < Km) (hs : 0 ≤ s ∧ s < K.2 5) (uV : u < V) (h : VS K q u w m g F B Bm) (hT : T61 Bm) (hi : i < m) (k0 : 0 ≤ k) (k1 : k < F 1 (B 4 q 5 i) 10) (c0 : 0 ≤ Fm 14 0 62 ∧ Fm 14 0 62 ≤ 100000000) (hG : GA V s F B Fm Bm) : ∃ (J : Nat) (F' : zF) (B' : zB) (Fm' : zF) (Bm' : zB), J < m ∧ f_Performance_lastTied K q i k F B = some ((J : Int), F, B) ∧ f_M_plain Km w u i (Bm 13 w 28 (6 * (1000 * u + i) + k)) (Bm 13 w 29 (6 * (1000 * u + i) + k)) Fm Bm = some (0, Fm', Bm') ∧ gaF s F F' ∧ gaB s B B' ∧ gaG Fm Fm' ∧ gaM Bm Bm' ∧ GA V s F' B' Fm' Bm' ∧ (Fm 14 0 62 ≤ Fm' 14 0 62 ∧ Fm' 14 0 62 ≤ Fm 14 0 62 + 1) ∧ ((tk (sumZ g J + g J) - tk (sumZ g i) ≤ 0 ∧ F' = F ∧ B' = B) ∨ (0 < tk (sumZ g J + g J) - tk (sumZ g i) ∧ f_Performance_addSound K s u i (tnv (B 1 (B 4 q 5 i) 12 k) + B 1 (B 4 q 5 i) 13 k) (B 4 q 5 i) (tk (sumZ g i)) (tk (sumZ g i) + duV (F 1 (B 4 q 5 J) 7) (F 1 (B 4 q 5 J) 11) (tk (sumZ g J + g J) - tk (sumZ g i))) F B = some (0, F', B'))) := by
  have h' := h
  obtain ⟨h4, w0, u0, hm, h12, hV, hg, hsm, hE⟩ := h
  obtain ⟨ei, q1, q2, q3, q4, q5, _⟩ := hE i hi
  have ep := ei.2.2.2.2.2.2.2.2.2.2
  have c6 := ep.2.2.1
  obtain ⟨p1, p2, p3, p4⟩ := ep.2.2.2.1 k k0 k1
  have hie := hV i (by first | decide | omega) (by first | decide | omega)
  have s0 := sumZ_0 hg i (by first | decide | omega)
  have oi := hpB_i ei k0 k1
  obtain ⟨J, j1, j2, j3, j4⟩ := P_last (K := K) (Km := Km) (l6 := 1000 * u + i) (i := i) (s := B 1 (B 4 q 5 i) 12 k) (a := B 1 (B 4 q 5 i) 13 k) (Fm := Fm) hK (by first | decide | omega) h' (by unfold r32; omega) (by unfold r32; omega) (m - i - 1) K.1 Km i (by first | decide | omega) (by first | decide | omega) (by first | decide | omega) oi
  obtain ⟨eJ, _, _, _, J4, J5, _⟩ := hE J j2
  obtain ⟨t1, t2, t3, t4⟩ := L_endT (Fm := Fm) hKm h' j2
  have e7 := eJ.2.2.2.2.2.2.2.1
  have sm := sumZ_m hg (m - i - 1) (i + 1) (by first | decide | omega)
  have s2 : sumZ g (i + 1) = sumZ g i + g i := rfl
  have gi := hg i (by first | decide | omega) (by first | decide | omega)
  have tb := tk_b (show sumZ g J + g J ≤ 1000000000000 by omega)
  have ta := tk_b (show sumZ g i ≤ 1000000000000 by omega)
  have tc := tk_0 s0
  have td := tk_0 (show 0 ≤ sumZ g J + g J by omega)
  have cl : f_Performance_lastTied K q i k F B = some ((J : Int), F, B) := by
    unfold f_Performance_lastTied
    rw [if_pos h4, if_pos (by first | decide | omega), if_pos hie, if_pos (by first | decide | omega)]
    exact j3
  have hx : 0 ≤ 1000 * u + (i : Int) ∧ 1000 * u + (i : Int) < 4000 := by omega
  have hX : 0 ≤ 1000 * u + (J : Int) ∧ 1000 * u + (J : Int) < 4000 := by omega
  have tn := tnv_r p3.1 p3.2 p4.1 p4.2
  have e8 := ei.2.2.2.2.2.2.2.2.1
  have e7i := ei.2.2.2.2.2.2.2.1
  generalize hD : tk (sumZ g J + g J) - tk (sumZ g i) = D at *
  have mm : f_M_plain Km w u i (Bm 13 w 28 (6 * (1000 * u + i) + k)) (Bm 13 w 29 (6 * (1000 * u + i) + k)) Fm Bm = if D ≤ 0 then some (0, fr Fm (sumZ g J + g J), Bm) else zbind (f_M_sound_1 Km (tk (sumZ g i)) (tk (sumZ g i) + duV (F 1 (B 4 q 5 J) 7) (F 1 (B 4 q 5 J) 11) D) (tnv (B 1 (B 4 q 5 i) 12 k) + B 1 (B 4 q 5 i) 13 k) (foV (F 1 (B 4 q 5 i) 7) (F 1 (B 4 q 5 i) 8)) u i (fr Fm (sumZ g J + g J)) Bm) (fun _ F29 B29 => some (0, F29, B29)) := by
    unfold f_M_plain
    rw [← p1, ← p2, j4]
    unfold plT
    rw [if_pos w0, if_pos hx, q2, q3, L_tick s0 (by first | decide | omega), zb_s, t1, zb_s, if_pos hX, if_pos (zand_R _ _), L_81 w0 hX (by rw [← e7.1]; exact e7.2) (by rw [← J5.1]; exact J5.2) (by first | decide | omega), hD]
    by_cases z : D ≤ 0
    · rw [if_pos z, if_pos z]
    · rw [if_neg z, if_neg z, L_toneT p3.1 p3.2, zb_s, L_force hT w0 hx (by rw [← e7i.1]; exact e7i.2) (by rw [← e8.1]; exact e8.2), zb_s, ← e7.1, ← J5.1, ← e7i.1, ← e8.1]
  have c62 : fr Fm (sumZ g J + g J) 14 0 62 = Fm 14 0 62 := fr_n (by first | decide | omega)
  by_cases z : D ≤ 0
  · rw [if_pos z] at mm
    exact ⟨J, F, B, _, Bm, j2, cl, mm, fun _ _ _ _ => rfl, fun _ _ _ _ _ => rfl, fun c y k n => fr_n (by first | decide | omega), fun _ _ _ _ _ => rfl, GA_g hG c62, (by first | decide | omega), Or.inl ⟨(by first | decide | omega), rfl, rfl⟩⟩
  · rw [if_neg z] at mm
    have du := duV_b (m := F 1 (B 4 q 5 J) 7) (sl := F 1 (B 4 q 5 J) 11) (show 0 < D by omega)
    obtain ⟨F', B', Bm', a1, a2, a3, a4, a5, a6⟩ := P_addS (K := K) (Km := Km) (v := u) (i := i) (t := tnv (B 1 (B 4 q 5 i) 12 k) + B 1 (B 4 q 5 i) 13 k) (e := B 4 q 5 i) (a := tk (sumZ g i)) (b := tk (sumZ g i) + duV (F 1 (B 4 q 5 J) 7) (F 1 (B 4 q 5 J) 11) D) (Fm := fr Fm (sumZ g J + g J)) hs hie e8.2 u0 uV (by first | decide | omega) tn tc (by first | decide | omega) (by first | decide | omega) (by rw [c62]; exact c0) (GA_g hG c62)
    rw [a2, zb_s] at mm
    refine ⟨J, F', B', _, Bm', j2, cl, mm, a3, a4, fun c y k n => by rw [zup3_v, if_neg (by first | decide | omega), fr_n (by first | decide | omega)], a5, a6, by rw [zup3_v, if_pos (by first | decide | omega), c62]; omega, Or.inr ⟨(by first | decide | omega), by rw [hD]; exact a1⟩⟩
/-- an event whose pitches sound plainly -/
theorem P_sAll {K : zK} {Km : Nat} {V s q u w : Int} {m i : Nat} {g : Int → Int} {rec7 : Int → Int → zF → zB → zO} {rec : Int → Int → Int → zF → zB → zO} (hK : 3002 ≤ K.1) (hKm : 812851200 < Km) (hs : 0 ≤ s ∧ s < K.2 5) (uV : u < V) (hi : i < m) : ∀ (r n n' : Nat) {k : Int} {F : zF} {B : zB} {Fm : zF} {Bm : zB}, VS K q u w m g F B Bm → T61 Bm → k + r = F 1 (B 4 q 5 i) 10 → 0 ≤ k → r < n → r < n' → (¬ zand (F 1 (B 4 q 5 i) 7) 64 = 0 → F 1 (B 4 q 5 i) 10 = 1 → tieOn q i (B 1 (B 4 q 5 i) 12 0) (B 1 (B 4 q 5 i) 13 0) F B ∨ (0 < i ∧ tieOn q (i - 1) (B 1 (B 4 q 5 i) 12 0) (B 1 (B 4 q 5 i) 13 0) F B)) → 0 ≤ Fm 14 0 62 → Fm 14 0 62 + r ≤ 100000000 → GA V s F B Fm Bm → ∃ F' B' Fm' Bm', f_Performance_soundAll_21 K n k (tk (sumZ g i)) (B 4 q 5 i) s q u i F B = some (0, F', B') ∧ f_M_gather_39 rec7 rec Km n' k (1000 * u + i) i u w Fm Bm = rec (i + 1) u w Fm' Bm' ∧ gaF s F F' ∧ gaB s B B' ∧ gaG Fm Fm' ∧ gaM Bm Bm' ∧ GA V s F' B' Fm' Bm' ∧ Fm 14 0 62 ≤ Fm' 14 0 62 ∧ Fm' 14 0 62 ≤ Fm 14 0 62 + r := by
  intro r
  induction r with
  | zero =>
    intro n n' k F B Fm Bm h hT hk k0 hn hn' hNT c0 c1 hG
    obtain ⟨n, rfl⟩ : ∃ j, n = j + 1 := ⟨n - 1, (by first | decide | omega)⟩
    obtain ⟨n', rfl⟩ : ∃ j, n' = j + 1 := ⟨n' - 1, (by first | decide | omega)⟩
    obtain ⟨h4, w0, u0, hm, h12, hV, hg, hsm, hE⟩ := h
    obtain ⟨ei, _⟩ := hE i hi
    have ep := ei.2.2.2.2.2.2.2.2.2.2
    have hie := hV i (by first | decide | omega) (by first | decide | omega)
    refine ⟨F, B, Fm, Bm, ?_, ?_, fun _ _ _ _ => rfl, fun _ _ _ _ _ => rfl, fun _ _ _ _ => rfl, fun _ _ _ _ _ => rfl, hG, (by first | decide | omega), (by first | decide | omega)⟩
    · rw [f_Performance_soundAll_21, if_pos hie, if_pos (by have := ep.2.2.1; unfold r32; omega), if_pos (by have := ep.2.2.1; unfold r32; omega), if_pos (by first | decide | omega)]
    · rw [f_M_gather_39, if_pos w0, if_pos (by first | decide | omega), if_pos (by have := ep.2.2.1; unfold r32; omega), ep.2.1, if_pos (by have := ep.2.2.1; unfold r32; omega), if_pos (by first | decide | omega)]
  | succ r ih =>
    intro n n' k F B Fm Bm h hT hk k0 hn hn' hNT c0 c1 hG
    obtain ⟨n, rfl⟩ : ∃ j, n = j + 1 := ⟨n - 1, (by first | decide | omega)⟩
    obtain ⟨n', rfl⟩ : ∃ j, n' = j + 1 := ⟨n' - 1, (by first | decide | omega)⟩
    have h' := h
    obtain ⟨h4, w0, u0, hm, h12, hV, hg, hsm, hE⟩ := h
    obtain ⟨ei, q1, q2, q3, q4, q5, _⟩ := hE i hi
    have ep := ei.2.2.2.2.2.2.2.2.2.2
    have c6 := ep.2.2.1
    have k1 : k < F 1 (B 4 q 5 i) 10 := by omega
    obtain ⟨p1, p2, p3, p4⟩ := ep.2.2.2.1 k k0 k1
    have hie := hV i (by first | decide | omega) (by first | decide | omega)
    have e7 := ei.2.2.2.2.2.2.2.1
    obtain ⟨_, _, _, m64⟩ := mk8_i e7.2.1 e7.2.2
    have rk : r32 k := by unfold r32; omega
    have rc : r32 (F 1 (B 4 q 5 i) 10) := by unfold r32; omega
    have hx : 0 ≤ 1000 * u + (i : Int) ∧ 1000 * u + (i : Int) < 4000 := by omega
    have ri : r32 (i : Int) := by unfold r32; omega
    obtain ⟨fr1, fr0⟩ := C_from hK h' hi k0 k1
    have rs : r32 (B 1 (B 4 q 5 i) 12 k) := by unfold r32; omega
    have ra : r32 (B 1 (B 4 q 5 i) 13 k) := by unfold r32; omega
    -- what follows on both sides
    have go : ∀ {F1 : zF} {B1 : zB} {Fm1 : zF} {Bm1 : zB}, gaF s F F1 → gaB s B B1 → gaG Fm Fm1 → gaM Bm Bm1 → GA V s F1 B1 Fm1 Bm1 → Fm 14 0 62 ≤ Fm1 14 0 62 → Fm1 14 0 62 ≤ Fm 14 0 62 + 1 → ∃ F' B' Fm' Bm', f_Performance_soundAll_21 K n (k + 1) (tk (sumZ g i)) (B 4 q 5 i) s q u i F1 B1 = some (0, F', B') ∧ f_M_gather_39 rec7 rec Km n' (k + 1) (1000 * u + i) i u w Fm1 Bm1 = rec (i + 1) u w Fm' Bm' ∧ gaF s F F' ∧ gaB s B B' ∧ gaG Fm Fm' ∧ gaM Bm Bm' ∧ GA V s F' B' Fm' Bm' ∧ Fm 14 0 62 ≤ Fm' 14 0 62 ∧ Fm' 14 0 62 ≤ Fm 14 0 62 + ((r + 1 : Nat) : Int) := fun g1 g2 g3 g4 g5 g6 g7 => by
      have f1 : ∀ y k, _ := fun y k => g1 1 y k (by first | decide | omega)
      have b4 : ∀ y k x, _ := fun y k x => g2 4 y k x (by first | decide | omega)
      have b1 : ∀ y k x, _ := fun y k x => g2 1 y k x (by first | decide | omega)
      have e1 := ih n n' (k := k + 1) (VS_e h' g1 g2 g4) (T61_e hT g4) (by rw [b4, f1]; omega) (by first | decide | omega) (by first | decide | omega) (by first | decide | omega) (by
        unfold tieOn hpB at hNT ⊢
        simp only [b4, f1, show ∀ y k, _ = _ from fun y k => (funext (b1 y k))]
        exact hNT) (by first | decide | omega) (by first | decide | omega) g5
      rw [b4] at e1
      obtain ⟨F', B', Fm', Bm', x1, x2, x3, x4, x5, x6, x7, x8, x9⟩ := e1
      exact ⟨F', B', Fm', Bm', x1, x2, gaF_t g1 x3, gaB_t g2 x4, gaG_t g3 x5, gaM_t g4 x6, x7, (by first | decide | omega), (by first | decide | omega)⟩
    -- the reference: is the pitch held over from the event ahead?
    have mT : ((0 < i ∧ tieOn q (i - 1) (B 1 (B 4 q 5 i) 12 k) (B 1 (B 4 q 5 i) 13 k) F B) → f_M_gather_39 rec7 rec Km (n' + 1) k (1000 * u + i) i u w Fm Bm = f_M_gather_39 rec7 rec Km n' (k + 1) (1000 * u + i) i u w Fm Bm) ∧ (¬ (0 < i ∧ tieOn q (i - 1) (B 1 (B 4 q 5 i) 12 k) (B 1 (B 4 q 5 i) 13 k) F B) → f_M_gather_39 rec7 rec Km (n' + 1) k (1000 * u + i) i u w Fm Bm = f_M_gather_103 rec7 rec (f_M_gather_39 rec7 rec Km n') Km (Bm 13 w 29 (6 * (1000 * u + i) + k)) (Bm 13 w 28 (6 * (1000 * u + i) + k)) k (1000 * u + i) i u w Fm Bm) := by
      rw [f_M_gather_39, if_pos w0, if_pos hx, if_pos rk, ep.2.1, if_pos rc, if_neg (by first | decide | omega), if_pos (by first | decide | omega), if_pos ri]
      by_cases z : (i : Int) ≤ 0
      · rw [if_pos z]
        exact ⟨fun t => (by first | decide | omega), fun _ => rfl⟩
      · obtain ⟨j, hj⟩ : ∃ j, i = j + 1 := ⟨i - 1, (by first | decide | omega)⟩
        have hL := L_tiesE (Km := Km) (Fm := Fm) (by first | decide | omega) h' (i := j) (by first | decide | omega) rs ra
        have ej : (i : Int) - 1 = (j : Int) := by omega
        rw [if_neg z, show 1000 * u + (i : Int) - 1 = 1000 * u + (j : Int) by omega, ← p1, ← p2, ej]
        by_cases y : tieOn q j (B 1 (B 4 q 5 i) 12 k) (B 1 (B 4 q 5 i) 13 k) F B
        · rw [hL.1 y, zb_s, if_pos (by decide), if_neg (by decide), f_M_gather_177]
          exact ⟨fun _ => rfl, fun t => absurd ⟨(by first | decide | omega), y⟩ t⟩
        · rw [hL.2 y, zb_s, if_pos (by decide), if_pos rfl]
          exact ⟨fun t => absurd t.2 y, fun _ => rfl⟩
    rw [f_Performance_soundAll_21, if_pos hie, if_pos rk, if_pos rc, if_neg (by first | decide | omega), if_pos h4]
    by_cases t : 0 < i ∧ tieOn q (i - 1) (B 1 (B 4 q 5 i) 12 k) (B 1 (B 4 q 5 i) 13 k) F B
    · rw [mT.1 t, fr1 t, zb_s, if_pos (by decide), if_neg (by decide), f_Performance_soundAll_106]
      exact go (fun _ _ _ _ => rfl) (fun _ _ _ _ _ => rfl) (fun _ _ _ _ => rfl) (fun _ _ _ _ _ => rfl) hG (by first | decide | omega) (by first | decide | omega)
    · rw [mT.2 t, fr0 t, zb_s, if_pos (by decide), if_pos rfl]
      have hL := L_tiesE (Km := Km) (Fm := Fm) (by first | decide | omega) h' hi rs ra
      -- the reference takes the plain way
      have m103 : f_M_gather_103 rec7 rec (f_M_gather_39 rec7 rec Km n') Km (Bm 13 w 29 (6 * (1000 * u + i) + k)) (Bm 13 w 28 (6 * (1000 * u + i) + k)) k (1000 * u + i) i u w Fm Bm = zbind (f_M_plain Km w u i (Bm 13 w 28 (6 * (1000 * u + i) + k)) (Bm 13 w 29 (6 * (1000 * u + i) + k)) Fm Bm) (fun _ F34 B34 => f_M_gather_39 rec7 rec Km n' (k + 1) (1000 * u + i) i u w F34 B34) := by
        unfold f_M_gather_103 f_M_gather_144 f_M_gather_145 f_M_gather_177
        rw [if_pos w0, if_pos hx, if_pos (zand_R _ _), ← e7.1, ep.2.1, if_pos rc]
        by_cases z : zand (F 1 (B 4 q 5 i) 7) 64 = 0
        · rw [if_pos (show zand (F 1 (B 4 q 5 i) 7) 64 ≤ 0 by omega), if_pos (by decide), if_pos rfl]
        · rw [if_neg (show ¬ zand (F 1 (B 4 q 5 i) 7) 64 ≤ 0 by omega)]
          by_cases y : F 1 (B 4 q 5 i) 10 = 1
          · have kz : k = 0 := by omega
            have ty : tieOn q i (B 1 (B 4 q 5 i) 12 k) (B 1 (B 4 q 5 i) 13 k) F B := by
              have := hNT z y
              rw [kz] at t ⊢
              rcases this with a | a
              · exact a
              · exact absurd a t
            rw [if_pos y, ← p1, ← p2, hL.1 ty, zb_s, if_pos (by decide), if_neg (by decide), if_pos (by decide), if_pos rfl]
          · rw [if_neg y, if_pos (by decide), if_pos rfl]
      obtain ⟨J, F1, B1, Fm1, Bm1, j2, l1, l2, g1, g2, g3, g4, g5, g6, g7⟩ := P_pit hK hKm hs uV h' hT hi k0 k1 ⟨c0, (by first | decide | omega)⟩ hG
      rw [m103, l2, zb_s, l1, zb_s]
      have hJ := hV J (by first | decide | omega) (by first | decide | omega)
      obtain ⟨eJ, J1, J2, J3, J4, J5, _⟩ := hE J j2
      obtain ⟨_, t2, t3, t4⟩ := L_endT (Fm := Fm) hKm h' j2
      have tb := tk_b (show sumZ g J + g J ≤ 1000000000000 by omega)
      have td := tk_0 (show 0 ≤ sumZ g J + g J by omega)
      have s0 := sumZ_0 hg i (by first | decide | omega)
      have sm := sumZ_m hg (m - i - 1) (i + 1) (by first | decide | omega)
      have s2 : sumZ g (i + 1) = sumZ g i + g i := rfl
      have gi := hg i (by first | decide | omega) (by first | decide | omega)
      have ta := tk_b (show sumZ g i ≤ 1000000000000 by omega)
      have tc := tk_0 s0
      rw [if_pos (show 0 ≤ (J : Int) ∧ (J : Int) < 200 by omega), if_pos hJ, J1, J4, C_tick (by first | decide | omega) (by first | decide | omega), zb_s, if_pos (by unfold r32; omega)]
      rcases g7 with ⟨d0, rfl, rfl⟩ | ⟨d0, ad⟩
      · rw [if_pos d0, f_Performance_soundAll_106]
        exact go g1 g2 g3 g4 g5 g6.1 g6.2
      · rw [if_neg (by first | decide | omega), C_tone hie (by first | decide | omega) p3, zb_s, C_dur hJ d0 (by first | decide | omega) J5.2, zb_s, if_pos hs, ad, zb_s, f_Performance_soundAll_106]
        exact go g1 g2 g3 g4 g5 g6.1 g6.2
end
end
section
section
/-! ===== trills, both sides ===== -/
/-- what the key does to a letter -/
def kaV (f s : Int) : Int := if f ≤ 0 then (if -f ≤ 6 - (2 * s - 6) % 7 then 0 else -1) else (if f ≤ (2 * s - 6) % 7 then 0 else 1)
theorem kaV_b {f s : Int} : -1 ≤ kaV f s ∧ kaV f s ≤ 1 := by
  unfold kaV
  split
  · split <;> omega
  · split <;> omega
theorem L_kaV {K : Nat} {f s : Int} {F : zF} {B : zB} (hf : -7 ≤ f ∧ f ≤ 7) (s0 : 0 ≤ s) (s1 : s ≤ 6) : f_M_inKey K f s F B = some (kaV f s, F, B) := by
  have m0 := Int.emod_nonneg (2 * s - 6) (show (7 : Int) ≠ 0 by decide)
  have m1 := Int.emod_lt_of_pos (2 * s - 6) (show (0 : Int) < 7 by decide)
  unfold f_M_inKey f_M_inKey_43 f_M_inKey_31 kaV
  rw [L_mod (show r32 (2 * s - 6) by unfold r32; omega) (by decide) (by decide), zb_s, if_pos (by unfold r32; omega)]
  by_cases a : f ≤ 0
  · rw [if_pos a, if_pos a, if_pos (by unfold r32; omega), if_pos (by unfold r32; omega)]
    by_cases b : -f ≤ 6 - (2 * s - 6) % 7
    · rw [if_pos b, if_pos b]
    · rw [if_neg b, if_neg b]
  · rw [if_neg a, if_neg a, if_pos (by unfold r32; omega)]
    by_cases b : f ≤ (2 * s - 6) % 7
    · rw [if_pos b, if_pos b]
    · rw [if_neg b, if_neg b]
theorem rank_f : ∀ n : Fin 7, ztv 7 (n.val : Nat) = (2 * ((n.val : Nat) : Int) - 6) % 7 := by decide +kernel
theorem C_kaV {K : zK} {f s : Int} {F : zF} {B : zB} (hf : -7 ≤ f ∧ f ≤ 7) (s0 : 0 ≤ s) (s1 : s ≤ 6) : f_S_keyAlteration K f s F B = some (kaV f s, F, B) := by
  have m0 := Int.emod_nonneg (2 * s - 6) (show (7 : Int) ≠ 0 by decide)
  have m1 := Int.emod_lt_of_pos (2 * s - 6) (show (0 : Int) < 7 by decide)
  have rk := rank_f ⟨s.toNat, (by first | decide | omega)⟩
  rw [show (((⟨s.toNat, (by first | decide | omega)⟩ : Fin 7).val : Nat) : Int) = s by show ((s.toNat : Nat) : Int) = s; omega] at rk
  have fm : f_Math_floorMod K s 7 F B = some (s, F, B) := by rw [C_fm s0 (by first | decide | omega), show s % 7 = s by omega]
  unfold f_S_keyAlteration f_S_keyAlteration_40 f_S_keyAlteration_25 kaV
  rw [fm, zb_s, if_pos (by rw [show ztl 7 = 7 by decide]; omega), if_pos (by unfold r32; omega), rk]
  by_cases a : f ≤ 0
  · rw [if_pos a, if_pos a, if_pos (by unfold r32; omega), if_pos (by unfold r32; omega)]
    by_cases b : -f ≤ 6 - (2 * s - 6) % 7
    · rw [if_pos b, if_pos b]
    · rw [if_neg b, if_neg b]
  · rw [if_neg a, if_neg a, if_pos (by unfold r32; omega)]
    by_cases b : f ≤ (2 * s - 6) % 7
    · rw [if_pos b, if_pos b]
    · rw [if_neg b, if_neg b]
/-- the reference's trill, alone -/
theorem L_trR {Km : Nat} {up ba en x w u i fo : Int} {B0 : zB} (hf : ∀ F B, gaM B0 B → f_M_forceOf Km w x F B = some (fo, F, B)) (e0 : 0 ≤ en) (e1 : en ≤ 500000) : ∀ (r n : Nat) {l b : Int} {F : zF} {B : zB}, gaM B0 B → en ≤ l + 12 * r → r < n → 0 ≤ l → l ≤ 500012 → (b = 0 ∨ b = 1) → 0 ≤ F 14 0 62 → F 14 0 62 + r ≤ 100000000 → ∃ F' B', f_M_trill_88 Km n l b up ba en x w u i F B = some (0, F', B') ∧ gaG F F' ∧ gaM B B' ∧ F 14 0 62 ≤ F' 14 0 62 ∧ F' 14 0 62 ≤ F 14 0 62 + r := by
  intro r
  induction r with
  | zero =>
    intro n l b F B hg hl hn l0 l1 hb c0 c1
    obtain ⟨n, rfl⟩ : ∃ j, n = j + 1 := ⟨n - 1, (by first | decide | omega)⟩
    refine ⟨F, B, ?_, fun _ _ _ _ => rfl, fun _ _ _ _ _ => rfl, (by first | decide | omega), (by first | decide | omega)⟩
    rw [f_M_trill_88, if_pos (by unfold r32; omega), if_pos (by unfold r32; omega), if_pos (by first | decide | omega)]
  | succ r ih =>
    intro n l b F B hg hl hn l0 l1 hb c0 c1
    obtain ⟨n, rfl⟩ : ∃ j, n = j + 1 := ⟨n - 1, (by first | decide | omega)⟩
    rw [f_M_trill_88, if_pos (by unfold r32; omega), if_pos (by unfold r32; omega)]
    by_cases z : en ≤ l
    · rw [if_pos z]
      exact ⟨F, B, rfl, fun _ _ _ _ => rfl, fun _ _ _ _ _ => rfl, (by first | decide | omega), (by first | decide | omega)⟩
    · rw [if_neg z, if_pos (by unfold r32; omega)]
      have st : ∀ (e t : Int), l < e → e ≤ 500012 → ∃ F' B', f_M_trill_130 (f_M_trill_88 Km n) Km l b up ba en x w u i l e t F B = some (0, F', B') ∧ gaG F F' ∧ gaM B B' ∧ F 14 0 62 ≤ F' 14 0 62 ∧ F' 14 0 62 ≤ F 14 0 62 + ((r + 1 : Nat) : Int) := fun e t le e5 => by
        obtain ⟨B1, m1, m2, _⟩ := L_snd (K := Km) (t := t) (fo := fo) (v := u) (i := i) (F := F) (B := B) le l0 (by first | decide | omega) c0 (by first | decide | omega)
        unfold f_M_trill_130 f_M_trill_152
        rw [hf F B hg, zb_s, m1, zb_s]
        have z62 : (zup3 F 14 0 62 (F 14 0 62 + 1)) 14 0 62 = F 14 0 62 + 1 := by rw [zup3_v, if_pos (by first | decide | omega)]
        have key : ∀ b', (b' = 0 ∨ b' = 1) → ∃ F' B', f_M_trill_88 Km n (l + 12) b' up ba en x w u i (zup3 F 14 0 62 (F 14 0 62 + 1)) B1 = some (0, F', B') ∧ gaG F F' ∧ gaM B B' ∧ F 14 0 62 ≤ F' 14 0 62 ∧ F' 14 0 62 ≤ F 14 0 62 + ((r + 1 : Nat) : Int) := fun b' hb' => by
          obtain ⟨F', B', x1, x2, x3, x4, x5⟩ := ih n (l := l + 12) (b := b') (F := zup3 F 14 0 62 (F 14 0 62 + 1)) (B := B1) (gaM_t hg m2) (by first | decide | omega) (by first | decide | omega) (by first | decide | omega) (by first | decide | omega) hb' (by rw [z62]; omega) (by rw [z62]; omega)
          rw [z62] at x4 x5
          exact ⟨F', B', x1, gaG_t (fun c y k n => by rw [zup3_v, if_neg (by first | decide | omega)]) x2, gaM_t m2 x3, (by first | decide | omega), (by first | decide | omega)⟩
        rcases hb with rfl | rfl
        · rw [if_pos (by decide), if_pos rfl]; exact key 1 (Or.inr rfl)
        · rw [if_pos (by decide), if_neg (by decide)]; exact key 0 (Or.inl rfl)
      unfold f_M_trill_118
      by_cases y : en ≤ l + 12
      · rw [if_pos y]
        rcases hb with rfl | rfl
        · rw [if_pos (by decide), if_pos rfl]; exact st en ba (by first | decide | omega) (by first | decide | omega)
        · rw [if_pos (by decide), if_neg (by decide)]; exact st en up (by first | decide | omega) (by first | decide | omega)
      · rw [if_neg y]
        rcases hb with rfl | rfl
        · rw [if_pos (by decide), if_pos rfl]; exact st (l + 12) ba (by first | decide | omega) (by first | decide | omega)
        · rw [if_pos (by decide), if_neg (by decide)]; exact st (l + 12) up (by first | decide | omega) (by first | decide | omega)
/-- both sides' trills -/
theorem P_tr {K : zK} {Km : Nat} {V s up ba en e x w u i : Int} {F0 : zF} {B0 : zB} (hs : 0 ≤ s ∧ s < K.2 5) (he : 0 ≤ e ∧ e < K.2 1) (hl8 : 0 ≤ F0 1 e 8 ∧ F0 1 e 8 ≤ 7) (u0 : 0 ≤ u ∧ u < 4) (uV : u < V) (i0 : 0 ≤ i ∧ i < 200) (hup : 0 ≤ up ∧ up ≤ 127) (hba : 0 ≤ ba ∧ ba ≤ 127) (hf : ∀ F B, gaM B0 B → f_M_forceOf Km w x F B = some (foV (F0 1 e 7) (F0 1 e 8), F, B)) (e0 : 0 ≤ en) (e1 : en ≤ 500000) : ∀ (r n n' : Nat) {l b : Int} {F : zF} {B : zB} {Fm : zF} {Bm : zB}, gaF s F0 F → gaM B0 Bm → en ≤ l + 12 * r → r < n' → (0 < n ∧ (F 5 s 1 = 0 → 2002 - F 5 s 0 < n)) → 0 ≤ l → l ≤ 500012 → (b = 0 ∨ b = 1) → 0 ≤ Fm 14 0 62 → Fm 14 0 62 + r ≤ 100000000 → GA V s F B Fm Bm → ∃ F' B' Fm' Bm', f_Performance_trill_93 K n l b up ba en e s u i F B = some (0, F', B') ∧ f_M_trill_88 Km n' l b up ba en x w u i Fm Bm = some (0, Fm', Bm') ∧ gaF s F F' ∧ gaB s B B' ∧ gaG Fm Fm' ∧ gaM Bm Bm' ∧ GA V s F' B' Fm' Bm' ∧ Fm 14 0 62 ≤ Fm' 14 0 62 ∧ Fm' 14 0 62 ≤ Fm 14 0 62 + r := by
  intro r
  induction r with
  | zero =>
    intro n n' l b F B Fm Bm gf gm hl hn' hn l0 l1 hb c0 c1 hG
    have hn0 : 0 < n := hn.1
    obtain ⟨n, rfl⟩ : ∃ j, n = j + 1 := ⟨n - 1, (by first | decide | omega)⟩
    obtain ⟨n', rfl⟩ : ∃ j, n' = j + 1 := ⟨n' - 1, (by first | decide | omega)⟩
    refine ⟨F, B, Fm, Bm, ?_, ?_, fun _ _ _ _ => rfl, fun _ _ _ _ _ => rfl, fun _ _ _ _ => rfl, fun _ _ _ _ _ => rfl, hG, (by first | decide | omega), (by first | decide | omega)⟩
    · rw [f_Performance_trill_93, if_pos (by unfold r32; omega), if_pos (by unfold r32; omega), if_pos (by first | decide | omega), f_Performance_trill_157]
    · rw [f_M_trill_88, if_pos (by unfold r32; omega), if_pos (by unfold r32; omega), if_pos (by first | decide | omega)]
  | succ r ih =>
    intro n n' l b F B Fm Bm gf gm hl hn' hn l0 l1 hb c0 c1 hG
    have hn0 : 0 < n := hn.1
    obtain ⟨n, rfl⟩ : ∃ j, n = j + 1 := ⟨n - 1, (by first | decide | omega)⟩
    have hG' := hG
    rcases hG with ⟨g1, g2, g3, g4, g5⟩ | ⟨g1, g2, g3⟩
    · -- a place is left, or just none
      obtain ⟨n', rfl⟩ : ∃ j, n' = j + 1 := ⟨n' - 1, (by first | decide | omega)⟩
      rw [f_Performance_trill_93, if_pos (show r32 l by unfold r32; omega), if_pos (show r32 en by unfold r32; omega), f_M_trill_88, if_pos (show r32 l by unfold r32; omega), if_pos (show r32 en by unfold r32; omega)]
      by_cases z : en ≤ l
      · rw [if_pos z, if_pos z, f_Performance_trill_157]
        exact ⟨F, B, Fm, Bm, rfl, rfl, fun _ _ _ _ => rfl, fun _ _ _ _ _ => rfl, fun _ _ _ _ => rfl, fun _ _ _ _ _ => rfl, hG', (by first | decide | omega), (by first | decide | omega)⟩
      · rw [if_neg z, if_neg z, if_pos hs, g1, if_pos (by decide), if_pos rfl, if_pos (show r32 (l + 12) by unfold r32; omega)]
        have f18 : F 1 e 8 = F0 1 e 8 := gf 1 e 8 (by first | decide | omega)
        have f17 : F 1 e 7 = F0 1 e 7 := gf 1 e 7 (by first | decide | omega)
        have zm : zmin (l + 12) en = if en ≤ l + 12 then en else l + 12 := by
          unfold zmin
          by_cases y : en ≤ l + 12
          · rw [if_pos y]; split <;> omega
          · rw [if_neg y, if_neg (by first | decide | omega)]
        have z62 : (zup3 Fm 14 0 62 (Fm 14 0 62 + 1)) 14 0 62 = Fm 14 0 62 + 1 := by rw [zup3_v, if_pos (by first | decide | omega)]
        -- one sound, and on
        have st : ∀ (t : Int), 0 ≤ t → t ≤ 127 → ∃ F' B' Fm' Bm', f_Performance_trill_122 (f_Performance_trill_93 K n) K l b up ba en e s u i s u i t F B = some (0, F', B') ∧ f_M_trill_130 (f_M_trill_88 Km n') Km l b up ba en x w u i l (if en ≤ l + 12 then en else l + 12) t Fm Bm = some (0, Fm', Bm') ∧ gaF s F F' ∧ gaB s B B' ∧ gaG Fm Fm' ∧ gaM Bm Bm' ∧ GA V s F' B' Fm' Bm' ∧ Fm 14 0 62 ≤ Fm' 14 0 62 ∧ Fm' 14 0 62 ≤ Fm 14 0 62 + ((r + 1 : Nat) : Int) := fun t t0 t1 => by
          obtain ⟨F1, B1, Bm1, a1, a2, a3, a4, a5, a6⟩ := P_addS (K := K) (Km := Km) (v := u) (i := i) (t := t) (e := e) (a := l) (b := if en ≤ l + 12 then en else l + 12) hs he (by rw [f18]; exact hl8) u0 uV i0 ⟨t0, t1⟩ l0 (by split <;> omega) (by split <;> omega) ⟨c0, (by first | decide | omega)⟩ hG'
          unfold f_Performance_trill_122 f_Performance_trill_149 f_M_trill_130 f_M_trill_152
          rw [f17, f18] at a2
          rw [if_pos hs, if_pos he, if_pos (show r32 (l + 12) by unfold r32; omega), if_pos (show r32 en by unfold r32; omega), zm, a1, zb_s, hf Fm Bm gm, zb_s, a2, zb_s]
          have cnt : 0 < n ∧ (F1 5 s 1 = 0 → 2002 - F1 5 s 0 < n) := by
            have hn2 := hn.2 g1
            rcases a6 with ⟨x1, x2, _⟩ | ⟨x1, x2, _⟩
            · rw [z62] at x2
              omega
            · have : F 5 s 0 = 2000 := by
                by_cases y : F 5 s 0 < 2000
                · exfalso
                  have := a1
                  unfold f_Performance_addSound at this
                  rw [if_pos hs, if_pos (by unfold r32; omega), if_pos y, if_pos (by first | decide | omega), C_force he (by rw [f18]; exact hl8), zb_s, if_pos (by first | decide | omega)] at this
                  injection this with this
                  injection this with _ this
                  injection this with this _
                  rw [← this, zup3_v, if_neg (by first | decide | omega)] at x1
                  omega
                · omega
              omega
          have key : ∀ b', (b' = 0 ∨ b' = 1) → ∃ F' B' Fm' Bm', f_Performance_trill_93 K n (l + 12) b' up ba en e s u i F1 B1 = some (0, F', B') ∧ f_M_trill_88 Km n' (l + 12) b' up ba en x w u i (zup3 Fm 14 0 62 (Fm 14 0 62 + 1)) Bm1 = some (0, Fm', Bm') ∧ gaF s F F' ∧ gaB s B B' ∧ gaG Fm Fm' ∧ gaM Bm Bm' ∧ GA V s F' B' Fm' Bm' ∧ Fm 14 0 62 ≤ Fm' 14 0 62 ∧ Fm' 14 0 62 ≤ Fm 14 0 62 + ((r + 1 : Nat) : Int) := fun b' hb' => by
            obtain ⟨F', B', Fm', Bm', x1, x2, x3, x4, x5, x6, x7, x8, x9⟩ := ih n n' (l := l + 12) (b := b') (F := F1) (B := B1) (Fm := zup3 Fm 14 0 62 (Fm 14 0 62 + 1)) (Bm := Bm1) (gaF_t gf a3) (gaM_t gm a5) (by first | decide | omega) (by first | decide | omega) cnt (by first | decide | omega) (by first | decide | omega) hb' (by rw [z62]; omega) (by rw [z62]; omega) a6
            rw [z62] at x8 x9
            exact ⟨F', B', Fm', Bm', x1, x2, gaF_t a3 x3, gaB_t a4 x4, gaG_t (fun c y k n => by rw [zup3_v, if_neg (by first | decide | omega)]) x5, gaM_t a5 x6, x7, (by first | decide | omega), (by first | decide | omega)⟩
          rcases hb with rfl | rfl
          · rw [if_pos (by decide), if_pos rfl, if_pos (by decide), if_pos rfl]; exact key 1 (Or.inr rfl)
          · rw [if_pos (by decide), if_neg (by decide), if_pos (by decide), if_neg (by decide)]; exact key 0 (Or.inl rfl)
        have m118 : (if en ≤ l + 12 then f_M_trill_118 (f_M_trill_88 Km n') Km l b up ba en x w u i l en Fm Bm else f_M_trill_118 (f_M_trill_88 Km n') Km l b up ba en x w u i l (l + 12) Fm Bm) = f_M_trill_118 (f_M_trill_88 Km n') Km l b up ba en x w u i l (if en ≤ l + 12 then en else l + 12) Fm Bm := by
          by_cases y : en ≤ l + 12
          · rw [if_pos y, if_pos y]
          · rw [if_neg y, if_neg y]
        rw [m118]
        unfold f_M_trill_118
        rcases hb with rfl | rfl
        · rw [if_pos (by decide), if_pos rfl, if_pos (by decide), if_pos rfl]; exact st ba hba.1 hba.2
        · rw [if_pos (by decide), if_neg (by decide), if_pos (by decide), if_neg (by decide)]; exact st up hup.1 hup.2
    · -- too many already
      obtain ⟨Fm', Bm', m1, m2, m3, m4, m5⟩ := L_trR hf e0 e1 (r + 1) n' (up := up) (ba := ba) (l := l) (b := b) (F := Fm) (B := Bm) gm hl hn' l0 l1 hb c0 c1
      refine ⟨F, B, Fm', Bm', ?_, m1, fun _ _ _ _ => rfl, fun _ _ _ _ _ => rfl, m2, m3, Or.inr ⟨g1, g2, (by first | decide | omega)⟩, m4, m5⟩
      rw [f_Performance_trill_93, if_pos (show r32 l by unfold r32; omega), if_pos (show r32 en by unfold r32; omega)]
      by_cases z : en ≤ l
      · rw [if_pos z, f_Performance_trill_157]
      · rw [if_neg z, if_pos hs, g1, if_pos (by decide), if_neg (by decide), f_Performance_trill_157]
end
end
section
section
/-! ===== all sounds of a piece gathered, both sides ===== -/
/-- event i is trilled -/
def trE (q : Int) (i : Nat) (F : zF) (B : zB) : Prop := ¬ zand (F 1 (B 4 q 5 i) 7) 64 = 0 ∧ F 1 (B 4 q 5 i) 10 = 1 ∧ ¬ tieOn q i (B 1 (B 4 q 5 i) 12 0) (B 1 (B 4 q 5 i) 13 0) F B ∧ ¬ (0 < i ∧ tieOn q (i - 1) (B 1 (B 4 q 5 i) 12 0) (B 1 (B 4 q 5 i) 13 0) F B)
theorem C_isTr {K : zK} {q u w : Int} {m i : Nat} {g : Int → Int} {F : zF} {B Bm : zB} (hK : 3002 ≤ K.1) (h : VS K q u w m g F B Bm) (hi : i < m) : (trE q i F B → f_Performance_isTrilled K q i F B = some (1, F, B)) ∧ (¬ trE q i F B → f_Performance_isTrilled K q i F B = some (0, F, B)) := by
  have h' := h
  obtain ⟨h4, w0, u0, hm, h12, hV, hg, hsm, hE⟩ := h
  obtain ⟨ei, q1, q2, q3, q4, q5, ti⟩ := hE i hi
  have ep := ei.2.2.2.2.2.2.2.2.2.2
  have c6 := ep.2.2.1
  have hie := hV i (by first | decide | omega) (by first | decide | omega)
  unfold f_Performance_isTrilled f_Performance_isTrilled_45 f_Performance_isTrilled_46 trE
  rw [if_pos h4, if_pos (by first | decide | omega), if_pos hie, C_has hie, zb_s]
  by_cases z : zand (F 1 (B 4 q 5 i) 7) 64 = 0
  · rw [if_pos z, if_pos (by decide), if_pos rfl, if_pos (Or.inl rfl)]
    exact ⟨fun t => absurd z t.1, fun _ => rfl⟩
  · rw [if_neg z, if_pos (by decide), if_neg (by decide), if_pos (by unfold r32; omega)]
    by_cases y : F 1 (B 4 q 5 i) 10 = 1
    · rw [if_pos y]
      have tp : ∃ r, f_Part_tiedPitches K q i F B = some (r, F, B) ∧ r32 r ∧ (r = 0 ↔ ¬ tieOn q i (B 1 (B 4 q 5 i) 12 0) (B 1 (B 4 q 5 i) 13 0) F B) := by
        have e7 := ei.2.2.2.2.2.2.2.1
        obtain ⟨y1, _, _⟩ := mkb_i e7.2.1 e7.2.2
        unfold f_Part_tiedPitches f_Part_tiedPitches_27
        rw [if_pos (by unfold r32; omega), if_neg (by first | decide | omega), if_pos h4, if_pos (by unfold r32; omega), hm.1, if_pos (by unfold r32; omega)]
        by_cases a : (m : Int) ≤ (i : Int) + 1
        · rw [if_pos a]
          refine ⟨0, rfl, by decide, ⟨fun _ t => ?_, fun _ => rfl⟩⟩
          unfold TIk at ti
          have := t.1
          omega
        · rw [if_neg a, if_pos (by first | decide | omega), if_pos hie, C_has hie, zb_s]
          by_cases b : zand (F 1 (B 4 q 5 i) 7) 1 = 0
          · rw [if_pos b, if_pos (by decide), if_pos rfl]
            exact ⟨0, rfl, by decide, ⟨fun _ t => t.1 b, fun _ => rfl⟩⟩
          · have ec : ((i + 1 : Nat) : Int) = (i : Int) + 1 := by omega
            obtain ⟨en, _⟩ := hE (i + 1) (by first | decide | omega)
            rw [ec] at en
            have hne := hV ((i : Int) + 1) (by first | decide | omega) (by first | decide | omega)
            have epn := en.2.2.2.2.2.2.2.2.2.2
            rw [if_neg b, if_pos (by decide), if_neg (by decide), if_pos (by first | decide | omega), if_pos hie, if_pos hne, C_shared hK hie hne rfl c6 rfl epn.2.2.1 (fun k k0 k1 => by have := ep.2.2.2.1 k k0 k1; unfold r32; omega) (fun k k0 k1 => by have := epn.2.2.2.1 k k0 k1; unfold r32; omega), zb_s]
            have v : shM (shB (B 4 q 5 i) (B 4 q 5 ((i : Int) + 1)) (F 1 (B 4 q 5 ((i : Int) + 1)) 10) B) (F 1 (B 4 q 5 i) 10).toNat = if 0 ≤ hpB (B 4 q 5 ((i : Int) + 1)) (B 1 (B 4 q 5 i) 12 0) (B 1 (B 4 q 5 i) 13 0) F B then 1 else 0 := by
              rw [y]
              show shM _ 1 = _
              unfold shM shM shB hpB
              by_cases c : 0 ≤ fP (B 1 (B 4 q 5 ((i : Int) + 1)) 12) (B 1 (B 4 q 5 ((i : Int) + 1)) 13) (F 1 (B 4 q 5 ((i : Int) + 1)) 10) (B 1 (B 4 q 5 i) 12 0) (B 1 (B 4 q 5 i) 13 0) 7 0
              · simp [c]
              · simp [c]
            rw [v]
            by_cases c : 0 ≤ hpB (B 4 q 5 ((i : Int) + 1)) (B 1 (B 4 q 5 i) 12 0) (B 1 (B 4 q 5 i) 13 0) F B
            · rw [if_pos c]
              exact ⟨1, rfl, by decide, ⟨fun t => absurd t (by decide), fun t => absurd ⟨b, hpB_i ei (by decide) (by first | decide | omega), c⟩ t⟩⟩
            · rw [if_neg c]
              exact ⟨0, rfl, by decide, ⟨fun _ t => c t.2.2, fun _ => rfl⟩⟩
      obtain ⟨r, t1, t2, t3⟩ := tp
      rw [t1, zb_s, if_pos t2]
      by_cases a : r = 0
      · rw [if_pos a]
        obtain ⟨f1, f0⟩ := C_from hK h' hi (k := 0) (by decide) (by first | decide | omega)
        by_cases b : 0 < i ∧ tieOn q (i - 1) (B 1 (B 4 q 5 i) 12 0) (B 1 (B 4 q 5 i) 13 0) F B
        · rw [f1 b, zb_s, if_pos (by decide), if_neg (by decide), if_pos (Or.inl rfl)]
          exact ⟨fun t => absurd b t.2.2.2, fun _ => rfl⟩
        · rw [f0 b, zb_s, if_pos (by decide), if_pos rfl, if_pos (Or.inr rfl)]
          exact ⟨fun _ => rfl, fun t => absurd ⟨z, y, t3.mp a, b⟩ t⟩
      · rw [if_neg a, if_pos (Or.inl rfl)]
        exact ⟨fun t => absurd (t3.mpr t.2.2.1) a, fun _ => rfl⟩
    · rw [if_neg y, if_pos (Or.inl rfl)]
      exact ⟨fun t => absurd t.2.1 y, fun _ => rfl⟩
/-- the upper tone of a trill -/
def upV (f s a : Int) : Int := if s = 62 then tnv s + a else tnv (s + 1) + kaV f ((s + 1) % 7)
theorem P_ev {K : zK} {Km : Nat} {V s p q u w f : Int} {m i : Nat} {g : Int → Int} {rec7 : Int → Int → zF → zB → zO} {rec : Int → Int → Int → zF → zB → zO} {F : zF} {B : zB} {Fm : zF} {Bm : zB} (hK : 3002 ≤ K.1) (hKm : 812851200 < Km) (hs : 0 ≤ s ∧ s < K.2 5) (uV : u < V) (hp : 0 ≤ p ∧ p < K.2 6) (hq : B 6 p 0 u = q) (hf : F 6 p 2 = f ∧ Fm 13 w 2 = f ∧ -7 ≤ f ∧ f ≤ 7) (h : VS K q u w m g F B Bm) (hT : T61 Bm) (hi : i < m) (c0 : 0 ≤ Fm 14 0 62) (c1 : Fm 14 0 62 + 40000 ≤ 100000000) (hG : GA V s F B Fm Bm) : ∃ F' B' Fm' Bm', (trE q i F B → f_Performance_trill K s p u i F B = some (0, F', B')) ∧ (¬ trE q i F B → f_Performance_soundAll K s q u i F B = some (0, F', B')) ∧ f_M_gather_39 rec7 rec Km Km 0 (1000 * u + i) i u w Fm Bm = rec (i + 1) u w Fm' Bm' ∧ gaF s F F' ∧ gaB s B B' ∧ gaG Fm Fm' ∧ gaM Bm Bm' ∧ GA V s F' B' Fm' Bm' ∧ Fm 14 0 62 ≤ Fm' 14 0 62 ∧ Fm' 14 0 62 ≤ Fm 14 0 62 + 40000 := by
  have h' := h
  obtain ⟨h4, w0, u0, hm, h12, hV, hg, hsm, hE⟩ := h
  obtain ⟨ei, q1, q2, q3, q4, q5, ti⟩ := hE i hi
  have ep := ei.2.2.2.2.2.2.2.2.2.2
  have c6 := ep.2.2.1
  have hie := hV i (by first | decide | omega) (by first | decide | omega)
  obtain ⟨t1, t2, t3, t4⟩ := L_endT (Fm := Fm) hKm h' hi
  have tb := tk_b (show sumZ g i + g i ≤ 1000000000000 by omega)
  have td := tk_0 (show 0 ≤ sumZ g i + g i by omega)
  have ta := tk_b (show sumZ g i ≤ 1000000000000 by omega)
  have tc := tk_0 t2
  have hx : 0 ≤ 1000 * u + (i : Int) ∧ 1000 * u + (i : Int) < 4000 := by omega
  by_cases T : trE q i F B
  · -- a trill
    obtain ⟨z64, y1, nt, nf⟩ := T
    obtain ⟨p1, p2, p3, p4⟩ := ep.2.2.2.1 0 (by decide) (by first | decide | omega)
    have e7 := ei.2.2.2.2.2.2.2.1
    have e8 := ei.2.2.2.2.2.2.2.2.1
    obtain ⟨_, _, _, m64⟩ := mk8_i e7.2.1 e7.2.2
    have kb := kaV_b (f := f) (s := (B 1 (B 4 q 5 i) 12 0 + 1) % 7)
    have ba := tnv_r p3.1 p3.2 p4.1 p4.2
    have up : 0 ≤ upV f (B 1 (B 4 q 5 i) 12 0) (B 1 (B 4 q 5 i) 13 0) ∧ upV f (B 1 (B 4 q 5 i) 12 0) (B 1 (B 4 q 5 i) 13 0) ≤ 127 := by
      unfold upV
      by_cases a : B 1 (B 4 q 5 i) 12 0 = 62
      · rw [if_pos a]; exact ba
      · rw [if_neg a]; exact tnv_r (by first | decide | omega) (by first | decide | omega) (by first | decide | omega) (by first | decide | omega)
    have zr : zrm (B 1 (B 4 q 5 i) 12 0 + 1) 7 = (B 1 (B 4 q 5 i) 12 0 + 1) % 7 := zrm_e (by first | decide | omega) (by unfold r32; omega) (by decide) (by decide)
    have mz := Int.emod_nonneg (B 1 (B 4 q 5 i) 12 0 + 1) (show (7 : Int) ≠ 0 by decide)
    have my := Int.emod_lt_of_pos (B 1 (B 4 q 5 i) 12 0 + 1) (show (0 : Int) < 7 by decide)
    have cE : f_Performance_trill K s p u i F B = f_Performance_trill_93 K K.1 (tk (sumZ g i)) 0 (upV f (B 1 (B 4 q 5 i) 12 0) (B 1 (B 4 q 5 i) 13 0)) (tnv (B 1 (B 4 q 5 i) 12 0) + B 1 (B 4 q 5 i) 13 0) (tk (sumZ g i + g i)) (B 4 q 5 i) s u i F B := by
      unfold f_Performance_trill f_Performance_trill_78 upV
      rw [if_pos hp, if_pos u0, hq, if_pos h4, if_pos (by first | decide | omega), if_pos hie, q1, q4, C_tick (by first | decide | omega) (by first | decide | omega), zb_s, C_tone hie (by decide) p3, zb_s, if_pos (by unfold r32; omega)]
      by_cases a : B 1 (B 4 q 5 i) 12 0 = 62
      · rw [if_pos (show 63 ≤ B 1 (B 4 q 5 i) 12 0 + 1 by omega), if_pos hie, q1, C_tick (by first | decide | omega) (by first | decide | omega), zb_s, if_pos a]
      · rw [if_neg (show ¬ 63 ≤ B 1 (B 4 q 5 i) 12 0 + 1 by omega), C_nat (by first | decide | omega) (by first | decide | omega), zb_s, hf.1, zr, C_kaV hf.2.2 mz (by first | decide | omega), zb_s, if_pos hie, q1, C_tick (by first | decide | omega) (by first | decide | omega), zb_s, if_neg a]
    have mE : ∃ Fx, (∀ c y k, ¬ (c = 14 ∧ y = 0 ∧ k ≤ 1) → Fx c y k = Fm c y k) ∧ f_M_trill Km w u i (B 1 (B 4 q 5 i) 12 0) (B 1 (B 4 q 5 i) 13 0) Fm Bm = f_M_trill_88 Km Km (tk (sumZ g i)) 0 (upV f (B 1 (B 4 q 5 i) 12 0) (B 1 (B 4 q 5 i) 13 0)) (tnv (B 1 (B 4 q 5 i) 12 0) + B 1 (B 4 q 5 i) 13 0) (tk (sumZ g i + g i)) (1000 * u + i) w u i Fx Bm := by
      refine ⟨fr Fm (sumZ g i + g i), fun c y k n => fr_n n, ?_⟩
      unfold f_M_trill f_M_trill_79 upV
      rw [if_pos w0, if_pos hx, q2, q3, L_tick t2 (by first | decide | omega), zb_s, t1, zb_s, L_toneT p3.1 p3.2, zb_s, if_pos (by unfold r32; omega)]
      by_cases a : B 1 (B 4 q 5 i) 12 0 = 62
      · rw [if_pos a, if_pos a]
      · rw [if_neg a, if_neg a, fr_n (by first | decide | omega), hf.2.1, zr, L_kaV hf.2.2 mz (by first | decide | omega), zb_s, L_toneT (by first | decide | omega) (by first | decide | omega), zb_s]
    obtain ⟨Fx, fx, mE⟩ := mE
    have x62 : Fx 14 0 62 = Fm 14 0 62 := fx 14 0 62 (by first | decide | omega)
    obtain ⟨F', B', Fm', Bm', a1, a2, a3, a4, a5, a6, a7, a8, a9⟩ := P_tr (K := K) (Km := Km) (up := upV f (B 1 (B 4 q 5 i) 12 0) (B 1 (B 4 q 5 i) 13 0)) (ba := tnv (B 1 (B 4 q 5 i) 12 0) + B 1 (B 4 q 5 i) 13 0) (en := tk (sumZ g i + g i)) (e := B 4 q 5 i) (x := 1000 * u + i) (w := w) (u := u) (i := i) (F0 := F) (B0 := Bm) hs hie e8.2 u0 uV (by first | decide | omega) up ba (fun F1 B1 gm => by
        have m13 : ∀ k y, B1 13 w k y = Bm 13 w k y := fun k y => gm 13 w k y (by first | decide | omega)
        rw [L_force (T61_e hT gm) w0 hx (by rw [m13, ← e7.1]; exact e7.2) (by rw [m13, ← e8.1]; exact e8.2), m13, m13, ← e7.1, ← e8.1]) td (by first | decide | omega) 39999 K.1 Km (l := tk (sumZ g i)) (b := 0) (F := F) (B := B) (Fm := Fx) (Bm := Bm) (fun _ _ _ _ => rfl) (fun _ _ _ _ _ => rfl) (by first | decide | omega) (by first | decide | omega) ⟨(by first | decide | omega), fun _ => by rcases hG with g' | g' <;> omega⟩ tc (by first | decide | omega) (Or.inl rfl) (by rw [x62]; exact c0) (by rw [x62]; omega) (GA_g hG x62)
    rw [x62] at a8 a9
    refine ⟨F', B', Fm', Bm', fun _ => by rw [cE]; exact a1, fun t => absurd ⟨z64, y1, nt, nf⟩ t, ?_, a3, a4, gaG_t (fun c y k n => fx c y k (by first | decide | omega)) a5, a6, a7, a8, (by first | decide | omega)⟩
    -- the reference comes to its trill
    obtain ⟨n', hn'⟩ : ∃ j, Km = j + 1 + 1 := ⟨Km - 2, (by first | decide | omega)⟩
    have ri : r32 (i : Int) := by unfold r32; omega
    have rc : r32 (F 1 (B 4 q 5 i) 10) := by unfold r32; omega
    have rs : r32 (B 1 (B 4 q 5 i) 12 0) := by unfold r32; omega
    have ra : r32 (B 1 (B 4 q 5 i) 13 0) := by unfold r32; omega
    have hL := L_tiesE (Km := Km) (Fm := Fm) (by first | decide | omega) h' hi rs ra
    have m13' : ∀ k y, Bm' 13 w k y = Bm 13 w k y := fun k y => a6 13 w k y (by first | decide | omega)
    have m103 : f_M_gather_103 rec7 rec (f_M_gather_39 rec7 rec Km (n' + 1)) Km (Bm 13 w 29 (6 * (1000 * u + i) + 0)) (Bm 13 w 28 (6 * (1000 * u + i) + 0)) 0 (1000 * u + i) i u w Fm Bm = rec (i + 1) u w Fm' Bm' := by
      unfold f_M_gather_103 f_M_gather_144 f_M_gather_145 f_M_gather_177
      rw [if_pos w0, if_pos hx, if_pos (zand_R _ _), ← e7.1, ep.2.1, if_pos rc, if_neg (show ¬ zand (F 1 (B 4 q 5 i) 7) 64 ≤ 0 by omega), if_pos y1, ← p1, ← p2, hL.2 nt, zb_s, if_pos (by decide), if_pos rfl, if_pos (by decide), if_neg (by decide), mE, a2, zb_s, f_M_gather_39, if_pos w0, if_pos hx, if_pos (by decide), m13', ep.2.1, if_pos rc, if_pos (by first | decide | omega)]
    rw [show f_M_gather_39 rec7 rec Km Km = f_M_gather_39 rec7 rec Km (n' + 1 + 1) by rw [← hn'], f_M_gather_39, if_pos w0, if_pos hx, if_pos (by decide), ep.2.1, if_pos rc, if_neg (by first | decide | omega), if_pos (by first | decide | omega), if_pos ri]
    by_cases z : (i : Int) ≤ 0
    · rw [if_pos z]; exact m103
    · obtain ⟨j, hj⟩ : ∃ j, i = j + 1 := ⟨i - 1, (by first | decide | omega)⟩
      have hLj := L_tiesE (Km := Km) (Fm := Fm) (by first | decide | omega) h' (i := j) (by first | decide | omega) rs ra
      have ej : (i : Int) - 1 = (j : Int) := by omega
      rw [ej] at nf
      rw [if_neg z, show 1000 * u + (i : Int) - 1 = 1000 * u + (j : Int) by omega]
      have e28 : Bm 13 w 28 (6 * (1000 * u + i) + 0) = B 1 (B 4 q 5 i) 12 0 := p1.symm
      have e29 : Bm 13 w 29 (6 * (1000 * u + i) + 0) = B 1 (B 4 q 5 i) 13 0 := p2.symm
      rw [show f_M_ties Km w (1000 * u + (j : Int)) (Bm 13 w 28 (6 * (1000 * u + i) + 0)) (Bm 13 w 29 (6 * (1000 * u + i) + 0)) Fm Bm = some (0, Fm, Bm) by rw [e28, e29]; exact hLj.2 (fun t => nf ⟨(by first | decide | omega), t⟩), zb_s, if_pos (by decide), if_pos rfl]
      exact m103
  · -- plain
    obtain ⟨c, hc⟩ : ∃ c : Nat, F 1 (B 4 q 5 i) 10 = c := ⟨(F 1 (B 4 q 5 i) 10).toNat, (by first | decide | omega)⟩
    obtain ⟨F', B', Fm', Bm', a1, a2, a3, a4, a5, a6, a7, a8, a9⟩ := P_sAll (K := K) (Km := Km) (rec7 := rec7) (rec := rec) hK hKm hs uV hi c K.1 Km (k := 0) (F := F) (B := B) (Fm := Fm) (Bm := Bm) h' hT (by first | decide | omega) (by decide) (by first | decide | omega) (by first | decide | omega) (fun a b => by
      by_cases x1 : tieOn q i (B 1 (B 4 q 5 i) 12 0) (B 1 (B 4 q 5 i) 13 0) F B
      · exact Or.inl x1
      · by_cases x2 : 0 < i ∧ tieOn q (i - 1) (B 1 (B 4 q 5 i) 12 0) (B 1 (B 4 q 5 i) 13 0) F B
        · exact Or.inr x2
        · exact absurd ⟨a, b, x1, x2⟩ T) c0 (by first | decide | omega) hG
    refine ⟨F', B', Fm', Bm', fun t => absurd t T, fun _ => ?_, a2, a3, a4, a5, a6, a7, a8, (by first | decide | omega)⟩
    unfold f_Performance_soundAll
    rw [if_pos h4, if_pos (by first | decide | omega), if_pos hie, q1, C_tick t2 (by first | decide | omega), zb_s]
    exact a1
end
end
section
section
/-! ===== all sounds of a piece gathered, both sides: voices ===== -/
/-- too many already: the reference goes on alone -/
theorem L_gvX {K : zK} {Km : Nat} {s p q u w f : Int} {m : Nat} {g : Int → Int} {rec7 : Int → Int → zF → zB → zO} {F : zF} {B : zB} (hK : 3002 ≤ K.1) (hKm : 812851200 < Km) (hs : 0 ≤ s ∧ s < K.2 5) (hp : 0 ≤ p ∧ p < K.2 6) (hq : B 6 p 0 u = q) (hf : F 6 p 2 = f ∧ -7 ≤ f ∧ f ≤ 7) (fl : F 5 s 1 = 1 ∧ F 5 s 0 = 2000) : ∀ (r n' i : Nat) {Fm : zF} {Bm : zB}, VS K q u w m g F B Bm → T61 Bm → Fm 13 w 2 = f → i + r = m → r < n' → 2000 < Fm 14 0 62 → Fm 14 0 62 + 40000 * r ≤ 100000000 → ∃ Fm' Bm', f_M_gather_17 rec7 Km n' i u w Fm Bm = rec7 (u + 1) w Fm' Bm' ∧ gaG Fm Fm' ∧ gaM Bm Bm' ∧ (2000 < Fm' 14 0 62 ∧ Fm 14 0 62 ≤ Fm' 14 0 62) ∧ Fm' 14 0 62 ≤ Fm 14 0 62 + 40000 * r := by
  intro r
  induction r with
  | zero =>
    intro n' i Fm Bm h hT h2 ir hn c0 c1
    obtain ⟨n', rfl⟩ : ∃ j, n' = j + 1 := ⟨n' - 1, (by first | decide | omega)⟩
    obtain ⟨h4, w0, u0, hm, h12, _⟩ := h
    refine ⟨Fm, Bm, ?_, fun _ _ _ _ => rfl, fun _ _ _ _ _ => rfl, ⟨c0, (by first | decide | omega)⟩, (by first | decide | omega)⟩
    rw [f_M_gather_17, if_pos w0, if_pos u0, if_pos (by unfold r32; omega), h12, if_pos (by unfold r32; omega), if_pos (by first | decide | omega)]
  | succ r ih =>
    intro n' i Fm Bm h hT h2 ir hn c0 c1
    obtain ⟨n', rfl⟩ : ∃ j, n' = j + 1 := ⟨n' - 1, (by first | decide | omega)⟩
    have h' := h
    obtain ⟨h4, w0, u0, hm, h12, _⟩ := h
    obtain ⟨F1, B1, Fm1, Bm1, _, _, x3, _, _, x6, x7, x8, x9, x10⟩ := P_ev (V := u + 1) (rec7 := rec7) (rec := f_M_gather_17 rec7 Km n') (i := i) hK hKm hs (by first | decide | omega) hp hq ⟨hf.1, h2, hf.2⟩ h' hT (by first | decide | omega) (by first | decide | omega) (by first | decide | omega) (Or.inr ⟨fl.1, fl.2, c0⟩)
    have ih' := ih n' (i + 1) (Fm := Fm1) (Bm := Bm1) (VS_e (s := s) h' (fun _ _ _ _ => rfl) (fun _ _ _ _ _ => rfl) x7) (T61_e hT x7) (by rw [x6 13 w 2 (by first | decide | omega)]; exact h2) (by first | decide | omega) (by first | decide | omega) (by first | decide | omega) (by first | decide | omega)
    rw [show ((i + 1 : Nat) : Int) = (i : Int) + 1 by omega] at ih'
    obtain ⟨Fm', Bm', y1, y2, y3, y4, y5⟩ := ih'
    refine ⟨Fm', Bm', ?_, gaG_t x6 y2, gaM_t x7 y3, ⟨y4.1, (by first | decide | omega)⟩, (by first | decide | omega)⟩
    rw [f_M_gather_17, if_pos w0, if_pos u0, if_pos (by unfold r32; omega), h12, if_pos (by unfold r32; omega), if_neg (by first | decide | omega), x3]
    exact y1
/-- a voice's sounds -/
theorem P_gv {K : zK} {Km : Nat} {V s p q u w f : Int} {m : Nat} {g : Int → Int} {rec7 : Int → Int → zF → zB → zO} {rec : Int → Int → Int → zF → zB → zO} (hK : 3002 ≤ K.1) (hKm : 812851200 < Km) (hs : 0 ≤ s ∧ s < K.2 5) (uV : u < V) (hp : 0 ≤ p ∧ p < K.2 6) : ∀ (r n n' i : Nat) {F : zF} {B : zB} {Fm : zF} {Bm : zB}, B 6 p 0 u = q → F 6 p 2 = f ∧ Fm 13 w 2 = f ∧ -7 ≤ f ∧ f ≤ 7 → VS K q u w m g F B Bm → T61 Bm → i + r = m → r < n → r < n' → 0 ≤ Fm 14 0 62 → Fm 14 0 62 + 40000 * r ≤ 100000000 → GA V s F B Fm Bm → ∃ F' B' Fm' Bm', f_Performance_gather_35 rec K n i q u s p F B = rec (u + 1) s p F' B' ∧ f_M_gather_17 rec7 Km n' i u w Fm Bm = rec7 (u + 1) w Fm' Bm' ∧ gaF s F F' ∧ gaB s B B' ∧ gaG Fm Fm' ∧ gaM Bm Bm' ∧ GA V s F' B' Fm' Bm' ∧ Fm 14 0 62 ≤ Fm' 14 0 62 ∧ Fm' 14 0 62 ≤ Fm 14 0 62 + 40000 * r := by
  intro r
  induction r with
  | zero =>
    intro n n' i F B Fm Bm hq hf h hT ir hn hn' c0 c1 hG
    obtain ⟨n, rfl⟩ : ∃ j, n = j + 1 := ⟨n - 1, (by first | decide | omega)⟩
    obtain ⟨n', rfl⟩ : ∃ j, n' = j + 1 := ⟨n' - 1, (by first | decide | omega)⟩
    obtain ⟨h4, w0, u0, hm, h12, _⟩ := h
    refine ⟨F, B, Fm, Bm, ?_, ?_, fun _ _ _ _ => rfl, fun _ _ _ _ _ => rfl, fun _ _ _ _ => rfl, fun _ _ _ _ _ => rfl, hG, (by first | decide | omega), (by first | decide | omega)⟩
    · rw [f_Performance_gather_35, if_pos h4, if_pos (by unfold r32; omega), hm.1, if_pos (by unfold r32; omega), if_pos (by first | decide | omega), f_Performance_gather_85]
    · rw [f_M_gather_17, if_pos w0, if_pos u0, if_pos (by unfold r32; omega), h12, if_pos (by unfold r32; omega), if_pos (by first | decide | omega)]
  | succ r ih =>
    intro n n' i F B Fm Bm hq hf h hT ir hn hn' c0 c1 hG
    obtain ⟨n, rfl⟩ : ∃ j, n = j + 1 := ⟨n - 1, (by first | decide | omega)⟩
    have h' := h
    obtain ⟨h4, w0, u0, hm, h12, _⟩ := h
    by_cases fl : F 5 s 1 = 1
    · -- too many already
      have fl2 : F 5 s 0 = 2000 ∧ 2000 < Fm 14 0 62 := by
        rcases hG with g1 | g1
        · have := g1.1; omega
        · exact g1.2
      obtain ⟨Fm', Bm', y1, y2, y3, y4, y5⟩ := L_gvX (rec7 := rec7) hK hKm hs hp hq ⟨hf.1, hf.2.2⟩ ⟨fl, fl2.1⟩ (r + 1) n' i (Fm := Fm) (Bm := Bm) h' hT hf.2.1 ir hn' fl2.2 c1
      refine ⟨F, B, Fm', Bm', ?_, y1, fun _ _ _ _ => rfl, fun _ _ _ _ _ => rfl, y2, y3, Or.inr ⟨fl, fl2.1, y4.1⟩, y4.2, y5⟩
      rw [f_Performance_gather_35, if_pos h4, if_pos (by unfold r32; omega), hm.1, if_pos (by unfold r32; omega), if_neg (by first | decide | omega), if_pos hs, fl, if_pos (by decide), if_neg (by decide), f_Performance_gather_85]
    · obtain ⟨n', rfl⟩ : ∃ j, n' = j + 1 := ⟨n' - 1, (by first | decide | omega)⟩
      have f0 : F 5 s 1 = 0 := by
        rcases hG with g1 | g1
        · exact g1.1
        · exact absurd g1.1 fl
      obtain ⟨F1, B1, Fm1, Bm1, x1, x2, x3, x4, x5, x6, x7, x8, x9, x10⟩ := P_ev (rec7 := rec7) (rec := f_M_gather_17 rec7 Km n') (i := i) hK hKm hs uV hp hq hf h' hT (by first | decide | omega) c0 (by first | decide | omega) hG
      have ih' := ih n n' (i + 1) (F := F1) (B := B1) (Fm := Fm1) (Bm := Bm1) (by rw [x5 6 p 0 u (by first | decide | omega)]; exact hq) ⟨by rw [x4 6 p 2 (by first | decide | omega)]; exact hf.1, by rw [x6 13 w 2 (by first | decide | omega)]; exact hf.2.1, hf.2.2⟩ (VS_e h' x4 x5 x7) (T61_e hT x7) (by first | decide | omega) (by first | decide | omega) (by first | decide | omega) (by first | decide | omega) (by first | decide | omega) x8
      rw [show ((i + 1 : Nat) : Int) = (i : Int) + 1 by omega] at ih'
      obtain ⟨F', B', Fm', Bm', y1, y2, y3, y4, y5, y6, y7, y8, y9⟩ := ih'
      refine ⟨F', B', Fm', Bm', ?_, ?_, gaF_t x4 y3, gaB_t x5 y4, gaG_t x6 y5, gaM_t x7 y6, y7, (by first | decide | omega), (by first | decide | omega)⟩
      · obtain ⟨t1, t0⟩ := C_isTr hK h' (i := i) (by first | decide | omega)
        rw [f_Performance_gather_35, if_pos h4, if_pos (by unfold r32; omega), hm.1, if_pos (by unfold r32; omega), if_neg (by first | decide | omega), if_pos hs, f0, if_pos (by decide), if_pos rfl]
        by_cases T : trE q i F B
        · rw [t1 T, zb_s, if_pos (by decide), if_neg (by decide), x1 T, zb_s, f_Performance_gather_79]
          exact y1
        · rw [t0 T, zb_s, if_pos (by decide), if_pos rfl, x2 T, zb_s, f_Performance_gather_79]
          exact y1
      · rw [f_M_gather_17, if_pos w0, if_pos u0, if_pos (by unfold r32; omega), h12, if_pos (by unfold r32; omega), if_neg (by first | decide | omega), x3]
        exact y2
/-- a piece's sounds -/
theorem P_gp {K : zK} {Km : Nat} {V s p w : Int} {F0 : zF} {B0 : zB} {Fm0 : zF} {Bm0 : zB} (hK : 3002 ≤ K.1) (hKm : 812851200 < Km) (hs : 0 ≤ s ∧ s < K.2 5) (hP : PK K V p w F0 B0 Fm0 Bm0) (hT : T61 Bm0) : ∀ (r n n' : Nat) {u : Int} {F : zF} {B : zB} {Fm : zF} {Bm : zB}, gaF s F0 F → gaB s B0 B → gaG Fm0 Fm → gaM Bm0 Bm → u + r = V → 0 ≤ u → r < n → r < n' → 0 ≤ Fm 14 0 62 → Fm 14 0 62 + 8000000 * r ≤ 100000000 → GA V s F B Fm Bm → ∃ F' B' Fm' Bm', f_Performance_gather_17 K n u s p F B = some (0, F', B') ∧ f_M_gather_7 Km n' u w Fm Bm = some (Fm' 14 0 62, Fm', Bm') ∧ gaF s F0 F' ∧ gaB s B0 B' ∧ gaG Fm0 Fm' ∧ gaM Bm0 Bm' ∧ GA V s F' B' Fm' Bm' ∧ 0 ≤ Fm' 14 0 62 ∧ Fm' 14 0 62 ≤ 100000000 := by
  have hP' := hP
  obtain ⟨⟨hp, w0, V0, p1, m1⟩, ⟨k2, k3, k4, k5, k6, k7⟩, hv⟩ := hP
  have bv := bar_v (n := F0 6 p 4) (d := F0 6 p 5) k4.2 k5.2
  intro r
  induction r with
  | zero =>
    intro n n' u F B Fm Bm g1 g2 g3 g4 ur u0 hn hn' c0 c1 hG
    obtain ⟨n, rfl⟩ : ∃ j, n = j + 1 := ⟨n - 1, (by first | decide | omega)⟩
    obtain ⟨n', rfl⟩ : ∃ j, n' = j + 1 := ⟨n' - 1, (by first | decide | omega)⟩
    have e1 : F 6 p 1 = V := by rw [g1 6 p 1 (by first | decide | omega)]; exact p1
    have e2 : Fm 13 w 1 = V := by rw [g3 13 w 1 (by first | decide | omega)]; exact m1
    refine ⟨F, B, Fm, Bm, ?_, ?_, g1, g2, g3, g4, hG, c0, (by first | decide | omega)⟩
    · rw [f_Performance_gather_17, if_pos hp, if_pos (by unfold r32; omega), e1, if_pos (by unfold r32; omega), if_pos (by first | decide | omega)]
    · rw [f_M_gather_7, if_pos w0, if_pos (by unfold r32; omega), e2, if_pos (by unfold r32; omega), if_pos (by first | decide | omega)]
  | succ r ih =>
    intro n n' u F B Fm Bm g1 g2 g3 g4 ur u0 hn hn' c0 c1 hG
    obtain ⟨n, rfl⟩ : ∃ j, n = j + 1 := ⟨n - 1, (by first | decide | omega)⟩
    obtain ⟨n', rfl⟩ : ∃ j, n' = j + 1 := ⟨n' - 1, (by first | decide | omega)⟩
    have e1 : F 6 p 1 = V := by rw [g1 6 p 1 (by first | decide | omega)]; exact p1
    have e2 : Fm 13 w 1 = V := by rw [g3 13 w 1 (by first | decide | omega)]; exact m1
    obtain ⟨vh, m, g, vk, _⟩ := hv u u0 (by first | decide | omega)
    have vs0 := VS_of vk w0 (by first | decide | omega) bv.2.2.1
    have vs := VS_e vs0 g1 g2 g4
    have eq : B 6 p 0 u = B0 6 p 0 u := g2 6 p 0 u (by first | decide | omega)
    have mm := vk.1
    obtain ⟨F1, B1, Fm1, Bm1, x1, x2, x3, x4, x5, x6, x7, x8, x9⟩ := P_gv (rec7 := f_M_gather_7 Km n') (rec := f_Performance_gather_17 K n) (p := p) (q := B0 6 p 0 u) (f := F0 6 p 2) hK hKm hs (by first | decide | omega) hp m K.1 Km 0 (F := F) (B := B) (Fm := Fm) (Bm := Bm) eq ⟨by rw [g1 6 p 2 (by first | decide | omega)], by rw [g3 13 w 2 (by first | decide | omega)]; exact k2.1.symm, k2.2⟩ vs (T61_e hT g4) (by first | decide | omega) (by first | decide | omega) (by first | decide | omega) c0 (by first | decide | omega) hG
    obtain ⟨F', B', Fm', Bm', y1, y2, y3, y4, y5, y6, y7, y8, y9⟩ := ih n n' (u := u + 1) (F := F1) (B := B1) (Fm := Fm1) (Bm := Bm1) (gaF_t g1 x3) (gaB_t g2 x4) (gaG_t g3 x5) (gaM_t g4 x6) (by first | decide | omega) (by first | decide | omega) (by first | decide | omega) (by first | decide | omega) (by first | decide | omega) (by first | decide | omega) x7
    refine ⟨F', B', Fm', Bm', ?_, ?_, y3, y4, y5, y6, y7, y8, y9⟩
    · rw [f_Performance_gather_17, if_pos hp, if_pos (by unfold r32; omega), e1, if_pos (by unfold r32; omega), if_neg (by first | decide | omega), if_pos (by first | decide | omega), eq]
      rw [show ((0 : Nat) : Int) = 0 from rfl] at x1
      rw [x1]
      exact y1
    · rw [f_M_gather_7, if_pos w0, if_pos (by unfold r32; omega), e2, if_pos (by unfold r32; omega), if_neg (by first | decide | omega)]
      rw [show ((0 : Nat) : Int) = 0 from rfl] at x2
      rw [x2]
      exact y2
theorem P_gather {K : zK} {Km : Nat} {V s p w : Int} {F : zF} {B : zB} {Fm : zF} {Bm : zB} (hK : 3002 ≤ K.1) (hKm : 812851200 < Km) (hs : 0 ≤ s ∧ s < K.2 5) (hP : PK K V p w F B Fm Bm) (hT : T61 Bm) : ∃ F' B' Fm' Bm', f_Performance_gather K s p F B = some (0, F', B') ∧ f_M_gather Km w Fm Bm = some (Fm' 14 0 62, Fm', Bm') ∧ (∀ c y k, ¬ (c = 5 ∧ y = s ∧ (k ≤ 1 ∨ k = 3)) → F' c y k = F c y k) ∧ gaB s B B' ∧ gaG Fm Fm' ∧ gaM Bm Bm' ∧ GA V s F' B' Fm' Bm' ∧ 0 ≤ Fm' 14 0 62 ∧ Fm' 14 0 62 ≤ 100000000 ∧ F' 5 s 3 = 0 := by
  unfold f_Performance_gather f_M_gather
  rw [if_pos hs]
  have V0 := hP.1.2.2.1
  have z0 : ∀ c y k, ¬ (c = 5 ∧ y = s ∧ (k ≤ 1 ∨ k = 3)) → zup3 (zup3 (zup3 F 5 s 0 0) 5 s 1 0) 5 s 3 0 c y k = F c y k := fun c y k n => by rw [zup3_v, if_neg (by first | decide | omega), zup3_v, if_neg (by first | decide | omega), zup3_v, if_neg (by first | decide | omega)]
  have a1 : zup3 (zup3 (zup3 F 5 s 0 0) 5 s 1 0) 5 s 3 0 5 s 1 = 0 := by rw [zup3_v, if_neg (by first | decide | omega), zup3_v, if_pos (by first | decide | omega)]
  have a0 : zup3 (zup3 (zup3 F 5 s 0 0) 5 s 1 0) 5 s 3 0 5 s 0 = 0 := by rw [zup3_v, if_neg (by first | decide | omega), zup3_v, if_neg (by first | decide | omega), zup3_v, if_pos (by first | decide | omega)]
  have m0 : (zup3 Fm 14 0 62 0) 14 0 62 = 0 := by rw [zup3_v, if_pos (by first | decide | omega)]
  have hP1 : PK K V p w (zup3 (zup3 (zup3 F 5 s 0 0) 5 s 1 0) 5 s 3 0) B (zup3 Fm 14 0 62 0) Bm := PK_e hP (fun _ => Int.le_refl _) (fun k _ => z0 6 p k (by first | decide | omega)) rfl (fun u _ _ => by funext k; exact z0 4 _ k (by first | decide | omega)) (fun _ _ _ => rfl) (fun u i _ _ _ _ => by funext k; exact z0 1 _ k (by first | decide | omega)) (fun _ _ _ _ _ _ => rfl) (fun k _ _ => by rw [zup3_v, if_neg (by first | decide | omega)]) (fun _ _ _ => rfl)
  obtain ⟨F', B', Fm', Bm', x1, x2, x3, x4, x5, x6, x7, x8, x9⟩ := P_gp hK hKm hs hP1 hT V.toNat K.1 Km (u := 0) (fun _ _ _ _ => rfl) (fun _ _ _ _ _ => rfl) (fun _ _ _ _ => rfl) (fun _ _ _ _ _ => rfl) (by first | decide | omega) (by decide) (by first | decide | omega) (by first | decide | omega) (by first | decide | omega) (by first | decide | omega) (Or.inl ⟨a1, (by first | decide | omega), (by first | decide | omega), (by first | decide | omega), fun j j0 j1 => (by first | decide | omega)⟩)
  exact ⟨F', B', Fm', Bm', x1, x2, fun c y k n => by rw [x3 c y k (by first | decide | omega), z0 c y k n], x4, fun c y k n => by rw [x5 c y k n, zup3_v, if_neg (by first | decide | omega)], x6, x7, x8, x9, by rw [x3 5 s 3 (by first | decide | omega), zup3_v, if_pos (by first | decide | omega)]⟩
end
end
section
section
/-! ===== strokes put in order: the class ===== -/
theorem zlor2 {w b : Int} (h0 : 0 ≤ w) (h1 : w < 2305843009213693952) (h2 : 0 ≤ b) (h3 : b < 4) : zlor (zlshl w 2) b = w * 4 + b := by
  obtain ⟨n, rfl⟩ := Int.eq_ofNat_of_zero_le h0
  obtain ⟨m, rfl⟩ := Int.eq_ofNat_of_zero_le h2
  have k1 : (BitVec.ofInt 64 (n : Int)).toNat = n := by
    rw [BitVec.toNat_ofInt]
    show ((n : Int) % 18446744073709551616).toNat = n
    omega
  have k2 : (BitVec.ofInt 64 (m : Int)).toNat = m := by
    rw [BitVec.toNat_ofInt]
    show ((m : Int) % 18446744073709551616).toNat = m
    omega
  have e0 : (BitVec.ofInt 64 (n : Int) <<< (2 : Nat)).toNat = n * 4 := by
    rw [BitVec.toNat_shiftLeft, k1, Nat.shiftLeft_eq]
    show n * 4 % 18446744073709551616 = n * 4
    omega
  have e1 : zlshl (n : Int) 2 = ((n * 4 : Nat) : Int) := by
    show (BitVec.ofInt 64 (n : Int) <<< (2 : Nat)).toInt = _
    rw [BitVec.toInt_eq_toNat_of_lt (by rw [e0]; omega), e0]
  have k3 : (BitVec.ofInt 64 ((n * 4 : Nat) : Int)).toNat = n * 4 := by
    rw [BitVec.toNat_ofInt]
    show (((n * 4 : Nat) : Int) % 18446744073709551616).toNat = n * 4
    omega
  have e2 : (BitVec.ofInt 64 ((n * 4 : Nat) : Int) ||| BitVec.ofInt 64 (m : Int)).toNat = n * 4 + m := by
    rw [BitVec.toNat_or, k3, k2]
    have := Nat.shiftLeft_add_eq_or_of_lt (a := n) (b := m) (i := 2) (by first | decide | omega)
    rw [Nat.shiftLeft_eq] at this
    exact this.symm
  rw [e1]
  show (BitVec.ofInt 64 ((n * 4 : Nat) : Int) ||| BitVec.ofInt 64 (m : Int)).toInt = _
  rw [BitVec.toInt_eq_toNat_of_lt (by rw [e2]; omega), e2]
  omega
theorem zlor7 {w b : Int} (h0 : 0 ≤ w) (h1 : w < 72057594037927936) (h2 : 0 ≤ b) (h3 : b < 128) : zlor (zlshl w 7) b = w * 128 + b := by
  obtain ⟨n, rfl⟩ := Int.eq_ofNat_of_zero_le h0
  obtain ⟨m, rfl⟩ := Int.eq_ofNat_of_zero_le h2
  have k1 : (BitVec.ofInt 64 (n : Int)).toNat = n := by
    rw [BitVec.toNat_ofInt]
    show ((n : Int) % 18446744073709551616).toNat = n
    omega
  have k2 : (BitVec.ofInt 64 (m : Int)).toNat = m := by
    rw [BitVec.toNat_ofInt]
    show ((m : Int) % 18446744073709551616).toNat = m
    omega
  have e0 : (BitVec.ofInt 64 (n : Int) <<< (7 : Nat)).toNat = n * 128 := by
    rw [BitVec.toNat_shiftLeft, k1, Nat.shiftLeft_eq]
    show n * 128 % 18446744073709551616 = n * 128
    omega
  have e1 : zlshl (n : Int) 7 = ((n * 128 : Nat) : Int) := by
    show (BitVec.ofInt 64 (n : Int) <<< (7 : Nat)).toInt = _
    rw [BitVec.toInt_eq_toNat_of_lt (by rw [e0]; omega), e0]
  have k3 : (BitVec.ofInt 64 ((n * 128 : Nat) : Int)).toNat = n * 128 := by
    rw [BitVec.toNat_ofInt]
    show (((n * 128 : Nat) : Int) % 18446744073709551616).toNat = n * 128
    omega
  have e2 : (BitVec.ofInt 64 ((n * 128 : Nat) : Int) ||| BitVec.ofInt 64 (m : Int)).toNat = n * 128 + m := by
    rw [BitVec.toNat_or, k3, k2]
    have := Nat.shiftLeft_add_eq_or_of_lt (a := n) (b := m) (i := 7) (by first | decide | omega)
    rw [Nat.shiftLeft_eq] at this
    exact this.symm
  rw [e1]
  show (BitVec.ofInt 64 ((n * 128 : Nat) : Int) ||| BitVec.ofInt 64 (m : Int)).toInt = _
  rw [BitVec.toInt_eq_toNat_of_lt (by rw [e2]; omega), e2]
  omega
theorem zlor11 {w b : Int} (h0 : 0 ≤ w) (h1 : w < 4503599627370496) (h2 : 0 ≤ b) (h3 : b < 2048) : zlor (zlshl w 11) b = w * 2048 + b := by
  obtain ⟨n, rfl⟩ := Int.eq_ofNat_of_zero_le h0
  obtain ⟨m, rfl⟩ := Int.eq_ofNat_of_zero_le h2
  have k1 : (BitVec.ofInt 64 (n : Int)).toNat = n := by
    rw [BitVec.toNat_ofInt]
    show ((n : Int) % 18446744073709551616).toNat = n
    omega
  have k2 : (BitVec.ofInt 64 (m : Int)).toNat = m := by
    rw [BitVec.toNat_ofInt]
    show ((m : Int) % 18446744073709551616).toNat = m
    omega
  have e0 : (BitVec.ofInt 64 (n : Int) <<< (11 : Nat)).toNat = n * 2048 := by
    rw [BitVec.toNat_shiftLeft, k1, Nat.shiftLeft_eq]
    show n * 2048 % 18446744073709551616 = n * 2048
    omega
  have e1 : zlshl (n : Int) 11 = ((n * 2048 : Nat) : Int) := by
    show (BitVec.ofInt 64 (n : Int) <<< (11 : Nat)).toInt = _
    rw [BitVec.toInt_eq_toNat_of_lt (by rw [e0]; omega), e0]
  have k3 : (BitVec.ofInt 64 ((n * 2048 : Nat) : Int)).toNat = n * 2048 := by
    rw [BitVec.toNat_ofInt]
    show (((n * 2048 : Nat) : Int) % 18446744073709551616).toNat = n * 2048
    omega
  have e2 : (BitVec.ofInt 64 ((n * 2048 : Nat) : Int) ||| BitVec.ofInt 64 (m : Int)).toNat = n * 2048 + m := by
    rw [BitVec.toNat_or, k3, k2]
    have := Nat.shiftLeft_add_eq_or_of_lt (a := n) (b := m) (i := 11) (by first | decide | omega)
    rw [Nat.shiftLeft_eq] at this
    exact this.symm
  rw [e1]
  show (BitVec.ofInt 64 ((n * 2048 : Nat) : Int) ||| BitVec.ofInt 64 (m : Int)).toInt = _
  rw [BitVec.toInt_eq_toNat_of_lt (by rw [e2]; omega), e2]
  omega
/-- the key of a stroke: its tick, whether it begins, its voice, tone, event and number -/
def skV (t on v to ev j : Int) : Int := ((((t * 2 + on) * 4 + v) * 128 + to) * 256 + ev) * 2048 + j
theorem C_sk {K : zK} {s j t on : Int} {F : zF} {B : zB} (hs : 0 ≤ s ∧ s < K.2 5) (hj : 0 ≤ j ∧ j < 2000) (ht : 0 ≤ t ∧ t ≤ 500000) (ho : on = 0 ∨ on = 1) (h0 : 0 ≤ B 5 s 340 j ∧ B 5 s 340 j < 4) (h1 : 0 ≤ B 5 s 341 j ∧ B 5 s 341 j < 200) (h2 : 0 ≤ B 5 s 342 j ∧ B 5 s 342 j ≤ 127) : f_Performance_strokeKey K s j t on F B = some (skV t on (B 5 s 340 j) (B 5 s 342 j) (B 5 s 341 j) j, F, B) := by
  unfold f_Performance_strokeKey skV
  rw [if_pos (by unfold r32; omega), if_pos hs, if_pos hj, if_pos (by unfold r32; omega), if_pos (by unfold r32; omega), if_pos (by unfold r32; omega), if_pos (by unfold r32; omega), zlor2 (by first | decide | omega) (by first | decide | omega) h0.1 h0.2, zlor7 (by first | decide | omega) (by first | decide | omega) h2.1 (by first | decide | omega), zlor8 (by first | decide | omega) (by first | decide | omega) h1.1 (by first | decide | omega), zlor11 (by first | decide | omega) (by first | decide | omega) hj.1 (by first | decide | omega)]
/-- the row of strokes that is in use, and the other -/
def rwS (s : Int) (F : zF) : Prop := (F 5 s 8 = 180 ∧ F 5 s 9 = 181) ∨ (F 5 s 8 = 181 ∧ F 5 s 9 = 180)
theorem rw_l {s : Int} {k : Nat} (h : k = 180 ∨ k = 181) : (lnC 5 s k : Int) = 4000 ∧ zk 5 k = (3, 1) ∧ lnC 5 s k ≤ 2147483647 := by
  rcases h with rfl | rfl
  · exact ⟨rfl, by decide, by show (4000 : Nat) ≤ 2147483647; decide⟩
  · exact ⟨rfl, by decide, by show (4000 : Nat) ≤ 2147483647; decide⟩
/-- two ordered stretches of row a brought together in row b -/
theorem C_mrg {K : zK} {s lo mi hi N : Int} {a b : Nat} {F : zF} {S : Int → Int} (hs : 0 ≤ s ∧ s < K.2 5) (ha : F 5 s 8 = a ∧ F 5 s 9 = b) (hab : (a = 180 ∧ b = 181) ∨ (a = 181 ∧ b = 180)) (l0 : 0 ≤ lo ∧ lo ≤ mi ∧ mi ≤ hi ∧ hi ≤ 4000) (r6 : ∀ t, lo ≤ t → t < hi → r64 (S t)) (inj : ∀ t t', lo ≤ t → t < hi → lo ≤ t' → t' < hi → S t = S t' → t = t') (o1 : ∀ t, lo ≤ t → t + 1 < mi → S t < S (t + 1)) (o2 : ∀ t, mi ≤ t → t + 1 < hi → S t < S (t + 1)) : ∀ (r n : Nat) {k x y : Int} {B : zB}, k + r = hi → r < n → lo ≤ x → x ≤ mi → mi ≤ y → y ≤ hi → k = x + (y - mi) → (∀ t, lo ≤ t → t < hi → B 5 s a t = S t) → (∀ t, lo ≤ t → t < k → (x < mi → B 5 s b t < S x) ∧ (y < hi → B 5 s b t < S y) ∧ ∃ z, lo ≤ z ∧ z < hi ∧ B 5 s b t = S z) → (∀ t, lo ≤ t → t + 1 < k → B 5 s b t < B 5 s b (t + 1)) → ∃ B', f_Performance_merge_9 K n k y x s mi hi F B = some (0, F, B') ∧ (∀ c i j t, ¬ (c = 5 ∧ i = s ∧ j = b ∧ k ≤ t ∧ t < hi) → B' c i j t = B c i j t) ∧ (∀ t, lo ≤ t → t < hi → ∃ z, lo ≤ z ∧ z < hi ∧ B' 5 s b t = S z) ∧ (∀ t, lo ≤ t → t + 1 < hi → B' 5 s b t < B' 5 s b (t + 1)) := by
  have hav : a = 180 ∨ a = 181 := by omega
  have hbv : b = 180 ∨ b = 181 := by omega
  have hn : ¬ a = b := by omega
  obtain ⟨la, za, ka⟩ := rw_l (s := s) hav
  obtain ⟨lb, zb, kb⟩ := rw_l (s := s) hbv
  have ta : (F 5 s 8).toNat = a := by rw [ha.1]; exact Int.toNat_natCast a
  have tb : (F 5 s 9).toNat = b := by rw [ha.2]; exact Int.toNat_natCast b
  intro r
  induction r with
  | zero =>
    intro n k x y B kr hn' x0 x1 y0 y1 hk hB hO hS
    obtain ⟨n, rfl⟩ : ∃ j, n = j + 1 := ⟨n - 1, (by first | decide | omega)⟩
    refine ⟨B, ?_, fun _ _ _ _ _ => rfl, fun t t0 t1 => (hO t t0 (by first | decide | omega)).2.2, fun t t0 t1 => hS t t0 (by first | decide | omega)⟩
    rw [f_Performance_merge_9, if_pos (by unfold r32; omega), if_pos (by unfold r32; omega), if_pos (by first | decide | omega)]
  | succ r ih =>
    intro n k x y B kr hn' x0 x1 y0 y1 hk hB hO hS
    obtain ⟨n, rfl⟩ : ∃ j, n = j + 1 := ⟨n - 1, (by first | decide | omega)⟩
    -- one value is put at k
    have put : ∀ (v x' y' : Int), lo ≤ x' → x' ≤ mi → mi ≤ y' → y' ≤ hi → k + 1 = x' + (y' - mi) → (∃ z, lo ≤ z ∧ z < hi ∧ v = S z) → (x' < mi → v < S x') → (y' < hi → v < S y') → (∀ t, lo ≤ t → t < k → B 5 s b t < v) → (x' < mi → x < mi ∧ S x ≤ S x') → (y' < hi → y < hi ∧ S y ≤ S y') → ∃ B', f_Performance_merge_9 K n (k + 1) y' x' s mi hi F (zup4 B 5 s b k v) = some (0, F, B') ∧ (∀ c i j t, ¬ (c = 5 ∧ i = s ∧ j = b ∧ k ≤ t ∧ t < hi) → B' c i j t = B c i j t) ∧ (∀ t, lo ≤ t → t < hi → ∃ z, lo ≤ z ∧ z < hi ∧ B' 5 s b t = S z) ∧ (∀ t, lo ≤ t → t + 1 < hi → B' 5 s b t < B' 5 s b (t + 1)) := fun v x' y' a1 a2 a3 a4 a5 a6 a7 a8 a9 a10 a11 => by
      have e : ∀ t, ¬ t = k → (zup4 B 5 s b k v) 5 s b t = B 5 s b t := fun t ht => by rw [zup4_v, if_neg (by first | decide | omega)]
      have ek : (zup4 B 5 s b k v) 5 s b k = v := by rw [zup4_v, if_pos (by first | decide | omega)]
      obtain ⟨B', b1, b2, b3, b4⟩ := ih n (k := k + 1) (x := x') (y := y') (B := zup4 B 5 s b k v) (by first | decide | omega) (by first | decide | omega) a1 a2 a3 a4 a5 (fun t t0 t1 => by rw [zup4_v, if_neg (by first | decide | omega)]; exact hB t t0 t1) (fun t t0 t1 => by
        by_cases z : t = k
        · rw [z, ek]; exact ⟨a7, a8, a6⟩
        · rw [e t z]
          obtain ⟨h1, h2, h3⟩ := hO t t0 (by first | decide | omega)
          exact ⟨fun q => by have := a10 q; have := h1 this.1; omega, fun q => by have := a11 q; have := h2 this.1; omega, h3⟩) (fun t t0 t1 => by
        by_cases z : t + 1 = k
        · rw [z, ek, e t (by first | decide | omega)]; exact a9 t t0 (by first | decide | omega)
        · rw [e t (by first | decide | omega), e (t + 1) z]; exact hS t t0 (by first | decide | omega))
      exact ⟨B', b1, fun c i j t q => by rw [b2 c i j t (by first | decide | omega), zup4_v, if_neg (by first | decide | omega)], b3, b4⟩
    have rk : r32 k := by unfold r32; omega
    have rx : r32 x := by unfold r32; omega
    have ry : r32 y := by unfold r32; omega
    have rm : r32 mi := by unfold r32; omega
    have rh : r32 hi := by unfold r32; omega
    -- the right one is taken
    have right : y < hi → (x < mi → S y < S x) → ∃ B', f_Performance_merge_49 (f_Performance_merge_9 K n) K k y x s mi hi F B = some (0, F, B') ∧ (∀ c i j t, ¬ (c = 5 ∧ i = s ∧ j = b ∧ k ≤ t ∧ t < hi) → B' c i j t = B c i j t) ∧ (∀ t, lo ≤ t → t < hi → ∃ z, lo ≤ z ∧ z < hi ∧ B' 5 s b t = S z) ∧ (∀ t, lo ≤ t → t + 1 < hi → B' 5 s b t < B' 5 s b (t + 1)) := fun yh lt => by
      have hy := hB y (by first | decide | omega) yh
      unfold f_Performance_merge_49 f_Performance_merge_50 f_Performance_merge_80 f_Performance_merge_93 f_Performance_merge_108
      rw [if_pos hs, if_pos (by decide), if_pos rfl, ta, tb, la, if_pos (by first | decide | omega), if_pos za, if_pos ka, if_pos hs, lb, if_pos (by first | decide | omega), if_pos zb, if_pos kb, if_pos (by decide), if_pos rfl, if_pos (by decide), if_pos rfl, hy, Int.add_zero]
      exact put (S y) x (y + 1) x0 x1 (by first | decide | omega) (by first | decide | omega) (by first | decide | omega) ⟨y, (by first | decide | omega), yh, rfl⟩ lt (fun q => o2 y y0 q) (fun t t0 t1 => (hO t t0 t1).2.1 yh) (fun q => ⟨q, Int.le_refl _⟩) (fun q => ⟨yh, by have := o2 y y0 q; omega⟩)
    have left : x < mi → (y < hi → S x < S y) → ∃ B', f_Performance_merge_45 (f_Performance_merge_9 K n) K k y x s mi hi F B = some (0, F, B') ∧ (∀ c i j t, ¬ (c = 5 ∧ i = s ∧ j = b ∧ k ≤ t ∧ t < hi) → B' c i j t = B c i j t) ∧ (∀ t, lo ≤ t → t < hi → ∃ z, lo ≤ z ∧ z < hi ∧ B' 5 s b t = S z) ∧ (∀ t, lo ≤ t → t + 1 < hi → B' 5 s b t < B' 5 s b (t + 1)) := fun xm lt => by
      have hx := hB x x0 (by first | decide | omega)
      unfold f_Performance_merge_45 f_Performance_merge_50 f_Performance_merge_80 f_Performance_merge_93 f_Performance_merge_108
      rw [if_pos hs, if_pos (by decide), if_neg (by decide), ta, tb, la, if_pos (by first | decide | omega), if_pos za, if_pos ka, if_pos hs, lb, if_pos (by first | decide | omega), if_pos zb, if_pos kb, if_pos (by decide), if_neg (by decide), if_pos (by decide), if_neg (by decide), hx, Int.add_zero]
      exact put (S x) (x + 1) y (by first | decide | omega) (by first | decide | omega) y0 y1 (by first | decide | omega) ⟨x, x0, (by first | decide | omega), rfl⟩ (fun q => o1 x x0 q) lt (fun t t0 t1 => (hO t t0 t1).1 xm) (fun q => ⟨xm, by have := o1 x x0 q; omega⟩) (fun q => ⟨q, Int.le_refl _⟩)
    rw [f_Performance_merge_9, if_pos rk, if_pos rh, if_neg (by first | decide | omega), if_pos rx, if_pos rm]
    by_cases xm : mi ≤ x
    · rw [if_pos xm]
      exact right (by first | decide | omega) (fun q => (by first | decide | omega))
    · rw [if_neg xm, if_pos ry]
      by_cases yh : hi ≤ y
      · rw [if_pos yh]
        exact left (by first | decide | omega) (fun q => (by first | decide | omega))
      · have hx := hB x x0 (by first | decide | omega)
        have hy := hB y (by first | decide | omega) (by first | decide | omega)
        rw [if_neg yh, if_pos hs, ta, la, if_pos (by first | decide | omega), if_pos za, if_pos ka, if_pos (by first | decide | omega), hx, hy, if_pos (r6 x x0 (by first | decide | omega)), if_pos (r6 y (by first | decide | omega) (by first | decide | omega))]
        by_cases q : 0 < zcmp (S x) (S y)
        · rw [if_pos q]
          exact right (by first | decide | omega) (fun _ => zcmp_g.mp q)
        · rw [if_neg q]
          refine left (by first | decide | omega) (fun _ => ?_)
          have h1 : S x ≤ S y := by
            rcases Int.lt_or_le (S y) (S x) with z | z
            · exact absurd (zcmp_g.mpr z) q
            · exact z
          have h2 : ¬ S x = S y := fun z => by have := inj x y x0 (by first | decide | omega) (by first | decide | omega) (by first | decide | omega) z; omega
          omega
end
end
