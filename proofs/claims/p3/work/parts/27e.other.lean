section
/-! ===== what one voice's reading leaves of the others ===== -/
theorem GS_v {K : zK} {q v w : Int} {F F' : zF} {B B' : zB} {Fm Fm' : zF} {Bm Bm' : zB} (h : GS K B) (q0 : 0 ≤ q ∧ q < K.2 4) (hI : inJ q B) (f : VFR q v w F B Fm Bm F' B' Fm' Bm') : GS K B' := by
  obtain ⟨g1, g2, g3, g4, g5⟩ := h
  have e6 : ∀ y u, B' 6 y 0 u = B 6 y 0 u := fun y u => f.2.1 6 y 0 u (by omega) (by omega) (by omega)
  have e4 : ∀ y x, y ≠ q → B' 4 y 5 x = B 4 y 5 x := fun y x n => f.2.1 4 y 5 x (by omega) (by omega) (by omega)
  have own : ∀ x, 0 ≤ x → x < 200 → ∃ y, 0 ≤ y ∧ y < 200 ∧ B 4 q 5 y = B' 4 q 5 x := fun x a b => (f.2.2.1 _).mp ⟨x, a, b, rfl⟩
  have iJ := f.2.2.2.2.2 hI
  refine ⟨g1, fun p u a b c d => by rw [e6]; exact g2 p u a b c d, fun p u p' u' a b c d a' b' c' d' z e => ?_, fun y x a b c d => ?_, fun y x y' x' a b c d a' b' c' d' e => ?_⟩
  · rw [e6] at z e
    rw [e6] at e
    exact g3 p u p' u' a b c d a' b' c' d' z e
  · by_cases n : y = q
    · rw [n]
      obtain ⟨t, t0, t1, t2⟩ := own x c d
      rw [← t2]
      exact g4 q t q0.1 q0.2 t0 t1
    · rw [e4 y x n]; exact g4 y x a b c d
  · by_cases n : y = q
    · by_cases n' : y' = q
      · rw [n, n'] at e
        exact ⟨by rw [n, n'], iJ x x' c d c' d' e⟩
      · exfalso
        obtain ⟨t, t0, t1, t2⟩ := own x c d
        rw [n, e4 y' x' n', ← t2] at e
        exact n' (g5 q t y' x' q0.1 q0.2 t0 t1 a' b' c' d' e).1.symm
    · by_cases n' : y' = q
      · exfalso
        obtain ⟨t, t0, t1, t2⟩ := own x' c' d'
        rw [n', e4 y x n, ← t2] at e
        exact n (g5 y x q t a b c d q0.1 q0.2 t0 t1 e).1
      · rw [e4 y x n, e4 y' x' n'] at e
        exact g5 y x y' x' a b c d a' b' c' d' e
theorem VD_f {K : zK} {q q' v v' w bar : Int} {m : Nat} {g : Int → Int} {F F' : zF} {B B' : zB} {Fm Fm' : zF} {Bm Bm' : zB} (hv : ¬ v' = v) (v0 : 0 ≤ v ∧ v < 4) (v0' : 0 ≤ v' ∧ v' < 4) (hq : ¬ q' = q) (hd : ∀ i : Int, 0 ≤ i → i < 200 → ¬ ownE B q (B 4 q' 5 i)) (h : VD K q' v' w m bar g F B Bm) (f : VFR q v w F B Fm Bm F' B' Fm' Bm') : VD K q' v' w m bar g F' B' Bm' := by
  obtain ⟨⟨a1, a2, a3⟩, a4, a5, a6, a7, a8, a9, a10, c, nw, qn, gb⟩ := h
  have f4 : ∀ k, F' 4 q' k = F 4 q' k := fun k => f.1 4 q' k (by omega) (by omega) (by omega)
  have b4 : ∀ k x, B' 4 q' k x = B 4 q' k x := fun k x => f.2.1 4 q' k x (by omega) (by omega) (by omega)
  have f1 : ∀ i : Int, 0 ≤ i → i < 200 → ∀ k, F' 1 (B 4 q' 5 i) k = F 1 (B 4 q' 5 i) k := fun i i0 i1 k => f.1 1 _ k (by omega) (by omega) (fun z => hd i i0 i1 z.2)
  have b1 : ∀ i : Int, 0 ≤ i → i < 200 → ∀ k x, B' 1 (B 4 q' 5 i) k x = B 1 (B 4 q' 5 i) k x := fun i i0 i1 k x => f.2.1 1 _ k x (by omega) (by omega) (fun z => hd i i0 i1 z.2)
  have m13 : ∀ (k : Nat) x, ¬ inW v w 13 w k x → Bm' 13 w k x = Bm 13 w k x := fun k x n => f.2.2.2.2.1 13 w k x (by omega) n
  have m8 : ∀ y, Bm' 14 0 8 y = Bm 14 0 8 y := fun y => f.2.2.2.2.1 14 0 8 y (by omega) (by unfold inW; omega)
  have r1 : ∀ (k : Nat) (i : Int), 14 ≤ k → k ≤ 27 → 0 ≤ i → i < 200 → Bm' 13 w k (1000 * v' + i) = Bm 13 w k (1000 * v' + i) := fun k i h0 h1 i0 i1 => m13 k _ (by unfold inW; omega)
  have rE : ∀ i : Nat, i < m → EVW w (B 4 q' 5 i) (1000 * v' + i) F B Bm → EVW w (B 4 q' 5 i) (1000 * v' + i) F' B' Bm' := fun i hi ev => EVW_h ev (fun k _ _ => f1 i (by omega) (by omega) k) (fun k y => b1 i (by omega) (by omega) k y) (fun k h0 h1 => r1 k i (by omega) (by omega) (by omega) (by omega)) (fun k y h0 h1 y0 y1 => m13 k y (by unfold inW; omega)) m8
  refine ⟨⟨by rw [f4]; exact a1, a2, a3⟩, by rw [m13 12 v' (by unfold inW; omega)]; exact a4, a5, a6, by rw [f4]; exact a7, fun i hi => ?_, fun j hj => ?_, ?_, c, ⟨nw.1, by rw [f4]; exact nw.2.1, by rw [f4]; exact nw.2.2.1, by rw [m13 13 v' (by unfold inW; omega)]; exact nw.2.2.2.1, fun i i0 i1 => ?_⟩, ?_, fun i i0 i1 => by simp only [b4]; exact gb i i0 i1⟩
  · obtain ⟨ev, q1, q2, q3, q4⟩ := a8 i hi
    rw [b4, f1 i (by omega) (by omega), f1 i (by omega) (by omega), r1 14 i (by decide) (by decide) (by omega) (by omega), r1 15 i (by decide) (by decide) (by omega) (by omega)]
    exact ⟨rE i hi ev, q1, q2, q3, q4⟩
  · rw [b4, f1 j (by omega) (by omega), r1 27 j (by decide) (by decide) (by omega) (by omega)]
    exact a9 j hj
  · obtain ⟨w1, w2, w3, w4⟩ := a10
    refine ⟨fun i hi hz => w1 i hi ?_, fun i hi hz => w2 i hi ?_, fun i hi hz => w3 i hi ?_, fun i hi => ?_⟩
    · rcases hz with hz | hz
      · exact Or.inl hz
      · by_cases e : i = m
        · exact Or.inl e
        · rw [b4, f1 i (by omega) (by omega)] at hz
          exact Or.inr hz
    · rw [b4, f1 i (by omega) (by omega)] at hz
      exact hz
    · rw [b4, f1 i (by omega) (by omega)] at hz
      exact hz
    · have := w4 i hi
      unfold TIk at this ⊢
      rw [b4, f1 i (by omega) (by omega)]
      exact this
  · have := nw.2.2.2.2 i i0 i1
    have c8 := nw.1.2
    unfold NE at this ⊢
    rw [b4, b4, b4, b4, b4, m13 30 _ (by unfold inW; omega), m13 31 _ (by unfold inW; omega), m13 32 _ (by unfold inW; omega), m13 33 _ (by unfold inW; omega), m13 34 _ (by unfold inW; omega), m13 35 _ (by unfold inW; omega)]
    exact this
  · obtain ⟨k1, k2, k3, k4, k5, k6, k7⟩ := qn
    refine ⟨k1, by rw [f4]; exact k2, by rw [f4]; exact k3, by rw [f4]; exact k4, fun i i0 i1 => by rw [b4, b4, b4, b4]; exact k5 i i0 i1, fun t t0 t1 => ?_, fun s s0 s1 => by rw [b4]; exact k7 s s0 s1⟩
    rw [b4, f1 t t0 (by omega), f1 t t0 (by omega)]
    obtain ⟨j1, j2, j3, j4⟩ := k6 t t0 t1
    refine ⟨j1, j2, j3, fun k h0 h1 => ?_⟩
    rw [b1 t t0 (by omega), b1 t t0 (by omega)]
    exact j4 k h0 h1
end
