section
/-! ===== a piece that has been read, both sides, as it is kept ===== -/
def EVK (w e x : Int) (F : zF) (B Bm : zB) : Prop := (1 ≤ F 1 e 2 ∧ F 1 e 2 ≤ 1024) ∧ (F 1 e 3 = Bm 13 w 24 x ∧ 1 ≤ F 1 e 3 ∧ F 1 e 3 ≤ 81) ∧ (F 1 e 4 = Bm 13 w 23 x ∧ 1 ≤ F 1 e 4 ∧ F 1 e 4 ≤ 81) ∧ (∃ z, 6350400 = F 1 e 3 * z ∧ F 1 e 1 = z * F 1 e 2 * F 1 e 4) ∧ (Bm 13 w 16 x = nu (F 1 e 1) ∧ Bm 13 w 17 x = de (F 1 e 1) ∧ 1 ≤ F 1 e 1 ∧ F 1 e 1 ≤ 600000000000) ∧ (F 1 e 5 = Bm 13 w 25 x ∧ 0 ≤ F 1 e 5 ∧ F 1 e 5 ≤ 5000) ∧ (0 ≤ Bm 13 w 22 x ∧ Bm 13 w 22 x ≤ 2 ∧ (F 1 e 5 = 0 ↔ Bm 13 w 22 x = 0) ∧ (F 1 e 5 = 0 → F 1 e 3 = 1 ∧ F 1 e 4 = 1)) ∧ (F 1 e 7 = Bm 13 w 18 x ∧ 0 ≤ F 1 e 7 ∧ F 1 e 7 < 128) ∧ (F 1 e 8 = Bm 13 w 19 x ∧ 0 ≤ F 1 e 8 ∧ F 1 e 8 ≤ 7) ∧ (F 1 e 9 = Bm 13 w 20 x ∧ 0 ≤ F 1 e 9 ∧ F 1 e 9 ≤ 3000) ∧ EPR e x w (F 1 e 10) F B Bm
theorem EVK_e {w e x : Int} {F F' : zF} {B B' Bm Bm' : zB} (h : EVK w e x F B Bm) (f : F' 1 e = F 1 e) (b : B' 1 e = B 1 e) (hm : ∀ k x, k ≤ 35 → Bm' 13 w k x = Bm 13 w k x) : EVK w e x F' B' Bm' := by
  unfold EVK EPR at *
  rw [f, b, hm 24 _ (by decide), hm 23 _ (by decide), hm 16 _ (by decide), hm 17 _ (by decide), hm 25 _ (by decide), hm 22 _ (by decide), hm 18 _ (by decide), hm 19 _ (by decide), hm 20 _ (by decide), hm 21 _ (by decide)]
  obtain ⟨v1, v2, v3, v4, v5, v6, v7, v8, v9, v10, e1, e2, e3, e4, e5⟩ := h
  exact ⟨v1, v2, v3, v4, v5, v6, v7, v8, v9, v10, e1, e2, e3, fun k k0 k1 => by rw [hm 28 _ (by decide), hm 29 _ (by decide)]; exact e4 k k0 k1, e5⟩
def VK (K : zK) (q v w : Int) (m : Nat) (bar : Int) (g : Int → Int) (F : zF) (B Bm : zB) : Prop := (F 4 q 6 = m ∧ 1 ≤ m ∧ m ≤ 200) ∧ Bm 13 w 12 v = m ∧ (∀ j : Int, 0 ≤ j → j < m → 1 ≤ g j) ∧ sumZ g m ≤ 100 * bar ∧ F 4 q 7 = sumZ g m ∧ (∀ i : Nat, i < m → EVK w (B 4 q 5 i) (1000 * v + i) F B Bm ∧ F 1 (B 4 q 5 i) 0 = sumZ g i ∧ Bm 13 w 14 (1000 * v + i) = nu (sumZ g i) ∧ Bm 13 w 15 (1000 * v + i) = de (sumZ g i) ∧ F 1 (B 4 q 5 i) 1 = g i) ∧ SLs q v w m B F Bm ∧ BW q m bar g F B ∧ ∃ c, NW q v w m (zZ bar (clB (sumZ g m) bar)) c F B Bm ∧ QN K q m c F B ∧ GBw q c B
theorem VK_e {K K' : zK} {q v w bar : Int} {m : Nat} {g : Int → Int} {F F' : zF} {B B' Bm Bm' : zB} (h : VK K q v w m bar g F B Bm) (hk1 : K.2 1 ≤ K'.2 1) (hk4 : K.2 4 ≤ K'.2 4) (f4 : F' 4 q = F 4 q) (b4 : B' 4 q = B 4 q) (f1 : ∀ i : Int, 0 ≤ i → i < 200 → F' 1 (B 4 q 5 i) = F 1 (B 4 q 5 i)) (b1 : ∀ i : Int, 0 ≤ i → i < 200 → B' 1 (B 4 q 5 i) = B 1 (B 4 q 5 i)) (hm : ∀ k x, k ≤ 35 → Bm' 13 w k x = Bm 13 w k x) : VK K' q v w m bar g F' B' Bm' := by
  obtain ⟨⟨a1, a2, a3⟩, a4, a5, a6, a7, a8, a9, a10, c, nw, qn, gb⟩ := h
  refine ⟨⟨by rw [f4]; exact a1, a2, a3⟩, by rw [hm 12 _ (by decide)]; exact a4, a5, a6, by rw [f4]; exact a7, fun i hi => ?_, fun j hj => ?_, ?_, c, ⟨nw.1, by rw [f4]; exact nw.2.1, by rw [f4]; exact nw.2.2.1, by rw [hm 13 _ (by decide)]; exact nw.2.2.2.1, fun i i0 i1 => ?_⟩, ?_, ?_⟩
  · obtain ⟨ev, q1, q2, q3, q4⟩ := a8 i hi
    rw [b4, f1 i (by first | decide | omega) (by first | decide | omega), hm 14 _ (by decide), hm 15 _ (by decide)]
    exact ⟨EVK_e ev (f1 i (by first | decide | omega) (by first | decide | omega)) (b1 i (by first | decide | omega) (by first | decide | omega)) hm, q1, q2, q3, q4⟩
  · rw [b4, f1 j (by first | decide | omega) (by first | decide | omega), hm 27 _ (by decide)]
    exact a9 j hj
  · obtain ⟨w1, w2, w3, w4⟩ := a10
    refine ⟨fun i hi hz => w1 i hi ?_, fun i hi hz => w2 i hi ?_, fun i hi hz => w3 i hi ?_, fun i hi => ?_⟩
    · rcases hz with hz | hz
      · exact Or.inl hz
      · by_cases e : i = m
        · exact Or.inl e
        · rw [b4, f1 i (by first | decide | omega) (by first | decide | omega)] at hz
          exact Or.inr hz
    · rw [b4, f1 i (by first | decide | omega) (by first | decide | omega)] at hz
      exact hz
    · rw [b4, f1 i (by first | decide | omega) (by first | decide | omega)] at hz
      exact hz
    · have := w4 i hi
      unfold TIk at this ⊢
      rw [b4, f1 i (by first | decide | omega) (by first | decide | omega)]
      exact this
  · have := nw.2.2.2.2 i i0 i1
    unfold NE at this ⊢
    rw [b4, hm 30 _ (by decide), hm 31 _ (by decide), hm 32 _ (by decide), hm 33 _ (by decide), hm 34 _ (by decide), hm 35 _ (by decide)]
    exact this
  · obtain ⟨k1, k2, k3, k4, k5, k6, k7⟩ := qn
    refine ⟨⟨k1.1, (by first | decide | omega)⟩, by rw [f4]; exact k2, by rw [f4]; exact k3, by rw [f4]; exact k4, fun i i0 i1 => by rw [b4]; exact k5 i i0 i1, fun t t0 t1 => ?_, fun s s0 s1 => by rw [b4]; exact k7 s s0 s1⟩
    obtain ⟨j1, j2, j3, j4⟩ := k6 t t0 t1
    rw [b4, f1 t t0 (by first | decide | omega)]
    refine ⟨⟨j1.1, (by first | decide | omega)⟩, j2, j3, fun k k0 k1 => ?_⟩
    rw [b1 t t0 (by first | decide | omega)]
    exact j4 k k0 k1
  · unfold GBw at *
    rw [b4]
    exact gb
/-- what both sides say of a voice's head -/
def VH (K : zK) (p w u : Int) (F : zF) (B Bm : zB) : Prop := (0 ≤ B 6 p 0 u ∧ B 6 p 0 u < K.2 4) ∧ F 4 (B 6 p 0 u) 0 = Bm 13 w 10 u ∧ (F 4 (B 6 p 0 u) 1 = Bm 13 w 8 u ∧ 0 ≤ F 4 (B 6 p 0 u) 1 ∧ F 4 (B 6 p 0 u) 1 < 4) ∧ (F 4 (B 6 p 0 u) 2 = Bm 13 w 9 u ∧ 0 ≤ F 4 (B 6 p 0 u) 2 ∧ F 4 (B 6 p 0 u) 2 ≤ 3) ∧ (0 < F 4 (B 6 p 0 u) 0 ∧ F 4 (B 6 p 0 u) 0 < 9223372036854775808) ∧ Bm 13 w 11 u = ltr 9 (Bm 13 w 10 u) ∧ NZb (Bm 13 w 10 u)
def PK (K : zK) (V p w : Int) (F : zF) (B : zB) (Fm : zF) (Bm : zB) : Prop := ((0 ≤ p ∧ p < K.2 6) ∧ (0 ≤ w ∧ w < 3) ∧ (1 ≤ V ∧ V ≤ 4) ∧ F 6 p 1 = V ∧ Fm 13 w 1 = V) ∧ ((F 6 p 2 = Fm 13 w 2 ∧ -7 ≤ F 6 p 2 ∧ F 6 p 2 ≤ 7) ∧ (F 6 p 3 = Fm 13 w 3 ∧ (F 6 p 3 = 0 ∨ F 6 p 3 = 1)) ∧ (F 6 p 4 = Fm 13 w 4 ∧ 1 ≤ F 6 p 4 ∧ F 6 p 4 ≤ 12) ∧ (F 6 p 5 = Fm 13 w 5 ∧ (F 6 p 5 = 2 ∨ F 6 p 5 = 4 ∨ F 6 p 5 = 8 ∨ F 6 p 5 = 16)) ∧ (F 6 p 6 = Fm 13 w 6 ∧ 20 ≤ F 6 p 6 ∧ F 6 p 6 ≤ 300) ∧ (F 6 p 7 = Fm 13 w 7 ∧ 0 ≤ F 6 p 7 ∧ F 6 p 7 ≤ 100)) ∧ (∀ u, 0 ≤ u → u < V → VH K p w u F B Bm ∧ ∃ m g, VK K (B 6 p 0 u) u w m (barV (F 6 p 4) (F 6 p 5)) g F B Bm ∧ Fm 13 w 7 = clB (F 4 (B 6 p 0 u) 7) (barV (F 6 p 4) (F 6 p 5)))
theorem PK_e {K K' : zK} {V p w : Int} {F F' : zF} {B B' : zB} {Fm Fm' : zF} {Bm Bm' : zB} (h : PK K V p w F B Fm Bm) (hk : ∀ c, K.2 c ≤ K'.2 c) (f6 : ∀ k, k ≤ 7 → F' 6 p k = F 6 p k) (b6 : B' 6 p 0 = B 6 p 0) (f4 : ∀ u, 0 ≤ u → u < V → F' 4 (B 6 p 0 u) = F 4 (B 6 p 0 u)) (b4 : ∀ u, 0 ≤ u → u < V → B' 4 (B 6 p 0 u) = B 4 (B 6 p 0 u)) (f1 : ∀ u i, 0 ≤ u → u < V → 0 ≤ i → i < 200 → F' 1 (B 4 (B 6 p 0 u) 5 i) = F 1 (B 4 (B 6 p 0 u) 5 i)) (b1 : ∀ u i, 0 ≤ u → u < V → 0 ≤ i → i < 200 → B' 1 (B 4 (B 6 p 0 u) 5 i) = B 1 (B 4 (B 6 p 0 u) 5 i)) (fm : ∀ k, k ≤ 7 → 1 ≤ k → Fm' 13 w k = Fm 13 w k) (bm : ∀ k x, k ≤ 35 → Bm' 13 w k x = Bm 13 w k x) : PK K' V p w F' B' Fm' Bm' := by
  obtain ⟨⟨h1, h2, h3, h4, h5⟩, hh, hv⟩ := h
  have k6 := hk 6
  have k4 := hk 4
  unfold PK
  rw [f6 1 (by decide), f6 2 (by decide), f6 3 (by decide), f6 4 (by decide), f6 5 (by decide), f6 6 (by decide), f6 7 (by decide), fm 1 (by decide) (by decide), fm 2 (by decide) (by decide), fm 3 (by decide) (by decide), fm 4 (by decide) (by decide), fm 5 (by decide) (by decide), fm 6 (by decide) (by decide), fm 7 (by decide) (by decide), b6]
  refine ⟨⟨⟨h1.1, (by first | decide | omega)⟩, h2, h3, h4, h5⟩, hh, fun u u0 u1 => ?_⟩
  obtain ⟨⟨v1, v2, v3, v4⟩, m, g, vk, e7⟩ := hv u u0 u1
  refine ⟨?_, m, g, VK_e vk (hk 1) (hk 4) (f4 u u0 u1) (b4 u u0 u1) (fun i i0 i1 => f1 u i u0 u1 i0 i1) (fun i i0 i1 => b1 u i u0 u1 i0 i1) bm, by rw [f4 u u0 u1]; exact e7⟩
  unfold VH
  rw [b6, f4 u u0 u1, bm 10 _ (by decide), bm 8 _ (by decide), bm 9 _ (by decide), bm 11 _ (by decide)]
  exact ⟨⟨v1.1, (by first | decide | omega)⟩, v2, v3, v4⟩
/-- from a text just read -/
theorem VK_d {K : zK} {q v w bar : Int} {m : Nat} {g : Int → Int} {F F' : zF} {B Bm Bm' : zB} (h : VD K q v w m bar g F B Bm) (f : ∀ c y k, ¬ c = 0 → ¬ c = 6 → F' c y k = F c y k) (h20 : ∀ i : Nat, i < m → Bm' 13 w 20 (1000 * v + i) = Bm 14 0 8 (Bm 13 w 20 (1000 * v + i))) (hm : ∀ k x, ¬ k = 20 → k ≤ 35 → Bm' 13 w k x = Bm 13 w k x) : VK K q v w m bar g F' B Bm' := by
  have e1 : F' 1 = F 1 := by funext y k; exact f 1 y k (by decide) (by decide)
  have e4 : F' 4 = F 4 := by funext y k; exact f 4 y k (by decide) (by decide)
  unfold VD SLs BW TIk NW QN NE at h
  unfold VK SLs BW TIk NW QN NE
  rw [e1, e4]
  obtain ⟨a1, a4, a5, a6, a7, a8, a9, a10, c, nw, qn, gb⟩ := h
  refine ⟨a1, by rw [hm 12 _ (by decide) (by decide)]; exact a4, a5, a6, a7, fun i hi => ?_, fun j hj => ?_, a10, c, ?_, qn, gb⟩
  · obtain ⟨ev, q1, q2, q3, q4⟩ := a8 i hi
    refine ⟨?_, q1, by rw [hm 14 _ (by decide) (by decide)]; exact q2, by rw [hm 15 _ (by decide) (by decide)]; exact q3, q4⟩
    unfold EVW EPR at ev
    unfold EVK EPR
    rw [e1, hm 24 _ (by decide) (by decide), hm 23 _ (by decide) (by decide), hm 16 _ (by decide) (by decide), hm 17 _ (by decide) (by decide), hm 25 _ (by decide) (by decide), hm 22 _ (by decide) (by decide), hm 18 _ (by decide) (by decide), hm 19 _ (by decide) (by decide), hm 21 _ (by decide) (by decide), h20 i hi]
    obtain ⟨v1, v2, v3, v4, v5, v6, v7, v8, v9, v10, v11, v12⟩ := ev
    refine ⟨v1, v2, v3, v4, v5, v6, v7, v9, v10, ⟨v11.1, v11.2.2.2⟩, v12.1, v12.2.1, v12.2.2.1, fun k k0 k1 => ?_, v12.2.2.2.2⟩
    rw [hm 28 _ (by decide) (by decide), hm 29 _ (by decide) (by decide)]
    exact v12.2.2.2.1 k k0 k1
  · rw [hm 27 _ (by decide) (by decide)]
    exact a9 j hj
  · refine ⟨nw.1, nw.2.1, nw.2.2.1, by rw [hm 13 _ (by decide) (by decide)]; exact nw.2.2.2.1, fun i i0 i1 => ?_⟩
    rw [hm 30 _ (by decide) (by decide), hm 31 _ (by decide) (by decide), hm 32 _ (by decide) (by decide), hm 33 _ (by decide) (by decide), hm 34 _ (by decide) (by decide), hm 35 _ (by decide) (by decide)]
    exact nw.2.2.2.2 i i0 i1
/-- the reference's own facts about a kept piece -/
theorem PK_r {K : zK} {V p w : Int} {F : zF} {B : zB} {Fm : zF} {Bm : zB} (h : PK K V p w F B Fm Bm) : RDW V w Fm Bm := by
  obtain ⟨⟨h1, h2, h3, h4, h5⟩, ⟨k2, k3, k4, k5, k6, k7⟩, hv⟩ := h
  refine ⟨h2, ⟨h5, h3⟩, (by first | decide | omega), (by first | decide | omega), (by first | decide | omega), (by first | decide | omega), fun u u0 u1 => ?_⟩
  obtain ⟨⟨v1, v2, v3, v4⟩, m, g, vk, e7⟩ := hv u u0 u1
  obtain ⟨⟨a1, a2, a3⟩, a4, a5, a6, a7, a8, a9, a10, c, nw, qn, gb⟩ := vk
  have bv := bar_v (n := F 6 p 4) (d := F 6 p 5) ⟨k4.2.1, k4.2.2⟩ k5.2
  refine ⟨⟨(by first | decide | omega), by rw [nw.2.2.2.1]; exact nw.1, (by first | decide | omega)⟩, fun x x0 x1 => ?_, fun y y0 y1 => ?_⟩
  · obtain ⟨i, hi⟩ : ∃ i : Nat, x = 1000 * u + i := ⟨(x - 1000 * u).toNat, (by first | decide | omega)⟩
    subst hi
    have hi : i < m := by omega
    obtain ⟨ev, q1, q2, q3, q4⟩ := a8 i hi
    obtain ⟨_, _, _, _, e5, _, _, e8, e9, e10, ep⟩ := ev
    refine ⟨⟨by rw [← e8.1]; exact e8.2, by rw [← e9.1]; exact e9.2, by rw [ep.2.1]; exact ep.2.2.1, ?_, ?_⟩, fun k k0 k1 => ?_, ?_⟩
    · have := a9 i hi; omega
    · have := a10.2.2.2 i hi
      unfold TIk at this
      rw [e8.1] at this
      omega
    · rw [ep.2.1] at k1
      have := ep.2.2.2.1 k k0 k1
      omega
    · have s0 := sumZ_0 a5 i (by first | decide | omega)
      have s1 := sumZ_m a5 (m - i - 1) (i + 1) (by first | decide | omega)
      have s2 : sumZ g (i + 1) = sumZ g i + g i := rfl
      have gi := a5 i (by first | decide | omega) (by first | decide | omega)
      exact ⟨sumZ g i, g i, ⟨s0, gi, (by first | decide | omega)⟩, q2, q3, by rw [e5.1, q4], by rw [e5.2.1, q4]⟩
  · have hy : 0 ≤ y - 800 * u ∧ y - 800 * u < c := by have := nw.2.2.2.1; omega
    have ne := nw.2.2.2.2 (y - 800 * u) hy.1 hy.2
    unfold NE zZ at ne
    rw [show 800 * u + (y - 800 * u) = y by omega] at ne
    obtain ⟨n1, n2, n3, n4, n5, n6⟩ := ne
    rw [a7] at e7
    refine ⟨(by first | decide | omega), (by first | decide | omega), (by first | decide | omega), (by first | decide | omega), B 4 (B 6 p 0 u) 9 (y - 800 * u), ⟨n3.1, by rw [← k4.1, ← k5.1]; exact n6.1⟩, n3.2.2.1, n3.2.2.2⟩
end
