section
/-! ===== what was made is turned round, both sides ===== -/
theorem EVW_g {w e x x' : Int} {F F' : zF} {B Bm B' Bm' : zB} (h : EVW w e x F B Bm) (h1 : ∀ k, ¬ k = 7 → F' 1 e k = F 1 e k) (h2 : ∀ k y, B' 1 e k y = B 1 e k y) (h3 : ∀ k, 16 ≤ k → k ≤ 26 → ¬ k = 18 → Bm' 13 w k x' = Bm 13 w k x) (h4 : ∀ k t, 28 ≤ k → k ≤ 29 → 0 ≤ t → t < 6 → Bm' 13 w k (6 * x' + t) = Bm 13 w k (6 * x + t)) (h5 : ∀ y, Bm' 14 0 8 y = Bm 14 0 8 y) (h7 : F' 1 e 7 = Bm' 13 w 18 x' ∧ 0 ≤ F' 1 e 7 ∧ F' 1 e 7 < 128) : EVW w e x' F' B' Bm' := by
  unfold EVW EPR at h ⊢
  simp only [h1 1 (by decide), h1 2 (by decide), h1 3 (by decide), h1 4 (by decide), h1 5 (by decide), h1 6 (by decide), h1 8 (by decide), h1 9 (by decide), h1 10 (by decide), h2, h5, h3 16 (by decide) (by decide) (by decide), h3 17 (by decide) (by decide) (by decide), h3 19 (by decide) (by decide) (by decide), h3 20 (by decide) (by decide) (by decide), h3 21 (by decide) (by decide) (by decide), h3 22 (by decide) (by decide) (by decide), h3 23 (by decide) (by decide) (by decide), h3 24 (by decide) (by decide) (by decide), h3 25 (by decide) (by decide) (by decide), h3 26 (by decide) (by decide) (by decide)]
  obtain ⟨a1, a2, a3, a4, a5, a6, a7, a8, a9, a10, a11, e1, e2, e3, e4, e5⟩ := h
  refine ⟨a1, a2, a3, a4, a5, a6, a7, a8, h7, a10, a11, trivial, e2, e3, fun k u v => ?_, e5⟩
  rw [h4 28 _ (by decide) (by decide) u (by first | decide | omega), h4 29 _ (by decide) (by decide) u (by first | decide | omega)]
  exact e4 k u v
/-- what the turning may change, exactly -/
theorem T_parts {K : zK} {Km : Nat} {o : oT_W} {q v w m mm fr : Int} {F : zF} {B : zB} {Fm : zF} {Bm : zB} (hK : 3002 ≤ K.1) (hKm : 3002 < Km) (h4 : 0 ≤ q ∧ q < K.2 4) (v0 : 0 ≤ v ∧ v < 4) (w0 : 0 ≤ w ∧ w < 3) (hV : ∀ t, 0 ≤ t → t < 200 → 0 ≤ B 4 q 5 t ∧ B 4 q 5 t < K.2 1) (hI : inJ q B) (hv : Fm 14 0 35 = v) (hw : Fm 14 0 6 = w) (hm : F 4 q 6 = m) (m0 : 0 ≤ m ∧ m ≤ 200) (hmm : Fm 14 0 36 = mm) (mm0 : 0 ≤ mm ∧ mm ≤ 200) (f0 : 0 ≤ fr ∧ fr ≤ 200) : ∃ F' B' B1 Bm1 Bm', f_Part_turn K q fr F B = some (0, F', B') ∧ f_M_goBack_50 o Km Km (Fm 14 0 36 - 1) fr fr Fm Bm = some (0, Fm, Bm') ∧ B' = B1 ∧ (∀ j, B1 4 q 5 j = B 4 q 5 (rv fr (m - 1) j)) ∧ (∀ c i k y, ¬ (c = 4 ∧ i = q ∧ k = 5) → B1 c i k y = B c i k y) ∧ inJ q B1 ∧ (∀ j, fr ≤ j → j < m → F' 1 (B1 4 q 5 j) 7 = cmk (F 1 (B1 4 q 5 j) 7) (tieC q m F B1 j)) ∧ (∀ c y k, ¬ (c = 1 ∧ k = 7 ∧ ∃ j, fr ≤ j ∧ j < m ∧ B1 4 q 5 j = y) → F' c y k = F c y k) ∧ rvB v w fr (mm - 1) Bm Bm1 ∧ (∀ j, fr ≤ j → j < mm → Bm' 13 w 18 (1000 * v + j) = rmk (Bm1 13 w 18 (1000 * v + j)) (tieM v w mm Bm1 j)) ∧ (∀ c i k y, ¬ (c = 13 ∧ i = w ∧ k = 18 ∧ 1000 * v + fr ≤ y ∧ y < 1000 * v + mm) → Bm' c i k y = Bm1 c i k y) := by
  obtain ⟨B1, e1, p1, p2⟩ := C_turn9 (K := K) (F := F) (q := q) (fr := fr) h4 200 K.1 (lo := fr) (hi := m - 1) (B := B) (by first | decide | omega) (by first | decide | omega) f0.1 f0.2 (by first | decide | omega) (by first | decide | omega) hV
  have hV1 : ∀ t, 0 ≤ t → t < 200 → 0 ≤ B1 4 q 5 t ∧ B1 4 q 5 t < K.2 1 := fun t a b => by
    rw [p1]
    have := rv_b (lo := fr) (hi := m - 1) (n := 200) f0.1 (by first | decide | omega) a b
    exact hV _ this.1 this.2
  have hI1 : inJ q B1 := fun t t' a b a' b' y => by
    rw [p1, p1] at y
    have z1 := rv_b (lo := fr) (hi := m - 1) (n := 200) f0.1 (by first | decide | omega) a b
    have z2 := rv_b (lo := fr) (hi := m - 1) (n := 200) f0.1 (by first | decide | omega) a' b'
    have := hI _ _ z1.1 z1.2 z2.1 z2.2 y
    rw [← rv_i (lo := fr) (hi := m - 1) (j := t), this, rv_i]
  obtain ⟨F', e2, p3, p4⟩ := C_53 (K := K) (q := q) (m := m) (B := B1) h4 m0.2 hV1 hI1 (m - fr).toNat K.1 (l := fr) (F := F) rfl (by first | decide | omega) f0.1 f0.2 (by first | decide | omega) hm
  obtain ⟨Bm1, e3, p5⟩ := L_gb50 (o := o) (K := Km) (F := Fm) (fr := fr) (by first | decide | omega) hv v0 hw w0 200 Km (lo := fr) (hi := mm - 1) (B := Bm) (by first | decide | omega) (by first | decide | omega) f0.1 f0.2 (by first | decide | omega) (by first | decide | omega)
  obtain ⟨Bm', e4, p6, p7⟩ := L_92 (o := o) (K := Km) hv v0 hw w0 hmm (by first | decide | omega) mm0.2 (mm - fr).toNat Km (l := fr) (B := Bm1) rfl (by first | decide | omega) f0.1 f0.2
  refine ⟨F', B1, B1, Bm1, Bm', ?_, ?_, rfl, p1, p2, hI1, p3, p4, p5, p6, p7⟩
  · unfold f_Part_turn
    rw [if_pos h4, hm, e1, e2]
  · rw [hmm, e3, e4]
theorem sumZ_v {g : Int → Int} {lo : Int} {n : Nat} (l0 : 0 ≤ lo) : sumZ (fun j => g (rv lo (n - 1) j)) n = sumZ g n := by
  by_cases c : (n : Int) ≤ lo
  · exact sumZ_c (fun j a b => by unfold rv; rw [if_neg (by first | decide | omega)])
  · obtain ⟨a, ha⟩ : ∃ k : Nat, lo = k := ⟨lo.toNat, (by first | decide | omega)⟩
    obtain ⟨k, hk⟩ : ∃ k : Nat, n = a + k := ⟨n - a, (by first | decide | omega)⟩
    rw [hk, sumZ_a, sumZ_a, sumZ_c (g := fun j => g (rv lo (((a + k : Nat) : Int) - 1) j)) (h := g) (n := a) (fun j p r => by show g (rv lo _ j) = g j; unfold rv; rw [if_neg (by first | decide | omega)])]
    congr 1
    rw [← sumZ_r (f := fun t => g (a + t)) (n := k)]
    exact sumZ_c (fun j p r => by
      show g (rv lo _ ((a : Int) + j)) = g (a + ((k : Int) - 1 - j))
      unfold rv
      rw [if_pos (by first | decide | omega), show lo + (((a + k : Nat) : Int) - 1) - (a + j) = a + ((k : Int) - 1 - j) by omega])
theorem T_frame {q v w m mm fr : Int} {F F' : zF} {B B1 : zB} {Fm : zF} {Bm Bm1 Bm' : zB} (hm : F 4 q 6 = m) (m0 : 0 ≤ m ∧ m ≤ 200) (mm0 : 0 ≤ mm ∧ mm ≤ 200) (f0 : 0 ≤ fr ∧ fr ≤ 200) (p1 : ∀ j, B1 4 q 5 j = B 4 q 5 (rv fr (m - 1) j)) (p2 : ∀ c i k y, ¬ (c = 4 ∧ i = q ∧ k = 5) → B1 c i k y = B c i k y) (hI1 : inJ q B1) (p4 : ∀ c y k, ¬ (c = 1 ∧ k = 7 ∧ ∃ j, fr ≤ j ∧ j < m ∧ B1 4 q 5 j = y) → F' c y k = F c y k) (p5 : rvB v w fr (mm - 1) Bm Bm1) (p7 : ∀ c i k y, ¬ (c = 13 ∧ i = w ∧ k = 18 ∧ 1000 * v + fr ≤ y ∧ y < 1000 * v + mm) → Bm' c i k y = Bm1 c i k y) : WFR q v w F B Fm Bm F' B1 Fm Bm' := by
  have own : ∀ j, 0 ≤ j → j < 200 → ownE B q (B1 4 q 5 j) := fun j a b => by
    have z := rv_b (lo := fr) (hi := m - 1) (n := 200) f0.1 (by first | decide | omega) a b
    exact ⟨_, z.1, z.2, (p1 j).symm⟩
  refine ⟨fun c y k a b d => p4 c y k (fun ⟨z1, _, j, j0, j1, j2⟩ => d ⟨z1, by rw [← j2]; exact own j (by first | decide | omega) (by first | decide | omega)⟩), fun c y k x a b d => p2 c y k x b, fun y => ⟨?_, ?_⟩, fun _ _ _ _ => rfl, fun c i k x a b => ?_, fun _ => ⟨hI1, fun c => ⟨by rw [p4 4 q 6 (by first | decide | omega)]; exact c, ?_⟩⟩⟩
  · intro ⟨j, j0, j1, j2⟩
    rw [← j2]
    exact own j j0 j1
  · intro ⟨j, j0, j1, j2⟩
    have z := rv_b (lo := fr) (hi := m - 1) (n := 200) f0.1 (by first | decide | omega) j0 j1
    exact ⟨_, z.1, z.2, by rw [p1, rv_i]; exact j2⟩
  · have b' := b
    unfold inV at b'
    rw [p7 c i k x (by first | decide | omega), p5.2.2 c i k x b]
  · unfold SD
    rw [p4 11 0 11 (by first | decide | omega), p4 4 q 6 (by first | decide | omega), hm]
    obtain ⟨mn', hmn⟩ : ∃ k : Nat, m = k := ⟨m.toNat, (by first | decide | omega)⟩
    rw [show m.toNat = mn' by omega, ← sumZ_v (g := fun j => F 1 (B 4 q 5 j) 1) (n := mn') f0.1, sumZ_c (fun j a b => by
      show F' 1 (B1 4 q 5 j) 1 = F 1 (B 4 q 5 (rv fr ((mn' : Int) - 1) j)) 1
      rw [p4 1 _ 1 (fun z => absurd z.2.1 (by decide)), p1, hmn])]
theorem P_turn {K : zK} {Km : Nat} {o : oT_W} {N q v w bar fr : Int} {D : Nat} {F : zF} {B : zB} {Fm : zF} {Bm : zB} (hC : WC K Km N q v w bar B Fm Bm) (hS : WS q v w bar D F B Fm Bm) (f0 : 0 ≤ fr ∧ fr ≤ F 4 q 6) : zP (f_Part_turn K q fr F B) (f_M_goBack_50 o Km Km (Fm 14 0 36 - 1) fr fr Fm Bm) (fun _ F' B' _ Fm' Bm' => WFR q v w F B Fm Bm F' B' Fm' Bm' ∧ WS q v w bar D F' B' Fm' Bm' ∧ WKP q F B Fm Bm F' B' Fm' Bm') := by
  obtain ⟨hK, hKm, h11, h3, h4, v0, w0, _, hV, hI, _⟩ := hC
  obtain ⟨s1, ⟨b1, b2, b3⟩, s3, s4, s5, s6, s7, s8, s9, s10, s11, s12, ⟨o1, o2, o3, o4⟩⟩ := hS
  generalize hm : F 4 q 6 = m at o1 o2 o3 o4 f0
  obtain ⟨F', B', B1, Bm1, Bm', e1, e2, e3, p1, p2, hI1, p3, p4, p5, p6, p7⟩ := T_parts (K := K) (Km := Km) (F := F) (B := B) (Fm := Fm) (Bm := Bm) (o := o) (m := m) (mm := m) (fr := fr) hK (by first | decide | omega) h4 v0 w0 hV hI b1 b2 hm ⟨o2, o3⟩ o1.symm ⟨o2, o3⟩ (by first | decide | omega)
  subst e3
  rw [e1, e2]
  have fn : ∀ (c : Nat) y k, ¬ c = 1 → F' c y k = F c y k := fun c y k n => p4 c y k (fun z => n z.1)
  have bn : ∀ (c : Nat) i k y, ¬ c = 4 → B' c i k y = B c i k y := fun c i k y n => p2 c i k y (fun z => n z.1)
  have mn : ∀ (c : Nat) i k y, ¬ c = 13 → Bm' c i k y = Bm c i k y := fun c i k y n => by
    rw [p7 c i k y (fun z => n z.1), p5.2.2 c i k y (fun z => n z.1)]
  have m14 : ∀ k y, Bm' 14 0 k y = Bm 14 0 k y := fun k y => mn 14 0 k y (by decide)
  refine zP_s ⟨T_frame hm ⟨o2, o3⟩ ⟨o2, o3⟩ (by first | decide | omega) p1 p2 hI1 p4 p5 p7, ?_, ?_⟩
  · refine ⟨by simp only [fn 11 0 _ (by decide)]; exact s1, by simp only [fn 11 0 _ (by decide)]; exact ⟨b1, b2, b3⟩, by simp only [fn 11 0 _ (by decide)]; exact s3, by simp only [fn 11 0 _ (by decide)]; exact s4, by simp only [fn 11 0 _ (by decide)]; exact s5, by simp only [fn 11 0 _ (by decide)]; exact s6, by simp only [fn 11 0 _ (by decide)]; exact s7, by simp only [fn 11 0 _ (by decide), m14]; exact s8, ?_, by simp only [fn 11 0 _ (by decide)]; exact s10, ?_, ?_, ?_⟩
    · simp only [fn 11 0 _ (by decide)]
      unfold TPL at s9 ⊢
      simp only [m14]
      exact s9
    · simp only [bn 11 0 _ _ (by decide), m14]
      exact s11
    · simp only [fn 11 0 _ (by decide)]
      refine ⟨s12.1, s12.2.1, s12.2.2.1, fun k u t => ?_⟩
      have := s12.2.2.2 k u t
      unfold CRk at this ⊢
      simp only [bn 11 0 _ _ (by decide), m14]
      exact this
    · rw [fn 4 q 6 (by decide), hm]
      refine ⟨o1, o2, o3, fun j j0 j1 => ?_⟩
      have rb : ∀ t, 0 ≤ t → t < m → 0 ≤ rv fr (m - 1) t ∧ rv fr (m - 1) t < m := fun t a b => rv_b f0.1 (by first | decide | omega) a b
      have ev : ∀ t, 0 ≤ t → t < m → EVW w (B' 4 q 5 t) (1000 * v + rv fr (m - 1) t) F B Bm := fun t a b => by
        rw [p1]
        exact o4 _ (rb t a b).1 (rb t a b).2
      have mk : ∀ t, 0 ≤ t → t < m → F 1 (B' 4 q 5 t) 7 = Bm1 13 w 18 (1000 * v + t) ∧ 0 ≤ F 1 (B' 4 q 5 t) 7 ∧ F 1 (B' 4 q 5 t) 7 < 128 := fun t a b => by
        have := (ev t a b).2.2.2.2.2.2.2.2.1
        rw [p5.1 18 t (by decide) (by decide) a (by first | decide | omega)]
        exact this
      refine EVW_g (ev j j0 j1) (fun k n => p4 1 _ k (fun z => n z.2.1)) (fun k y => bn 1 _ k y (by decide)) (fun k a b n => ?_) (fun k t a b t0 t1 => ?_) (fun y => m14 8 y) ?_
      · rw [p7 _ _ _ _ (by first | decide | omega), p5.1 k j a b j0 (by first | decide | omega)]
      · rw [p7 _ _ _ _ (by first | decide | omega), p5.2.1 k j t a b j0 (by first | decide | omega) t0 t1]
      · obtain ⟨k1, k2, k3⟩ := mk j j0 j1
        by_cases c : fr ≤ j
        · have tt : tieC q m F B' j = tieM v w m Bm1 j ∧ (tieC q m F B' j = 0 ∨ tieC q m F B' j = 1) := by
            unfold tieC tieM
            by_cases d : j + 1 < m
            · rw [if_pos d, if_pos d]
              obtain ⟨y1, y2, y3⟩ := mk (j + 1) (by first | decide | omega) d
              rw [show 1000 * v + j + 1 = 1000 * v + (j + 1) by omega, ← y1]
              rcases tie_e y2 y3 with z | z
              · rw [z]; exact ⟨by decide, by decide⟩
              · rw [z]; exact ⟨by decide, by decide⟩
            · rw [if_neg d, if_neg d]
              exact ⟨rfl, Or.inl rfl⟩
          rw [p3 j c j1, p6 j c j1, ← k1, ← tt.1]
          exact mk_e k2 k3 tt.2
        · rw [p4 1 _ 7 (fun ⟨_, _, t, t0, t1, t2⟩ => by have := hI1 t j (by first | decide | omega) (by first | decide | omega) (by first | decide | omega) (by first | decide | omega) t2; omega), p7 _ _ _ _ (by first | decide | omega)]
          exact ⟨k1, k2, k3⟩
  · refine ⟨⟨fn _ _ _ (by decide), fn _ _ _ (by decide), fn _ _ _ (by decide), fn _ _ _ (by decide), fn _ _ _ (by decide)⟩, fun k u t => bn _ _ _ _ (by decide), fun k u t => ⟨bn _ _ _ _ (by decide), bn _ _ _ _ (by decide), bn _ _ _ _ (by decide), m14 _ _, m14 _ _, m14 _ _⟩, fun k u t => ⟨m14 _ _, m14 _ _⟩, fun u => ⟨fn _ _ _ (by decide), fn _ _ _ (by decide), rfl⟩, by rw [fn _ _ _ (by decide)]; exact Int.le_refl _⟩
theorem P_turnE {K : zK} {Km : Nat} {o : oT_W} {N q v w bar fr : Int} {D : Nat} {F : zF} {B : zB} {Fm : zF} {Bm : zB} (hC : WC K Km N q v w bar B Fm Bm) (hS : WE D q v w F Fm) (f0 : 0 ≤ fr ∧ fr ≤ 200) : zP (f_Part_turn K q fr F B) (f_M_goBack_50 o Km Km (Fm 14 0 36 - 1) fr fr Fm Bm) (fun _ F' B' _ Fm' Bm' => WFR q v w F B Fm Bm F' B' Fm' Bm' ∧ WE D q v w F' Fm') := by
  obtain ⟨hK, hKm, h11, h3, h4, v0, w0, _, hV, hI, _⟩ := hC
  obtain ⟨a1, a2, a3, a4, a5, a6, a7, a8, a9, a10⟩ := hS
  obtain ⟨F', B', B1, Bm1, Bm', e1, e2, e3, p1, p2, hI1, p3, p4, p5, p6, p7⟩ := T_parts (K := K) (Km := Km) (F := F) (B := B) (Fm := Fm) (Bm := Bm) (o := o) (m := F 4 q 6) (mm := Fm 14 0 36) (fr := fr) hK (by first | decide | omega) h4 v0 w0 hV hI a6 a7 rfl a8 rfl a9 f0
  subst e3
  rw [e1, e2]
  have fn : ∀ (c : Nat) y k, ¬ c = 1 → F' c y k = F c y k := fun c y k n => p4 c y k (fun z => n z.1)
  refine zP_s ⟨T_frame rfl a8 a9 f0 p1 p2 hI1 p4 p5 p7, ?_⟩
  refine ⟨by rw [fn _ _ _ (by decide)]; exact a1, by rw [fn _ _ _ (by decide)]; exact a2, by rw [fn _ _ _ (by decide)]; exact a3, a4, a5, a6, a7, by rw [fn _ _ _ (by decide)]; exact a8, a9, by rw [fn _ _ _ (by decide)]; exact a10⟩
end
