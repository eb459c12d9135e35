section
/-! ===== all sounds of a piece gathered, both sides: voices ===== -/
/-- too many already: the reference goes on alone -/
theorem L_gvX {K : zK} {Km : Nat} {s p q u w f : Int} {m : Nat} {g : Int → Int} {rec7 : Int → Int → zF → zB → zO} {F : zF} {B : zB} (hK : 3002 ≤ K.1) (hKm : 812851200 < Km) (hs : 0 ≤ s ∧ s < K.2 5) (hp : 0 ≤ p ∧ p < K.2 6) (hq : B 6 p 0 u = q) (hf : F 6 p 2 = f ∧ -7 ≤ f ∧ f ≤ 7) (fl : F 5 s 1 = 1 ∧ F 5 s 0 = 2000) : ∀ (r n' i : Nat) {Fm : zF} {Bm : zB}, VS K q u w m g F B Bm → T61 Bm → Fm 13 w 2 = f → i + r = m → r < n' → 2000 < Fm 14 0 62 → Fm 14 0 62 + 40000 * r ≤ 100000000 → ∃ Fm' Bm', f_M_gather_17 rec7 Km n' i u w Fm Bm = rec7 (u + 1) w Fm' Bm' ∧ gaG Fm Fm' ∧ gaM Bm Bm' ∧ (2000 < Fm' 14 0 62 ∧ Fm 14 0 62 ≤ Fm' 14 0 62) ∧ Fm' 14 0 62 ≤ Fm 14 0 62 + 40000 * r := by
  intro r
  induction r with
  | zero =>
    intro n' i Fm Bm h hT h2 ir hn c0 c1
    obtain ⟨n', rfl⟩ : ∃ j, n' = j + 1 := ⟨n' - 1, (by first | decide | omega)⟩
    obtain ⟨h4, w0, u0, hm, h12, _⟩ := h
    refine ⟨Fm, Bm, ?_, fun _ _ _ _ => rfl, fun _ _ _ _ _ => rfl, ⟨c0, (by first | decide | omega)⟩, (by first | decide | omega)⟩
    rw [f_M_gather_17, if_pos w0, if_pos u0, if_pos (by unfold r32; omega), h12, if_pos (by unfold r32; omega), if_pos (by first | decide | omega)]
  | succ r ih =>
    intro n' i Fm Bm h hT h2 ir hn c0 c1
    obtain ⟨n', rfl⟩ : ∃ j, n' = j + 1 := ⟨n' - 1, (by first | decide | omega)⟩
    have h' := h
    obtain ⟨h4, w0, u0, hm, h12, _⟩ := h
    obtain ⟨F1, B1, Fm1, Bm1, _, _, x3, _, _, x6, x7, x8, x9, x10⟩ := P_ev (V := u + 1) (rec7 := rec7) (rec := f_M_gather_17 rec7 Km n') (i := i) hK hKm hs (by first | decide | omega) hp hq ⟨hf.1, h2, hf.2⟩ h' hT (by first | decide | omega) (by first | decide | omega) (by first | decide | omega) (Or.inr ⟨fl.1, fl.2, c0⟩)
    have ih' := ih n' (i + 1) (Fm := Fm1) (Bm := Bm1) (VS_e (s := s) h' (fun _ _ _ _ => rfl) (fun _ _ _ _ _ => rfl) x7) (T61_e hT x7) (by rw [x6 13 w 2 (by first | decide | omega)]; exact h2) (by first | decide | omega) (by first | decide | omega) (by first | decide | omega) (by first | decide | omega)
    rw [show ((i + 1 : Nat) : Int) = (i : Int) + 1 by omega] at ih'
    obtain ⟨Fm', Bm', y1, y2, y3, y4, y5⟩ := ih'
    refine ⟨Fm', Bm', ?_, gaG_t x6 y2, gaM_t x7 y3, ⟨y4.1, (by first | decide | omega)⟩, (by first | decide | omega)⟩
    rw [f_M_gather_17, if_pos w0, if_pos u0, if_pos (by unfold r32; omega), h12, if_pos (by unfold r32; omega), if_neg (by first | decide | omega), x3]
    exact y1
/-- a voice's sounds -/
theorem P_gv {K : zK} {Km : Nat} {V s p q u w f : Int} {m : Nat} {g : Int → Int} {rec7 : Int → Int → zF → zB → zO} {rec : Int → Int → Int → zF → zB → zO} (hK : 3002 ≤ K.1) (hKm : 812851200 < Km) (hs : 0 ≤ s ∧ s < K.2 5) (uV : u < V) (hp : 0 ≤ p ∧ p < K.2 6) : ∀ (r n n' i : Nat) {F : zF} {B : zB} {Fm : zF} {Bm : zB}, B 6 p 0 u = q → F 6 p 2 = f ∧ Fm 13 w 2 = f ∧ -7 ≤ f ∧ f ≤ 7 → VS K q u w m g F B Bm → T61 Bm → i + r = m → r < n → r < n' → 0 ≤ Fm 14 0 62 → Fm 14 0 62 + 40000 * r ≤ 100000000 → GA V s F B Fm Bm → ∃ F' B' Fm' Bm', f_Performance_gather_35 rec K n i q u s p F B = rec (u + 1) s p F' B' ∧ f_M_gather_17 rec7 Km n' i u w Fm Bm = rec7 (u + 1) w Fm' Bm' ∧ gaF s F F' ∧ gaB s B B' ∧ gaG Fm Fm' ∧ gaM Bm Bm' ∧ GA V s F' B' Fm' Bm' ∧ Fm 14 0 62 ≤ Fm' 14 0 62 ∧ Fm' 14 0 62 ≤ Fm 14 0 62 + 40000 * r := by
  intro r
  induction r with
  | zero =>
    intro n n' i F B Fm Bm hq hf h hT ir hn hn' c0 c1 hG
    obtain ⟨n, rfl⟩ : ∃ j, n = j + 1 := ⟨n - 1, (by first | decide | omega)⟩
    obtain ⟨n', rfl⟩ : ∃ j, n' = j + 1 := ⟨n' - 1, (by first | decide | omega)⟩
    obtain ⟨h4, w0, u0, hm, h12, _⟩ := h
    refine ⟨F, B, Fm, Bm, ?_, ?_, fun _ _ _ _ => rfl, fun _ _ _ _ _ => rfl, fun _ _ _ _ => rfl, fun _ _ _ _ _ => rfl, hG, (by first | decide | omega), (by first | decide | omega)⟩
    · rw [f_Performance_gather_35, if_pos h4, if_pos (by unfold r32; omega), hm.1, if_pos (by unfold r32; omega), if_pos (by first | decide | omega), f_Performance_gather_85]
    · rw [f_M_gather_17, if_pos w0, if_pos u0, if_pos (by unfold r32; omega), h12, if_pos (by unfold r32; omega), if_pos (by first | decide | omega)]
  | succ r ih =>
    intro n n' i F B Fm Bm hq hf h hT ir hn hn' c0 c1 hG
    obtain ⟨n, rfl⟩ : ∃ j, n = j + 1 := ⟨n - 1, (by first | decide | omega)⟩
    have h' := h
    obtain ⟨h4, w0, u0, hm, h12, _⟩ := h
    by_cases fl : F 5 s 1 = 1
    · -- too many already
      have fl2 : F 5 s 0 = 2000 ∧ 2000 < Fm 14 0 62 := by
        rcases hG with g1 | g1
        · have := g1.1; omega
        · exact g1.2
      obtain ⟨Fm', Bm', y1, y2, y3, y4, y5⟩ := L_gvX (rec7 := rec7) hK hKm hs hp hq ⟨hf.1, hf.2.2⟩ ⟨fl, fl2.1⟩ (r + 1) n' i (Fm := Fm) (Bm := Bm) h' hT hf.2.1 ir hn' fl2.2 c1
      refine ⟨F, B, Fm', Bm', ?_, y1, fun _ _ _ _ => rfl, fun _ _ _ _ _ => rfl, y2, y3, Or.inr ⟨fl, fl2.1, y4.1⟩, y4.2, y5⟩
      rw [f_Performance_gather_35, if_pos h4, if_pos (by unfold r32; omega), hm.1, if_pos (by unfold r32; omega), if_neg (by first | decide | omega), if_pos hs, fl, if_pos (by decide), if_neg (by decide), f_Performance_gather_85]
    · obtain ⟨n', rfl⟩ : ∃ j, n' = j + 1 := ⟨n' - 1, (by first | decide | omega)⟩
      have f0 : F 5 s 1 = 0 := by
        rcases hG with g1 | g1
        · exact g1.1
        · exact absurd g1.1 fl
      obtain ⟨F1, B1, Fm1, Bm1, x1, x2, x3, x4, x5, x6, x7, x8, x9, x10⟩ := P_ev (rec7 := rec7) (rec := f_M_gather_17 rec7 Km n') (i := i) hK hKm hs uV hp hq hf h' hT (by first | decide | omega) c0 (by first | decide | omega) hG
      have ih' := ih n n' (i + 1) (F := F1) (B := B1) (Fm := Fm1) (Bm := Bm1) (by rw [x5 6 p 0 u (by first | decide | omega)]; exact hq) ⟨by rw [x4 6 p 2 (by first | decide | omega)]; exact hf.1, by rw [x6 13 w 2 (by first | decide | omega)]; exact hf.2.1, hf.2.2⟩ (VS_e h' x4 x5 x7) (T61_e hT x7) (by first | decide | omega) (by first | decide | omega) (by first | decide | omega) (by first | decide | omega) (by first | decide | omega) x8
      rw [show ((i + 1 : Nat) : Int) = (i : Int) + 1 by omega] at ih'
      obtain ⟨F', B', Fm', Bm', y1, y2, y3, y4, y5, y6, y7, y8, y9⟩ := ih'
      refine ⟨F', B', Fm', Bm', ?_, ?_, gaF_t x4 y3, gaB_t x5 y4, gaG_t x6 y5, gaM_t x7 y6, y7, (by first | decide | omega), (by first | decide | omega)⟩
      · obtain ⟨t1, t0⟩ := C_isTr hK h' (i := i) (by first | decide | omega)
        rw [f_Performance_gather_35, if_pos h4, if_pos (by unfold r32; omega), hm.1, if_pos (by unfold r32; omega), if_neg (by first | decide | omega), if_pos hs, f0, if_pos (by decide), if_pos rfl]
        by_cases T : trE q i F B
        · rw [t1 T, zb_s, if_pos (by decide), if_neg (by decide), x1 T, zb_s, f_Performance_gather_79]
          exact y1
        · rw [t0 T, zb_s, if_pos (by decide), if_pos rfl, x2 T, zb_s, f_Performance_gather_79]
          exact y1
      · rw [f_M_gather_17, if_pos w0, if_pos u0, if_pos (by unfold r32; omega), h12, if_pos (by unfold r32; omega), if_neg (by first | decide | omega), x3]
        exact y2
/-- a piece's sounds -/
theorem P_gp {K : zK} {Km : Nat} {V s p w : Int} {F0 : zF} {B0 : zB} {Fm0 : zF} {Bm0 : zB} (hK : 3002 ≤ K.1) (hKm : 812851200 < Km) (hs : 0 ≤ s ∧ s < K.2 5) (hP : PK K V p w F0 B0 Fm0 Bm0) (hT : T61 Bm0) : ∀ (r n n' : Nat) {u : Int} {F : zF} {B : zB} {Fm : zF} {Bm : zB}, gaF s F0 F → gaB s B0 B → gaG Fm0 Fm → gaM Bm0 Bm → u + r = V → 0 ≤ u → r < n → r < n' → 0 ≤ Fm 14 0 62 → Fm 14 0 62 + 8000000 * r ≤ 100000000 → GA V s F B Fm Bm → ∃ F' B' Fm' Bm', f_Performance_gather_17 K n u s p F B = some (0, F', B') ∧ f_M_gather_7 Km n' u w Fm Bm = some (Fm' 14 0 62, Fm', Bm') ∧ gaF s F0 F' ∧ gaB s B0 B' ∧ gaG Fm0 Fm' ∧ gaM Bm0 Bm' ∧ GA V s F' B' Fm' Bm' ∧ 0 ≤ Fm' 14 0 62 ∧ Fm' 14 0 62 ≤ 100000000 := by
  have hP' := hP
  obtain ⟨⟨hp, w0, V0, p1, m1⟩, ⟨k2, k3, k4, k5, k6, k7⟩, hv⟩ := hP
  have bv := bar_v (n := F0 6 p 4) (d := F0 6 p 5) k4.2 k5.2
  intro r
  induction r with
  | zero =>
    intro n n' u F B Fm Bm g1 g2 g3 g4 ur u0 hn hn' c0 c1 hG
    obtain ⟨n, rfl⟩ : ∃ j, n = j + 1 := ⟨n - 1, (by first | decide | omega)⟩
    obtain ⟨n', rfl⟩ : ∃ j, n' = j + 1 := ⟨n' - 1, (by first | decide | omega)⟩
    have e1 : F 6 p 1 = V := by rw [g1 6 p 1 (by first | decide | omega)]; exact p1
    have e2 : Fm 13 w 1 = V := by rw [g3 13 w 1 (by first | decide | omega)]; exact m1
    refine ⟨F, B, Fm, Bm, ?_, ?_, g1, g2, g3, g4, hG, c0, (by first | decide | omega)⟩
    · rw [f_Performance_gather_17, if_pos hp, if_pos (by unfold r32; omega), e1, if_pos (by unfold r32; omega), if_pos (by first | decide | omega)]
    · rw [f_M_gather_7, if_pos w0, if_pos (by unfold r32; omega), e2, if_pos (by unfold r32; omega), if_pos (by first | decide | omega)]
  | succ r ih =>
    intro n n' u F B Fm Bm g1 g2 g3 g4 ur u0 hn hn' c0 c1 hG
    obtain ⟨n, rfl⟩ : ∃ j, n = j + 1 := ⟨n - 1, (by first | decide | omega)⟩
    obtain ⟨n', rfl⟩ : ∃ j, n' = j + 1 := ⟨n' - 1, (by first | decide | omega)⟩
    have e1 : F 6 p 1 = V := by rw [g1 6 p 1 (by first | decide | omega)]; exact p1
    have e2 : Fm 13 w 1 = V := by rw [g3 13 w 1 (by first | decide | omega)]; exact m1
    obtain ⟨vh, m, g, vk, _⟩ := hv u u0 (by first | decide | omega)
    have vs0 := VS_of vk w0 (by first | decide | omega) bv.2.2.1
    have vs := VS_e vs0 g1 g2 g4
    have eq : B 6 p 0 u = B0 6 p 0 u := g2 6 p 0 u (by first | decide | omega)
    have mm := vk.1
    obtain ⟨F1, B1, Fm1, Bm1, x1, x2, x3, x4, x5, x6, x7, x8, x9⟩ := P_gv (rec7 := f_M_gather_7 Km n') (rec := f_Performance_gather_17 K n) (p := p) (q := B0 6 p 0 u) (f := F0 6 p 2) hK hKm hs (by first | decide | omega) hp m K.1 Km 0 (F := F) (B := B) (Fm := Fm) (Bm := Bm) eq ⟨by rw [g1 6 p 2 (by first | decide | omega)], by rw [g3 13 w 2 (by first | decide | omega)]; exact k2.1.symm, k2.2⟩ vs (T61_e hT g4) (by first | decide | omega) (by first | decide | omega) (by first | decide | omega) c0 (by first | decide | omega) hG
    obtain ⟨F', B', Fm', Bm', y1, y2, y3, y4, y5, y6, y7, y8, y9⟩ := ih n n' (u := u + 1) (F := F1) (B := B1) (Fm := Fm1) (Bm := Bm1) (gaF_t g1 x3) (gaB_t g2 x4) (gaG_t g3 x5) (gaM_t g4 x6) (by first | decide | omega) (by first | decide | omega) (by first | decide | omega) (by first | decide | omega) (by first | decide | omega) (by first | decide | omega) x7
    refine ⟨F', B', Fm', Bm', ?_, ?_, y3, y4, y5, y6, y7, y8, y9⟩
    · rw [f_Performance_gather_17, if_pos hp, if_pos (by unfold r32; omega), e1, if_pos (by unfold r32; omega), if_neg (by first | decide | omega), if_pos (by first | decide | omega), eq]
      rw [show ((0 : Nat) : Int) = 0 from rfl] at x1
      rw [x1]
      exact y1
    · rw [f_M_gather_7, if_pos w0, if_pos (by unfold r32; omega), e2, if_pos (by unfold r32; omega), if_neg (by first | decide | omega)]
      rw [show ((0 : Nat) : Int) = 0 from rfl] at x2
      rw [x2]
      exact y2
theorem P_gather {K : zK} {Km : Nat} {V s p w : Int} {F : zF} {B : zB} {Fm : zF} {Bm : zB} (hK : 3002 ≤ K.1) (hKm : 812851200 < Km) (hs : 0 ≤ s ∧ s < K.2 5) (hP : PK K V p w F B Fm Bm) (hT : T61 Bm) : ∃ F' B' Fm' Bm', f_Performance_gather K s p F B = some (0, F', B') ∧ f_M_gather Km w Fm Bm = some (Fm' 14 0 62, Fm', Bm') ∧ (∀ c y k, ¬ (c = 5 ∧ y = s ∧ (k ≤ 1 ∨ k = 3)) → F' c y k = F c y k) ∧ gaB s B B' ∧ gaG Fm Fm' ∧ gaM Bm Bm' ∧ GA V s F' B' Fm' Bm' ∧ 0 ≤ Fm' 14 0 62 ∧ Fm' 14 0 62 ≤ 100000000 ∧ F' 5 s 3 = 0 := by
  unfold f_Performance_gather f_M_gather
  rw [if_pos hs]
  have V0 := hP.1.2.2.1
  have z0 : ∀ c y k, ¬ (c = 5 ∧ y = s ∧ (k ≤ 1 ∨ k = 3)) → zup3 (zup3 (zup3 F 5 s 0 0) 5 s 1 0) 5 s 3 0 c y k = F c y k := fun c y k n => by rw [zup3_v, if_neg (by first | decide | omega), zup3_v, if_neg (by first | decide | omega), zup3_v, if_neg (by first | decide | omega)]
  have a1 : zup3 (zup3 (zup3 F 5 s 0 0) 5 s 1 0) 5 s 3 0 5 s 1 = 0 := by rw [zup3_v, if_neg (by first | decide | omega), zup3_v, if_pos (by first | decide | omega)]
  have a0 : zup3 (zup3 (zup3 F 5 s 0 0) 5 s 1 0) 5 s 3 0 5 s 0 = 0 := by rw [zup3_v, if_neg (by first | decide | omega), zup3_v, if_neg (by first | decide | omega), zup3_v, if_pos (by first | decide | omega)]
  have m0 : (zup3 Fm 14 0 62 0) 14 0 62 = 0 := by rw [zup3_v, if_pos (by first | decide | omega)]
  have hP1 : PK K V p w (zup3 (zup3 (zup3 F 5 s 0 0) 5 s 1 0) 5 s 3 0) B (zup3 Fm 14 0 62 0) Bm := PK_e hP (fun _ => Int.le_refl _) (fun k _ => z0 6 p k (by first | decide | omega)) rfl (fun u _ _ => by funext k; exact z0 4 _ k (by first | decide | omega)) (fun _ _ _ => rfl) (fun u i _ _ _ _ => by funext k; exact z0 1 _ k (by first | decide | omega)) (fun _ _ _ _ _ _ => rfl) (fun k _ _ => by rw [zup3_v, if_neg (by first | decide | omega)]) (fun _ _ _ => rfl)
  obtain ⟨F', B', Fm', Bm', x1, x2, x3, x4, x5, x6, x7, x8, x9⟩ := P_gp hK hKm hs hP1 hT V.toNat K.1 Km (u := 0) (fun _ _ _ _ => rfl) (fun _ _ _ _ _ => rfl) (fun _ _ _ _ => rfl) (fun _ _ _ _ _ => rfl) (by first | decide | omega) (by decide) (by first | decide | omega) (by first | decide | omega) (by first | decide | omega) (by first | decide | omega) (Or.inl ⟨a1, (by first | decide | omega), (by first | decide | omega), (by first | decide | omega), fun j j0 j1 => (by first | decide | omega)⟩)
  exact ⟨F', B', Fm', Bm', x1, x2, fun c y k n => by rw [x3 c y k (by first | decide | omega), z0 c y k n], x4, fun c y k n => by rw [x5 c y k n, zup3_v, if_neg (by first | decide | omega)], x6, x7, x8, x9, by rw [x3 5 s 3 (by first | decide | omega), zup3_v, if_pos (by first | decide | omega)]⟩
end
