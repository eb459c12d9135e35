section
section
/-! ===== where the voices end, both sides ===== -/
theorem L_vend {K : zK} {Km : Nat} {q v w bar : Int} {m : Nat} {g : Int → Int} {F : zF} {B Bm : zB} {G : zF} (hKm : 812851200 < Km) (hb : 100 * bar ≤ 1000000000000) (h : VD K q v w m bar g F B Bm) : f_M_plus Km (Bm 13 w 14 (1000 * v + m - 1)) (Bm 13 w 15 (1000 * v + m - 1)) (Bm 13 w 16 (1000 * v + m - 1)) (Bm 13 w 17 (1000 * v + m - 1)) G Bm = some (0, fr G (F 4 q 7), Bm) ∧ 0 ≤ F 4 q 7 ∧ F 4 q 7 ≤ 1000000000000 := by
  obtain ⟨⟨a1, a2, a3⟩, a4, a5, a6, a7, a8, _⟩ := h
  obtain ⟨k, rfl⟩ : ∃ k, m = k + 1 := ⟨m - 1, (by first | decide | omega)⟩
  obtain ⟨ev, q1, q2, q3, q4⟩ := a8 k (by first | decide | omega)
  have l := ev.2.2.2.2.1
  have s0 := sumZ_0 a5 k (by first | decide | omega)
  have gk := a5 k (by first | decide | omega) (by first | decide | omega)
  have e : sumZ g (k + 1) = sumZ g k + g k := rfl
  rw [show 1000 * v + ((k + 1 : Nat) : Int) - 1 = 1000 * v + k by omega, q2, q3, l.1, l.2.1, q4, L_plusR hKm (FR_r s0) (FR_r (by first | decide | omega)) (by first | decide | omega), ← e, a7]
  exact ⟨rfl, (by first | decide | omega), (by first | decide | omega)⟩
theorem clB_e {S bar : Int} (h : 0 < bar) : (S + bar - 1) / bar = clB S bar := by
  have e1 := Int.mul_ediv_add_emod S bar
  have e2 := Int.emod_nonneg S (show bar ≠ 0 by omega)
  have e3 := Int.emod_lt_of_pos S h
  unfold clB
  by_cases z : S % bar = 0
  · rw [if_pos z]
    have e : S + bar - 1 = (bar - 1) + bar * (S / bar) := by omega
    rw [e, Int.add_mul_ediv_left _ _ (by first | decide | omega), Int.ediv_eq_zero_of_lt (by first | decide | omega) (by first | decide | omega)]
    omega
  · rw [if_neg z]
    have e : S + bar - 1 = (S % bar - 1) + bar * (S / bar + 1) := by rw [Int.mul_add, Int.mul_one]; omega
    rw [e, Int.add_mul_ediv_left _ _ (by first | decide | omega), Int.ediv_eq_zero_of_lt (by first | decide | omega) (by first | decide | omega)]
    omega
theorem P_ends {K : zK} {Km : Nat} {N L V p w n d : Int} {B0 Bm0 : zB} {F : zF} {B : zB} {Bm : zB} : ∀ (r a b : Nat) {k : Int} {Fm : zF}, k + r = V → 1 ≤ k → (∀ u, 0 ≤ u → u < k → F 4 (B 6 p 0 u) 7 = F 4 (B 6 p 0 0) 7) → r < a → r + 1 < b → VLS K Km N L V p w n d V B0 Bm0 F B Fm Bm → Fm 14 0 17 = 0 → ∃ fl F' Fm', f_Piece_judgeEnds_2 K a k p F B = some (fl, F', B) ∧ f_M_through_163 Km b k Fm Bm = some (0, Fm', Bm) ∧ (∀ c y j, ¬ (c = 6 ∧ y = p ∧ j = 7) → F' c y j = F c y j) ∧ (∀ c y j, ¬ (c = 14 ∧ y = 0 ∧ (j ≤ 1 ∨ j = 17 ∨ j = 18)) → Fm' c y j = Fm c y j) ∧ ((fl = 0 ∧ Fm' 14 0 17 = 0 ∧ (F' 6 p 7 = Fm' 13 w 7 ∧ 0 ≤ F' 6 p 7 ∧ F' 6 p 7 ≤ 100 ∧ ∀ u, 0 ≤ u → u < V → Fm' 13 w 7 = clB (F 4 (B 6 p 0 u) 7) (barV n d))) ∨ (bad Fm' ∧ fl = Fm' 14 0 17 + 16 * Fm' 14 0 18 ∧ 0 ≤ Fm' 14 0 18 ∧ Fm' 14 0 18 ≤ 3000)) := by
  intro r
  induction r with
  | zero =>
    intro a b k Fm kr k1 heq ha hb h h17
    obtain ⟨a, rfl⟩ : ∃ j, a = j + 1 := ⟨a - 1, (by first | decide | omega)⟩
    obtain ⟨b, rfl⟩ : ∃ j, b = j + 1 := ⟨b - 1, (by first | decide | omega)⟩
    obtain ⟨⟨hK, hKm, h11, h3, hp, w0, hn, hd, v0⟩, ⟨c1, c2, c3, c4, c5, c6, c7, c8, c9, c10⟩, _, hU, hD, _⟩ := h
    obtain ⟨bv1, _, bv3, bv4, bv5⟩ := bar_v hn hd
    obtain ⟨m, g, hd0, _⟩ := hD 0 (by decide) (by first | decide | omega)
    have q0 := (hU 0 (by decide) (by first | decide | omega)).1
    obtain ⟨_, s0, s1⟩ := L_vend (Km := Km) (G := Fm) (by first | decide | omega) (by first | decide | omega) hd0
    have s2 : F 4 (B 6 p 0 0) 7 ≤ 100 * barV n d := by rw [hd0.2.2.2.2.1]; exact hd0.2.2.2.1
    have rk : r32 k := by unfold r32; omega
    have rV : r32 V := by unfold r32; omega
    have zm : zmax (barV n d) 1 = barV n d := by unfold zmax; rw [if_neg (by first | decide | omega)]
    refine ⟨0, _, Fm, by rw [f_Piece_judgeEnds_2, if_pos hp, if_pos rk, c1, if_pos rV, if_pos (by first | decide | omega), C_bar hp c3 c4 hn hd, zb_s, if_pos (show r64 (barV n d) by unfold r64; omega), if_pos q0, zm, if_pos (lI_n0 bv4 (by unfold r64; omega))], by rw [f_M_through_163, c8, if_pos w0, if_pos rk, c2, if_pos rV, if_pos (by first | decide | omega), f_M_through_339], fun c y j hh => by rw [zup3_v, if_neg hh], fun _ _ _ _ => rfl, Or.inl ⟨rfl, h17, ?_⟩⟩
    obtain ⟨_, _, _, hbar⟩ := hD (V - 1) (by first | decide | omega) (by first | decide | omega)
    have hb7 := hbar (by first | decide | omega)
    rw [heq (V - 1) (by first | decide | omega) (by first | decide | omega)] at hb7
    rw [zup3_v, if_pos (by first | decide | omega), zldv_e (by first | decide | omega) (by first | decide | omega) bv4 (by first | decide | omega), hb7]
    exact ⟨clB_e bv4, Int.ediv_nonneg (by first | decide | omega) (by first | decide | omega), Int.le_of_lt_add_one (Int.ediv_lt_of_lt_mul bv4 (by first | decide | omega)), fun u u0 u1 => by rw [heq u u0 (by first | decide | omega)]⟩
  | succ r ih =>
    intro a b k Fm kr k1 heq ha hb h h17
    obtain ⟨a, rfl⟩ : ∃ j, a = j + 1 := ⟨a - 1, (by first | decide | omega)⟩
    obtain ⟨b, rfl⟩ : ∃ j, b = j + 1 + 1 := ⟨b - 2, (by first | decide | omega)⟩
    have h' := h
    obtain ⟨⟨hK, hKm, h11, h3, hp, w0, hn, hd, v0⟩, ⟨c1, c2, c3, c4, c5, c6, c7, c8, c9, c10⟩, hS, hU, hD, hO⟩ := h
    obtain ⟨bv1, _, bv3, bv4, bv5⟩ := bar_v hn hd
    obtain ⟨m0, g0, d0, _⟩ := hD 0 (by decide) (by first | decide | omega)
    obtain ⟨mk, gk, dk, _⟩ := hD k (by first | decide | omega) (by first | decide | omega)
    have q0 := (hU 0 (by decide) (by first | decide | omega)).1
    obtain ⟨qk, tk, _, t28, _⟩ := hU k (by first | decide | omega) (by first | decide | omega)
    obtain ⟨e1, s0, s1⟩ := L_vend (Km := Km) (G := Fm) (by first | decide | omega) (by first | decide | omega) dk
    obtain ⟨e2, z0, z1⟩ := L_vend (Km := Km) (G := fr Fm (F 4 (B 6 p 0 k) 7)) (by first | decide | omega) (by first | decide | omega) d0
    have rk : r32 k := by unfold r32; omega
    have rk1 : r32 (k + 1) := by unfold r32; omega
    have rV : r32 V := by unfold r32; omega
    have mk0 := dk.1
    have m00 := d0.1
    have e12k := dk.2.1
    have e120 := d0.2.1
    have g6 : fr Fm (F 4 (B 6 p 0 k) 7) 14 0 6 = w := by rw [fr_n (by first | decide | omega)]; exact c8
    have mE : f_M_through_163 Km (b + 1 + 1) k Fm Bm = if F 4 (B 6 p 0 k) 7 = F 4 (B 6 p 0 0) 7 then f_M_through_163 Km (b + 1) (k + 1) (fr (fr Fm (F 4 (B 6 p 0 k) 7)) (F 4 (B 6 p 0 0) 7)) Bm else f_M_through_163 Km (b + 1) (k + 1) (flM (fr (fr Fm (F 4 (B 6 p 0 k) 7)) (F 4 (B 6 p 0 0) 7)) Bm 6 (Bm 14 0 28 k)) Bm := by
      have i17 : fr (fr Fm (F 4 (B 6 p 0 k) 7)) (F 4 (B 6 p 0 0) 7) 14 0 17 = 0 := by rw [fr_n (by first | decide | omega), fr_n (by first | decide | omega)]; exact h17
      rw [show 1000 * 0 + (m0 : Int) - 1 = (m0 : Int) - 1 by omega] at e2
      rw [f_M_through_163, c8, if_pos w0, if_pos rk, c2, if_pos rV, if_neg (show ¬ V ≤ k by omega), L_good h17, zb_s, if_pos (show r32 1 by decide), if_neg (show ¬ (1 : Int) = 0 by decide), c8, if_pos w0, if_pos (show 0 ≤ k ∧ k < 4 by omega), e12k, if_pos (show 0 ≤ 1000 * k + (mk : Int) - 1 ∧ 1000 * k + (mk : Int) - 1 < 4000 by omega), e1, zb_s, g6, if_pos w0, e120, if_pos (show 0 ≤ (m0 : Int) - 1 ∧ (m0 : Int) - 1 < 4000 by omega), e2, zb_s, fr_0, fr_1, fr_0, fr_1, L_cmpR (by first | decide | omega) (FR_r s0) (FR_r z0) (by first | decide | omega) (by first | decide | omega), zb_s]
      simp only [f_M_through_333]
      by_cases y : F 4 (B 6 p 0 k) 7 = F 4 (B 6 p 0 0) 7
      · rw [if_pos y, if_neg (show ¬ F 4 (B 6 p 0 k) 7 < F 4 (B 6 p 0 0) 7 by omega), if_pos y, if_pos (show r32 0 by decide), if_pos (show (0 : Int) = 0 from rfl)]
      · rw [if_neg y, if_neg y]
        have nz : r32 (if F 4 (B 6 p 0 k) 7 < F 4 (B 6 p 0 0) 7 then (-1 : Int) else 1) ∧ ¬ (if F 4 (B 6 p 0 k) 7 < F 4 (B 6 p 0 0) 7 then (-1 : Int) else 1) = 0 := by
          by_cases x : F 4 (B 6 p 0 k) 7 < F 4 (B 6 p 0 0) 7
          · rw [if_pos x]; decide
          · rw [if_neg x]; decide
        rw [if_pos nz.1, if_neg nz.2, L_failAt i17 (by first | decide | omega), zb_s]
    have cE : f_Piece_judgeEnds_2 K (a + 1) k p F B = if F 4 (B 6 p 0 k) 7 = F 4 (B 6 p 0 0) 7 then f_Piece_judgeEnds_2 K a (k + 1) p F B else some (6 + 16 * F 4 (B 6 p 0 k) 3, F, B) := by
      rw [f_Piece_judgeEnds_2, if_pos hp, if_pos rk, c1, if_pos rV, if_neg (show ¬ V ≤ k by omega), if_pos (show 0 ≤ k ∧ k < 4 by omega), if_pos qk, if_pos q0, if_pos (show r64 (F 4 (B 6 p 0 k) 7) by unfold r64; omega), if_pos (show r64 (F 4 (B 6 p 0 0) 7) by unfold r64; omega)]
      by_cases y : F 4 (B 6 p 0 k) 7 = F 4 (B 6 p 0 0) 7
      · rw [if_pos y, if_pos (zcmp_0.mpr y)]
      · rw [if_neg y, if_neg (fun z => y (zcmp_0.mp z))]
    rw [mE, cE]
    have gn : ∀ c y j, ¬ (c = 14 ∧ y = 0 ∧ j ≤ 1) → fr (fr Fm (F 4 (B 6 p 0 k) 7)) (F 4 (B 6 p 0 0) 7) c y j = Fm c y j := fun c y j hh => by rw [fr_n hh, fr_n hh]
    by_cases y : F 4 (B 6 p 0 k) 7 = F 4 (B 6 p 0 0) 7
    · rw [if_pos y, if_pos y]
      have h2 : VLS K Km N L V p w n d V B0 Bm0 F B (fr (fr Fm (F 4 (B 6 p 0 k) 7)) (F 4 (B 6 p 0 0) 7)) Bm := ⟨⟨hK, hKm, h11, h3, hp, w0, hn, hd, v0⟩, ⟨c1, by rw [gn 13 w 1 (by first | decide | omega)]; exact c2, c3, c4, by rw [gn 13 w 4 (by first | decide | omega)]; exact c5, by rw [gn 13 w 5 (by first | decide | omega)]; exact c6, c7, by rw [gn 14 0 6 (by first | decide | omega)]; exact c8, by rw [gn 14 0 35 (by first | decide | omega)]; exact c9, by rw [gn 14 0 27 (by first | decide | omega)]; exact c10⟩, hS, hU, fun u u0 u1 => by
        obtain ⟨m, g, x, y⟩ := hD u u0 u1
        exact ⟨m, g, x, fun e => by rw [gn 13 w 7 (by first | decide | omega)]; exact y e⟩, hO⟩
      obtain ⟨fl, F', Fm', x1, x2, x3, x4, x5⟩ := ih a (b + 1) (k := k + 1) (Fm := fr (fr Fm (F 4 (B 6 p 0 k) 7)) (F 4 (B 6 p 0 0) 7)) (by first | decide | omega) (by first | decide | omega) (fun u u0 u1 => by
        by_cases e : u = k
        · rw [e]; exact y
        · exact heq u u0 (by first | decide | omega)) (by first | decide | omega) (by first | decide | omega) h2 (by rw [gn _ _ _ (by first | decide | omega)]; exact h17)
      exact ⟨fl, F', Fm', x1, x2, x3, fun c y' j hh => by rw [x4 c y' j hh, gn c y' j (by first | decide | omega)], x5⟩
    · rw [if_neg y, if_neg y]
      have bd : bad (flM (fr (fr Fm (F 4 (B 6 p 0 k) 7)) (F 4 (B 6 p 0 0) 7)) Bm 6 (Bm 14 0 28 k)) := flM_b (by decide) (by decide)
      refine ⟨_, F, flM (fr (fr Fm (F 4 (B 6 p 0 k) 7)) (F 4 (B 6 p 0 0) 7)) Bm 6 (Bm 14 0 28 k), rfl, ?_, fun _ _ _ _ => rfl, fun c y' j hh => by rw [flM_n (by first | decide | omega), gn c y' j (by first | decide | omega)], Or.inr ⟨bd, by rw [flM_17, flM_18, tk.1], by rw [flM_18, ← tk.1]; exact tk.2⟩⟩
      have i6 : flM (fr (fr Fm (F 4 (B 6 p 0 k) 7)) (F 4 (B 6 p 0 0) 7)) Bm 6 (Bm 14 0 28 k) 14 0 6 = w := by rw [flM_n (by decide), gn _ _ _ (by first | decide | omega)]; exact c8
      have i1 : flM (fr (fr Fm (F 4 (B 6 p 0 k) 7)) (F 4 (B 6 p 0 0) 7)) Bm 6 (Bm 14 0 28 k) 13 w 1 = V := by rw [flM_n (by first | decide | omega), gn _ _ _ (by first | decide | omega)]; exact c2
      rw [f_M_through_163, i6, if_pos w0, if_pos rk1, i1, if_pos rV]
      simp only [f_M_through_339]
      by_cases z : V ≤ k + 1
      · rw [if_pos z]
      · rw [if_neg z, L_goodB bd, zb_s, if_pos (show r32 0 by decide), if_pos (show (0 : Int) = 0 from rfl)]
end
end
section
section
/-! ===== a text parsed: the voices can be walked ===== -/
def byB (N : Int) (Bm : zB) : zB := fun c i k y => if c = 14 ∧ i = 0 ∧ (k = 30 ∨ k = 31) ∧ N ≤ y then y else Bm c i k y
theorem byB_n {N : Int} {Bm : zB} {c k : Nat} {i y : Int} (h : ¬ (c = 14 ∧ i = 0 ∧ (k = 30 ∨ k = 31) ∧ N ≤ y)) : byB N Bm c i k y = Bm c i k y := by
  unfold byB
  rw [if_neg h]
theorem VLS_0 {K : zK} {Km : Nat} {N L V p w : Int} {F : zF} {B : zB} {Fm : zF} {Bm : zB} (h : VI K Km N L V N p w F B Fm Bm) (hKm : 70000000000 < Km) (h11 : 0 < K.2 11) (h12 : 0 < K.2 12) (o7 : F 12 0 7 = p) (o5 : F 12 0 5 = 0) (o4 : F 12 0 4 = 0) (hr : ∀ u, 0 ≤ u → u < V → ∀ s, 0 ≤ s → s < 63 → r32 (B 4 (B 6 p 0 u) 12 s)) : VLS K Km N L V p w (F 6 p 4) (F 6 p 5) 0 B (byB N Bm) F B (zup3 Fm 14 0 35 0) Bm := by
  obtain ⟨⟨hE, hS, hP, hLT, _, _, _, hSL⟩, hGS, hV1, hV2, hV3, hVv⟩ := h
  obtain ⟨hTK, hMW, _, k3, _, hK, _⟩ := hE
  obtain ⟨hp, w0, h6, h2, _, ⟨e4, n0, n1⟩, ⟨e5, hd⟩, _⟩ := hP
  obtain ⟨_, l27, l6, hl⟩ := hLT
  have am : agM L 0 N Bm (byB N Bm) := ⟨fun k y _ _ _ h4 => byB_n (by first | decide | omega), fun k h0 h1 => by funext y; exact byB_n (by first | decide | omega), fun q _ _ => byB_n (by first | decide | omega)⟩
  have gn : ∀ c i k, ¬ (c = 14 ∧ i = 0 ∧ k = 35) → zup3 Fm 14 0 35 0 c i k = Fm c i k := fun c i k hh => by rw [zup3_v, if_neg hh]
  have row : ∀ k : Nat, ¬ (k = 30 ∨ k = 31) → byB N Bm 14 0 k = Bm 14 0 k := fun k hk => by funext y; exact byB_n (fun z => hk z.2.2.1)
  refine ⟨⟨hK, hKm, h11, k3, hp, w0, ⟨n0, n1⟩, hd, (by first | decide | omega)⟩, ⟨hV1, by rw [gn 13 w 1 (by first | decide | omega)]; exact hV2, rfl, rfl, by rw [gn 13 w 4 (by first | decide | omega)]; exact e4.symm, by rw [gn 13 w 5 (by first | decide | omega)]; exact e5.symm, h2.2, by rw [gn 14 0 6 (by first | decide | omega)]; exact h6, by rw [zup3_v, if_pos (by first | decide | omega)], by rw [gn 14 0 27 (by first | decide | omega)]; exact l27⟩, ⟨hTK, ⟨fun _ _ => rfl, fun k y hk => (byB_n (by first | decide | omega)).symm, fun k y _ _ hy => (byB_n (by first | decide | omega)).symm, fun y hy => ?_⟩, ?_, ⟨l6, fun q q0 q1 => ?_⟩, hGS⟩, fun u u0 u1 => ?_, fun u u0 u1 => (by first | decide | omega), o7, o5, o4, h12⟩
  · unfold byB
    rw [if_pos (by first | decide | omega), if_pos (by first | decide | omega)]
    exact ⟨Int.le_refl _, Int.le_refl _⟩
  · unfold MW at hMW ⊢
    rw [row 13 (by decide), row 14 (by decide), row 15 (by decide)]
    exact hMW
  · obtain ⟨q2, q3, q4, q5⟩ := hl q q0 q1
    obtain ⟨s1, s2⟩ := hSL q q0 q1 B (byB N Bm) agB_r am (fun r _ _ => byB_n (by first | decide | omega))
    refine ⟨⟨q4, q5⟩, by rw [byB_n (by first | decide | omega), ← q2]; exact q3, s1, s2⟩
  · obtain ⟨⟨r1, r2, r3, r4, r5, r6, r7, r8, r9, r10, r11⟩, sv⟩ := hVv u u0 u1
    exact ⟨r1, r6, r4.2, r7, r8, r9, sv B (byB N Bm) agB_r am, fun _ => r10, hr u u0 u1⟩
end
end
