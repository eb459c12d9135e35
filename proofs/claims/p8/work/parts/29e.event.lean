section
/-! ===== one event's sounds, both sides ===== -/
theorem VS_e {K : zK} {q u w s : Int} {m : Nat} {g : Int → Int} {F F' : zF} {B B' Bm Bm' : zB} (h : VS K q u w m g F B Bm) (f : gaF s F F') (b : gaB s B B') (n : gaM Bm Bm') : VS K q u w m g F' B' Bm' := by
  have f4 : F' 4 = F 4 := by funext y k; exact f 4 y k (by first | decide | omega)
  have f1 : F' 1 = F 1 := by funext y k; exact f 1 y k (by first | decide | omega)
  have b4 : B' 4 = B 4 := by funext y k x; exact b 4 y k x (by first | decide | omega)
  have b1 : B' 1 = B 1 := by funext y k x; exact b 1 y k x (by first | decide | omega)
  have m13 : Bm' 13 = Bm 13 := by funext y k x; exact n 13 y k x (by first | decide | omega)
  unfold VS EVK EPR TIk at *
  rw [f4, f1, b4, b1, m13]
  exact h
theorem T61_e {Bm Bm' : zB} (h : T61 Bm) (n : gaM Bm Bm') : T61 Bm' := fun l l0 l1 => by rw [n 14 0 61 l (by first | decide | omega)]; exact h l l0 l1
/-- a pitch that begins at event i: what is added on both sides -/
theorem P_pit {K : zK} {Km : Nat} {V s q u w k : Int} {m i : Nat} {g : Int → Int} {F : zF} {B : zB} {Fm : zF} {Bm : zB} (hK : 3002 ≤ K.1) (hKm : 812851200 < Km) (hs : 0 ≤ s ∧ s < K.2 5) (uV : u < V) (h : VS K q u w m g F B Bm) (hT : T61 Bm) (hi : i < m) (k0 : 0 ≤ k) (k1 : k < F 1 (B 4 q 5 i) 10) (c0 : 0 ≤ Fm 14 0 62 ∧ Fm 14 0 62 ≤ 100000000) (hG : GA V s F B Fm Bm) : ∃ (J : Nat) (F' : zF) (B' : zB) (Fm' : zF) (Bm' : zB), J < m ∧ f_Performance_lastTied K q i k F B = some ((J : Int), F, B) ∧ f_M_plain Km w u i (Bm 13 w 28 (6 * (1000 * u + i) + k)) (Bm 13 w 29 (6 * (1000 * u + i) + k)) Fm Bm = some (0, Fm', Bm') ∧ gaF s F F' ∧ gaB s B B' ∧ gaG Fm Fm' ∧ gaM Bm Bm' ∧ GA V s F' B' Fm' Bm' ∧ (Fm 14 0 62 ≤ Fm' 14 0 62 ∧ Fm' 14 0 62 ≤ Fm 14 0 62 + 1) ∧ ((tk (sumZ g J + g J) - tk (sumZ g i) ≤ 0 ∧ F' = F ∧ B' = B) ∨ (0 < tk (sumZ g J + g J) - tk (sumZ g i) ∧ f_Performance_addSound K s u i (tnv (B 1 (B 4 q 5 i) 12 k) + B 1 (B 4 q 5 i) 13 k) (B 4 q 5 i) (tk (sumZ g i)) (tk (sumZ g i) + duV (F 1 (B 4 q 5 J) 7) (F 1 (B 4 q 5 J) 11) (tk (sumZ g J + g J) - tk (sumZ g i))) F B = some (0, F', B'))) := by
  have h' := h
  obtain ⟨h4, w0, u0, hm, h12, hV, hg, hsm, hE⟩ := h
  obtain ⟨ei, q1, q2, q3, q4, q5, _⟩ := hE i hi
  have ep := ei.2.2.2.2.2.2.2.2.2.2
  have c6 := ep.2.2.1
  obtain ⟨p1, p2, p3, p4⟩ := ep.2.2.2.1 k k0 k1
  have hie := hV i (by first | decide | omega) (by first | decide | omega)
  have s0 := sumZ_0 hg i (by first | decide | omega)
  have oi := hpB_i ei k0 k1
  obtain ⟨J, j1, j2, j3, j4⟩ := P_last (K := K) (Km := Km) (l6 := 1000 * u + i) (i := i) (s := B 1 (B 4 q 5 i) 12 k) (a := B 1 (B 4 q 5 i) 13 k) (Fm := Fm) hK (by first | decide | omega) h' (by unfold r32; omega) (by unfold r32; omega) (m - i - 1) K.1 Km i (by first | decide | omega) (by first | decide | omega) (by first | decide | omega) oi
  obtain ⟨eJ, _, _, _, J4, J5, _⟩ := hE J j2
  obtain ⟨t1, t2, t3, t4⟩ := L_endT (Fm := Fm) hKm h' j2
  have e7 := eJ.2.2.2.2.2.2.2.1
  have sm := sumZ_m hg (m - i - 1) (i + 1) (by first | decide | omega)
  have s2 : sumZ g (i + 1) = sumZ g i + g i := rfl
  have gi := hg i (by first | decide | omega) (by first | decide | omega)
  have tb := tk_b (show sumZ g J + g J ≤ 1000000000000 by omega)
  have ta := tk_b (show sumZ g i ≤ 1000000000000 by omega)
  have tc := tk_0 s0
  have td := tk_0 (show 0 ≤ sumZ g J + g J by omega)
  have cl : f_Performance_lastTied K q i k F B = some ((J : Int), F, B) := by
    unfold f_Performance_lastTied
    rw [if_pos h4, if_pos (by first | decide | omega), if_pos hie, if_pos (by first | decide | omega)]
    exact j3
  have hx : 0 ≤ 1000 * u + (i : Int) ∧ 1000 * u + (i : Int) < 4000 := by omega
  have hX : 0 ≤ 1000 * u + (J : Int) ∧ 1000 * u + (J : Int) < 4000 := by omega
  have tn := tnv_r p3.1 p3.2 p4.1 p4.2
  have e8 := ei.2.2.2.2.2.2.2.2.1
  have e7i := ei.2.2.2.2.2.2.2.1
  generalize hD : tk (sumZ g J + g J) - tk (sumZ g i) = D at *
  have mm : f_M_plain Km w u i (Bm 13 w 28 (6 * (1000 * u + i) + k)) (Bm 13 w 29 (6 * (1000 * u + i) + k)) Fm Bm = if D ≤ 0 then some (0, fr Fm (sumZ g J + g J), Bm) else zbind (f_M_sound_1 Km (tk (sumZ g i)) (tk (sumZ g i) + duV (F 1 (B 4 q 5 J) 7) (F 1 (B 4 q 5 J) 11) D) (tnv (B 1 (B 4 q 5 i) 12 k) + B 1 (B 4 q 5 i) 13 k) (foV (F 1 (B 4 q 5 i) 7) (F 1 (B 4 q 5 i) 8)) u i (fr Fm (sumZ g J + g J)) Bm) (fun _ F29 B29 => some (0, F29, B29)) := by
    unfold f_M_plain
    rw [← p1, ← p2, j4]
    unfold plT
    rw [if_pos w0, if_pos hx, q2, q3, L_tick s0 (by first | decide | omega), zb_s, t1, zb_s, if_pos hX, if_pos (zand_R _ _), L_81 w0 hX (by rw [← e7.1]; exact e7.2) (by rw [← J5.1]; exact J5.2) (by first | decide | omega), hD]
    by_cases z : D ≤ 0
    · rw [if_pos z, if_pos z]
    · rw [if_neg z, if_neg z, L_toneT p3.1 p3.2, zb_s, L_force hT w0 hx (by rw [← e7i.1]; exact e7i.2) (by rw [← e8.1]; exact e8.2), zb_s, ← e7.1, ← J5.1, ← e7i.1, ← e8.1]
  have c62 : fr Fm (sumZ g J + g J) 14 0 62 = Fm 14 0 62 := fr_n (by first | decide | omega)
  by_cases z : D ≤ 0
  · rw [if_pos z] at mm
    exact ⟨J, F, B, _, Bm, j2, cl, mm, fun _ _ _ _ => rfl, fun _ _ _ _ _ => rfl, fun c y k n => fr_n (by first | decide | omega), fun _ _ _ _ _ => rfl, GA_g hG c62, (by first | decide | omega), Or.inl ⟨(by first | decide | omega), rfl, rfl⟩⟩
  · rw [if_neg z] at mm
    have du := duV_b (m := F 1 (B 4 q 5 J) 7) (sl := F 1 (B 4 q 5 J) 11) (show 0 < D by omega)
    obtain ⟨F', B', Bm', a1, a2, a3, a4, a5, a6⟩ := P_addS (K := K) (Km := Km) (v := u) (i := i) (t := tnv (B 1 (B 4 q 5 i) 12 k) + B 1 (B 4 q 5 i) 13 k) (e := B 4 q 5 i) (a := tk (sumZ g i)) (b := tk (sumZ g i) + duV (F 1 (B 4 q 5 J) 7) (F 1 (B 4 q 5 J) 11) D) (Fm := fr Fm (sumZ g J + g J)) hs hie e8.2 u0 uV (by first | decide | omega) tn tc (by first | decide | omega) (by first | decide | omega) (by rw [c62]; exact c0) (GA_g hG c62)
    rw [a2, zb_s] at mm
    refine ⟨J, F', B', _, Bm', j2, cl, mm, a3, a4, fun c y k n => by rw [zup3_v, if_neg (by first | decide | omega), fr_n (by first | decide | omega)], a5, a6, by rw [zup3_v, if_pos (by first | decide | omega), c62]; omega, Or.inr ⟨(by first | decide | omega), by rw [hD]; exact a1⟩⟩
/-- an event whose pitches sound plainly -/
theorem P_sAll {K : zK} {Km : Nat} {V s q u w : Int} {m i : Nat} {g : Int → Int} {rec7 : Int → Int → zF → zB → zO} {rec : Int → Int → Int → zF → zB → zO} (hK : 3002 ≤ K.1) (hKm : 812851200 < Km) (hs : 0 ≤ s ∧ s < K.2 5) (uV : u < V) (hi : i < m) : ∀ (r n n' : Nat) {k : Int} {F : zF} {B : zB} {Fm : zF} {Bm : zB}, VS K q u w m g F B Bm → T61 Bm → k + r = F 1 (B 4 q 5 i) 10 → 0 ≤ k → r < n → r < n' → (¬ zand (F 1 (B 4 q 5 i) 7) 64 = 0 → F 1 (B 4 q 5 i) 10 = 1 → tieOn q i (B 1 (B 4 q 5 i) 12 0) (B 1 (B 4 q 5 i) 13 0) F B ∨ (0 < i ∧ tieOn q (i - 1) (B 1 (B 4 q 5 i) 12 0) (B 1 (B 4 q 5 i) 13 0) F B)) → 0 ≤ Fm 14 0 62 → Fm 14 0 62 + r ≤ 100000000 → GA V s F B Fm Bm → ∃ F' B' Fm' Bm', f_Performance_soundAll_21 K n k (tk (sumZ g i)) (B 4 q 5 i) s q u i F B = some (0, F', B') ∧ f_M_gather_39 rec7 rec Km n' k (1000 * u + i) i u w Fm Bm = rec (i + 1) u w Fm' Bm' ∧ gaF s F F' ∧ gaB s B B' ∧ gaG Fm Fm' ∧ gaM Bm Bm' ∧ GA V s F' B' Fm' Bm' ∧ Fm 14 0 62 ≤ Fm' 14 0 62 ∧ Fm' 14 0 62 ≤ Fm 14 0 62 + r := by
  intro r
  induction r with
  | zero =>
    intro n n' k F B Fm Bm h hT hk k0 hn hn' hNT c0 c1 hG
    obtain ⟨n, rfl⟩ : ∃ j, n = j + 1 := ⟨n - 1, (by first | decide | omega)⟩
    obtain ⟨n', rfl⟩ : ∃ j, n' = j + 1 := ⟨n' - 1, (by first | decide | omega)⟩
    obtain ⟨h4, w0, u0, hm, h12, hV, hg, hsm, hE⟩ := h
    obtain ⟨ei, _⟩ := hE i hi
    have ep := ei.2.2.2.2.2.2.2.2.2.2
    have hie := hV i (by first | decide | omega) (by first | decide | omega)
    refine ⟨F, B, Fm, Bm, ?_, ?_, fun _ _ _ _ => rfl, fun _ _ _ _ _ => rfl, fun _ _ _ _ => rfl, fun _ _ _ _ _ => rfl, hG, (by first | decide | omega), (by first | decide | omega)⟩
    · rw [f_Performance_soundAll_21, if_pos hie, if_pos (by have := ep.2.2.1; unfold r32; omega), if_pos (by have := ep.2.2.1; unfold r32; omega), if_pos (by first | decide | omega)]
    · rw [f_M_gather_39, if_pos w0, if_pos (by first | decide | omega), if_pos (by have := ep.2.2.1; unfold r32; omega), ep.2.1, if_pos (by have := ep.2.2.1; unfold r32; omega), if_pos (by first | decide | omega)]
  | succ r ih =>
    intro n n' k F B Fm Bm h hT hk k0 hn hn' hNT c0 c1 hG
    obtain ⟨n, rfl⟩ : ∃ j, n = j + 1 := ⟨n - 1, (by first | decide | omega)⟩
    obtain ⟨n', rfl⟩ : ∃ j, n' = j + 1 := ⟨n' - 1, (by first | decide | omega)⟩
    have h' := h
    obtain ⟨h4, w0, u0, hm, h12, hV, hg, hsm, hE⟩ := h
    obtain ⟨ei, q1, q2, q3, q4, q5, _⟩ := hE i hi
    have ep := ei.2.2.2.2.2.2.2.2.2.2
    have c6 := ep.2.2.1
    have k1 : k < F 1 (B 4 q 5 i) 10 := by omega
    obtain ⟨p1, p2, p3, p4⟩ := ep.2.2.2.1 k k0 k1
    have hie := hV i (by first | decide | omega) (by first | decide | omega)
    have e7 := ei.2.2.2.2.2.2.2.1
    obtain ⟨_, _, _, m64⟩ := mk8_i e7.2.1 e7.2.2
    have rk : r32 k := by unfold r32; omega
    have rc : r32 (F 1 (B 4 q 5 i) 10) := by unfold r32; omega
    have hx : 0 ≤ 1000 * u + (i : Int) ∧ 1000 * u + (i : Int) < 4000 := by omega
    have ri : r32 (i : Int) := by unfold r32; omega
    obtain ⟨fr1, fr0⟩ := C_from hK h' hi k0 k1
    have rs : r32 (B 1 (B 4 q 5 i) 12 k) := by unfold r32; omega
    have ra : r32 (B 1 (B 4 q 5 i) 13 k) := by unfold r32; omega
    -- what follows on both sides
    have go : ∀ {F1 : zF} {B1 : zB} {Fm1 : zF} {Bm1 : zB}, gaF s F F1 → gaB s B B1 → gaG Fm Fm1 → gaM Bm Bm1 → GA V s F1 B1 Fm1 Bm1 → Fm 14 0 62 ≤ Fm1 14 0 62 → Fm1 14 0 62 ≤ Fm 14 0 62 + 1 → ∃ F' B' Fm' Bm', f_Performance_soundAll_21 K n (k + 1) (tk (sumZ g i)) (B 4 q 5 i) s q u i F1 B1 = some (0, F', B') ∧ f_M_gather_39 rec7 rec Km n' (k + 1) (1000 * u + i) i u w Fm1 Bm1 = rec (i + 1) u w Fm' Bm' ∧ gaF s F F' ∧ gaB s B B' ∧ gaG Fm Fm' ∧ gaM Bm Bm' ∧ GA V s F' B' Fm' Bm' ∧ Fm 14 0 62 ≤ Fm' 14 0 62 ∧ Fm' 14 0 62 ≤ Fm 14 0 62 + ((r + 1 : Nat) : Int) := fun g1 g2 g3 g4 g5 g6 g7 => by
      have f1 : ∀ y k, _ := fun y k => g1 1 y k (by first | decide | omega)
      have b4 : ∀ y k x, _ := fun y k x => g2 4 y k x (by first | decide | omega)
      have b1 : ∀ y k x, _ := fun y k x => g2 1 y k x (by first | decide | omega)
      have e1 := ih n n' (k := k + 1) (VS_e h' g1 g2 g4) (T61_e hT g4) (by rw [b4, f1]; omega) (by first | decide | omega) (by first | decide | omega) (by first | decide | omega) (by
        unfold tieOn hpB at hNT ⊢
        simp only [b4, f1, show ∀ y k, _ = _ from fun y k => (funext (b1 y k))]
        exact hNT) (by first | decide | omega) (by first | decide | omega) g5
      rw [b4] at e1
      obtain ⟨F', B', Fm', Bm', x1, x2, x3, x4, x5, x6, x7, x8, x9⟩ := e1
      exact ⟨F', B', Fm', Bm', x1, x2, gaF_t g1 x3, gaB_t g2 x4, gaG_t g3 x5, gaM_t g4 x6, x7, (by first | decide | omega), (by first | decide | omega)⟩
    -- the reference: is the pitch held over from the event ahead?
    have mT : ((0 < i ∧ tieOn q (i - 1) (B 1 (B 4 q 5 i) 12 k) (B 1 (B 4 q 5 i) 13 k) F B) → f_M_gather_39 rec7 rec Km (n' + 1) k (1000 * u + i) i u w Fm Bm = f_M_gather_39 rec7 rec Km n' (k + 1) (1000 * u + i) i u w Fm Bm) ∧ (¬ (0 < i ∧ tieOn q (i - 1) (B 1 (B 4 q 5 i) 12 k) (B 1 (B 4 q 5 i) 13 k) F B) → f_M_gather_39 rec7 rec Km (n' + 1) k (1000 * u + i) i u w Fm Bm = f_M_gather_103 rec7 rec (f_M_gather_39 rec7 rec Km n') Km (Bm 13 w 29 (6 * (1000 * u + i) + k)) (Bm 13 w 28 (6 * (1000 * u + i) + k)) k (1000 * u + i) i u w Fm Bm) := by
      rw [f_M_gather_39, if_pos w0, if_pos hx, if_pos rk, ep.2.1, if_pos rc, if_neg (by first | decide | omega), if_pos (by first | decide | omega), if_pos ri]
      by_cases z : (i : Int) ≤ 0
      · rw [if_pos z]
        exact ⟨fun t => (by first | decide | omega), fun _ => rfl⟩
      · obtain ⟨j, hj⟩ : ∃ j, i = j + 1 := ⟨i - 1, (by first | decide | omega)⟩
        have hL := L_tiesE (Km := Km) (Fm := Fm) (by first | decide | omega) h' (i := j) (by first | decide | omega) rs ra
        have ej : (i : Int) - 1 = (j : Int) := by omega
        rw [if_neg z, show 1000 * u + (i : Int) - 1 = 1000 * u + (j : Int) by omega, ← p1, ← p2, ej]
        by_cases y : tieOn q j (B 1 (B 4 q 5 i) 12 k) (B 1 (B 4 q 5 i) 13 k) F B
        · rw [hL.1 y, zb_s, if_pos (by decide), if_neg (by decide), f_M_gather_177]
          exact ⟨fun _ => rfl, fun t => absurd ⟨(by first | decide | omega), y⟩ t⟩
        · rw [hL.2 y, zb_s, if_pos (by decide), if_pos rfl]
          exact ⟨fun t => absurd t.2 y, fun _ => rfl⟩
    rw [f_Performance_soundAll_21, if_pos hie, if_pos rk, if_pos rc, if_neg (by first | decide | omega), if_pos h4]
    by_cases t : 0 < i ∧ tieOn q (i - 1) (B 1 (B 4 q 5 i) 12 k) (B 1 (B 4 q 5 i) 13 k) F B
    · rw [mT.1 t, fr1 t, zb_s, if_pos (by decide), if_neg (by decide), f_Performance_soundAll_106]
      exact go (fun _ _ _ _ => rfl) (fun _ _ _ _ _ => rfl) (fun _ _ _ _ => rfl) (fun _ _ _ _ _ => rfl) hG (by first | decide | omega) (by first | decide | omega)
    · rw [mT.2 t, fr0 t, zb_s, if_pos (by decide), if_pos rfl]
      have hL := L_tiesE (Km := Km) (Fm := Fm) (by first | decide | omega) h' hi rs ra
      -- the reference takes the plain way
      have m103 : f_M_gather_103 rec7 rec (f_M_gather_39 rec7 rec Km n') Km (Bm 13 w 29 (6 * (1000 * u + i) + k)) (Bm 13 w 28 (6 * (1000 * u + i) + k)) k (1000 * u + i) i u w Fm Bm = zbind (f_M_plain Km w u i (Bm 13 w 28 (6 * (1000 * u + i) + k)) (Bm 13 w 29 (6 * (1000 * u + i) + k)) Fm Bm) (fun _ F34 B34 => f_M_gather_39 rec7 rec Km n' (k + 1) (1000 * u + i) i u w F34 B34) := by
        unfold f_M_gather_103 f_M_gather_144 f_M_gather_145 f_M_gather_177
        rw [if_pos w0, if_pos hx, if_pos (zand_R _ _), ← e7.1, ep.2.1, if_pos rc]
        by_cases z : zand (F 1 (B 4 q 5 i) 7) 64 = 0
        · rw [if_pos (show zand (F 1 (B 4 q 5 i) 7) 64 ≤ 0 by omega), if_pos (by decide), if_pos rfl]
        · rw [if_neg (show ¬ zand (F 1 (B 4 q 5 i) 7) 64 ≤ 0 by omega)]
          by_cases y : F 1 (B 4 q 5 i) 10 = 1
          · have kz : k = 0 := by omega
            have ty : tieOn q i (B 1 (B 4 q 5 i) 12 k) (B 1 (B 4 q 5 i) 13 k) F B := by
              have := hNT z y
              rw [kz] at t ⊢
              rcases this with a | a
              · exact a
              · exact absurd a t
            rw [if_pos y, ← p1, ← p2, hL.1 ty, zb_s, if_pos (by decide), if_neg (by decide), if_pos (by decide), if_pos rfl]
          · rw [if_neg y, if_pos (by decide), if_pos rfl]
      obtain ⟨J, F1, B1, Fm1, Bm1, j2, l1, l2, g1, g2, g3, g4, g5, g6, g7⟩ := P_pit hK hKm hs uV h' hT hi k0 k1 ⟨c0, (by first | decide | omega)⟩ hG
      rw [m103, l2, zb_s, l1, zb_s]
      have hJ := hV J (by first | decide | omega) (by first | decide | omega)
      obtain ⟨eJ, J1, J2, J3, J4, J5, _⟩ := hE J j2
      obtain ⟨_, t2, t3, t4⟩ := L_endT (Fm := Fm) hKm h' j2
      have tb := tk_b (show sumZ g J + g J ≤ 1000000000000 by omega)
      have td := tk_0 (show 0 ≤ sumZ g J + g J by omega)
      have s0 := sumZ_0 hg i (by first | decide | omega)
      have sm := sumZ_m hg (m - i - 1) (i + 1) (by first | decide | omega)
      have s2 : sumZ g (i + 1) = sumZ g i + g i := rfl
      have gi := hg i (by first | decide | omega) (by first | decide | omega)
      have ta := tk_b (show sumZ g i ≤ 1000000000000 by omega)
      have tc := tk_0 s0
      rw [if_pos (show 0 ≤ (J : Int) ∧ (J : Int) < 200 by omega), if_pos hJ, J1, J4, C_tick (by first | decide | omega) (by first | decide | omega), zb_s, if_pos (by unfold r32; omega)]
      rcases g7 with ⟨d0, rfl, rfl⟩ | ⟨d0, ad⟩
      · rw [if_pos d0, f_Performance_soundAll_106]
        exact go g1 g2 g3 g4 g5 g6.1 g6.2
      · rw [if_neg (by first | decide | omega), C_tone hie (by first | decide | omega) p3, zb_s, C_dur hJ d0 (by first | decide | omega) J5.2, zb_s, if_pos hs, ad, zb_s, f_Performance_soundAll_106]
        exact go g1 g2 g3 g4 g5 g6.1 g6.2
end
