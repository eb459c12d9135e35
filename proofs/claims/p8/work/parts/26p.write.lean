section
/-! ===== a voice's notes written, both sides ===== -/
theorem clB_lt {nb S T : Int} (T0 : 0 < T) (h : nb * T < S) : nb < clB S T := by
  have e := Int.ediv_mul_add_emod S T
  have e1 := Int.emod_lt_of_pos S T0
  unfold clB
  split
  · exact Int.lt_of_mul_lt_mul_right (show nb * T < S / T * T by omega) (by first | decide | omega)
  · refine Int.lt_of_mul_lt_mul_right (show nb * T < (S / T + 1) * T from ?_) (show 0 ≤ T by omega)
    rw [Int.add_mul, Int.one_mul]
    omega
theorem P_wn {K : zK} {Km m : Nat} {Z : Int → Int → Prop} {q p v w n d : Int} {g : Int → Int} (hK : 3002 ≤ K.1) (hKm : 70000000000 < Km) (h4 : 0 ≤ q ∧ q < K.2 4) (hp : 0 ≤ p ∧ p < K.2 6) (v0 : 0 ≤ v ∧ v < 4) (w0 : 0 ≤ w ∧ w < 3) (hn : 1 ≤ n ∧ n ≤ 12) (hd : d = 2 ∨ d = 4 ∨ d = 8 ∨ d = 16) (hZ : ZG Z (barV n d) (clB (sumZ g m) (barV n d))) : ∀ (r n1 n2 k : Nat) {F : zF} {B : zB} {Fm : zF} {Bm : zB}, k + r = m → r < n1 → r < n2 → F 6 p 4 = n → F 6 p 5 = d → Fm 13 w 4 = n → Fm 13 w 5 = d → Bm 13 w 12 v = m → F 4 q 7 = sumZ g m → JS K q v w m (barV n d) g F B Fm Bm → BW q m (barV n d) g F B → (∃ c, NW q v w m Z c F B Bm) ∨ NX q v w F Bm → ∃ F' B' Fm' Bm' r, f_Part_writeNotes_12 K n1 k q p F B = f_Part_writeNotes_101 K q p F' B' ∧ f_M_notes_22 Km n2 k (de (sumZ g k)) (nu (sumZ g k)) w v 1 Fm Bm = some (r, Fm', Bm') ∧ NR K q v w m Z F B Fm Bm r F' B' Fm' Bm' := by
  have hu := un_d hd
  have b3 := un_3 hu (n := n) (by first | decide | omega)
  have b4 := un_4 hu (n := n) (by first | decide | omega)
  obtain ⟨bv1, _, bv3, bv4, bv5⟩ := bar_v hn hd
  have b5 := bar5 (n := n) hd
  have xa : ∀ y : Int, X5 * y = 1587600 * y := fun _ => rfl
  intro r
  induction r with
  | zero =>
    intro n1 n2 k F B Fm Bm kr hn1 hn2 e4 e5 m4 m5 h12 h7 hJ hW hN
    obtain ⟨n1, rfl⟩ : ∃ j, n1 = j + 1 := ⟨n1 - 1, (by first | decide | omega)⟩
    obtain ⟨n2, rfl⟩ : ∃ j, n2 = j + 1 := ⟨n2 - 1, (by first | decide | omega)⟩
    obtain ⟨⟨c6, c36, c35, cw, mm0, mm1⟩, hg, hs, he, hV⟩ := hJ
    obtain rfl : k = m := by omega
    have s0 := sumZ_0 hg k (Nat.le_refl _)
    rw [f_Part_writeNotes_12, if_pos h4, if_pos (show r32 (k : Int) by unfold r32; omega), c6, if_pos (show r32 (k : Int) by unfold r32; omega), if_pos (Int.le_refl _), f_M_notes_22, if_pos w0, if_pos v0, if_pos (show r32 (k : Int) by unfold r32; omega), h12, if_pos (show r32 (k : Int) by unfold r32; omega), if_pos (Int.le_refl _)]
    refine P_wend (g := g) hK hKm h4 hp v0 w0 hn hd e4 e5 m4 m5 h7 s0 hs (hW.1 k (Nat.le_refl _) (Or.inl rfl)) s0 hs hZ ?_
    rcases hN with h | h
    · exact Or.inl ⟨h, rfl⟩
    · exact Or.inr h
  | succ r ih =>
    intro n1 n2 k F B Fm Bm kr hn1 hn2 e4 e5 m4 m5 h12 h7 hJ hW hN
    obtain ⟨n1, rfl⟩ : ∃ j, n1 = j + 1 := ⟨n1 - 1, (by first | decide | omega)⟩
    obtain ⟨n2, rfl⟩ : ∃ j, n2 = j + 1 := ⟨n2 - 1, (by first | decide | omega)⟩
    have hJ' := hJ
    obtain ⟨⟨c6, c36, c35, cw, mm0, mm1⟩, hg, hs, he, hV⟩ := hJ
    have hk : k < m := by omega
    have s0 := sumZ_0 hg k (by first | decide | omega)
    have sm := sumZ_0 hg m (Nat.le_refl _)
    have s1 := sumZ_m hg r (k + 1) (by first | decide | omega)
    have s2 : sumZ g (k + 1) = sumZ g k + g k := rfl
    have gk := hg k (by first | decide | omega) (by first | decide | omega)
    obtain ⟨ek, p0, p14, p15, pg⟩ := he k hk
    have hke := hV k (by first | decide | omega) (by first | decide | omega)
    have len := ek.2.2.2.2.1
    have rk : r32 (k : Int) := by unfold r32; omega
    have rm : r32 (m : Int) := by unfold r32; omega
    rw [f_Part_writeNotes_12, if_pos h4, if_pos rk, c6, if_pos rm, if_neg (show ¬ (m : Int) ≤ k by omega), f_M_notes_22, if_pos w0, if_pos v0, if_pos rk, h12, if_pos rm, if_neg (show ¬ (m : Int) ≤ k by omega)]
    rcases hN with ⟨c, hN⟩ | hX
    case inr =>
      rw [hX.2.1, if_pos (show r32 1 by decide), if_neg (show ¬ (1 : Int) = 0 by decide), hX.2.2, if_pos (show r32 801 by decide), if_pos (show (800 : Int) < 801 by decide)]
      exact P_wend (g := g) hK hKm h4 hp v0 w0 hn hd e4 e5 m4 m5 h7 sm hs (hW.1 m (Nat.le_refl _) (Or.inl rfl)) s0 (by first | decide | omega) hZ (Or.inr hX)
    rw [hN.2.2.1, if_pos (show r32 0 by decide), if_pos (show (0 : Int) = 0 from rfl), if_pos (show 0 ≤ (k : Int) ∧ (k : Int) < 200 by omega), if_pos hke, p0, pg, hN.2.2.2.1, if_pos (show r32 c by have := hN.1; unfold r32; omega), if_neg (show ¬ 800 < c by have := hN.1; omega), if_pos (show 0 ≤ 1000 * v + (k : Int) ∧ 1000 * v + (k : Int) < 4000 by omega), p14, p15, len.1, len.2.1, pg]
    have cb := C_bar (F := F) (B := B) hp e4 e5 hn hd
    unfold f_Part_cut f_M_pieces
    rw [if_pos hp, cb, zb_s]
    have W : zP (f_Part_cut_18 K K.1 0 (sumZ g k + g k) (sumZ g k) (barV n d) q p k F B) (f_M_pieces_16 Km Km (de (g k)) (nu (g k)) (de (sumZ g k)) (nu (sumZ g k)) w v k 1 Fm Bm) (fun _ F' B' _ Fm' Bm' => NO q v w m Z F B Fm Bm F' B' Fm' Bm') := by
      by_cases z : F 1 (B 4 q 5 k) 5 = 0
      · have y1 := hW.1 k (by first | decide | omega) (Or.inr z)
        have y2 := hW.2.1 k hk z
        obtain ⟨a, ha⟩ : ∃ a, sumZ g k = X5 * a := ⟨4 * (sumZ g k / 6350400), by rw [xa]; omega⟩
        obtain ⟨l, hl⟩ : ∃ l, g k = X5 * l := ⟨4 * (g k / 6350400), by rw [xa]; omega⟩
        have x1 := xa a
        have x2 := xa l
        have x3 := xa (512 / d * n)
        have x4 := xa (a + l)
        have q0 : 0 ≤ a / (512 / d * n) := Int.ediv_nonneg (by first | decide | omega) (by first | decide | omega)
        have ub : a + l ≤ (a / (512 / d * n) + ((100 : Nat) : Int)) * (512 / d * n) := by
          have : 100 * (512 / d * n) ≤ (a / (512 / d * n) + ((100 : Nat) : Int)) * (512 / d * n) := Int.mul_le_mul_of_nonneg_right (by first | decide | omega) (by first | decide | omega)
          omega
        have := P_cutP (K := K) (Km := Km) (m := m) (q := q) (p := p) (v := v) (w := w) (n := n) (d := d) (ev := k) (ro := if F 1 (B 4 q 5 k) 10 = 0 then 1 else 0) (t := a + l) hK hKm h4 hp v0 w0 hn hd (by first | decide | omega) (by first | decide | omega) (fun nb y n0 y0 y1 hh => hZ nb (X5 * y) n0 (clB_lt bv4 (by have x9 := xa y; have x8 := xa (nb * (512 / d * n)); rw [b5, show nb * (X5 * (512 / d * n)) = X5 * (nb * (512 / d * n)) by ac_rfl]; omega)) (by have x9 := xa y; omega) (by have x9 := xa y; omega)) 100 K.1 Km (cnt := 0) (a := a) (F := F) (B := B) (Fm := Fm) (Bm := Bm) (by first | decide | omega) (by first | decide | omega) (by first | decide | omega) (Or.inr ub) (by decide) (by decide) (by first | decide | omega) (by first | decide | omega) e4 e5 m4 m5 (Or.inr ⟨k, rfl, hk, mm1, hke, z, (ek.2.2.2.2.2.2.1.2.2.1).mp z, ek.2.2.2.2.2.2.2.2.2.2.2.2.1.symm, ek.2.2.2.2.2.2.2.2.2.2.2.2.2.1, rfl⟩) (Or.inl ⟨c, hN⟩)
        rw [show a + l - a = l by omega, show X5 * (a + l) = X5 * a + X5 * l by omega, ← ha, ← hl, ← b5] at this
        exact this
      · obtain ⟨j1, hj1⟩ : ∃ j, K.1 = j + 1 + 1 := ⟨K.1 - 2, (by first | decide | omega)⟩
        obtain ⟨j2, hj2⟩ : ∃ j, Km = j + 1 + 1 := ⟨Km - 2, (by first | decide | omega)⟩
        have := P_cutT (K := K) (Km := Km) (m := m) (n1 := j1) (n2 := j2) (i := k) (q := q) (p := p) (v := v) (w := w) (n := n) (d := d) (P := sumZ g k) (F := F) (B := B) (Fm := Fm) (Bm := Bm) hK hKm h4 v0 w0 hn hd m4 m5 hk mm1 hke ek z s0 (by rw [pg]; omega) (by rw [pg]; exact hW.2.2.1 k hk z) (fun y y0 y1 => by
          have hw := hW.2.2.1 k hk z
          rw [pg] at y1
          have r1 := Int.ediv_mul_add_emod (sumZ g k) (barV n d)
          have r2 : (sumZ g k / barV n d + 1) * barV n d = sumZ g k / barV n d * barV n d + barV n d := by rw [Int.add_mul, Int.one_mul]
          exact hZ _ y (Int.ediv_nonneg s0 (by first | decide | omega)) (clB_lt bv4 (by first | decide | omega)) y0 (by first | decide | omega)) (Or.inl ⟨c, hN⟩)
        rw [pg, ← hj1, show f_M_pieces_16 Km (j2 + 1 + 1) = f_M_pieces_16 Km Km by rw [← hj2]] at this
        exact this
    obtain ⟨r1, F1, B1, r1', Fm1, Bm1, y1, y2, o1, o2, o3, o4, o5⟩ := W
    rw [y1, y2, zb_s, zb_s, o4 13 w 14 _ (by first | decide | omega) (by first | decide | omega), o4 13 w 15 _ (by first | decide | omega) (by first | decide | omega), o4 13 w 16 _ (by first | decide | omega) (by first | decide | omega), o4 13 w 17 _ (by first | decide | omega) (by first | decide | omega), p14, p15, len.1, len.2.1, pg, L_plusR (by first | decide | omega) (FR_r s0) (FR_r (by first | decide | omega)) (by first | decide | omega), zb_s, fr_0, fr_1, ← s2]
    have o3' : nG Fm (fr Fm1 (sumZ g (k + 1))) := nG_t o3 (fun c y k h => fr_n (by first | decide | omega))
    obtain ⟨F', B', Fm', Bm', r', z1, z2, z3, z4, z5, z6, z7⟩ := ih n1 n2 (k + 1) (F := F1) (B := B1) (Fm := fr Fm1 (sumZ g (k + 1))) (Bm := Bm1) (by first | decide | omega) (by first | decide | omega) (by first | decide | omega) (by rw [o1 6 p 4 (by first | decide | omega)]; exact e4) (by rw [o1 6 p 5 (by first | decide | omega)]; exact e5) (by rw [o3' 13 w 4 (by first | decide | omega)]; exact m4) (by rw [o3' 13 w 5 (by first | decide | omega)]; exact m5) (by rw [o4 13 w 12 v (by first | decide | omega) (by first | decide | omega)]; exact h12) (by rw [o1 4 q 7 (by first | decide | omega)]; exact h7) (JS_n hJ' o1 o2 (fun k h => o3' 14 0 k (by first | decide | omega)) o4) (BW_n hW o1 o2) o5
    rw [show ((k + 1 : Nat) : Int) = (k : Int) + 1 by omega] at z1 z2
    exact ⟨F', B', Fm', Bm', r', z1, z2, nF_t o1 z3, nB_t o2 z4, nH_t (nH_g o3') z5, nM_t o4 z6, z7⟩
theorem P_writeN {K : zK} {Km m : Nat} {Z : Int → Int → Prop} {q p v w n d : Int} {g : Int → Int} {F : zF} {B : zB} {Fm : zF} {Bm : zB} (hK : 3002 ≤ K.1) (hKm : 70000000000 < Km) (h4 : 0 ≤ q ∧ q < K.2 4) (hp : 0 ≤ p ∧ p < K.2 6) (v0 : 0 ≤ v ∧ v < 4) (w0 : 0 ≤ w ∧ w < 3) (hn : 1 ≤ n ∧ n ≤ 12) (hd : d = 2 ∨ d = 4 ∨ d = 8 ∨ d = 16) (e4 : F 6 p 4 = n) (e5 : F 6 p 5 = d) (m4 : Fm 13 w 4 = n) (m5 : Fm 13 w 5 = d) (h12 : Bm 13 w 12 v = m) (h7 : F 4 q 7 = sumZ g m) (hJ : JS K q v w m (barV n d) g F B Fm Bm) (hW : BW q m (barV n d) g F B) (hZ : ZG Z (barV n d) (clB (sumZ g m) (barV n d))) : ∃ F' B' Fm' Bm' r, f_Part_writeNotes K q p F B = f_Part_writeNotes_101 K q p F' B' ∧ f_M_notes Km w v 1 Fm Bm = some (r, Fm', Bm') ∧ NR K q v w m Z F B Fm Bm r F' B' Fm' Bm' := by
  have f0 : nF q F (zup3 (zup3 F 4 q 10 0) 4 q 11 0) := fun c y k h => by rw [zup3_v, if_neg (by first | decide | omega), zup3_v, if_neg (by first | decide | omega)]
  have b0 : nB q B B := fun _ _ _ _ _ => rfl
  have g0 : nG Fm (fr Fm 0) := fun c y k h => fr_n (by first | decide | omega)
  have m0 : nM' v w Bm (zup4 Bm 13 w 13 v 0) := fun c y k x h h' => by rw [zup4_v, if_neg (by first | decide | omega)]
  have mm : m ≤ 200 := hJ.1.2.2.2.2.2
  have N0 : NW q v w m Z 0 (zup3 (zup3 F 4 q 10 0) 4 q 11 0) B (zup4 Bm 13 w 13 v 0) := ⟨by decide, by rw [zup3_v, if_neg (by first | decide | omega), zup3_v, if_pos (by first | decide | omega)], by rw [zup3_v, if_pos (by first | decide | omega)], by rw [zup4_v, if_pos (by first | decide | omega)], fun i a b => (by first | decide | omega)⟩
  obtain ⟨F', B', Fm', Bm', r, z1, z2, z3, z4, z5, z6, z7⟩ := P_wn (K := K) (Km := Km) (m := m) (q := q) (p := p) (v := v) (w := w) (n := n) (d := d) (g := g) hK hKm h4 hp v0 w0 hn hd hZ m K.1 Km 0 (F := zup3 (zup3 F 4 q 10 0) 4 q 11 0) (B := B) (Fm := fr Fm 0) (Bm := zup4 Bm 13 w 13 v 0) (by first | decide | omega) (by first | decide | omega) (by first | decide | omega) (by rw [f0 6 p 4 (by first | decide | omega)]; exact e4) (by rw [f0 6 p 5 (by first | decide | omega)]; exact e5) (by rw [g0 13 w 4 (by first | decide | omega)]; exact m4) (by rw [g0 13 w 5 (by first | decide | omega)]; exact m5) (by rw [m0 13 w 12 v (by first | decide | omega) (by first | decide | omega)]; exact h12) (by rw [f0 4 q 7 (by first | decide | omega)]; exact h7) (JS_n hJ f0 b0 (fun k h => g0 14 0 k (by first | decide | omega)) m0) (BW_n hW f0 b0) (Or.inl ⟨0, N0⟩)
  refine ⟨F', B', Fm', Bm', r, ?_, ?_, nF_t f0 z3, nB_t b0 z4, nH_t (nH_g g0) z5, nM_t m0 z6, z7⟩
  · unfold f_Part_writeNotes
    rw [if_pos h4]
    exact z1
  · unfold f_M_notes
    rw [if_pos w0, if_pos v0, L_isR (by first | decide | omega) (p := 0) ⟨by decide, ⟨WW, by decide⟩, by decide, by decide⟩ (by decide), zb_s, ← z2, show sumZ g 0 = 0 from rfl, nd0.1, nd0.2]
    rfl
end
