section
/-! ===== the walk: repeats with alternatives ===== -/
theorem AL_f {R : zB → zB → Int → Int → Prop} {B Bm : zB} {e : Int} : ∀ (n : Nat) {y a : Int}, ALf R B Bm n y a e → ∃ (c : Nat) (ay aa : Nat → Int), 0 < c ∧ ay 0 = y ∧ aa 0 = a ∧ (∀ k, k < c → (0 ≤ ay k ∧ ay k < 3000) ∧ BKf R B Bm (ay k) (aa k) ∧ aa (k + 1) = Bm 14 0 30 (aa k) + 1) ∧ (∀ k, k + 1 < c → B 3 0 5 (ay k) = ay (k + 1)) ∧ B 3 0 5 (ay (c - 1)) = -1 ∧ aa c = e := by
  intro n
  induction n with
  | zero => intro y a h; exact absurd h (fun h => h)
  | succ n ih =>
    intro y a ⟨hy, hb, h⟩
    rcases h with ⟨h5, he⟩ | ⟨he, h⟩
    · refine ⟨1, fun _ => y, fun k => match k with | 0 => a | _ + 1 => Bm 14 0 30 a + 1, by decide, rfl, rfl, fun k hk => ?_, fun k hk => (by first | decide | omega), h5, he⟩
      obtain rfl : k = 0 := by omega
      exact ⟨hy, hb, rfl⟩
    · obtain ⟨c, ay, aa, c0, h1, h2, h3, h4, h5, h6⟩ := ih h
      obtain ⟨c, rfl⟩ : ∃ m, c = m + 1 := ⟨c - 1, (by first | decide | omega)⟩
      refine ⟨c + 1 + 1, fun k => match k with | 0 => y | k + 1 => ay k, fun k => match k with | 0 => a | k + 1 => aa k, (by first | decide | omega), rfl, rfl, fun k hk => ?_, fun k hk => ?_, h5, h6⟩
      · cases k with
        | zero => exact ⟨hy, hb, h2⟩
        | succ k => exact h3 k (by first | decide | omega)
      · cases k with
        | zero => exact h1.symm
        | succ k => exact h4 k (by first | decide | omega)
/-- the alternatives of a repeat as both sides see them -/
def ALS (R : zB → zB → Int → Int → Prop) (N : Int) (c : Nat) (ay aa : Nat → Int) (B0 Bm0 : zB) : Prop := (0 < c ∧ c ≤ 3001) ∧ (∀ k, k < c → (0 ≤ ay k ∧ ay k < 3000) ∧ BKf R B0 Bm0 (ay k) (aa k) ∧ aa (k + 1) = Bm0 14 0 30 (aa k) + 1 ∧ (0 ≤ aa k ∧ aa k < N) ∧ aa k < aa c) ∧ (∀ k, k + 1 < c → B0 3 0 5 (ay k) = ay (k + 1)) ∧ B0 3 0 5 (ay (c - 1)) = -1
theorem AL_s {R : zB → zB → Int → Int → Prop} {B Bm B' Bm' : zB} {N e y a : Int} {n : Nat} (h : ALf R B Bm n y a e) (a0 : 0 ≤ a) (hT : WT N B Bm B' Bm') : ∃ (c : Nat) (ay aa : Nat → Int), ay 0 = y ∧ aa 0 = a ∧ aa c = e ∧ e ≤ 3001 ∧ ALS R N c ay aa B Bm := by
  obtain ⟨c, ay, aa, c0, h1, h2, h3, h4, h5, h6⟩ := AL_f n h
  have st : ∀ k, k < c → aa k + 1 < aa (k + 1) ∧ aa (k + 1) ≤ 3001 := fun k hk => by
    obtain ⟨_, ⟨b1, b2, _⟩, b3⟩ := h3 k hk
    omega
  have lo : ∀ k : Nat, k ≤ c → a + k ≤ aa k := by
    intro k
    induction k with
    | zero => intro _; rw [h2]; omega
    | succ k ih => intro hk; have := ih (by first | decide | omega); have := st k (by first | decide | omega); omega
  have hi : ∀ d k : Nat, k + d = c → aa k + d ≤ aa c := by
    intro d
    induction d with
    | zero => intro k hk; rw [show k = c by omega]; omega
    | succ d ih => intro k hk; have := ih (k + 1) (by first | decide | omega); have := st k (by first | decide | omega); omega
  have top : aa c ≤ 3001 := by
    have := (st (c - 1) (by first | decide | omega)).2
    rwa [show c - 1 + 1 = c by omega] at this
  refine ⟨c, ay, aa, h1, h2, h6, (by first | decide | omega), ⟨c0, by have := lo c (Nat.le_refl _); omega⟩, fun k hk => ?_, h4, h5⟩
  obtain ⟨b0, b1, b3⟩ := h3 k hk
  refine ⟨b0, b1, b3, ⟨by have := lo k (by first | decide | omega); omega, ?_⟩, by have := hi (c - k) k (by first | decide | omega); omega⟩
  rcases Int.lt_or_le (aa k) N with z | z
  · exact z
  · have := (hT.2.2.2 _ z).1
    have := b1.1
    omega
theorem L_38 {R : zB → zB → Int → Int → Prop} {K : Nat} {o : oT_W} {N l3 l2 i : Int} {c : Nat} {ay aa : Nat → Int} {B0 Bm0 B Bm : zB} {F : zF} (hA : ALS R N c ay aa B0 Bm0) (hT : WT N B0 Bm0 B Bm) (hN : N ≤ 3000) (hi : 0 ≤ i ∧ i < N) (he : Bm0 14 0 31 i = aa c) (hc : aa c ≤ 3001) : ∀ (d n k : Nat), k + d = c → d < n → f_M_goRepeat_38 o K n (aa k) k 1 l3 l2 i F Bm = f_M_goRepeat_71 o K c l3 l2 i F Bm := by
  have c0 : 0 ≤ aa c := by
    have := hA.2.1 0 hA.1.1
    omega
  have e31 : Bm 14 0 31 i = aa c := by rw [hT.2.2.1 31 i (by decide) (by decide) hi.2]; exact he
  intro d
  induction d with
  | zero =>
    intro n k hk hn
    obtain ⟨n, rfl⟩ : ∃ m, n = m + 1 := ⟨n - 1, (by first | decide | omega)⟩
    obtain rfl : k = c := by omega
    rw [f_M_goRepeat_38, if_pos (by decide), if_neg (by decide), if_pos (by first | decide | omega), if_pos (by unfold r32; omega), e31, if_pos (by unfold r32; omega), if_pos (Int.le_refl _)]
  | succ d ih =>
    intro n k hk hn
    obtain ⟨n, rfl⟩ : ∃ m, n = m + 1 := ⟨n - 1, (by first | decide | omega)⟩
    obtain ⟨_, _, b3, b4, b5⟩ := hA.2.1 k (by first | decide | omega)
    rw [f_M_goRepeat_38, if_pos (by decide), if_neg (by decide), if_pos (by first | decide | omega), if_pos (by unfold r32; omega), e31, if_pos (by unfold r32; omega), if_neg (by first | decide | omega), if_pos (by first | decide | omega), hT.2.2.1 30 _ (by decide) (by decide) b4.2, ← b3]
    exact ih n (k + 1) (by first | decide | omega) (by first | decide | omega)
theorem L_135 {R : zB → zB → Int → Int → Prop} {K : Nat} {o : oT_W} {rec : Int → Int → Int → Int → Int → zF → zB → zO} {N l6 l3 l2 i : Int} {c j : Nat} {ay aa : Nat → Int} {B0 Bm0 B Bm : zB} {F : zF} (hA : ALS R N c ay aa B0 Bm0) (hT : WT N B0 Bm0 B Bm) (hN : N ≤ 3000) (h6 : l6 ≤ 10) (hj : (j : Int) + 1 ≤ l6 ∧ j + 1 ≤ c) (hj' : l6 = (j : Int) + 1 ∨ c = j + 1) : ∀ (d n k : Nat), k + d = j → d < n → f_M_goRepeat_135 o rec K n ((k : Int) + 1) (aa k) l6 c l3 l2 i F Bm = f_M_goRepeat_166 o rec K (aa j) l6 c l3 l2 i F Bm := by
  have hc := hA.1.2
  intro d
  induction d with
  | zero =>
    intro n k hk hn
    obtain ⟨n, rfl⟩ : ∃ m, n = m + 1 := ⟨n - 1, (by first | decide | omega)⟩
    obtain rfl : k = j := by omega
    rw [f_M_goRepeat_135, if_pos (by unfold r32; omega), if_pos (by unfold r32; omega)]
    by_cases z : l6 ≤ (k : Int) + 1
    · rw [if_pos z]
    · rw [if_neg z, if_pos (by unfold r32; omega), if_pos (by first | decide | omega)]
  | succ d ih =>
    intro n k hk hn
    obtain ⟨n, rfl⟩ : ∃ m, n = m + 1 := ⟨n - 1, (by first | decide | omega)⟩
    obtain ⟨_, _, b3, b4, b5⟩ := hA.2.1 k (by first | decide | omega)
    rw [f_M_goRepeat_135, if_pos (by unfold r32; omega), if_pos (by unfold r32; omega), if_neg (by first | decide | omega), if_pos (by unfold r32; omega), if_neg (by first | decide | omega), if_pos (by first | decide | omega), hT.2.2.1 30 _ (by decide) (by decide) b4.2, ← b3]
    have := ih n (k + 1) (by first | decide | omega) (by first | decide | omega)
    rwa [show ((k + 1 : Nat) : Int) = (k : Int) + 1 by omega] at this
theorem P_rl1 {K : zK} {Km : Nat} {N nl q v w bar x i l3 : Int} {B0 Bm0 : zB} {D m T c : Nat} {ay aa : Nat → Int} {o : oT_CW} {oM : oT_W} {R : zB → zB → Int → Int → Prop} (hL : LSim K Km N nl q v w bar B0 Bm0 (D + 1) o.1 oM.1 R) (hA : ALS R N c ay aa B0 Bm0) (h30 : l3 + 1 = aa 0) (hx : 0 ≤ x ∧ x < 3000) (hi : 0 ≤ i ∧ i + 2 < N) (hD : D < 64) (hp : B0 3 0 1 x = Bm0 14 0 8 i) (ht : B0 3 0 2 x = T ∧ Bm0 14 0 9 (i + 1) = T ∧ T ≤ 4) (hb : i + 2 < Bm0 14 0 30 (i + 2) ∧ Bm0 14 0 30 (i + 2) ≤ 3000) (hl : LRf R B0 Bm0 m (B0 3 0 4 x) (i + 2 + 1) (Bm0 14 0 30 (i + 2))) : ∀ (r n n' : Nat) {t j : Nat} {F : zF} {B : zB} {Fm : zF} {Bm : zB}, t + r = T → (j < c ∧ (j = t ∨ (j < t ∧ j + 1 = c))) → r + 1 < n → r + 1 < n' → WT N B0 Bm0 B Bm → Fm 14 0 27 = nl → WC K Km N q v w bar B Fm Bm → WS q v w bar (D + 1) F B Fm Bm → zP (f_Walker_goRepeat_13 o K n t (ay j) 0 x D F B) (f_M_goRepeat_74 oM Km n' (t + 1) c l3 (i + 2) i Fm Bm) (fun _ F' B' _ Fm' Bm' => RQ q v w bar D F B Fm Bm F' B' Fm' Bm') := by
  have hc := hA.1
  intro r
  induction r with
  | zero =>
    intro n n' t j F B Fm Bm tr hj hn hn' hT hnl hC hS
    obtain ⟨n, rfl⟩ : ∃ m, n = m + 1 := ⟨n - 1, (by first | decide | omega)⟩
    obtain ⟨n', rfl⟩ : ∃ m, n' = m + 1 := ⟨n' - 1, (by first | decide | omega)⟩
    have h11 := hC.2.2.1
    have h3 := hC.2.2.2.1
    have N1 := hC.2.2.2.2.2.2.2.1.2.1
    have rt : r32 (T : Int) := by unfold r32; omega
    have rt1 : r32 ((t : Int) + 1) := by unfold r32; omega
    have rt0 : r32 (t : Int) := by unfold r32; omega
    rw [rpT_e, rpM_e, if_pos ⟨Int.le_refl _, h11⟩, hS.1.1, if_pos ⟨Int.le_refl _, h3⟩, if_pos hx, if_pos rt0, hT.1 2 x, ht.1, if_pos rt, if_pos (by first | decide | omega), if_pos (by first | decide | omega), if_pos rt1, hT.2.1 9 _ (by decide), ht.2.1, if_pos rt, if_pos (by first | decide | omega)]
    exact zP_s ⟨WFR_r, Or.inl ⟨hS, WKP_r⟩⟩
  | succ r ih =>
    intro n n' t j F B Fm Bm tr hj hn hn' hT hnl hC hS
    obtain ⟨n, rfl⟩ : ∃ m, n = m + 1 := ⟨n - 1, (by first | decide | omega)⟩
    obtain ⟨n', rfl⟩ : ∃ m, n' = m + 1 := ⟨n' - 1, (by first | decide | omega)⟩
    have h11 := hC.2.2.1
    have h3 := hC.2.2.2.1
    have hKm := hC.2.1
    obtain ⟨N0, N1, hTK⟩ := hC.2.2.2.2.2.2.2.1
    have hpl := (hTK i hi.1 (by first | decide | omega)).2.2.2.2.2.2.2.2.2.1
    have pe : B 3 0 1 x = Bm 14 0 8 i := by rw [hT.1, hT.2.1 8 i (by decide)]; exact hp
    have rt : r32 (T : Int) := by unfold r32; omega
    have rt1 : r32 ((t : Int) + 1) := by unfold r32; omega
    have rt0 : r32 (t : Int) := by unfold r32; omega
    have rt2 : r32 ((t : Int) + 1 + 1) := by unfold r32; omega
    have rc : r32 (c : Int) := by unfold r32; omega
    obtain ⟨y0, ⟨y1, y2, mj, y3⟩, y4, y5, y6⟩ := hA.2.1 j hj.1
    have ry : r32 (ay j) := by unfold r32; omega
    have nx : ∃ j', (j' < c ∧ (j' = t + 1 ∨ (j' < t + 1 ∧ j' + 1 = c))) ∧ (if B0 3 0 5 (ay j) = -1 then ay j else B0 3 0 5 (ay j)) = ay j' ∧ r32 (B0 3 0 5 (ay j)) := by
      by_cases z : j + 1 < c
      · have e := hA.2.2.1 j z
        have g := (hA.2.1 (j + 1) z).1
        refine ⟨j + 1, (by first | decide | omega), ?_, by rw [e]; unfold r32; omega⟩
        rw [e, if_neg (by first | decide | omega)]
      · have e := hA.2.2.2
        rw [show c - 1 = j by omega] at e
        refine ⟨j, (by first | decide | omega), ?_, by rw [e]; decide⟩
        rw [e, if_pos rfl]
    obtain ⟨j', hj', nx1, nx2⟩ := nx
    -- what comes behind the second walk
    have fin2 : ∀ (F1 : zF) (B1 : zB) (Fm1 : zF) (Bm1 : zB), WFR q v w F B Fm Bm F1 B1 Fm1 Bm1 → (WS q v w bar (D + 1) F1 B1 Fm1 Bm1 ∧ WKP q F B Fm Bm F1 B1 Fm1 Bm1) ∨ WE D q v w F1 Fm1 → zP (if 0 ≤ (F1 11 0 0) ∧ (F1 11 0 0) < K.2 3 then if r32 (B1 3 (F1 11 0 0) 5 (ay j)) then (if (B1 3 (F1 11 0 0) 5 (ay j)) = (-1) then f_Walker_goRepeat_120 o (f_Walker_goRepeat_13 o K n) K t 0 x D (ay j) F1 B1 else f_Walker_goRepeat_120 o (f_Walker_goRepeat_13 o K n) K t 0 x D (B1 3 (F1 11 0 0) 5 (ay j)) F1 B1) else none else none) (f_M_goRepeat_186 oM (f_M_goRepeat_74 oM Km n') Km (t + 1) c l3 (i + 2) i Fm1 Bm1) (fun _ F' B' _ Fm' Bm' => RQ q v w bar D F B Fm Bm F' B' Fm' Bm') := by
      intro F1 B1 Fm1 Bm1 f s
      have T1 := WT_f hT f
      have f0 : F1 11 0 0 = 0 := by
        rcases s with ⟨s, _⟩ | s
        · exact s.1.1
        · exact s.1
      have e : (if (B1 3 0 5 (ay j)) = (-1) then f_Walker_goRepeat_120 o (f_Walker_goRepeat_13 o K n) K t 0 x D (ay j) F1 B1 else f_Walker_goRepeat_120 o (f_Walker_goRepeat_13 o K n) K t 0 x D (B1 3 0 5 (ay j)) F1 B1) = f_Walker_goRepeat_13 o K n ((t : Int) + 1) (ay j') 0 x D F1 B1 := by
        rw [T1.1 5 (ay j), ← nx1]
        by_cases z : B0 3 0 5 (ay j) = -1
        · rw [if_pos z, if_pos z]; rfl
        · rw [if_neg z, if_neg z]; rfl
      rw [f0, if_pos ⟨Int.le_refl _, h3⟩, if_pos (by rw [T1.1]; exact nx2), e, f_M_goRepeat_186]
      rcases s with ⟨s, k⟩ | s
      · have := ih n n' (t := t + 1) (j := j') (by first | decide | omega) hj' (by first | decide | omega) (by first | decide | omega) T1 (by rw [f.2.2.2.1 14 0 27 (by first | decide | omega)]; exact hnl) (WC_f hC f) s
        rw [show ((t + 1 : Nat) : Int) = (t : Int) + 1 by omega] at this
        exact zP_m this (fun _ _ _ _ _ _ h => RQ_t f k h)
      · obtain ⟨n, rfl⟩ : ∃ m, n = m + 1 := ⟨n - 1, (by first | decide | omega)⟩
        obtain ⟨n', rfl⟩ : ∃ m, n' = m + 1 := ⟨n' - 1, (by first | decide | omega)⟩
        rw [C_rpX h11 h3 s hx rt1 (by rw [T1.1, ht.1]; exact rt), L_rpX s.2.2.2.1 (by first | decide | omega) rt2 (by rw [T1.2.1 9 _ (by decide), ht.2.1]; exact rt)]
        exact zP_s ⟨f, Or.inr s⟩
    have fin : ∀ (F1 : zF) (B1 : zB) (Fm1 : zF) (Bm1 : zB), WFR q v w F B Fm Bm F1 B1 Fm1 Bm1 → (WS q v w bar (D + 1) F1 B1 Fm1 Bm1 ∧ WKP q F B Fm Bm F1 B1 Fm1 Bm1) ∨ WE (D + 1) q v w F1 Fm1 → zP (rpT o K n t (ay j) x D F1 B1) (rpM oM Km n' (t + 1) c l3 (i + 2) i Fm1 Bm1) (fun _ F' B' _ Fm' Bm' => RQ q v w bar D F B Fm Bm F' B' Fm' Bm') := by
      intro F1 B1 Fm1 Bm1 f s
      have T1 := WT_f hT f
      have C1 := WC_f hC f
      have n1 : Fm1 14 0 27 = nl := by rw [f.2.2.2.1 14 0 27 (by first | decide | omega)]; exact hnl
      have f0 : F1 11 0 0 = 0 := by
        rcases s with ⟨s, _⟩ | s
        · exact s.1.1
        · exact s.1
      unfold rpT rpM
      rw [if_pos ry, if_neg (by first | decide | omega), f0, if_pos ⟨Int.le_refl _, h3⟩, if_pos rc, if_neg (by first | decide | omega)]
      rcases s with ⟨s, k⟩ | s
      · have pl1 : B1 3 0 1 x = Bm1 14 0 8 i := by rw [T1.1, T1.2.1 8 i (by decide)]; exact hp
        have hp1 : 0 ≤ Bm1 14 0 8 i ∧ Bm1 14 0 8 i ≤ 3000 := by rw [T1.2.1 8 i (by decide), ← hT.2.1 8 i (by decide)]; exact hpl
        have l135 := L_135 (K := Km) (o := oM) (rec := f_M_goRepeat_74 oM Km n') (l6 := (t : Int) + 1) (l3 := l3) (l2 := i + 2) (i := i) (F := Fm1) (j := j) hA T1 N1 (by first | decide | omega) (by first | decide | omega) (by first | decide | omega) j Km 0 (by first | decide | omega) (by first | decide | omega)
        rw [show ((0 : Nat) : Int) + 1 = 1 by decide] at l135
        rw [L_good s.1.2.2.2, zb_s, if_pos (by decide), if_neg (by decide), h30, l135, f_M_goRepeat_166, pl1]
        refine zP_c (P_count h11 s (by first | decide | omega) (by first | decide | omega) hp1) ?_
        intro r1 F2 B2 r1' Fm2 Bm2 ⟨eB, eM, f', s'⟩
        subst eB eM
        have f0' : F2 11 0 0 = 0 := by
          rcases s' with ⟨s, _⟩ | s
          · exact s.1.1
          · exact s.1
        rw [f0', if_pos ⟨Int.le_refl _, h3⟩, if_pos y0, if_pos (by first | decide | omega), T1.1 4 _, T1.2.2.1 30 _ (by decide) (by decide) y5.2]
        rcases s' with ⟨s', _, k'⟩ | s'
        · have W := hL.1 mj _ _ _ F2 B2 Fm2 Bm2 y3 (by first | decide | omega) y2 T1 (by rw [f'.2.2.2.1 14 0 27 (by first | decide | omega)]; exact n1) (WC_f C1 f') s'
          rw [show ((D + 1 : Nat) : Int) = (D : Int) + 1 by omega] at W
          refine zP_c W ?_
          intro r2 F3 B3 r2' Fm3 Bm3 ⟨g, u⟩
          refine fin2 F3 B3 Fm3 Bm3 (WFR_t f (WFR_t f' g)) ?_
          rcases u with ⟨u, k''⟩ | u
          · exact Or.inl ⟨u, WKP_t k (WKP_t k' k'')⟩
          · exact Or.inr (WE_dn u)
        · rw [hL.2.1 (D + 1) _ _ F2 B2 Fm2 s' (LRf_x y3).1, zb_s, hL.2.2 _ _ Fm2 Bm2 s'.2.2.2.1, zb_s]
          exact fin2 F2 B2 Fm2 Bm2 (WFR_t f f') (Or.inr (WE_dn s'))
      · obtain ⟨e1, e2⟩ := C_cntE (K := K) (p := B1 3 0 1 x) (B := B1) h11 s
        have f2 : WFR q v w F1 B1 Fm1 Bm1 (zup3 F1 11 0 3 (F1 11 0 3 + 1)) B1 Fm1 Bm1 := WFR_mk (fun c y k n => by rw [zup3_v, if_neg (by first | decide | omega)]) (fun _ _ _ _ => rfl) (fun _ _ _ _ _ => rfl) (fun _ _ _ _ _ => rfl)
        rw [e1, zb_s, e2.1, if_pos ⟨Int.le_refl _, h3⟩, if_pos y0, T1.1 4 _, hL.2.1 D _ _ _ B1 Fm1 e2 (LRf_x y3).1, zb_s, L_goodB s.2.2.2.1, zb_s, if_pos (show r32 0 by decide), if_pos (show (0 : Int) = 0 from rfl)]
        exact fin2 _ B1 Fm1 Bm1 (WFR_t f f2) (Or.inr e2)
    rw [rpT_e, rpM_e, if_pos ⟨Int.le_refl _, h11⟩, hS.1.1, if_pos ⟨Int.le_refl _, h3⟩, if_pos hx, if_pos rt0, hT.1 2 x, ht.1, if_pos rt, if_neg (by first | decide | omega), hS.1.2.2.1, if_pos (by decide), if_pos rfl, pe, if_pos (by first | decide | omega), if_pos rt1, hT.2.1 9 _ (by decide), ht.2.1, if_pos rt, if_neg (by first | decide | omega), L_good hS.1.2.2.2, zb_s, if_pos (by decide), if_neg (by decide)]
    refine zP_c (P_count h11 hS (by first | decide | omega) (by first | decide | omega) hpl) ?_
    intro r1 F1 B1 r1' Fm1 Bm1 ⟨eB, eM, f, s⟩
    subst eB eM
    have f0 : F1 11 0 0 = 0 := by
      rcases s with ⟨s, _⟩ | s
      · exact s.1.1
      · exact s.1
    rw [f0, if_pos ⟨Int.le_refl _, h3⟩, if_pos (by first | decide | omega), hT.1 4 x, hT.2.2.1 30 _ (by decide) (by decide) hi.2]
    rcases s with ⟨s, _, k⟩ | s
    · have W := hL.1 m _ _ _ F1 B1 Fm1 Bm1 hl (by first | decide | omega) hb.2 hT (by rw [f.2.2.2.1 14 0 27 (by first | decide | omega)]; exact hnl) (WC_f hC f) s
      rw [show ((D + 1 : Nat) : Int) = (D : Int) + 1 by omega] at W
      refine zP_c W ?_
      intro r2 F2 B2 r2' Fm2 Bm2 ⟨g, u⟩
      refine fin F2 B2 Fm2 Bm2 (WFR_t f g) ?_
      rcases u with ⟨u, k'⟩ | u
      · exact Or.inl ⟨u, WKP_t k k'⟩
      · exact Or.inr u
    · rw [hL.2.1 (D + 1) _ _ F1 B1 Fm1 s (LRf_x hl).1, zb_s, hL.2.2 _ _ Fm1 Bm1 s.2.2.2.1, zb_s]
      exact fin F1 B1 Fm1 Bm1 f (Or.inr s)
theorem P_rp {K : zK} {Km : Nat} {N nl q v w bar x i : Int} {B0 Bm0 : zB} {D m : Nat} {o : oT_CW} {oM : oT_W} {R : zB → zB → Int → Int → Prop} {F : zF} {B : zB} {Fm : zF} {Bm : zB} (hL : LSim K Km N nl q v w bar B0 Bm0 (D + 1) o.1 oM.1 R) (hx : 0 ≤ x ∧ x < 3000) (hi : 0 ≤ i ∧ i < N) (hT : WT N B0 Bm0 B Bm) (hnl : Fm 14 0 27 = nl) (hC : WC K Km N q v w bar B Fm Bm) (hS : WS q v w bar D F B Fm Bm) (hD : D < 64) (hp : B0 3 0 1 x = Bm0 14 0 8 i) (n1 : nmAt Bm0 (i + 1) (B0 3 0 2 x) 2 4) (hb : i + 2 < Bm0 14 0 30 (i + 2) ∧ Bm0 14 0 30 (i + 2) ≤ 3000) (hl : LRf R B0 Bm0 m (B0 3 0 4 x) (i + 2 + 1) (Bm0 14 0 30 (i + 2))) (ha : (B0 3 0 3 x = -1 ∧ Bm0 14 0 30 (i + 2) + 1 = Bm0 14 0 31 i) ∨ (∃ n, ALf R B0 Bm0 n (B0 3 0 3 x) (Bm0 14 0 30 (i + 2) + 2) (Bm0 14 0 31 i))) : zP (fb_Walker_goRepeat o K 0 x D F B) (fb_M_goRepeat oM Km i Fm Bm) (fun _ F' B' _ Fm' Bm' => WO q v w bar D F B Fm Bm F' B' Fm' Bm') := by
  have hK := hC.1
  have hKm := hC.2.1
  have h11 := hC.2.2.1
  have h3 := hC.2.2.2.1
  obtain ⟨N0, N1, hTK⟩ := hC.2.2.2.2.2.2.2.1
  have a1 := hS.1.1
  have aN : i + 2 < N := by
    rcases Int.lt_or_le (i + 2) N with z | z
    · exact z
    · have := (hT.2.2.2 _ z).1
      omega
  obtain ⟨T, hTT⟩ : ∃ T : Nat, B0 3 0 2 x = T := ⟨(B0 3 0 2 x).toNat, by have := n1.2.2; omega⟩
  have ht : B0 3 0 2 x = T ∧ Bm0 14 0 9 (i + 1) = T ∧ T ≤ 4 := ⟨hTT, by rw [n1.2.1]; exact hTT, by have := n1.2.2; omega⟩
  have rb : r32 (Bm0 14 0 30 (i + 2) + 1) := by unfold r32; omega
  unfold fb_Walker_goRepeat fb_M_goRepeat
  rw [if_pos ⟨Int.le_refl _, h11⟩, a1, if_pos ⟨Int.le_refl _, h3⟩, if_pos hx, hT.1 3 x, if_pos (by first | decide | omega), if_pos (by first | decide | omega), hT.2.2.1 30 _ (by decide) (by decide) aN, hT.2.2.1 31 _ (by decide) (by decide) hi.2, if_pos rb]
  rcases ha with ⟨h3', he⟩ | ⟨nA, hal⟩
  · rw [← he, if_pos rb, if_pos (Int.le_refl _), h3', f_M_goRepeat_28]
    obtain ⟨k, hk⟩ : ∃ k, Km = k + 1 := ⟨Km - 1, (by first | decide | omega)⟩
    have e38 : ∀ l6 l3 : Int, f_M_goRepeat_38 oM Km Km l6 0 0 l3 (i + 2) i Fm Bm = f_M_goRepeat_71 oM Km 0 l3 (i + 2) i Fm Bm := fun l6 l3 => by
      rw [show f_M_goRepeat_38 oM Km Km = f_M_goRepeat_38 oM Km (k + 1) by rw [← hk], f_M_goRepeat_38, if_pos (by decide), if_pos rfl]
    rw [e38, f_M_goRepeat_71]
    have := P_rl0 (l3 := Bm0 14 0 30 (i + 2) + 1) hL hx ⟨hi.1, aN⟩ hD hp ht hb hl T K.1 Km (t := 0) (by first | decide | omega) (by first | decide | omega) (by first | decide | omega) hT hnl hC (WS_up hS)
    exact zP_m this (fun _ _ _ _ _ _ h => RQ_O hS h)
  · obtain ⟨c, ay, aa, e1, e2, e3, e4, hA⟩ := AL_s hal (by first | decide | omega) hT
    have c0 := hA.1.1
    have c1 := hA.1.2
    have lt := (hA.2.1 0 c0).2.2.2.2
    rw [← e3] at hal ⊢
    rw [if_pos (show r32 (aa c) by unfold r32; omega), if_neg (by first | decide | omega), f_M_goRepeat_28, show Bm0 14 0 30 (i + 2) + 1 + 1 = aa 0 by omega]
    have l38 := L_38 (K := Km) (o := oM) (l3 := Bm0 14 0 30 (i + 2) + 1) (l2 := i + 2) (F := Fm) hA hT N1 hi e3.symm (by first | decide | omega) c Km 0 (by first | decide | omega) (by first | decide | omega)
    rw [show ((0 : Nat) : Int) = 0 by rfl] at l38
    rw [l38, f_M_goRepeat_71, ← e1]
    have := P_rl1 (l3 := Bm0 14 0 30 (i + 2) + 1) hL hA (by first | decide | omega) hx ⟨hi.1, aN⟩ hD hp ht hb hl T K.1 Km (t := 0) (j := 0) (by first | decide | omega) (by first | decide | omega) (by first | decide | omega) (by first | decide | omega) hT hnl hC (WS_up hS)
    exact zP_m this (fun _ _ _ _ _ _ h => RQ_O hS h)
end
