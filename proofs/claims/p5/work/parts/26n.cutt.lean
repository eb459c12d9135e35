section
section
/-! ===== an event in a bracket, cut and written, both sides ===== -/
theorem P_cutT {K : zK} {Km m n1 n2 i : Nat} {Z : Int → Int → Prop} {Q : Prop} {q p v w n d P : Int} {F : zF} {B : zB} {Fm : zF} {Bm : zB} (hK : 3002 ≤ K.1) (hKm : 70000000000 < Km) (h4 : 0 ≤ q ∧ q < K.2 4) (v0 : 0 ≤ v ∧ v < 4) (w0 : 0 ≤ w ∧ w < 3) (hn : 1 ≤ n ∧ n ≤ 12) (hd : d = 2 ∨ d = 4 ∨ d = 8 ∨ d = 16) (m4 : Fm 13 w 4 = n) (m5 : Fm 13 w 5 = d) (hi : i < m) (m1 : m ≤ 200) (he : 0 ≤ B 4 q 5 i ∧ B 4 q 5 i < K.2 1) (hE : EVW w (B 4 q 5 i) (1000 * v + i) F B Bm) (h5 : ¬ F 1 (B 4 q 5 i) 5 = 0) (P0 : 0 ≤ P) (P1 : P + F 1 (B 4 q 5 i) 1 ≤ 100 * barV n d) (hw : P + F 1 (B 4 q 5 i) 1 ≤ (P / barV n d + 1) * barV n d) (hZ : ∀ y, 0 ≤ y → y < P % barV n d + F 1 (B 4 q 5 i) 1 → Z (P / barV n d) y) (hN : (∃ c, NW q v w m Z c F B Bm ∧ LPe q i Q (P / barV n d) (P % barV n d) B c) ∨ NX q v w F Bm) : zP (f_Part_cut_18 K (n1 + 1 + 1) 0 (P + F 1 (B 4 q 5 i) 1) P (barV n d) q p i F B) (f_M_pieces_16 Km (n2 + 1 + 1) (de (F 1 (B 4 q 5 i) 1)) (nu (F 1 (B 4 q 5 i) 1)) (de P) (nu P) w v i 1 Fm Bm) (fun _ F' B' _ Fm' Bm' => NO q v w m Z i True ((P + F 1 (B 4 q 5 i) 1) / barV n d) ((P + F 1 (B 4 q 5 i) 1) % barV n d) F B Fm Bm F' B' Fm' Bm') := by
  obtain ⟨bv1, _, bv3, bv4, bv5⟩ := bar_v hn hd
  obtain ⟨a1, ⟨a2, a2', a2''⟩, ⟨a3, a3', a3''⟩, ⟨z, hz, hl⟩, ⟨a5, a5', a5'', a5'''⟩, a6, ⟨a7, a7', a7'', _⟩, _, _, _, _, ep⟩ := hE
  have e21 : Bm 13 w 21 (1000 * v + i) = F 1 (B 4 q 5 i) 10 ∧ (0 ≤ F 1 (B 4 q 5 i) 10 ∧ F 1 (B 4 q 5 i) 10 ≤ 6) := ⟨ep.2.1, ep.2.2.1⟩
  generalize hee : B 4 q 5 i = e at *
  generalize hg : F 1 e 1 = g at *
  generalize hvl : F 1 e 2 = vl at *
  generalize ht1 : F 1 e 3 = t1 at *
  generalize ht2 : F 1 e 4 = t2 at *
  generalize hbar : barV n d = bar at *
  have q1 := Int.mul_ediv_add_emod P bar
  have q2 := Int.emod_nonneg P (show bar ≠ 0 by omega)
  have q3 := Int.emod_lt_of_pos P bv4
  have q4 : 0 ≤ P / bar := Int.ediv_nonneg P0 (by omega)
  have q5 : P / bar < 100 := Int.ediv_lt_of_lt_mul bv4 (by omega)
  have q6 : (P / bar + 1) * bar = bar * (P / bar) + bar := by rw [Int.add_mul, Int.one_mul, Int.mul_comm]
  have q7 : P / bar * bar = bar * (P / bar) := Int.mul_comm _ _
  have g1 : 1 ≤ g := a5''
  -- the class: one piece
  have cE : f_Part_cut_18 K (n1 + 1 + 1) 0 (P + g) P bar q p i F B = zbind (f_Part_writeTuplet_23 K K.1 0 (vl * 4) (P % bar) e q i (P / bar) F B) (fun _ F1 B1 => some (0, F1, B1)) := by
    rw [f_Part_cut_18, if_pos (by decide), if_neg (by decide), if_pos (show r64 P by unfold r64; omega), if_pos (show r64 (P + g) by unfold r64; omega), if_neg (show ¬ 0 ≤ zcmp P (P + g) from fun h => by
      have : zcmp P (P + g) < 0 := zcmp_lt.mpr (by omega)
      omega), if_pos (show r64 bar by unfold r64; omega), if_neg (show ¬ zcmp bar 0 ≤ 0 from fun h => by have := zcmp_m.mp h; omega), if_pos (lI_n0 bv4 (by unfold r64; omega)), zldv_e P0 (by omega) bv4 (by omega), if_pos (show r32 (P / bar + 1) by unfold r32; omega), if_pos (show r64 ((P / bar + 1) * bar) by unfold r64; omega), if_pos (show r32 (i : Int) by unfold r32; omega), if_neg (show ¬ (i : Int) = -1 by omega), if_pos h4, if_pos (show 0 ≤ (i : Int) ∧ (i : Int) < 200 by omega), hee, if_pos he, if_pos (show r32 (F 1 e 5) by unfold r32; omega), if_neg h5]
    have zm : zmin (P + g) ((P / bar + 1) * bar) = P + g := by unfold zmin; rw [if_neg (by omega)]
    unfold f_Part_cut_85 f_Part_writeTuplet
    rw [zm, if_pos (show r32 1 by decide), if_neg (show ¬ (1 : Int) = 0 by decide), if_pos (show r32 (P / bar) by unfold r32; omega), if_pos h4, if_pos h4, if_pos (show 0 ≤ (i : Int) ∧ (i : Int) < 200 by omega), hee, if_pos he, hvl, show P - P / bar * bar = P % bar by omega]
    congr 1
    funext r1 F1 B1
    rw [f_Part_cut_165, f_Part_cut_18, if_pos (by decide), if_neg (by decide), if_pos (show r64 (P + g) by unfold r64; omega), if_pos (show r64 (P + g) by unfold r64; omega), if_pos (show 0 ≤ zcmp (P + g) (P + g) by rw [zcmp_0.mpr rfl]; decide), f_Part_cut_175]
  have hg2 : g * t1 = X5 * (4 * vl) * t2 := by
    rw [hl, show X5 * (4 * vl) = 6350400 * vl by unfold X5; omega, hz]
    ac_rfl
  have nuz : zcmp (nu g) 0 ≤ 0 ↔ False := by
    have h := FR_r (p := g) (by omega)
    obtain ⟨d0, _, n0, e'⟩ := h
    rw [zcmp_m]
    refine ⟨fun h => ?_, fun h => h.elim⟩
    have : nu g = 0 := by omega
    rw [this, Int.zero_mul] at e'
    rcases Int.mul_eq_zero.mp e'.symm with y | y <;> omega
  have rnu : r64 (nu g) := by
    have := FR_b (FR_r (p := g) (by omega))
    have := (FR_r (p := g) (by omega)).2.2.1
    unfold r64
    omega
  rcases hN with ⟨c, hN, hL⟩ | hX
  case inr =>
    obtain ⟨k, hk⟩ : ∃ k, K.1 = k + 1 := ⟨K.1 - 1, by omega⟩
    have wt := C_wtX (K := K) (n1 := k) (l := vl * 4) (at' := P % bar) (cnt := 0) (nb := P / bar) (e := e) (i := i) (F := F) (B := B) h4 (by decide) (by unfold r32; omega) hX
    rw [← hk] at wt
    rw [cE, wt, zb_s, f_M_pieces_16, if_pos rnu, if_neg (fun h => nuz.mp h), if_pos w0, if_pos v0, hX.2.2, if_pos (by decide), if_pos (by decide), f_M_pieces_215]
    exact zP_s (NO_r (Q := True) (Or.inr hX) id (Or.inr ⟨rfl, Int.le_refl _⟩))
  have rn : r32 n := by unfold r32; omega
  have rd : r32 d := by unfold r32; omega
  have f1 : FR ((P / bar + 1) * n) d ((P / bar + 1) * bar) := FR_k bv1 (by omega)
  have f2 : FR (P / bar * n) d (P / bar * bar) := FR_k bv1 q4
  have cmp : ∀ x y : Int, r32 (if x < y then (-1 : Int) else if x = y then 0 else 1) ∧ (0 ≤ (if x < y then (-1 : Int) else if x = y then 0 else 1) ↔ y ≤ x) := fun x y => by
    by_cases z : x < y
    · rw [if_pos z]; exact ⟨by decide, by omega⟩
    · rw [if_neg z]
      by_cases z' : x = y
      · rw [if_pos z']; exact ⟨by decide, by omega⟩
      · rw [if_neg z']; exact ⟨by decide, by omega⟩
  -- the reference: one part
  have ptE : ∀ G : zF, G 13 w 4 = n → G 13 w 5 = d → f_M_part Km w v i (P / bar) (nu g) (de g) 1 G Bm = f_M_part_174 Km Km t1 t2 1 w v i (P / bar) (zup3 (zup3 (fr G (X5 * (4 * vl))) 14 0 52 (nu (X5 * (4 * vl)))) 14 0 53 (de (X5 * (4 * vl)))) Bm := fun G g4 g5 => by
    have e146 : f_M_part_146 Km t1 t2 1 w v i (P / bar) (nu g) (de g) G Bm = f_M_part_174 Km Km t1 t2 1 w v i (P / bar) (zup3 (zup3 (fr G (X5 * (4 * vl))) 14 0 52 (nu (X5 * (4 * vl)))) 14 0 53 (de (X5 * (4 * vl)))) Bm := by
      unfold f_M_part_146
      rw [L_timesR (r := X5 * (4 * vl)) hKm (FR_r (by omega)) (by omega) (by omega) (by omega) (by omega) (by omega) (by unfold X5; omega) hg2, zb_s, fr_0, fr_1]
    have e28 : ∀ ro : Int, ro = 0 ∨ ro = 1 → f_M_part_28 Km (1000 * v + i) w v i (P / bar) (nu g) (de g) 1 ro G Bm = f_M_part_146 Km t1 t2 1 w v i (P / bar) (nu g) (de g) G Bm := fun ro hr => by
      unfold f_M_part_28 f_M_part_49 f_M_part_68 f_M_part_87
      rw [if_pos (show r32 (i : Int) by unfold r32; omega), if_neg (show ¬ (i : Int) < 0 by omega), if_pos w0, if_pos (show 0 ≤ 1000 * v + (i : Int) ∧ 1000 * v + (i : Int) < 4000 by omega), if_pos (show r32 (Bm 13 w 22 (1000 * v + i)) by unfold r32; omega), if_neg (show ¬ Bm 13 w 22 (1000 * v + i) ≤ 0 from fun h => h5 (a7''.mpr (by omega))), if_pos (show r32 1 by decide), if_neg (show ¬ (1 : Int) = 0 by decide), if_pos w0, if_pos (show 0 ≤ 1000 * v + (i : Int) ∧ 1000 * v + (i : Int) < 4000 by omega), ← a3, ← a2, if_pos (show r32 t2 by unfold r32; omega), if_pos (show r32 1 by decide), if_neg (show ¬ (1 : Int) = 0 by decide), if_pos w0, if_pos (show 0 ≤ 1000 * v + (i : Int) ∧ 1000 * v + (i : Int) < 4000 by omega), if_pos (show r32 t1 by unfold r32; omega)]
      rcases hr with rfl | rfl
      · rw [if_pos (show r32 0 by decide), if_pos (show (0 : Int) = 0 from rfl)]
      · rw [if_pos (show r32 1 by decide), if_neg (show ¬ (1 : Int) = 0 by decide), if_pos (show r32 1 by decide), if_neg (show ¬ (1 : Int) = 0 by decide)]
    unfold f_M_part f_M_part_23
    rw [if_pos (show r32 (i : Int) by unfold r32; omega), if_neg (show ¬ (i : Int) < 0 by omega), if_pos w0, if_pos (show 0 ≤ 1000 * v + (i : Int) ∧ 1000 * v + (i : Int) < 4000 by omega), if_pos (show r32 (Bm 13 w 21 (1000 * v + i)) by unfold r32; omega), e28 1 (Or.inr rfl), e28 0 (Or.inl rfl), e146]
    split <;> rfl
  have mE : ∃ G, nG Fm G ∧ G 14 0 54 = nu (P % bar) ∧ G 14 0 55 = de (P % bar) ∧ f_M_pieces_16 Km (n2 + 1 + 1) (de g) (nu g) (de P) (nu P) w v i 1 Fm Bm = zbind (f_M_part Km w v i (P / bar) (nu g) (de g) 1 G Bm) (fun _ F1 B1 => some (0, fr (fr F1 (P + g)) 0, B1)) := by
    have e111 : ∀ G : zF, (∀ c y k, ¬ (c = 14 ∧ y = 0 ∧ k ≤ 1) → G c y k = Fm c y k) → f_M_pieces_111 (f_M_pieces_16 Km (n2 + 1)) Km (de g) (nu g) (P / bar) (de g) (nu g) (de P) (nu P) w v i 1 G Bm = zbind (f_M_part Km w v i (P / bar) (nu g) (de g) 1 (zup3 (zup3 (fr G (P % bar)) 14 0 54 (nu (P % bar))) 14 0 55 (de (P % bar))) Bm) (fun _ F1 B1 => some (0, fr (fr F1 (P + g)) 0, B1)) := fun G hG => by
      unfold f_M_pieces_111
      rw [if_pos w0, hG 13 w 4 (by omega), hG 13 w 5 (by omega), m4, m5, if_pos rn, if_pos rd, L_minusR (by omega) (FR_r P0) f2 (by omega) (by omega), zb_s, if_pos (show r32 (P / bar) by unfold r32; omega), show P - P / bar * bar = P % bar by omega, fr_0, fr_1]
      congr 1
      funext r1 F1 B1
      rw [L_plusR (by omega) (FR_r P0) (FR_r (by omega)) (by omega), zb_s, L_minusR (by omega) (FR_r (by omega)) (FR_r (by omega)) (by omega) (by omega), zb_s, Int.sub_self, fr_0, fr_1]
      obtain ⟨y1, y2⟩ := nu_L (l := 0) (by decide) (by decide)
      rw [show X5 * 0 = 0 by decide] at y1 y2
      rw [f_M_pieces_16, if_pos y2, if_pos (y1.mpr rfl), f_M_pieces_215]
    refine ⟨zup3 (zup3 (fr (fr Fm ((P / bar + 1) * bar - P)) (P % bar)) 14 0 54 (nu (P % bar))) 14 0 55 (de (P % bar)), fun c y k h => by rw [zup3_v, if_neg (by omega), zup3_v, if_neg (by omega), fr_n (by omega), fr_n (by omega)], by rw [zup3_v, if_neg (by omega), zup3_v, if_pos (by omega)], by rw [zup3_v, if_pos (by omega)], ?_⟩
    rw [f_M_pieces_16, if_pos rnu, if_neg (fun h => nuz.mp h), if_pos w0, if_pos v0, hN.2.2.2.1, if_pos (show r32 c by have := hN.1; unfold r32; omega), if_neg (show ¬ 800 < c by have := hN.1; omega), m4, m5, if_pos rn, if_pos rd, L_oftR (FR_r P0) bv5 (by omega) (by omega) (by omega) (by omega) bv4 (by omega), zb_s, m4, m5, if_pos rn, if_pos rd, L_minusR (by omega) f1 (FR_r P0) (by omega) (by omega), zb_s, fr_0, fr_1, L_cmpR (by omega) (FR_r (by omega)) (FR_r (by omega)) (by omega) (by omega), zb_s, if_pos (cmp _ _).1]
    by_cases y : (P / bar + 1) * bar - P ≤ g
    · rw [if_pos ((cmp _ _).2.mpr y)]
      have := e111 (fr Fm ((P / bar + 1) * bar - P)) (fun c y k h => fr_n h)
      rw [show (P / bar + 1) * bar - P = g by omega] at this ⊢
      exact this
    · rw [if_neg (fun h => y ((cmp _ _).2.mp h))]
      exact e111 (fr Fm ((P / bar + 1) * bar - P)) (fun c y k h => fr_n h)
  obtain ⟨G, g1', g2', g3', g4'⟩ := mE
  have G4 : G 13 w 4 = n := by rw [g1' 13 w 4 (by omega)]; exact m4
  have G5 : G 13 w 5 = d := by rw [g1' 13 w 5 (by omega)]; exact m5
  rw [cE, g4', ptE G G4 G5]
  have gx : ∀ c y k, ¬ (c = 14 ∧ y = 0 ∧ (k ≤ 1 ∨ k = 52 ∨ k = 53)) → zup3 (zup3 (fr G (X5 * (4 * vl))) 14 0 52 (nu (X5 * (4 * vl)))) 14 0 53 (de (X5 * (4 * vl))) c y k = G c y k := fun c y k h => by rw [zup3_v, if_neg (by omega), zup3_v, if_neg (by omega), fr_n (by omega)]
  have g52 : zup3 (zup3 (fr G (X5 * (4 * vl))) 14 0 52 (nu (X5 * (4 * vl)))) 14 0 53 (de (X5 * (4 * vl))) 14 0 52 = nu (X5 * (4 * vl)) := by rw [zup3_v, if_neg (by omega), zup3_v, if_pos (by omega)]
  have g53 : zup3 (zup3 (fr G (X5 * (4 * vl))) 14 0 52 (nu (X5 * (4 * vl)))) 14 0 53 (de (X5 * (4 * vl))) 14 0 53 = de (X5 * (4 * vl)) := by rw [zup3_v, if_pos (by omega)]
  generalize zup3 (zup3 (fr G (X5 * (4 * vl))) 14 0 52 (nu (X5 * (4 * vl)))) 14 0 53 (de (X5 * (4 * vl))) = G2 at gx g52 g53 ⊢
  have gg : nG Fm G2 := nG_t g1' (fun c y k h => gx c y k (by omega))
  rw [show vl * 4 = 4 * vl by omega]
  have zz : z * (4 * vl / 4) * t2 = g := by rw [show 4 * vl / 4 = vl by omega]; exact hl.symm
  refine zP_c (P_tupL (K := K) (Km := Km) (m := m) (q := q) (v := v) (w := w) (nb := P / bar) (ev := i) (e := e) (t1 := t1) (t2 := t2) (z := z) (A := P % bar + g) (n := n) (d := d) hK hKm h4 v0 w0 hn hd (by omega) (by omega) he (by omega) (by omega) hz (by omega) hZ 1024 K.1 Km (l := 4 * vl) (at' := P % bar) (cnt := 0) (F := F) (B := B) (Fm := G2) (Bm := Bm) (by omega) (by omega) (by omega) (by omega) q2 (by rw [zz]) (by decide) (by decide) (by omega) (by omega) (by omega) ht1 ht2 (by rw [gg 13 w 4 (by omega)]; exact m4) (by rw [gg 13 w 5 (by omega)]; exact m5) g52 g53 (by rw [gx _ _ _ (by omega)]; exact g2') (by rw [gx _ _ _ (by omega)]; exact g3') (Or.inl ⟨c, hN, hL⟩)) ?_
  intro _ F1 B1 _ Fm1 Bm1 h
  obtain ⟨o1, o2, o3, o4, o5⟩ := h
  exact zP_s ⟨o1, o2, nG_t gg (nG_t o3 (fun c y k h => by rw [fr_n (by omega), fr_n (by omega)])), o4, o5.imp (fun ⟨c, x, y⟩ => ⟨c, x, LPe_m y (fun _ => Or.inr (by omega)) ((LX_n (b := bar) (a := P) (e := P + g) bv4 (by omega) (by omega)).imp id (fun h => ⟨h.1, by omega⟩))⟩) id⟩
end
end
section
section
/-! ===== a voice's notes, both sides ===== -/
theorem JS_n {K : zK} {q v w bar : Int} {m : Nat} {g : Int → Int} {F F' : zF} {B B' : zB} {Fm Fm' : zF} {Bm Bm' : zB} (h : JS K q v w m bar g F B Fm Bm) (f : nF q F F') (b : nB q B B') (fm : ∀ k, k = 36 ∨ k = 35 ∨ k = 6 → Fm' 14 0 k = Fm 14 0 k) (bm : nM' v w Bm Bm') : JS K q v w m bar g F' B' Fm' Bm' := by
  obtain ⟨a1, a2, a3, a4, a5⟩ := h
  refine ⟨by rw [f 4 q 6 (by omega), fm 36 (by omega), fm 35 (by omega), fm 6 (by omega)]; exact a1, a2, a3, fun i hi => ?_, fun t t0 t1 => by rw [b 4 q 5 t (by omega)]; exact a5 t t0 t1⟩
  obtain ⟨d1, d2, d3, d4, d5⟩ := a4 i hi
  rw [b 4 q 5 i (by omega), f 1 _ 0 (by omega), f 1 _ 1 (by omega), bm 13 w 14 _ (by omega) (by omega), bm 13 w 15 _ (by omega) (by omega)]
  exact ⟨EVW_h d1 (fun k _ _ => f 1 _ k (by omega)) (fun k y => b 1 _ k y (by omega)) (fun k h h' => bm 13 w k _ (by omega) (by omega)) (fun k y h h' _ _ => bm 13 w k y (by omega) (by omega)) (fun y => bm 14 0 8 y (by omega) (by omega)), d2, d3, d4, d5⟩
noncomputable def nH (w : Int) (F F' : zF) : Prop := ∀ c y k, ¬ (c = 14 ∧ y = 0 ∧ (k ≤ 1 ∨ 52 ≤ k ∧ k ≤ 57)) → ¬ (c = 13 ∧ y = w ∧ k = 7) → F' c y k = F c y k
theorem nH_t {w : Int} {F F1 F2 : zF} (h : nH w F F1) (h' : nH w F1 F2) : nH w F F2 := fun c y k n n' => by rw [h' c y k n n', h c y k n n']
theorem nH_g {w : Int} {F F' : zF} (h : nG F F') : nH w F F' := fun c y k n _ => h c y k n
/-- places outside brackets are whole 128ths, and a bracket keeps within its bar -/
noncomputable def BW (q : Int) (m : Nat) (bar : Int) (g : Int → Int) (F : zF) (B : zB) : Prop := (∀ i : Nat, i ≤ m → (i = m ∨ F 1 (B 4 q 5 i) 5 = 0) → sumZ g i % 6350400 = 0) ∧ (∀ i : Nat, i < m → F 1 (B 4 q 5 i) 5 = 0 → g i % 6350400 = 0) ∧ (∀ i : Nat, i < m → ¬ F 1 (B 4 q 5 i) 5 = 0 → sumZ g (i + 1) ≤ (sumZ g i / bar + 1) * bar) ∧ (∀ i : Nat, i < m → TIk q m F B i)
theorem BW_n {q bar : Int} {m : Nat} {g : Int → Int} {F F' : zF} {B B' : zB} (h : BW q m bar g F B) (f : nF q F F') (b : nB q B B') : BW q m bar g F' B' := by
  have e : ∀ i : Nat, F' 1 (B' 4 q 5 i) 5 = F 1 (B 4 q 5 i) 5 := fun i => by rw [b 4 q 5 i (by omega), f 1 _ 5 (by omega)]
  have e7 : ∀ i : Nat, F' 1 (B' 4 q 5 i) 7 = F 1 (B 4 q 5 i) 7 := fun i => by rw [b 4 q 5 i (by omega), f 1 _ 7 (by omega)]
  unfold BW TIk at h ⊢
  simp only [e, e7]
  exact h
/-- how many bars reach to S -/
noncomputable def clB (S bar : Int) : Int := if S % bar = 0 then S / bar else S / bar + 1
theorem X5_dm {n d a P : Int} (hd : d = 2 ∨ d = 4 ∨ d = 8 ∨ d = 16) (h : P = X5 * a) : P / barV n d = a / (512 / d * n) ∧ P % barV n d = X5 * (a % (512 / d * n)) := by
  have b5 := bar5 (n := n) hd
  have dv : P / barV n d = a / (512 / d * n) := by rw [h, b5, X5_d]
  have h1 := Int.ediv_mul_add_emod P (barV n d)
  have h2 := Int.ediv_mul_add_emod a (512 / d * n)
  have h3 : a / (512 / d * n) * barV n d = X5 * (a / (512 / d * n) * (512 / d * n)) := by rw [b5]; ac_rfl
  have h4 : X5 * (a / (512 / d * n) * (512 / d * n)) = 1587600 * (a / (512 / d * n) * (512 / d * n)) := rfl
  have h5 : X5 * (a % (512 / d * n)) = 1587600 * (a % (512 / d * n)) := rfl
  have h6 : X5 * a = 1587600 * a := rfl
  rw [dv] at h1
  exact ⟨dv, by omega⟩
/-- where a note may stand -/
noncomputable def ZG (Z : Int → Int → Prop) (T E : Int) : Prop := ∀ nb y, 0 ≤ nb → nb < E → 0 ≤ y → y < T → Z nb y
noncomputable def NR (K : zK) (q v w : Int) (m : Nat) (Z : Int → Int → Prop) (F : zF) (B : zB) (Fm : zF) (Bm : zB) (r : Int) (F' : zF) (B' : zB) (Fm' : zF) (Bm' : zB) : Prop := nF q F F' ∧ nB q B B' ∧ nH w Fm Fm' ∧ nM' v w Bm Bm' ∧ ((NW q v w m Z r F' B' Bm' ∧ Fm' 13 w 7 = clB (F' 4 q 7) (barV (Fm' 13 w 4) (Fm' 13 w 5)) ∧ EO q B' r) ∨ (r = 801 ∧ NX q v w F' Bm'))
theorem P_wend {K : zK} {Km m : Nat} {Z : Int → Int → Prop} {q p v w n d Pk : Int} {g : Int → Int} {F : zF} {B : zB} {Fm : zF} {Bm : zB} (hK : 3002 ≤ K.1) (hKm : 70000000000 < Km) (h4 : 0 ≤ q ∧ q < K.2 4) (hp : 0 ≤ p ∧ p < K.2 6) (v0 : 0 ≤ v ∧ v < 4) (w0 : 0 ≤ w ∧ w < 3) (hn : 1 ≤ n ∧ n ≤ 12) (hd : d = 2 ∨ d = 4 ∨ d = 8 ∨ d = 16) (e4 : F 6 p 4 = n) (e5 : F 6 p 5 = d) (m4 : Fm 13 w 4 = n) (m5 : Fm 13 w 5 = d) (h7 : F 4 q 7 = sumZ g m) (hs0 : 0 ≤ sumZ g m) (hs1 : sumZ g m ≤ 100 * barV n d) (hs6 : sumZ g m % 6350400 = 0) (k0 : 0 ≤ Pk) (k1 : Pk ≤ 100 * barV n d) (hZ : ZG Z (barV n d) (clB (sumZ g m) (barV n d))) (hN : ((∃ c, NW q v w m Z c F B Bm ∧ EO q B c ∧ (0 < c → LX (B 4 q 361 (c - 1)) (B 4 q 9 (c - 1)) (Pk / barV n d) (Pk % barV n d))) ∧ Pk = sumZ g m) ∨ NX q v w F Bm) : ∃ F' B' Fm' Bm' r, f_Part_writeNotes_57 K q p F B = f_Part_writeNotes_101 K q p F' B' ∧ f_M_notes_150 Km (de Pk) (nu Pk) w v 1 Fm Bm = some (r, Fm', Bm') ∧ NR K q v w m Z F B Fm Bm r F' B' Fm' Bm' := by
  have hu := un_d hd
  have b3 := un_3 hu (n := n) (by omega)
  have b4 := un_4 hu (n := n) (by omega)
  obtain ⟨bv1, _, bv3, bv4, bv5⟩ := bar_v hn hd
  have b5 := bar5 (n := n) hd
  have b44 : (512 / d * n) % 4 = 0 := by
    obtain ⟨y, hy⟩ := u_32 (n := n) hu
    omega
  have rn : r32 n := by clear hN; unfold r32; omega
  have rd : r32 d := by clear hN; unfold r32; omega
  have xa : ∀ y : Int, X5 * y = 1587600 * y := fun _ => rfl
  generalize hS : sumZ g m = S at *
  -- the class
  have cb := C_bar (F := F) (B := B) hp e4 e5 hn hd
  have o1 := Int.emod_nonneg S (show barV n d ≠ 0 by omega)
  have o2 := Int.emod_lt_of_pos S bv4
  have c57 : f_Part_writeNotes_57 K q p F B = if S % barV n d = 0 then f_Part_writeNotes_101 K q p F B else zbind (f_Part_cut_18 K K.1 0 (S + (barV n d - S % barV n d)) S (barV n d) q p (-1) F B) (fun _ F1 B1 => f_Part_writeNotes_101 K q p F1 B1) := by
    unfold f_Part_writeNotes_57 f_Part_writeNotes_78 f_Part_cut
    rw [if_pos hp, cb, zb_s, if_pos (show r64 (barV n d) by unfold r64; omega), if_neg (show ¬ zcmp (barV n d) 0 ≤ 0 from fun h => by have := zcmp_m.mp h; omega), if_pos h4, if_pos (lI_n0 bv4 (by unfold r64; omega)), h7, zlrm_e hs0 (by omega) bv4 (by omega), if_pos (show r64 (S % barV n d) by unfold r64; omega)]
    by_cases z : S % barV n d = 0
    · rw [if_pos z, if_pos (zcmp_0.mpr z)]
    · rw [if_neg z, if_neg (fun h => z (zcmp_0.mp h)), if_pos h4, if_pos hp, cb, zb_s]
  -- the reference
  have p1 := Int.mul_ediv_add_emod Pk (barV n d)
  have p2 := Int.emod_nonneg Pk (show barV n d ≠ 0 by omega)
  have p3 := Int.emod_lt_of_pos Pk bv4
  have p4 : 0 ≤ Pk / barV n d := Int.ediv_nonneg k0 (by omega)
  have p5 : Pk / barV n d ≤ 100 := Int.ediv_le_of_le_mul bv4 (by omega)
  have p6 : (Pk / barV n d + 1) * barV n d = barV n d * (Pk / barV n d) + barV n d := by rw [Int.add_mul, Int.one_mul, Int.mul_comm]
  have m150 : f_M_notes_150 Km (de Pk) (nu Pk) w v 1 Fm Bm = if Pk % barV n d = 0 then some (Bm 13 w 13 v, zup3 Fm 13 w 7 (Pk / barV n d), Bm) else zbind (f_M_pieces_16 Km Km (de ((Pk / barV n d + 1) * barV n d - Pk)) (nu ((Pk / barV n d + 1) * barV n d - Pk)) (de Pk) (nu Pk) w v (-1) 1 (fr (zup3 (zup3 Fm 13 w 7 (Pk / barV n d)) 13 w 7 (Pk / barV n d + 1)) ((Pk / barV n d + 1) * barV n d - Pk)) Bm) (fun _ F1 B1 => some (B1 13 w 13 v, F1, B1)) := by
    unfold f_M_notes_150
    have q4 : (zup3 Fm 13 w 7 (Pk / barV n d)) 13 w 4 = n := by rw [zup3_v, if_neg (by omega)]; exact m4
    have q5 : (zup3 Fm 13 w 7 (Pk / barV n d)) 13 w 5 = d := by rw [zup3_v, if_neg (by omega)]; exact m5
    rw [if_pos w0, m4, m5, if_pos rn, if_pos rd, L_oftR (FR_r k0) bv5 (by omega) (by omega) (by omega) (by omega) bv4 (by omega), zb_s, if_pos (show r32 (Pk / barV n d) by unfold r32; omega), m4, m5, if_pos rn, if_pos rd, L_multR (FR_r k0) bv5 (by omega) (by omega) (by omega) (by omega) bv4 (by omega), zb_s]
    by_cases z : Pk % barV n d = 0
    · rw [if_pos z, if_pos z, if_pos (by decide), if_neg (by decide), f_M_notes_248, if_pos w0, if_pos v0]
    · rw [if_neg z, if_neg z, if_pos (by decide), if_pos rfl, q4, q5, if_pos rn, if_pos rd, L_minusR (by omega) (FR_k bv1 (show 0 ≤ Pk / barV n d + 1 by omega)) (FR_r k0) (by omega) (by omega), zb_s, fr_0, fr_1]
      unfold f_M_pieces
      congr 1
      funext r1 F1 B1
      rw [f_M_notes_248, if_pos w0, if_pos v0]
  rcases hN with ⟨⟨c, hN, hO, hLX⟩, hPk⟩ | hX
  · -- the notes so far fit
    subst hPk
    rw [c57, m150]
    by_cases z : Pk % barV n d = 0
    · rw [if_pos z, if_pos z]
      refine ⟨F, B, _, Bm, _, rfl, rfl, fun _ _ _ _ => rfl, fun _ _ _ _ _ => rfl, fun c y k _ h => by rw [zup3_v, if_neg h], fun _ _ _ _ _ _ => rfl, Or.inl ⟨by rw [hN.2.2.2.1]; exact hN, by rw [zup3_v, if_pos (by omega), zup3_v, if_neg (by omega), zup3_v, if_neg (by omega), m4, m5, h7]; unfold clB; rw [if_pos z], by rw [hN.2.2.2.1]; exact hO⟩⟩
    · rw [if_neg z, if_neg z]
      -- in 512ths
      obtain ⟨a, ha⟩ : ∃ a, Pk = X5 * a := ⟨4 * (Pk / 6350400), by rw [xa]; omega⟩
      have a4 : a % 4 = 0 := by have := xa a; omega
      have x1 := xa a
      have x2 := xa (512 / d * n)
      have dv : Pk / barV n d = a / (512 / d * n) := by rw [ha, b5, X5_d]
      have q1 : a / (512 / d * n) < 100 := by
        rw [← dv]
        apply Int.ediv_lt_of_lt_mul bv4
        rcases Int.lt_or_le Pk (100 * barV n d) with y | y
        · exact y
        · exfalso
          apply z
          rw [show Pk = 100 * barV n d by omega]
          exact Int.mul_emod_left _ _
      have te : (Pk / barV n d + 1) * barV n d = X5 * ((a / (512 / d * n) + 1) * (512 / d * n)) := by
        rw [dv, b5]
        ac_rfl
      have x3 := xa ((a / (512 / d * n) + 1) * (512 / d * n))
      have c1 : Pk + (barV n d - Pk % barV n d) = X5 * ((a / (512 / d * n) + 1) * (512 / d * n)) := by omega
      have c2 : (Pk / barV n d + 1) * barV n d - Pk = X5 * ((a / (512 / d * n) + 1) * (512 / d * n) - a) := by
        have := xa ((a / (512 / d * n) + 1) * (512 / d * n) - a)
        omega
      have ub : (a / (512 / d * n) + 1) * (512 / d * n) ≤ 100 * (512 / d * n) := Int.mul_le_mul_of_nonneg_right (by omega) (by omega)
      have q0 : 0 ≤ a / (512 / d * n) := Int.ediv_nonneg (by omega) (by omega)
      have ub2 : (a / (512 / d * n) + 1) * (512 / d * n) ≤ (a / (512 / d * n) + ((100 : Nat) : Int)) * (512 / d * n) := Int.mul_le_mul_of_nonneg_right (by omega) (by omega)
      have hZ' : ∀ nb y, 0 ≤ nb → 0 ≤ y → y < 512 / d * n → nb * (512 / d * n) + y < (a / (512 / d * n) + 1) * (512 / d * n) → Z nb (X5 * y) := fun nb y n0 y0 y1 h => by
        have x9 := xa y
        refine hZ nb (X5 * y) n0 ?_ (by omega) (by omega)
        unfold clB
        rw [if_neg z, dv]
        exact Int.lt_of_mul_lt_mul_right (show nb * (512 / d * n) < (a / (512 / d * n) + 1) * (512 / d * n) by omega) (by omega)
      have W := P_cutP (K := K) (Km := Km) (m := m) (q := q) (p := p) (v := v) (w := w) (n := n) (d := d) (ev := -1) (ro := 1) (t := (a / (512 / d * n) + 1) * (512 / d * n)) hK hKm h4 hp v0 w0 hn hd ub (m4_m a4 b44).2 hZ' 100 K.1 Km (cnt := 0) (a := a) (F := F) (B := B) (Fm := fr (zup3 (zup3 Fm 13 w 7 (Pk / barV n d)) 13 w 7 (Pk / barV n d + 1)) ((Pk / barV n d + 1) * barV n d - Pk)) (Bm := Bm) (by omega) (by omega) a4 (Or.inr ub2) (by decide) (by decide) (by omega) (by omega) e4 e5 (by rw [fr_n (by omega), zup3_v, if_neg (by omega), zup3_v, if_neg (by omega)]; exact m4) (by rw [fr_n (by omega), zup3_v, if_neg (by omega), zup3_v, if_neg (by omega)]; exact m5) (Or.inl ⟨rfl, rfl⟩) (Q := False) (Or.inl ⟨c, hN, hO, Or.inr (Or.inr rfl), False.elim, fun hc => by have t := hLX hc; rw [(X5_dm (n := n) hd ha).1, (X5_dm (n := n) hd ha).2] at t; exact t⟩)
      rw [← b5, ← ha, ← c1, ← c2] at W
      obtain ⟨r1, F1, B1, r1', Fm1, Bm1, y1, y2, o1', o2', o3', o4', o5'⟩ := W
      rw [y1, y2, zb_s, zb_s]
      have h0 : nH w Fm (fr (zup3 (zup3 Fm 13 w 7 (Pk / barV n d)) 13 w 7 (Pk / barV n d + 1)) ((Pk / barV n d + 1) * barV n d - Pk)) := fun c y k h h' => by rw [fr_n (by omega), zup3_v, if_neg h', zup3_v, if_neg h']
      refine ⟨F1, B1, Fm1, Bm1, _, rfl, rfl, o1', o2', nH_t h0 (nH_g o3'), o4', ?_⟩
      rcases o5' with ⟨c', h, hl⟩ | h
      · exact Or.inl ⟨by rw [h.2.2.2.1]; exact h, by rw [o3' 13 w 7 (by omega), o3' 13 w 4 (by omega), o3' 13 w 5 (by omega), o1' 4 q 7 (by omega), h7, fr_n (by omega), fr_n (by omega), fr_n (by omega), zup3_v, if_pos (by omega), zup3_v, if_neg (by omega), zup3_v, if_neg (by omega), zup3_v, if_neg (by omega), zup3_v, if_neg (by omega), m4, m5]; unfold clB; rw [if_neg z], by rw [h.2.2.2.1]; exact hl.1⟩
      · exact Or.inr ⟨h.2.2, h⟩
  · -- too many already
    have cE : ∃ F', f_Part_writeNotes_57 K q p F B = f_Part_writeNotes_101 K q p F' B ∧ nF q F F' ∧ NX q v w F' Bm := by
      rw [c57]
      by_cases z : S % barV n d = 0
      · rw [if_pos z]; exact ⟨F, rfl, fun _ _ _ _ => rfl, hX⟩
      · rw [if_neg z]
        obtain ⟨a, ha⟩ : ∃ a, S = X5 * a := ⟨4 * (S / 6350400), by rw [xa]; omega⟩
        have x1 := xa a
        have x2 := xa (512 / d * n)
        have s1 := Int.mul_ediv_add_emod S (barV n d)
        have dv : S / barV n d = a / (512 / d * n) := by rw [ha, b5, X5_d]
        have te : barV n d * (S / barV n d) + barV n d = X5 * ((a / (512 / d * n) + 1) * (512 / d * n)) := by
          rw [dv, b5, Int.add_mul, Int.one_mul, Int.mul_add]
          congr 1
          ac_rfl
        have x3 := xa ((a / (512 / d * n) + 1) * (512 / d * n))
        have c1 : S + (barV n d - S % barV n d) = X5 * ((a / (512 / d * n) + 1) * (512 / d * n)) := by omega
        have q0 : 0 ≤ a / (512 / d * n) := Int.ediv_nonneg (by omega) (by omega)
        have q1 : a / (512 / d * n) ≤ 100 := by
          rw [← dv]
          exact Int.ediv_le_of_le_mul bv4 (by omega)
        have ub : (a / (512 / d * n) + 1) * (512 / d * n) ≤ 101 * (512 / d * n) := Int.mul_le_mul_of_nonneg_right (by omega) (by omega)
        have ub2 : (a / (512 / d * n) + 1) * (512 / d * n) ≤ (a / (512 / d * n) + ((100 : Nat) : Int)) * (512 / d * n) := Int.mul_le_mul_of_nonneg_right (by omega) (by omega)
        have lt : S % barV n d < barV n d := o2
        have q1' : a / (512 / d * n) < 100 := by
          rw [← dv]
          apply Int.ediv_lt_of_lt_mul bv4
          rcases Int.lt_or_le S (100 * barV n d) with y | y
          · exact y
          · exfalso
            apply z
            rw [show S = 100 * barV n d by omega]
            exact Int.mul_emod_left _ _
        have ub' : (a / (512 / d * n) + 1) * (512 / d * n) ≤ 100 * (512 / d * n) := Int.mul_le_mul_of_nonneg_right (by omega) (by omega)
        obtain ⟨F', g1, g2, g3⟩ := C_cutX (m := m) (ev := -1) (ro := 1) (t := (a / (512 / d * n) + 1) * (512 / d * n)) (B := B) (Bm := Bm) hK h4 hp v0 w0 hn hd (by omega) 100 K.1 (cnt := 0) (a := a) (F := F) (by omega) (by omega) (Or.inr ub2) (by decide) (by decide) (by omega) e4 e5 (Or.inl ⟨rfl, rfl⟩) hX
        rw [← b5, ← ha, ← c1] at g1
        rw [g1, zb_s]
        exact ⟨F', rfl, g2, g3⟩
    obtain ⟨F', f1, f2, f3⟩ := cE
    have mE : ∃ Fm', f_M_notes_150 Km (de Pk) (nu Pk) w v 1 Fm Bm = some (801, Fm', Bm) ∧ nH w Fm Fm' := by
      rw [m150]
      by_cases z : Pk % barV n d = 0
      · rw [if_pos z, hX.2.2]
        exact ⟨_, rfl, fun c y k _ h => by rw [zup3_v, if_neg h]⟩
      · rw [if_neg z]
        obtain ⟨j, hj⟩ : ∃ j, Km = j + 1 := ⟨Km - 1, by omega⟩
        have h := FR_r (p := (Pk / barV n d + 1) * barV n d - Pk) (by omega)
        have hb := FR_b h
        obtain ⟨d0, _, n0, ee⟩ := h
        have nz : ¬ nu ((Pk / barV n d + 1) * barV n d - Pk) = 0 := fun y => by
          rw [y, Int.zero_mul] at ee
          rcases Int.mul_eq_zero.mp ee.symm with t | t <;> omega
        have e : ∀ G : zF, f_M_pieces_16 Km Km (de ((Pk / barV n d + 1) * barV n d - Pk)) (nu ((Pk / barV n d + 1) * barV n d - Pk)) (de Pk) (nu Pk) w v (-1) 1 G Bm = some (0, G, Bm) := fun G => by
          rw [show f_M_pieces_16 Km Km = f_M_pieces_16 Km (j + 1) by rw [← hj], f_M_pieces_16, if_pos (by unfold r64; omega), if_neg (fun y => by have := zcmp_m.mp y; omega), if_pos w0, if_pos v0, hX.2.2, if_pos (by decide), if_pos (by decide), f_M_pieces_215]
        rw [e, zb_s, hX.2.2]
        exact ⟨_, rfl, fun c y k h h' => by rw [fr_n (by omega), zup3_v, if_neg h', zup3_v, if_neg h']⟩
    obtain ⟨Fm', n1, n2⟩ := mE
    exact ⟨F', B, Fm', Bm, 801, f1, n1, f2, fun _ _ _ _ _ => rfl, n2, fun _ _ _ _ _ _ => rfl, Or.inr ⟨rfl, f3⟩⟩
end
end
section
section
/-! ===== a voice's notes written, both sides ===== -/
theorem clB_lt {nb S T : Int} (T0 : 0 < T) (h : nb * T < S) : nb < clB S T := by
  have e := Int.ediv_mul_add_emod S T
  have e1 := Int.emod_lt_of_pos S T0
  unfold clB
  split
  · exact Int.lt_of_mul_lt_mul_right (show nb * T < S / T * T by omega) (by omega)
  · refine Int.lt_of_mul_lt_mul_right (show nb * T < (S / T + 1) * T from ?_) (show 0 ≤ T by omega)
    rw [Int.add_mul, Int.one_mul]
    omega
theorem P_wn {K : zK} {Km m : Nat} {Z : Int → Int → Prop} {q p v w n d : Int} {g : Int → Int} (hK : 3002 ≤ K.1) (hKm : 70000000000 < Km) (h4 : 0 ≤ q ∧ q < K.2 4) (hp : 0 ≤ p ∧ p < K.2 6) (v0 : 0 ≤ v ∧ v < 4) (w0 : 0 ≤ w ∧ w < 3) (hn : 1 ≤ n ∧ n ≤ 12) (hd : d = 2 ∨ d = 4 ∨ d = 8 ∨ d = 16) (hZ : ZG Z (barV n d) (clB (sumZ g m) (barV n d))) : ∀ (r n1 n2 k : Nat) {F : zF} {B : zB} {Fm : zF} {Bm : zB}, k + r = m → r < n1 → r < n2 → F 6 p 4 = n → F 6 p 5 = d → Fm 13 w 4 = n → Fm 13 w 5 = d → Bm 13 w 12 v = m → F 4 q 7 = sumZ g m → JS K q v w m (barV n d) g F B Fm Bm → BW q m (barV n d) g F B → (∃ c, NW q v w m Z c F B Bm ∧ LPe q ((k : Int) - 1) True (sumZ g k / barV n d) (sumZ g k % barV n d) B c) ∨ NX q v w F Bm → ∃ F' B' Fm' Bm' r, f_Part_writeNotes_12 K n1 k q p F B = f_Part_writeNotes_101 K q p F' B' ∧ f_M_notes_22 Km n2 k (de (sumZ g k)) (nu (sumZ g k)) w v 1 Fm Bm = some (r, Fm', Bm') ∧ NR K q v w m Z F B Fm Bm r F' B' Fm' Bm' := by
  have hu := un_d hd
  have b3 := un_3 hu (n := n) (by omega)
  have b4 := un_4 hu (n := n) (by omega)
  obtain ⟨bv1, _, bv3, bv4, bv5⟩ := bar_v hn hd
  have b5 := bar5 (n := n) hd
  have xa : ∀ y : Int, X5 * y = 1587600 * y := fun _ => rfl
  intro r
  induction r with
  | zero =>
    intro n1 n2 k F B Fm Bm kr hn1 hn2 e4 e5 m4 m5 h12 h7 hJ hW hN
    obtain ⟨n1, rfl⟩ : ∃ j, n1 = j + 1 := ⟨n1 - 1, by omega⟩
    obtain ⟨n2, rfl⟩ : ∃ j, n2 = j + 1 := ⟨n2 - 1, by omega⟩
    obtain ⟨⟨c6, c36, c35, cw, mm0, mm1⟩, hg, hs, he, hV⟩ := hJ
    obtain rfl : k = m := by omega
    have s0 := sumZ_0 hg k (Nat.le_refl _)
    rw [f_Part_writeNotes_12, if_pos h4, if_pos (show r32 (k : Int) by unfold r32; omega), c6, if_pos (show r32 (k : Int) by unfold r32; omega), if_pos (Int.le_refl _), f_M_notes_22, if_pos w0, if_pos v0, if_pos (show r32 (k : Int) by unfold r32; omega), h12, if_pos (show r32 (k : Int) by unfold r32; omega), if_pos (Int.le_refl _)]
    refine P_wend (g := g) hK hKm h4 hp v0 w0 hn hd e4 e5 m4 m5 h7 s0 hs (hW.1 k (Nat.le_refl _) (Or.inl rfl)) s0 hs hZ ?_
    rcases hN with ⟨c, h, hl⟩ | h
    · exact Or.inl ⟨⟨c, h, hl.1, hl.2.2.2⟩, rfl⟩
    · exact Or.inr h
  | succ r ih =>
    intro n1 n2 k F B Fm Bm kr hn1 hn2 e4 e5 m4 m5 h12 h7 hJ hW hN
    obtain ⟨n1, rfl⟩ : ∃ j, n1 = j + 1 := ⟨n1 - 1, by omega⟩
    obtain ⟨n2, rfl⟩ : ∃ j, n2 = j + 1 := ⟨n2 - 1, by omega⟩
    have hJ' := hJ
    obtain ⟨⟨c6, c36, c35, cw, mm0, mm1⟩, hg, hs, he, hV⟩ := hJ
    have hk : k < m := by omega
    have s0 := sumZ_0 hg k (by omega)
    have sm := sumZ_0 hg m (Nat.le_refl _)
    have s1 := sumZ_m hg r (k + 1) (by omega)
    have s2 : sumZ g (k + 1) = sumZ g k + g k := rfl
    have gk := hg k (by omega) (by omega)
    obtain ⟨ek, p0, p14, p15, pg⟩ := he k hk
    have hke := hV k (by omega) (by omega)
    have len := ek.2.2.2.2.1
    have rk : r32 (k : Int) := by unfold r32; omega
    have rm : r32 (m : Int) := by unfold r32; omega
    rw [f_Part_writeNotes_12, if_pos h4, if_pos rk, c6, if_pos rm, if_neg (show ¬ (m : Int) ≤ k by omega), f_M_notes_22, if_pos w0, if_pos v0, if_pos rk, h12, if_pos rm, if_neg (show ¬ (m : Int) ≤ k by omega)]
    rcases hN with ⟨c, hN, hL⟩ | hX
    case inr =>
      rw [hX.2.1, if_pos (show r32 1 by decide), if_neg (show ¬ (1 : Int) = 0 by decide), hX.2.2, if_pos (show r32 801 by decide), if_pos (show (800 : Int) < 801 by decide)]
      exact P_wend (g := g) hK hKm h4 hp v0 w0 hn hd e4 e5 m4 m5 h7 sm hs (hW.1 m (Nat.le_refl _) (Or.inl rfl)) s0 (by omega) hZ (Or.inr hX)
    rw [hN.2.2.1, if_pos (show r32 0 by decide), if_pos (show (0 : Int) = 0 from rfl), if_pos (show 0 ≤ (k : Int) ∧ (k : Int) < 200 by omega), if_pos hke, p0, pg, hN.2.2.2.1, if_pos (show r32 c by have := hN.1; unfold r32; omega), if_neg (show ¬ 800 < c by have := hN.1; omega), if_pos (show 0 ≤ 1000 * v + (k : Int) ∧ 1000 * v + (k : Int) < 4000 by omega), p14, p15, len.1, len.2.1, pg]
    have cb := C_bar (F := F) (B := B) hp e4 e5 hn hd
    unfold f_Part_cut f_M_pieces
    rw [if_pos hp, cb, zb_s]
    have W : zP (f_Part_cut_18 K K.1 0 (sumZ g k + g k) (sumZ g k) (barV n d) q p k F B) (f_M_pieces_16 Km Km (de (g k)) (nu (g k)) (de (sumZ g k)) (nu (sumZ g k)) w v k 1 Fm Bm) (fun _ F' B' _ Fm' Bm' => NO q v w m Z k True ((sumZ g k + g k) / barV n d) ((sumZ g k + g k) % barV n d) F B Fm Bm F' B' Fm' Bm') := by
      have hL' : LPe q k False (sumZ g k / barV n d) (sumZ g k % barV n d) B c := ⟨hL.1, Or.inr (Or.inl (by have := hL.2.2.1 trivial; omega)), False.elim, hL.2.2.2⟩
      by_cases z : F 1 (B 4 q 5 k) 5 = 0
      · have y1 := hW.1 k (by omega) (Or.inr z)
        have y2 := hW.2.1 k hk z
        obtain ⟨a, ha⟩ : ∃ a, sumZ g k = X5 * a := ⟨4 * (sumZ g k / 6350400), by rw [xa]; omega⟩
        obtain ⟨l, hl⟩ : ∃ l, g k = X5 * l := ⟨4 * (g k / 6350400), by rw [xa]; omega⟩
        have x1 := xa a
        have x2 := xa l
        have x3 := xa (512 / d * n)
        have x4 := xa (a + l)
        obtain ⟨dv1, md1⟩ := X5_dm (n := n) hd ha
        obtain ⟨dv2, md2⟩ := X5_dm (n := n) (P := sumZ g k + g k) (a := a + l) hd (by omega)
        have hL2 := hL'
        rw [dv1, md1] at hL2
        have q0 : 0 ≤ a / (512 / d * n) := Int.ediv_nonneg (by omega) (by omega)
        have ub : a + l ≤ (a / (512 / d * n) + ((100 : Nat) : Int)) * (512 / d * n) := by
          have : 100 * (512 / d * n) ≤ (a / (512 / d * n) + ((100 : Nat) : Int)) * (512 / d * n) := Int.mul_le_mul_of_nonneg_right (by omega) (by omega)
          omega
        have := P_cutP (K := K) (Km := Km) (m := m) (q := q) (p := p) (v := v) (w := w) (n := n) (d := d) (ev := k) (ro := if F 1 (B 4 q 5 k) 10 = 0 then 1 else 0) (t := a + l) hK hKm h4 hp v0 w0 hn hd (by omega) (by omega) (fun nb y n0 y0 y1 hh => hZ nb (X5 * y) n0 (clB_lt bv4 (by have x9 := xa y; have x8 := xa (nb * (512 / d * n)); rw [b5, show nb * (X5 * (512 / d * n)) = X5 * (nb * (512 / d * n)) by ac_rfl]; omega)) (by have x9 := xa y; omega) (by have x9 := xa y; omega)) 100 K.1 Km (cnt := 0) (a := a) (F := F) (B := B) (Fm := Fm) (Bm := Bm) (by omega) (by omega) (by omega) (Or.inr ub) (by decide) (by decide) (by omega) (by omega) e4 e5 m4 m5 (Or.inr ⟨k, rfl, hk, mm1, hke, z, (ek.2.2.2.2.2.2.1.2.2.1).mp z, ek.2.2.2.2.2.2.2.2.2.2.2.2.1.symm, ek.2.2.2.2.2.2.2.2.2.2.2.2.2.1, rfl⟩) (Or.inl ⟨c, hN, hL2⟩)
        rw [show a + l - a = l by omega, show X5 * (a + l) = X5 * a + X5 * l by omega, ← ha, ← hl, ← b5] at this
        exact zP_m this (fun _ _ _ _ _ _ h => NO_m h (fun _ => Or.inr (by omega)) (Or.inr ⟨dv2.symm, by rw [md2]; exact Int.le_refl _⟩))
      · obtain ⟨j1, hj1⟩ : ∃ j, K.1 = j + 1 + 1 := ⟨K.1 - 2, by omega⟩
        obtain ⟨j2, hj2⟩ : ∃ j, Km = j + 1 + 1 := ⟨Km - 2, by omega⟩
        have := P_cutT (K := K) (Km := Km) (m := m) (n1 := j1) (n2 := j2) (i := k) (q := q) (p := p) (v := v) (w := w) (n := n) (d := d) (P := sumZ g k) (F := F) (B := B) (Fm := Fm) (Bm := Bm) hK hKm h4 v0 w0 hn hd m4 m5 hk mm1 hke ek z s0 (by rw [pg]; omega) (by rw [pg]; exact hW.2.2.1 k hk z) (fun y y0 y1 => by
          have hw := hW.2.2.1 k hk z
          rw [pg] at y1
          have r1 := Int.ediv_mul_add_emod (sumZ g k) (barV n d)
          have r2 : (sumZ g k / barV n d + 1) * barV n d = sumZ g k / barV n d * barV n d + barV n d := by rw [Int.add_mul, Int.one_mul]
          exact hZ _ y (Int.ediv_nonneg s0 (by omega)) (clB_lt bv4 (by omega)) y0 (by omega)) (Or.inl ⟨c, hN, hL'⟩)
        rw [pg, ← hj1, show f_M_pieces_16 Km (j2 + 1 + 1) = f_M_pieces_16 Km Km by rw [← hj2]] at this
        exact this
    obtain ⟨r1, F1, B1, r1', Fm1, Bm1, y1, y2, o1, o2, o3, o4, o5⟩ := W
    rw [y1, y2, zb_s, zb_s, o4 13 w 14 _ (by omega) (by omega), o4 13 w 15 _ (by omega) (by omega), o4 13 w 16 _ (by omega) (by omega), o4 13 w 17 _ (by omega) (by omega), p14, p15, len.1, len.2.1, pg, L_plusR (by omega) (FR_r s0) (FR_r (by omega)) (by omega), zb_s, fr_0, fr_1, ← s2]
    have o3' : nG Fm (fr Fm1 (sumZ g (k + 1))) := nG_t o3 (fun c y k h => fr_n (by omega))
    obtain ⟨F', B', Fm', Bm', r', z1, z2, z3, z4, z5, z6, z7⟩ := ih n1 n2 (k + 1) (F := F1) (B := B1) (Fm := fr Fm1 (sumZ g (k + 1))) (Bm := Bm1) (by omega) (by omega) (by omega) (by rw [o1 6 p 4 (by omega)]; exact e4) (by rw [o1 6 p 5 (by omega)]; exact e5) (by rw [o3' 13 w 4 (by omega)]; exact m4) (by rw [o3' 13 w 5 (by omega)]; exact m5) (by rw [o4 13 w 12 v (by omega) (by omega)]; exact h12) (by rw [o1 4 q 7 (by omega)]; exact h7) (JS_n hJ' o1 o2 (fun k h => o3' 14 0 k (by omega)) o4) (BW_n hW o1 o2) (by rw [show (((k + 1 : Nat) : Int) - 1) = (k : Int) by omega, s2]; exact o5)
    rw [show ((k + 1 : Nat) : Int) = (k : Int) + 1 by omega] at z1 z2
    exact ⟨F', B', Fm', Bm', r', z1, z2, nF_t o1 z3, nB_t o2 z4, nH_t (nH_g o3') z5, nM_t o4 z6, z7⟩
theorem P_writeN {K : zK} {Km m : Nat} {Z : Int → Int → Prop} {q p v w n d : Int} {g : Int → Int} {F : zF} {B : zB} {Fm : zF} {Bm : zB} (hK : 3002 ≤ K.1) (hKm : 70000000000 < Km) (h4 : 0 ≤ q ∧ q < K.2 4) (hp : 0 ≤ p ∧ p < K.2 6) (v0 : 0 ≤ v ∧ v < 4) (w0 : 0 ≤ w ∧ w < 3) (hn : 1 ≤ n ∧ n ≤ 12) (hd : d = 2 ∨ d = 4 ∨ d = 8 ∨ d = 16) (e4 : F 6 p 4 = n) (e5 : F 6 p 5 = d) (m4 : Fm 13 w 4 = n) (m5 : Fm 13 w 5 = d) (h12 : Bm 13 w 12 v = m) (h7 : F 4 q 7 = sumZ g m) (hJ : JS K q v w m (barV n d) g F B Fm Bm) (hW : BW q m (barV n d) g F B) (hZ : ZG Z (barV n d) (clB (sumZ g m) (barV n d))) : ∃ F' B' Fm' Bm' r, f_Part_writeNotes K q p F B = f_Part_writeNotes_101 K q p F' B' ∧ f_M_notes Km w v 1 Fm Bm = some (r, Fm', Bm') ∧ NR K q v w m Z F B Fm Bm r F' B' Fm' Bm' := by
  have f0 : nF q F (zup3 (zup3 F 4 q 10 0) 4 q 11 0) := fun c y k h => by rw [zup3_v, if_neg (by omega), zup3_v, if_neg (by omega)]
  have b0 : nB q B B := fun _ _ _ _ _ => rfl
  have g0 : nG Fm (fr Fm 0) := fun c y k h => fr_n (by omega)
  have m0 : nM' v w Bm (zup4 Bm 13 w 13 v 0) := fun c y k x h h' => by rw [zup4_v, if_neg (by omega)]
  have mm : m ≤ 200 := hJ.1.2.2.2.2.2
  have N0 : NW q v w m Z 0 (zup3 (zup3 F 4 q 10 0) 4 q 11 0) B (zup4 Bm 13 w 13 v 0) := ⟨by decide, by rw [zup3_v, if_neg (by omega), zup3_v, if_pos (by omega)], by rw [zup3_v, if_pos (by omega)], by rw [zup4_v, if_pos (by omega)], fun i a b => by omega⟩
  obtain ⟨F', B', Fm', Bm', r, z1, z2, z3, z4, z5, z6, z7⟩ := P_wn (K := K) (Km := Km) (m := m) (q := q) (p := p) (v := v) (w := w) (n := n) (d := d) (g := g) hK hKm h4 hp v0 w0 hn hd hZ m K.1 Km 0 (F := zup3 (zup3 F 4 q 10 0) 4 q 11 0) (B := B) (Fm := fr Fm 0) (Bm := zup4 Bm 13 w 13 v 0) (by omega) (by omega) (by omega) (by rw [f0 6 p 4 (by omega)]; exact e4) (by rw [f0 6 p 5 (by omega)]; exact e5) (by rw [g0 13 w 4 (by omega)]; exact m4) (by rw [g0 13 w 5 (by omega)]; exact m5) (by rw [m0 13 w 12 v (by omega) (by omega)]; exact h12) (by rw [f0 4 q 7 (by omega)]; exact h7) (JS_n hJ f0 b0 (fun k h => g0 14 0 k (by omega)) m0) (BW_n hW f0 b0) (Or.inl ⟨0, N0, fun i a b => by omega, Or.inl (by unfold lE; rw [if_pos rfl]; decide), fun _ => by unfold lE; rw [if_pos rfl]; decide, fun h => absurd h (by decide)⟩)
  refine ⟨F', B', Fm', Bm', r, ?_, ?_, nF_t f0 z3, nB_t b0 z4, nH_t (nH_g g0) z5, nM_t m0 z6, z7⟩
  · unfold f_Part_writeNotes
    rw [if_pos h4]
    exact z1
  · unfold f_M_notes
    rw [if_pos w0, if_pos v0, L_isR (by omega) (p := 0) ⟨by decide, ⟨WW, by decide⟩, by decide, by decide⟩ (by decide), zb_s, ← z2, show sumZ g 0 = 0 from rfl, nd0.1, nd0.2]
    rfl
end
end
section
section
/-! ===== what the signs of a voice's notes come to: over its notes and events alone ===== -/
noncomputable abbrev zD := Nat → Int → Int → Int
/-- what the key does to a letter -/
noncomputable def kaV (f s : Int) : Int := if f ≤ 0 then (if -f ≤ 6 - (2 * s - 6) % 7 then 0 else -1) else (if f ≤ (2 * s - 6) % 7 then 0 else 1)
theorem kaV_b {f s : Int} : -1 ≤ kaV f s ∧ kaV f s ≤ 1 := by
  unfold kaV
  split
  · split <;> omega
  · split <;> omega
/-- the lowest line of a clef -/
noncomputable def lwV (c : Int) : Int := if c = 0 then 30 else if c = 1 then 18 else if c = 2 then 24 else 22
/-- the notes (0 event, 1 bar, 2 place, 3 form), the events (4 marks, 5 how many pitches, 6 steps, 7 alterations) and 8: how many notes, how many events, fifths, clef, beat -/
noncomputable def cD (q : Int) (F : zF) (B : zB) (fi be : Int) : zD := fun k i j =>
  if k ≤ 3 then (if 0 ≤ i ∧ i < F 4 q 10 then (if k = 0 then B 4 q 360 i else if k = 1 then B 4 q 361 i else if k = 2 then B 4 q 9 i else B 4 q 364 i) else 0)
  else if k ≤ 7 then (if 0 ≤ i ∧ i < F 4 q 6 then (if k = 4 then F 1 (B 4 q 5 i) 7 else if k = 5 then F 1 (B 4 q 5 i) 10 else if 0 ≤ j ∧ j < F 1 (B 4 q 5 i) 10 then (if k = 6 then B 1 (B 4 q 5 i) 12 j else B 1 (B 4 q 5 i) 13 j) else 0) else 0)
  else if i = 0 then F 4 q 10 else if i = 1 then F 4 q 6 else if i = 2 then fi else if i = 3 then F 4 q 1 else be
theorem cD_n {q fi be c i : Int} {F : zF} {B : zB} {D : zD} (hD : cD q F B fi be = D) (h10 : F 4 q 10 = c) (i0 : 0 ≤ i) (i1 : i < c) : D 0 i 0 = B 4 q 360 i ∧ D 1 i 0 = B 4 q 361 i ∧ D 2 i 0 = B 4 q 9 i ∧ D 3 i 0 = B 4 q 364 i := by
  have h : 0 ≤ i ∧ i < F 4 q 10 := by omega
  rw [← hD]
  simp [cD, h]
theorem cD_e {q fi be t : Int} {m : Nat} {F : zF} {B : zB} {D : zD} (hD : cD q F B fi be = D) (h6 : F 4 q 6 = m) (t0 : 0 ≤ t) (t1 : t < m) : D 4 t 0 = F 1 (B 4 q 5 t) 7 ∧ D 5 t 0 = F 1 (B 4 q 5 t) 10 ∧ ∀ j, 0 ≤ j → j < F 1 (B 4 q 5 t) 10 → D 6 t j = B 1 (B 4 q 5 t) 12 j ∧ D 7 t j = B 1 (B 4 q 5 t) 13 j := by
  have h : 0 ≤ t ∧ t < F 4 q 6 := by omega
  rw [← hD]
  refine ⟨by simp [cD, h], by simp [cD, h], fun j j0 j1 => ⟨by simp [cD, h, j0, j1], by simp [cD, h, j0, j1]⟩⟩
theorem cD_s {q fi be : Int} {F : zF} {B : zB} {D : zD} (hD : cD q F B fi be = D) : D 8 0 0 = F 4 q 10 ∧ D 8 1 0 = F 4 q 6 ∧ D 8 2 0 = fi ∧ D 8 3 0 = F 4 q 1 ∧ D 8 4 0 = be := by
  rw [← hD]
  simp [cD]
/-- whether note i is a rest; whether it goes on from the one before -/
noncomputable def rsN (D : zD) (i : Int) : Int := if D 0 i 0 < 0 then 1 else if D 5 (D 0 i 0) 0 = 0 then 1 else 0
noncomputable def coN (D : zD) (i : Int) : Int := if 0 < i ∧ i < D 8 0 0 ∧ D 0 i 0 = D 0 (i - 1) 0 then 1 else 0
theorem rsN_b {D : zD} {i : Int} : rsN D i = 0 ∨ rsN D i = 1 := by
  unfold rsN
  split
  · exact Or.inr rfl
  · split
    · exact Or.inr rfl
    · exact Or.inl rfl
theorem coN_b {D : zD} {i : Int} : coN D i = 0 ∨ coN D i = 1 := by
  unfold coN
  split
  · exact Or.inr rfl
  · exact Or.inl rfl
/-- which pitch of event t is (s, a), or -1 -/
noncomputable def fpD (D : zD) (t s a : Int) : Int := fP (D 6 t) (D 7 t) (D 5 t 0) s a 7 0
theorem fpD_c {q fi be t s a : Int} {m : Nat} {F : zF} {B : zB} {D : zD} (hD : cD q F B fi be = D) (h6 : F 4 q 6 = m) (t0 : 0 ≤ t) (t1 : t < m) : fpD D t s a = fP (B 1 (B 4 q 5 t) 12) (B 1 (B 4 q 5 t) 13) (F 1 (B 4 q 5 t) 10) s a 7 0 := by
  obtain ⟨_, h2, h3⟩ := cD_e hD h6 t0 t1
  unfold fpD
  rw [h2]
  exact fP_c (fun j j0 j1 => h3 j j0 j1)
/-- which pitches of note i are held into the next -/
noncomputable def hbN (D : zD) (i k : Int) : Bool := decide (coN D (i + 1) = 1 ∨ (¬ zand (D 4 (D 0 i 0) 0) 1 = 0 ∧ D 0 i 0 + 1 < D 8 1 0 ∧ 0 ≤ fpD D (D 0 i 0 + 1) (D 6 (D 0 i 0) k) (D 7 (D 0 i 0) k)))
noncomputable def hdN (D : zD) (i : Int) : Int := if rsN D i = 1 then 0 else shM (hbN D i) (D 5 (D 0 i 0) 0).toNat
theorem shM_c {h h' : Int → Bool} : ∀ (n : Nat), (∀ j : Int, 0 ≤ j → j < n → h j = h' j) → shM h n = shM h' n := by
  intro n
  induction n with
  | zero => intro _; rfl
  | succ n ih =>
    intro e
    rw [shM, shM, ih (fun j a b => e j a (by omega)), e n (by omega) (by omega)]
theorem shM_1 : ∀ k : Fin 7, shM (fun _ => true) k.val = zshl 1 (k.val : Int) - 1 := by decide +kernel
/-- whether pitch k of event t comes tied -/
noncomputable def tdN (D : zD) (t k : Int) : Int := if 0 < t ∧ ¬ zand (D 4 (t - 1) 0) 1 = 0 ∧ 0 ≤ fpD D (t - 1) (D 6 t k) (D 7 t k) then 1 else 0
/-- what is known, and the signs, behind the first k pitches of event t -/
noncomputable def acS (D : zD) (t : Int) (f : Int → Int) : Nat → (Int → Int) × Int
  | 0 => (f, 0)
  | k + 1 => if tdN D t k = 1 ∨ (acS D t f k).1 (D 6 t k) = D 7 t k then acS D t f k else ((fun s => if s = D 6 t k then D 7 t k else (acS D t f k).1 s), (acS D t f k).2 + 2 ^ k)
theorem acS_b {D : zD} {t : Int} {f : Int → Int} : ∀ k : Nat, 0 ≤ (acS D t f k).2 ∧ (acS D t f k).2 < 2 ^ k := by
  intro k
  induction k with
  | zero => exact ⟨Int.le_refl _, by show (0 : Int) < 2 ^ 0; decide⟩
  | succ k ih =>
    have p : (2 : Int) ^ (k + 1) = 2 ^ k * 2 := Int.pow_succ 2 k
    have q : (0 : Int) < 2 ^ k := Int.pow_pos (by decide)
    rw [acS, p]
    split
    · omega
    · show 0 ≤ (acS D t f k).2 + 2 ^ k ∧ (acS D t f k).2 + 2 ^ k < 2 ^ k * 2
      omega
noncomputable def kyN (D : zD) (s : Int) : Int := kaV (D 8 2 0) (s % 7)
/-- one note: what is known behind it, and its signs -/
noncomputable def stN (D : zD) (i : Int) (f : Int → Int) : (Int → Int) × Int := if rsN D i = 1 ∨ coN D i = 1 then (f, 0) else acS D (D 0 i 0) f (D 5 (D 0 i 0) 0).toNat
/-- a bar begins with what the key says -/
noncomputable def kbN (D : zD) (i : Int) (f : Int → Int) : Int → Int := if i = 0 ∨ ¬ D 1 i 0 = D 1 (i - 1) 0 then kyN D else f
noncomputable def knN (D : zD) : Nat → Int → Int
  | 0 => kyN D
  | n + 1 => (stN D n (kbN D n (knN D n))).1
noncomputable def acN (D : zD) (i : Int) : Int := (stN D i (kbN D i (knN D i.toNat))).2
/-- heights over the lowest line -/
noncomputable def loN (D : zD) (i : Int) : Int := D 6 (D 0 i 0) 0 - lwV (D 8 3 0)
noncomputable def hiN (D : zD) (i : Int) : Int := D 6 (D 0 i 0) (D 5 (D 0 i 0) 0 - 1) - lwV (D 8 3 0)
noncomputable def lgN (D : zD) (i : Int) : Int := if rsN D i = 1 then 0 else (if 8 < hiN D i then (hiN D i - 8) / 2 else 0) + (if loN D i < 0 then (-loN D i) / 2 else 0)
/-- beams: whether a note has one, whether two stand under one -/
noncomputable def bmN (D : zD) (i : Int) : Int := if rsN D i = 1 then 0 else if D 3 i 0 < 3 then 0 else 1
noncomputable def tgN (D : zD) (i j : Int) : Int := if bmN D i = 1 ∧ bmN D j = 1 ∧ D 1 i 0 = D 1 j 0 ∧ D 2 i 0 / D 8 4 0 = D 2 j 0 / D 8 4 0 then 1 else 0
theorem tgN_1 {D : zD} {i j : Int} : tgN D i j = 1 ↔ (bmN D i = 1 ∧ bmN D j = 1 ∧ D 1 i 0 = D 1 j 0 ∧ D 2 i 0 / D 8 4 0 = D 2 j 0 / D 8 4 0) := by
  unfold tgN
  by_cases z : bmN D i = 1 ∧ bmN D j = 1 ∧ D 1 i 0 = D 1 j 0 ∧ D 2 i 0 / D 8 4 0 = D 2 j 0 / D 8 4 0
  · rw [if_pos z]; exact ⟨fun _ => z, fun _ => rfl⟩
  · rw [if_neg z]; exact ⟨fun h => absurd h (by decide), fun h => absurd h z⟩
theorem tgN_t {D : zD} {i j k : Int} (h : tgN D i j = 1) : tgN D j k = 1 ↔ tgN D i k = 1 := by
  obtain ⟨h1, h2, h3, h4⟩ := tgN_1.mp h
  rw [tgN_1, tgN_1, h1, h2, h3, h4]
/-- where the group from i on ends -/
noncomputable def geN (D : zD) (i : Int) : Nat → Int → Int
  | 0, e => e
  | n + 1, e => if e < D 8 0 0 ∧ tgN D i e = 1 then geN D i n (e + 1) else e
noncomputable def ge1 (D : zD) (i : Int) : Int := geN D i (D 8 0 0).toNat (i + 1)
/-- the group of note k: first, behind the last, number -/
noncomputable def fgN (D : zD) (k : Int) : Nat → Int → Int → Int × Int × Int
  | 0, i, g => (i, i, g)
  | n + 1, i, g => if k < ge1 D i then (i, ge1 D i, g) else fgN D k n (ge1 D i) (g + if 1 < ge1 D i - i then 1 else 0)
noncomputable def gpN (D : zD) (k : Int) : Int × Int × Int := fgN D k ((D 8 0 0).toNat + 1) 0 0
noncomputable def grpN (D : zD) (k : Int) : Int := if 1 < (gpN D k).2.1 - (gpN D k).1 then (gpN D k).2.2 else -1
noncomputable def bsN (D : zD) (k : Int) : Int := if k + 1 < (gpN D k).2.1 then (if D 3 k 0 < D 3 (k + 1) 0 then D 3 k 0 else D 3 (k + 1) 0) - 2 else 0
/-- the sum of heights of d notes from i on -/
noncomputable def suN (D : zD) (i : Int) : Nat → Int
  | 0 => 0
  | d + 1 => suN D i d + (if rsN D (i + d) = 1 then 0 else loN D (i + d) + hiN D (i + d) - 8)
noncomputable def smN (D : zD) (k : Int) : Int := if rsN D k = 1 ∨ D 3 k 0 = 0 then 0 else if suN D (gpN D k).1 ((gpN D k).2.1 - (gpN D k).1).toNat < 0 then 1 else 2
/-- a voice's rows of signs are those -/
noncomputable def GSD (q : Int) (D : zD) (B : zB) : Prop := ∀ i, 0 ≤ i → i < D 8 0 0 → B 4 q 366 i = hdN D i ∧ B 4 q 367 i = acN D i ∧ B 4 q 368 i = lgN D i ∧ B 4 q 369 i = grpN D i ∧ B 4 q 370 i = bsN D i ∧ B 4 q 371 i = smN D i
end
end
section
section
/-! ===== the class's notes: what is made of them returns ===== -/
/-- what stands of a voice's notes and events -/
noncomputable def QN (K : zK) (q : Int) (m : Nat) (c : Int) (F : zF) (B : zB) : Prop := (0 ≤ q ∧ q < K.2 4) ∧ (F 4 q 6 = m ∧ m ≤ 200) ∧ (F 4 q 10 = c ∧ 0 ≤ c ∧ c ≤ 800) ∧ (0 ≤ F 4 q 1 ∧ F 4 q 1 < 4) ∧ (∀ i, 0 ≤ i → i < c → (-1 ≤ B 4 q 360 i ∧ B 4 q 360 i < m) ∧ (0 ≤ B 4 q 361 i ∧ B 4 q 361 i ≤ 100) ∧ (0 ≤ B 4 q 9 i ∧ B 4 q 9 i ≤ 1000000000000) ∧ (0 ≤ B 4 q 364 i ∧ B 4 q 364 i ≤ 9)) ∧ (∀ t : Int, 0 ≤ t → t < m → (0 ≤ B 4 q 5 t ∧ B 4 q 5 t < K.2 1) ∧ (0 ≤ F 1 (B 4 q 5 t) 7 ∧ F 1 (B 4 q 5 t) 7 < 128) ∧ (0 ≤ F 1 (B 4 q 5 t) 10 ∧ F 1 (B 4 q 5 t) 10 ≤ 6) ∧ ∀ k, 0 ≤ k → k < F 1 (B 4 q 5 t) 10 → (0 ≤ B 1 (B 4 q 5 t) 12 k ∧ B 1 (B 4 q 5 t) 12 k ≤ 62) ∧ (-2 ≤ B 1 (B 4 q 5 t) 13 k ∧ B 1 (B 4 q 5 t) 13 k ≤ 2)) ∧ (∀ s, 0 ≤ s → s < 63 → r32 (B 4 q 12 s))
/-- what making changes -/
noncomputable def qB (q : Int) (B B' : zB) : Prop := ∀ c y k x, ¬ (c = 4 ∧ y = q ∧ (k = 12 ∨ 366 ≤ k)) → B' c y k x = B c y k x
theorem qB_r {q : Int} {B : zB} : qB q B B := fun _ _ _ _ _ => rfl
theorem qB_t {q : Int} {B B1 B2 : zB} (h : qB q B B1) (h' : qB q B1 B2) : qB q B B2 := fun c y k x n => by rw [h' c y k x n, h c y k x n]
theorem QN_f {K : zK} {q c : Int} {m : Nat} {F : zF} {B B' : zB} (h : QN K q m c F B) (f : qB q B B') (r12 : ∀ s, 0 ≤ s → s < 63 → r32 (B' 4 q 12 s)) : QN K q m c F B' := by
  obtain ⟨a1, a2, a3, a4, a5, a6, _⟩ := h
  refine ⟨a1, a2, a3, a4, fun i u t => ?_, fun t u s => ?_, r12⟩
  · rw [f 4 q 360 i (by omega), f 4 q 361 i (by omega), f 4 q 9 i (by omega), f 4 q 364 i (by omega)]
    exact a5 i u t
  · rw [f 4 q 5 t (by omega)]
    obtain ⟨b1, b2, b3, b4⟩ := a6 t u s
    refine ⟨b1, b2, b3, fun k x y => ?_⟩
    rw [f 1 _ 12 k (by omega), f 1 _ 13 k (by omega)]
    exact b4 k x y
theorem QN_w {K : zK} {q c : Int} {m : Nat} {F : zF} {B : zB} {k : Nat} {i x : Int} (h : QN K q m c F B) (hk : 366 ≤ k) : QN K q m c F (zup4 B 4 q k i x) ∧ qB q B (zup4 B 4 q k i x) := by
  have f : qB q B (zup4 B 4 q k i x) := fun c y k x n => by rw [zup4_v, if_neg (by omega)]
  exact ⟨QN_f h f (fun s a b => by rw [zup4_v, if_neg (by omega)]; exact h.2.2.2.2.2.2 s a b), f⟩
/-- rows behind 366 that are numbers stay so -/
noncomputable def qR (q : Int) (B B' : zB) : Prop := ∀ k x, 366 ≤ k → r32 (B 4 q k x) → r32 (B' 4 q k x)
theorem qR_r {q : Int} {B : zB} : qR q B B := fun _ _ _ h => h
theorem qR_t {q : Int} {B B1 B2 : zB} (h : qR q B B1) (h' : qR q B1 B2) : qR q B B2 := fun k x n z => h' k x n (h k x n z)
theorem qR_w {q : Int} {B : zB} {k : Nat} {i x : Int} (hx : r32 x) : qR q B (zup4 B 4 q k i x) := fun k' x' _ z => by
  rw [zup4_v]
  split
  · exact hx
  · exact z
theorem qR_q {q : Int} {B B' : zB} (h : ∀ k x, 366 ≤ k → B' 4 q k x = B 4 q k x) : qR q B B' := fun k x n z => by rw [h k x n]; exact z
theorem C_rn {K : zK} {q c i : Int} {m : Nat} {F : zF} {B : zB} (h : QN K q m c F B) (i0 : 0 ≤ i) (i1 : i < c) : ∃ r, f_Part_isRestNote K q i F B = some (r, F, B) ∧ (r = 0 ∨ r = 1) ∧ (r = 0 → 0 ≤ B 4 q 360 i ∧ B 4 q 360 i < m ∧ 1 ≤ F 1 (B 4 q 5 (B 4 q 360 i)) 10) := by
  obtain ⟨h4, ⟨h6, m1⟩, ⟨h10, c0, c1⟩, hc, hn, he, _⟩ := h
  obtain ⟨n1, n2, n3, n4⟩ := hn i i0 i1
  unfold f_Part_isRestNote f_Part_isRestNote_33 f_Part_isRestNote_38
  rw [if_pos h4, if_pos (by omega), if_pos (by unfold r32; omega)]
  by_cases z : B 4 q 360 i < 0
  · rw [if_pos z, if_pos (Or.inr rfl)]
    exact ⟨1, rfl, Or.inr rfl, fun y => absurd y (by decide)⟩
  obtain ⟨e1, e2, e3, e4⟩ := he (B 4 q 360 i) (by omega) n1.2
  rw [if_neg z, h6, if_pos (by unfold r32; omega), if_neg (by omega), if_pos (by omega), if_pos e1, if_pos (by unfold r32; omega)]
  by_cases y : F 1 (B 4 q 5 (B 4 q 360 i)) 10 = 0
  · rw [if_pos y, if_pos (Or.inr rfl)]
    exact ⟨1, rfl, Or.inr rfl, fun y => absurd y (by decide)⟩
  · rw [if_neg y, if_pos (Or.inl rfl)]
    exact ⟨0, rfl, Or.inl rfl, fun _ => ⟨by omega, n1.2, by omega⟩⟩
theorem C_ct {K : zK} {q c i : Int} {m : Nat} {F : zF} {B : zB} (h : QN K q m c F B) (i0 : 0 ≤ i) (i1 : i ≤ 800) : ∃ r, f_Part_continues K q i F B = some (r, F, B) ∧ (r = 0 ∨ r = 1) := by
  obtain ⟨h4, ⟨h6, m1⟩, ⟨h10, c0, c1⟩, hc, hn, he, _⟩ := h
  unfold f_Part_continues f_Part_continues_37 f_Part_continues_38
  rw [if_pos (by unfold r32; omega)]
  by_cases z : i ≤ 0
  · rw [if_pos z, if_pos (Or.inl rfl)]; exact ⟨0, rfl, Or.inl rfl⟩
  rw [if_neg z, if_pos h4, h10, if_pos (by unfold r32; omega)]
  by_cases y : c ≤ i
  · rw [if_pos y, if_pos (Or.inl rfl)]; exact ⟨0, rfl, Or.inl rfl⟩
  have a := hn i (by omega) (by omega)
  have b := hn (i - 1) (by omega) (by omega)
  rw [if_neg y, if_pos (by omega), if_pos (by omega), if_pos (by unfold r32; omega), if_pos (by unfold r32; omega)]
  by_cases x : B 4 q 360 i = B 4 q 360 (i - 1)
  · rw [if_pos x, if_pos (Or.inr rfl)]; exact ⟨1, rfl, Or.inr rfl⟩
  · rw [if_neg x, if_pos (Or.inl rfl)]; exact ⟨0, rfl, Or.inl rfl⟩
theorem C_tp {K : zK} {q c t : Int} {m : Nat} {F : zF} {B : zB} (hK : 3002 ≤ K.1) (h : QN K q m c F B) (t0 : 0 ≤ t) (t1 : t < m) : ∃ r, f_Part_tiedPitches K q t F B = some (r, F, B) ∧ 0 ≤ r ∧ r < 64 := by
  obtain ⟨h4, ⟨h6, m1⟩, _, hc, hn, he, _⟩ := h
  obtain ⟨e1, e2, e3, e4⟩ := he t t0 t1
  unfold f_Part_tiedPitches f_Part_tiedPitches_27
  rw [if_pos (by unfold r32; omega), if_neg (by omega), if_pos h4, if_pos (by unfold r32; omega), h6, if_pos (by unfold r32; omega)]
  by_cases z : (m : Int) ≤ t + 1
  · rw [if_pos z]; exact ⟨0, rfl, by decide, by decide⟩
  obtain ⟨d1, d2, d3, d4⟩ := he (t + 1) (by omega) (by omega)
  rw [if_neg z, if_pos (by omega), if_pos e1, C_has e1, zb_s]
  by_cases y : zand (F 1 (B 4 q 5 t) 7) 1 = 0
  · rw [if_pos y, if_pos (by decide), if_pos rfl]; exact ⟨0, rfl, by decide, by decide⟩
  · have sh := C_shared (K := K) (F := F) (B := B) hK e1 d1 rfl e3 rfl d3 (fun k u s => by have := e4 k u s; unfold r32; omega) (fun k u s => by have := d4 k u s; unfold r32; omega)
    have sb := shM_b (h := shB (B 4 q 5 t) (B 4 q 5 (t + 1)) (F 1 (B 4 q 5 (t + 1)) 10) B) (F 1 (B 4 q 5 t) 10).toNat
    have p64 : (2 : Int) ^ (F 1 (B 4 q 5 t) 10).toNat ≤ 64 := by
      obtain ⟨k, hk⟩ : ∃ k : Nat, F 1 (B 4 q 5 t) 10 = k := ⟨(F 1 (B 4 q 5 t) 10).toNat, by omega⟩
      have : k = 0 ∨ k = 1 ∨ k = 2 ∨ k = 3 ∨ k = 4 ∨ k = 5 ∨ k = 6 := by omega
      rw [hk]
      rcases this with rfl | rfl | rfl | rfl | rfl | rfl | rfl <;> decide
    rw [if_neg y, if_pos (by decide), if_neg (by decide), if_pos (by omega), if_pos e1, if_pos d1, sh, zb_s]
    exact ⟨_, rfl, sb.1, by omega⟩
theorem C_hold {K : zK} {q c : Int} {m : Nat} {F : zF} (hK : 3002 ≤ K.1) : ∀ (r n : Nat) {i : Int} {B : zB}, 0 ≤ i → i + r = c → r < n → QN K q m c F B → ∃ B', f_Part_hold_2 K n i q F B = some (0, F, B') ∧ qB q B B' ∧ QN K q m c F B' ∧ qR q B B' ∧ ∀ j, i ≤ j → j < c → r32 (B' 4 q 366 j) := by
  intro r
  induction r with
  | zero =>
    intro n i B i0 ir hn h
    obtain ⟨n, rfl⟩ : ∃ k, n = k + 1 := ⟨n - 1, by omega⟩
    have h' := h
    obtain ⟨h4, ⟨h6, m1⟩, ⟨h10, c0, c1⟩, _⟩ := h
    rw [f_Part_hold_2, if_pos h4, if_pos (by unfold r32; omega), h10, if_pos (by unfold r32; omega), if_pos (by omega)]
    exact ⟨B, rfl, qB_r, h', qR_r, fun j a b => by omega⟩
  | succ r ih =>
    intro n i B i0 ir hn h
    obtain ⟨n, rfl⟩ : ∃ k, n = k + 1 := ⟨n - 1, by omega⟩
    have h' := h
    obtain ⟨h4, ⟨h6, m1⟩, ⟨h10, c0, c1⟩, hc, hno, he, _⟩ := h
    obtain ⟨r1, e1, z1, z2⟩ := C_rn h' i0 (by omega)
    rw [f_Part_hold_2, if_pos h4, if_pos (by unfold r32; omega), h10, if_pos (by unfold r32; omega), if_neg (by omega), if_pos (by omega), e1, zb_s]
    have go : ∀ x : Int, r32 x → ∃ B', f_Part_hold_89 (f_Part_hold_2 K n) K i q F (zup4 B 4 q 366 i x) = some (0, F, B') ∧ qB q B B' ∧ QN K q m c F B' ∧ qR q B B' ∧ ∀ j, i ≤ j → j < c → r32 (B' 4 q 366 j) := fun x hx => by
      obtain ⟨w1, w2⟩ := QN_w (k := 366) (i := i) (x := x) h' (by decide)
      obtain ⟨B', a, b, c, d, e⟩ := ih n (i := i + 1) (by omega) (by omega) (by omega) w1
      refine ⟨B', a, qB_t w2 b, c, qR_t (qR_w hx) d, fun j j0 j1 => ?_⟩
      by_cases ej : j = i
      · rw [ej]
        exact d 366 i (by decide) (by rw [zup4_v, if_pos ⟨rfl, rfl, rfl, rfl⟩]; exact hx)
      · exact e j (by omega) j1
    have sh : ∀ k : Fin 7, r32 (zshl 1 (k.val : Int) - 1) := by decide +kernel
    rcases z1 with rfl | rfl
    · obtain ⟨y1, y2, y3⟩ := z2 rfl
      obtain ⟨r2, e2, z3⟩ := C_ct h' (i := i + 1) (by omega) (by omega)
      rw [if_pos (by decide), if_pos rfl, e2, zb_s]
      rcases z3 with rfl | rfl
      · obtain ⟨r3, e3, b3⟩ := C_tp hK h' y1 y2
        rw [if_pos (by decide), if_pos rfl, e3, zb_s]
        exact go _ (by unfold r32; omega)
      · rw [if_pos (by decide), if_neg (by decide), if_pos (by omega), if_pos (he _ y1 y2).1]
        refine go _ ?_
        have y4 := (he _ y1 y2).2.2.1
        have z := sh ⟨(F 1 (B 4 q 5 (B 4 q 360 i)) 10).toNat, by omega⟩
        rw [show (((⟨(F 1 (B 4 q 5 (B 4 q 360 i)) 10).toNat, by omega⟩ : Fin 7).val : Nat) : Int) = F 1 (B 4 q 5 (B 4 q 360 i)) 10 by show (((F 1 (B 4 q 5 (B 4 q 360 i)) 10).toNat : Nat) : Int) = _; omega] at z
        exact z
    · rw [if_pos (by decide), if_neg (by decide)]
      exact go _ (by decide)
theorem zt8 : ztl 8 = 4 ∧ (∀ k : Fin 4, 0 ≤ ztv 8 (k.val : Int) ∧ ztv 8 (k.val : Int) ≤ 100) := by decide +kernel
theorem C_hts {K : zK} {q c i : Int} {m : Nat} {F : zF} {B : zB} (h : QN K q m c F B) (i0 : 0 ≤ i) (i1 : i < c) (y1 : 0 ≤ B 4 q 360 i) (y2 : B 4 q 360 i < m) (y3 : 1 ≤ F 1 (B 4 q 5 (B 4 q 360 i)) 10) : ∃ a b, f_Part_leastHeight K q i F B = some (a, F, B) ∧ f_Part_greatestHeight K q i F B = some (b, F, B) ∧ (-100 ≤ a ∧ a ≤ 62) ∧ (-100 ≤ b ∧ b ≤ 62) := by
  obtain ⟨h4, ⟨h6, m1⟩, ⟨h10, c0, c1⟩, hc, hno, he, _⟩ := h
  obtain ⟨e1, e2, e3, e4⟩ := he _ y1 y2
  have z := zt8.2 ⟨(F 4 q 1).toNat, by omega⟩
  rw [show (((⟨(F 4 q 1).toNat, by omega⟩ : Fin 4).val : Nat) : Int) = F 4 q 1 by show (((F 4 q 1).toNat : Nat) : Int) = F 4 q 1; omega] at z
  have zm : zmax (F 1 (B 4 q 5 (B 4 q 360 i)) 10 - 1) 0 = F 1 (B 4 q 5 (B 4 q 360 i)) 10 - 1 := by unfold zmax; split <;> omega
  have k0 := (e4 0 (by decide) (by omega)).1
  have k1 := (e4 (F 1 (B 4 q 5 (B 4 q 360 i)) 10 - 1) (by omega) (by omega)).1
  unfold f_Part_leastHeight f_Part_greatestHeight
  rw [if_pos h4, if_pos (by omega), if_pos (by omega), if_pos e1, zt8.1, if_pos hc, if_pos h4, if_pos (by omega), if_pos (by omega), if_pos e1, if_pos (by unfold r32; omega), zm, if_pos (by omega), if_pos hc]
  exact ⟨_, _, rfl, rfl, by omega, by omega⟩
theorem C_ledg {K : zK} {q c : Int} {m : Nat} {F : zF} : ∀ (r n : Nat) {i : Int} {B : zB}, 0 ≤ i → i + r = c → r < n → QN K q m c F B → ∃ B', f_Part_setLedgers_2 K n i q F B = some (0, F, B') ∧ qB q B B' ∧ QN K q m c F B' ∧ qR q B B' ∧ ∀ j, i ≤ j → j < c → r32 (B' 4 q 368 j) := by
  intro r
  induction r with
  | zero =>
    intro n i B i0 ir hn h
    obtain ⟨n, rfl⟩ : ∃ k, n = k + 1 := ⟨n - 1, by omega⟩
    have h' := h
    obtain ⟨h4, ⟨h6, m1⟩, ⟨h10, c0, c1⟩, _⟩ := h
    rw [f_Part_setLedgers_2, if_pos h4, if_pos (by unfold r32; omega), h10, if_pos (by unfold r32; omega), if_pos (by omega)]
    exact ⟨B, rfl, qB_r, h', qR_r, fun j a b => by omega⟩
  | succ r ih =>
    intro n i B i0 ir hn h
    obtain ⟨n, rfl⟩ : ∃ k, n = k + 1 := ⟨n - 1, by omega⟩
    have h' := h
    obtain ⟨h4, ⟨h6, m1⟩, ⟨h10, c0, c1⟩, hc, hno, he, _⟩ := h
    obtain ⟨r1, e1, z1, z2⟩ := C_rn h' i0 (by omega)
    have go : ∀ x : Int, r32 x → ∃ B', f_Part_setLedgers_52 (f_Part_setLedgers_2 K n) K x i q F B = some (0, F, B') ∧ qB q B B' ∧ QN K q m c F B' ∧ qR q B B' ∧ ∀ j, i ≤ j → j < c → r32 (B' 4 q 368 j) := fun x hx => by
      obtain ⟨w1, w2⟩ := QN_w (k := 368) (i := i) (x := x) h' (by decide)
      obtain ⟨B', a, b, c, d, e⟩ := ih n (i := i + 1) (by omega) (by omega) (by omega) w1
      refine ⟨B', ?_, qB_t w2 b, c, qR_t (qR_w hx) d, fun j j0 j1 => by
        by_cases ej : j = i
        · rw [ej]
          exact d 368 i (by decide) (by rw [zup4_v, if_pos ⟨rfl, rfl, rfl, rfl⟩]; exact hx)
        · exact e j (by omega) j1⟩
      unfold f_Part_setLedgers_52
      rw [if_pos h4, if_pos (by omega)]
      exact a
    rw [f_Part_setLedgers_2, if_pos h4, if_pos (by unfold r32; omega), h10, if_pos (by unfold r32; omega), if_neg (by omega), e1, zb_s]
    rcases z1 with rfl | rfl
    · obtain ⟨y1, y2, y3⟩ := z2 rfl
      obtain ⟨a, b, ea, eb, ba, bb⟩ := C_hts h' i0 (by omega) y1 y2 y3
      rw [if_pos (by decide), if_pos rfl, eb, zb_s, if_pos (by unfold r32; omega), ea, zb_s, if_pos (by unfold r32; omega)]
      refine go _ ?_
      have hz : ∀ t : Int, t ≤ 200 → 0 ≤ zdv (zmax t 0) 2 ∧ zdv (zmax t 0) 2 ≤ 100 := fun t ht => by
        have q0 : 0 ≤ zmax t 0 ∧ zmax t 0 ≤ 200 := by unfold zmax; split <;> omega
        rw [zdv_e q0.1 (by unfold r32; omega) (by decide) (by decide)]
        omega
      have h1 := hz (b - 8) (by omega)
      have h2 := hz (-a) (by omega)
      unfold r32
      omega
    · rw [if_pos (by decide), if_neg (by decide)]
      exact go 0 (by decide)
end
end
section
section
/-! ===== accidentals: they return ===== -/
theorem C_fm {K : zK} {s : Int} {F : zF} {B : zB} (h0 : 0 ≤ s) (h1 : s ≤ 62) : f_Math_floorMod K s 7 F B = some (s % 7, F, B) := by
  have h := nat_f ⟨s.toNat, by omega⟩
  rw [show (((⟨s.toNat, by omega⟩ : Fin 63).val : Nat) : Int) = s by show ((s.toNat : Nat) : Int) = s; omega] at h
  obtain ⟨x0, x1, d, r, t⟩ := h
  unfold f_Math_floorMod f_Math_floorMod_18
  rw [if_pos (iI_n0 (by decide) (by decide)), if_pos (by omega), if_pos x0, r]
theorem zt7 : ztl 7 = 7 ∧ (∀ k : Fin 7, 0 ≤ ztv 7 (k.val : Int) ∧ ztv 7 (k.val : Int) ≤ 100) := by decide +kernel
theorem C_key {K : zK} {f s : Int} {F : zF} {B : zB} (hf : -7 ≤ f ∧ f ≤ 7) (h0 : 0 ≤ s) (h1 : s ≤ 6) : ∃ r, f_S_keyAlteration K f s F B = some (r, F, B) ∧ (-1 ≤ r ∧ r ≤ 1) := by
  have z := zt7.2 ⟨s.toNat, by omega⟩
  rw [show (((⟨s.toNat, by omega⟩ : Fin 7).val : Nat) : Int) = s by show ((s.toNat : Nat) : Int) = s; omega] at z
  unfold f_S_keyAlteration f_S_keyAlteration_25 f_S_keyAlteration_40
  rw [C_fm h0 (by omega), zb_s, show s % 7 = s by omega, zt7.1, if_pos (by omega), if_pos (by unfold r32; omega)]
  by_cases c : f ≤ 0
  · rw [if_pos c, if_pos (by unfold r32; omega), if_pos (by unfold r32; omega)]
    by_cases y : -f ≤ 6 - ztv 7 s
    · rw [if_pos y]; exact ⟨0, rfl, by decide⟩
    · rw [if_neg y]; exact ⟨-1, rfl, by decide⟩
  · rw [if_neg c, if_pos (by unfold r32; omega)]
    by_cases y : f ≤ ztv 7 s
    · rw [if_pos y]; exact ⟨0, rfl, by decide⟩
    · rw [if_neg y]; exact ⟨1, rfl, by decide⟩
theorem C_tied {K : zK} {q c t k : Int} {m : Nat} {F : zF} {B : zB} (hK : 3002 ≤ K.1) (h : QN K q m c F B) (t0 : 0 ≤ t) (t1 : t < m) (k0 : 0 ≤ k) (k1 : k < F 1 (B 4 q 5 t) 10) : ∃ r, f_Part_isTiedFrom K q t k F B = some (r, F, B) ∧ (r = 0 ∨ r = 1) := by
  obtain ⟨h4, ⟨h6, m1⟩, _, hc, hn, he, _⟩ := h
  obtain ⟨e1, e2, e3, e4⟩ := he t t0 t1
  unfold f_Part_isTiedFrom f_Part_isTiedFrom_56 f_Part_isTiedFrom_57
  rw [if_pos h4, if_pos (by omega), if_pos (by unfold r32; omega)]
  by_cases z : t ≤ 0
  · rw [if_pos z, if_pos (Or.inl rfl)]; exact ⟨0, rfl, Or.inl rfl⟩
  obtain ⟨d1, d2, d3, d4⟩ := he (t - 1) (by omega) (by omega)
  rw [if_neg z, if_pos (by omega), if_pos d1, C_has d1, zb_s]
  by_cases y : zand (F 1 (B 4 q 5 (t - 1)) 7) 1 = 0
  · rw [if_pos y, if_pos (by decide), if_pos rfl, if_pos (Or.inl rfl)]; exact ⟨0, rfl, Or.inl rfl⟩
  · have ek := e4 k k0 k1
    rw [if_neg y, if_pos (by decide), if_neg (by decide), if_pos e1, if_pos (by omega), if_pos d1, C_hasP hK d1 rfl d3.2 d3.1 (fun j u s => by have := d4 j u s; unfold r32; omega) (by unfold r32; omega) (by unfold r32; omega), zb_s]
    by_cases x : fP (B 1 (B 4 q 5 (t - 1)) 12) (B 1 (B 4 q 5 (t - 1)) 13) (F 1 (B 4 q 5 (t - 1)) 10) (B 1 (B 4 q 5 t) 12 k) (B 1 (B 4 q 5 t) 13 k) 7 0 < 0
    · rw [if_pos x, if_pos (by decide), if_pos rfl, if_pos (Or.inl rfl)]; exact ⟨0, rfl, Or.inl rfl⟩
    · rw [if_neg x, if_pos (by decide), if_neg (by decide), if_pos (Or.inr rfl)]; exact ⟨1, rfl, Or.inr rfl⟩
theorem C_acc12 {K : zK} {q c t : Int} {m : Nat} {F : zF} (hK : 3002 ≤ K.1) (t0 : 0 ≤ t) (t1 : t < m) : ∀ (r n : Nat) {k x : Int} {B : zB}, 0 ≤ k → k + r = F 1 (B 4 q 5 t) 10 → r < n → r32 x → QN K q m c F B → ∃ y B', f_Part_accidentalsOf_12 K n k x (B 4 q 5 t) q t F B = some (y, F, B') ∧ qB q B B' ∧ QN K q m c F B' ∧ qR q B B' ∧ r32 y := by
  intro r
  induction r with
  | zero =>
    intro n k x B k0 kr hn rx h
    obtain ⟨n, rfl⟩ : ∃ j, n = j + 1 := ⟨n - 1, by omega⟩
    have h' := h
    obtain ⟨h4, ⟨h6, m1⟩, _, hc, hno, he, _⟩ := h
    obtain ⟨e1, e2, e3, e4⟩ := he t t0 t1
    rw [f_Part_accidentalsOf_12, if_pos e1, if_pos (by unfold r32; omega), if_pos (by unfold r32; omega), if_pos (by omega)]
    exact ⟨x, B, rfl, qB_r, h', qR_r, rx⟩
  | succ r ih =>
    intro n k x B k0 kr hn rx h
    obtain ⟨n, rfl⟩ : ∃ j, n = j + 1 := ⟨n - 1, by omega⟩
    have h' := h
    obtain ⟨h4, ⟨h6, m1⟩, _, hc, hno, he, h12⟩ := h
    obtain ⟨e1, e2, e3, e4⟩ := he t t0 t1
    obtain ⟨z, ez, zb⟩ := C_tied hK h' t0 t1 k0 (by omega)
    have ek := e4 k k0 (by omega)
    rw [f_Part_accidentalsOf_12, if_pos e1, if_pos (by unfold r32; omega), if_pos (by unfold r32; omega), if_neg (by omega), if_pos (by omega), if_pos h4, ez, zb_s]
    simp only [f_Part_accidentalsOf_78]
    rcases zb with rfl | rfl
    · rw [if_pos (by decide), if_pos rfl, if_pos (by omega), if_pos (h12 _ (by omega) (by omega)), if_pos (by unfold r32; omega)]
      by_cases y : B 4 q 12 (B 1 (B 4 q 5 t) 12 k) = B 1 (B 4 q 5 t) 13 k
      · rw [if_pos y]
        exact ih n (k := k + 1) (by omega) (by omega) (by omega) rx h'
      · rw [if_neg y]
        generalize hC : zup4 B 4 q 12 (B 1 (B 4 q 5 t) 12 k) (B 1 (B 4 q 5 t) 13 k) = C
        have f : qB q B C := fun d y j s nn => by rw [← hC, zup4_v, if_neg (by omega)]
        have hC' : QN K q m c F C := QN_f h' f (fun s a b => by
          rw [← hC, zup4_v]
          split
          · unfold r32; omega
          · exact h12 s a b)
        have e5 : C 4 q 5 t = B 4 q 5 t := f 4 q 5 t (by omega)
        obtain ⟨y', B', g1, g2, g3, g4, g5⟩ := ih n (k := k + 1) (x := zor x (zshl 1 k)) (B := C) (by omega) (by rw [e5]; omega) (by omega) (toI_r _) hC'
        rw [e5] at g1
        exact ⟨y', B', g1, qB_t f g2, g3, qR_t (qR_q (fun k x n => by rw [← hC, zup4_v, if_neg (by omega)])) g4, g5⟩
    · rw [if_pos (by decide), if_neg (by decide)]
      exact ih n (k := k + 1) (by omega) (by omega) (by omega) rx h'
theorem C_acc36 {K : zK} {q c f i b : Int} {m : Nat} {F : zF} {rec : Int → Int → Int → Int → zF → zB → zO} (hf : -7 ≤ f ∧ f ≤ 7) : ∀ (r n : Nat) {s : Int} {B : zB}, 0 ≤ s → s + r = 63 → r < n → QN K q m c F B → ∃ B', f_Part_setAccidentals_36 rec K n s b i q f F B = f_Part_setAccidentals_65 rec K i b q f F B' ∧ qB q B B' ∧ QN K q m c F B' ∧ qR q B B' := by
  intro r
  induction r with
  | zero =>
    intro n s B s0 sr hn h
    obtain ⟨n, rfl⟩ : ∃ j, n = j + 1 := ⟨n - 1, by omega⟩
    rw [f_Part_setAccidentals_36, if_pos (by unfold r32; omega), if_pos (by omega)]
    exact ⟨B, rfl, qB_r, h, qR_r⟩
  | succ r ih =>
    intro n s B s0 sr hn h
    obtain ⟨n, rfl⟩ : ∃ j, n = j + 1 := ⟨n - 1, by omega⟩
    have h' := h
    obtain ⟨h4, _, _, _, _, _, h12⟩ := h
    have m1 := Int.emod_nonneg s (show (7 : Int) ≠ 0 by decide)
    have m2 := Int.emod_lt_of_pos s (show (0 : Int) < 7 by decide)
    obtain ⟨z, ez, zb⟩ := C_key (K := K) (F := F) (B := B) hf (s := s % 7) m1 (by omega)
    rw [f_Part_setAccidentals_36, if_pos (by unfold r32; omega), if_neg (by omega), if_pos h4, zrm_e s0 (by unfold r32; omega) (by decide) (by decide), ez, zb_s, if_pos (by omega)]
    generalize hC : zup4 B 4 q 12 s z = C
    have f' : qB q B C := fun d y j s nn => by rw [← hC, zup4_v, if_neg (by omega)]
    have hC' : QN K q m c F C := QN_f h' f' (fun s a b => by
      rw [← hC, zup4_v]
      split
      · unfold r32; omega
      · exact h12 s a b)
    obtain ⟨B', g1, g2, g3, g4⟩ := ih n (s := s + 1) (B := C) (by omega) (by omega) (by omega) hC'
    exact ⟨B', g1, qB_t f' g2, g3, qR_t (qR_q (fun k x n => by rw [← hC, zup4_v, if_neg (by omega)])) g4⟩
theorem C_acc {K : zK} {q c f : Int} {m : Nat} {F : zF} (hK : 3002 ≤ K.1) (hf : -7 ≤ f ∧ f ≤ 7) : ∀ (r n : Nat) {i b : Int} {B : zB}, 0 ≤ i → i + r = c → r < n → r32 b → QN K q m c F B → ∃ B', f_Part_setAccidentals_4 K n i b q f F B = some (0, F, B') ∧ qB q B B' ∧ QN K q m c F B' ∧ qR q B B' ∧ ∀ j, i ≤ j → j < c → r32 (B' 4 q 367 j) := by
  intro r
  induction r with
  | zero =>
    intro n i b B i0 ir hn rb h
    obtain ⟨n, rfl⟩ : ∃ k, n = k + 1 := ⟨n - 1, by omega⟩
    have h' := h
    obtain ⟨h4, ⟨h6, m1⟩, ⟨h10, c0, c1⟩, _⟩ := h
    rw [f_Part_setAccidentals_4, if_pos h4, if_pos (by unfold r32; omega), h10, if_pos (by unfold r32; omega), if_pos (by omega)]
    exact ⟨B, rfl, qB_r, h', qR_r, fun j a b => by omega⟩
  | succ r ih =>
    intro n i b B i0 ir hn rb h
    obtain ⟨n, rfl⟩ : ∃ k, n = k + 1 := ⟨n - 1, by omega⟩
    -- one note
    have note : ∀ (b' : Int) (C : zB), r32 b' → QN K q m c F C → ∃ B', f_Part_setAccidentals_65 (f_Part_setAccidentals_4 K n) K i b' q f F C = some (0, F, B') ∧ qB q C B' ∧ QN K q m c F B' ∧ qR q C B' ∧ ∀ j, i ≤ j → j < c → r32 (B' 4 q 367 j) := by
      intro b' C rb' hC
      have hC' := hC
      obtain ⟨h4, ⟨h6, m1⟩, ⟨h10, c0, c1⟩, hc, hno, he, _⟩ := hC
      have put : ∀ (x : Int) (D : zB), r32 x → QN K q m c F D → qB q C D → qR q C D → ∃ B', f_Part_setAccidentals_117 (f_Part_setAccidentals_4 K n) K i b' q f q i x F D = some (0, F, B') ∧ qB q C B' ∧ QN K q m c F B' ∧ qR q C B' ∧ ∀ j, i ≤ j → j < c → r32 (B' 4 q 367 j) := fun x D hx hD fD rD => by
        obtain ⟨w1, w2⟩ := QN_w (k := 367) (i := i) (x := x) hD (by decide)
        obtain ⟨B', g1, g2, g3, g4, g5⟩ := ih n (i := i + 1) (b := b') (by omega) (by omega) (by omega) rb' w1
        refine ⟨B', ?_, qB_t fD (qB_t w2 g2), g3, qR_t rD (qR_t (qR_w hx) g4), fun j j0 j1 => by
          by_cases ej : j = i
          · rw [ej]
            exact g4 367 i (by decide) (by rw [zup4_v, if_pos ⟨rfl, rfl, rfl, rfl⟩]; exact hx)
          · exact g5 j (by omega) j1⟩
        unfold f_Part_setAccidentals_117
        rw [if_pos h4, if_pos (by omega)]
        exact g1
      obtain ⟨r1, e1, z1, z2⟩ := C_rn hC' i0 (by omega)
      unfold f_Part_setAccidentals_65 f_Part_setAccidentals_85 f_Part_setAccidentals_86
      rw [if_pos h4, e1, zb_s]
      rcases z1 with rfl | rfl
      · obtain ⟨y1, y2, y3⟩ := z2 rfl
        obtain ⟨r2, e2, z3⟩ := C_ct hC' i0 (by omega)
        rw [if_pos (show r32 0 by decide), if_pos (show (0 : Int) = 0 from rfl), e2, zb_s]
        rcases z3 with rfl | rfl
        · obtain ⟨y', D, g1, g2, g3, g4, g5⟩ := C_acc12 hK y1 y2 (F 1 (C 4 q 5 (C 4 q 360 i)) 10).toNat K.1 (k := 0) (x := 0) (B := C) (by decide) (by have := (he _ y1 y2).2.2.1; omega) (by have := (he _ y1 y2).2.2.1; omega) (by decide) hC'
          rw [if_pos (show r32 0 by decide), if_pos (show (0 : Int) = 0 from rfl), if_pos h4, if_pos (show r32 1 by decide), if_neg (show ¬ (1 : Int) = 0 by decide), if_pos (show 0 ≤ i ∧ i < 800 by omega), f_Part_accidentalsOf, if_pos h4, if_pos (show 0 ≤ C 4 q 360 i ∧ C 4 q 360 i < 200 by omega), g1, zb_s]
          exact put _ D g5 g3 g2 g4
        · rw [if_pos (show r32 1 by decide), if_neg (show ¬ (1 : Int) = 0 by decide), if_pos h4, if_pos (show r32 0 by decide), if_pos (show (0 : Int) = 0 from rfl)]
          exact put 0 C (by decide) hC' qB_r qR_r
      · rw [if_pos (show r32 1 by decide), if_neg (show ¬ (1 : Int) = 0 by decide), if_pos h4, if_pos (show r32 0 by decide), if_pos (show (0 : Int) = 0 from rfl)]
        exact put 0 C (by decide) hC' qB_r qR_r
    have h' := h
    obtain ⟨h4, ⟨h6, m1⟩, ⟨h10, c0, c1⟩, hc, hno, he, _⟩ := h
    obtain ⟨n1, n2, n3, n4⟩ := hno i i0 (by omega)
    rw [f_Part_setAccidentals_4, if_pos h4, if_pos (by unfold r32; omega), h10, if_pos (by unfold r32; omega), if_neg (by omega), if_pos (by omega), if_pos (by unfold r32; omega), if_pos rb]
    by_cases z : B 4 q 361 i = b
    · rw [if_pos z]
      exact note b B rb h'
    · rw [if_neg z]
      obtain ⟨C, g1, g2, g3, g4⟩ := C_acc36 (rec := f_Part_setAccidentals_4 K n) (i := i) (b := B 4 q 361 i) hf 63 K.1 (s := 0) (B := B) (by decide) (by decide) (by omega) h'
      rw [g1]
      obtain ⟨B', k1, k2, k3, k4, k5⟩ := note (B 4 q 361 i) C (by unfold r32; omega) g3
      exact ⟨B', k1, qB_t g2 k2, k3, qR_t g4 k4, k5⟩
end
end
section
section
theorem L_kaV {K : Nat} {f s : Int} {F : zF} {B : zB} (hf : -7 ≤ f ∧ f ≤ 7) (s0 : 0 ≤ s) (s1 : s ≤ 6) : f_M_inKey K f s F B = some (kaV f s, F, B) := by
  have m0 := Int.emod_nonneg (2 * s - 6) (show (7 : Int) ≠ 0 by decide)
  have m1 := Int.emod_lt_of_pos (2 * s - 6) (show (0 : Int) < 7 by decide)
  unfold f_M_inKey f_M_inKey_43 f_M_inKey_31 kaV
  rw [L_mod (show r32 (2 * s - 6) by unfold r32; omega) (by decide) (by decide), zb_s, if_pos (by unfold r32; omega)]
  by_cases a : f ≤ 0
  · rw [if_pos a, if_pos a, if_pos (by unfold r32; omega), if_pos (by unfold r32; omega)]
    by_cases b : -f ≤ 6 - (2 * s - 6) % 7
    · rw [if_pos b, if_pos b]
    · rw [if_neg b, if_neg b]
  · rw [if_neg a, if_neg a, if_pos (by unfold r32; omega)]
    by_cases b : f ≤ (2 * s - 6) % 7
    · rw [if_pos b, if_pos b]
    · rw [if_neg b, if_neg b]
theorem rank_f : ∀ n : Fin 7, ztv 7 (n.val : Nat) = (2 * ((n.val : Nat) : Int) - 6) % 7 := by decide +kernel
theorem C_kaV {K : zK} {f s : Int} {F : zF} {B : zB} (hf : -7 ≤ f ∧ f ≤ 7) (s0 : 0 ≤ s) (s1 : s ≤ 6) : f_S_keyAlteration K f s F B = some (kaV f s, F, B) := by
  have m0 := Int.emod_nonneg (2 * s - 6) (show (7 : Int) ≠ 0 by decide)
  have m1 := Int.emod_lt_of_pos (2 * s - 6) (show (0 : Int) < 7 by decide)
  have rk := rank_f ⟨s.toNat, by omega⟩
  rw [show (((⟨s.toNat, by omega⟩ : Fin 7).val : Nat) : Int) = s by show ((s.toNat : Nat) : Int) = s; omega] at rk
  have fm : f_Math_floorMod K s 7 F B = some (s, F, B) := by rw [C_fm s0 (by omega), show s % 7 = s by omega]
  unfold f_S_keyAlteration f_S_keyAlteration_40 f_S_keyAlteration_25 kaV
  rw [fm, zb_s, if_pos (by rw [show ztl 7 = 7 by decide]; omega), if_pos (by unfold r32; omega), rk]
  by_cases a : f ≤ 0
  · rw [if_pos a, if_pos a, if_pos (by unfold r32; omega), if_pos (by unfold r32; omega)]
    by_cases b : -f ≤ 6 - (2 * s - 6) % 7
    · rw [if_pos b, if_pos b]
    · rw [if_neg b, if_neg b]
  · rw [if_neg a, if_neg a, if_pos (by unfold r32; omega)]
    by_cases b : f ≤ (2 * s - 6) % 7
    · rw [if_pos b, if_pos b]
    · rw [if_neg b, if_neg b]
end
end
section
section
/-! ===== groups and stems: they return ===== -/
theorem C_bm {K : zK} {q c i : Int} {m : Nat} {F : zF} {B : zB} (h : QN K q m c F B) (i0 : 0 ≤ i) (i1 : i < c) : ∃ r, f_Part_isBeamed K q i F B = some (r, F, B) ∧ (r = 0 ∨ r = 1) := by
  obtain ⟨r1, e1, z1, z2⟩ := C_rn h i0 i1
  obtain ⟨h4, ⟨h6, m1⟩, ⟨h10, c0, c1⟩, hc, hno, he, _⟩ := h
  have n4 := (hno i i0 i1).2.2.2
  unfold f_Part_isBeamed f_Part_isBeamed_24 f_Part_isBeamed_25
  rw [if_pos h4, e1, zb_s]
  rcases z1 with rfl | rfl
  · rw [if_pos (by decide), if_pos rfl, if_pos (by omega), if_pos (by unfold r32; omega)]
    by_cases y : B 4 q 364 i < 3
    · rw [if_pos y, if_pos (Or.inl rfl)]; exact ⟨0, rfl, Or.inl rfl⟩
    · rw [if_neg y, if_pos (Or.inr rfl)]; exact ⟨1, rfl, Or.inr rfl⟩
  · rw [if_pos (by decide), if_neg (by decide), if_pos (Or.inl rfl)]; exact ⟨0, rfl, Or.inl rfl⟩
theorem C_bwi {K : zK} {q c i j b : Int} {m : Nat} {F : zF} {B : zB} (h : QN K q m c F B) (i0 : 0 ≤ i) (i1 : i < c) (j0 : 0 ≤ j) (j1 : j < c) (b0 : 0 < b) (b1 : b ≤ 1000000000000) : ∃ r, f_Part_beamsWith K q i j b F B = some (r, F, B) ∧ (r = 0 ∨ r = 1) := by
  obtain ⟨r1, e1, z1⟩ := C_bm h j0 j1
  obtain ⟨h4, ⟨h6, m1⟩, ⟨h10, c0, c1⟩, hc, hno, he, _⟩ := h
  have ni := hno i i0 i1
  have nj := hno j j0 j1
  have q1 : 0 ≤ B 4 q 9 i / b := Int.ediv_nonneg (by omega) (by omega)
  have q2 : B 4 q 9 i / b ≤ B 4 q 9 i := Int.ediv_le_self _ (by omega)
  have q3 : 0 ≤ B 4 q 9 j / b := Int.ediv_nonneg (by omega) (by omega)
  have q4 : B 4 q 9 j / b ≤ B 4 q 9 j := Int.ediv_le_self _ (by omega)
  unfold f_Part_beamsWith f_Part_beamsWith_59 f_Part_beamsWith_60
  rw [if_pos h4, if_pos (by unfold r32; omega), h10, if_pos (by unfold r32; omega), if_neg (by omega), e1, zb_s]
  rcases z1 with rfl | rfl
  · rw [if_pos (by decide), if_pos rfl, if_pos (Or.inl rfl)]; exact ⟨0, rfl, Or.inl rfl⟩
  rw [if_pos (by decide), if_neg (by decide), if_pos (by omega), if_pos (by omega), if_pos (by unfold r32; omega), if_pos (by unfold r32; omega)]
  by_cases y : B 4 q 361 i = B 4 q 361 j
  · rw [if_pos y, if_pos (lI_n0 b0 (by unfold r64; omega)), zldv_e (by omega) (by omega) b0 (by omega), zldv_e (by omega) (by omega) b0 (by omega), if_pos (by unfold r64; omega), if_pos (by unfold r64; omega)]
    by_cases z : zcmp (B 4 q 9 i / b) (B 4 q 9 j / b) = 0
    · rw [if_pos z, if_pos (Or.inr rfl)]; exact ⟨1, rfl, Or.inr rfl⟩
    · rw [if_neg z, if_pos (Or.inl rfl)]; exact ⟨0, rfl, Or.inl rfl⟩
  · rw [if_neg y, if_pos (Or.inl rfl)]; exact ⟨0, rfl, Or.inl rfl⟩
noncomputable def GB (q u : Int) (B : zB) : Prop := ∀ i, 0 ≤ i → i < u → (-1 ≤ B 4 q 369 i ∧ B 4 q 369 i ≤ 800) ∧ r32 (B 4 q 370 i)
/-- what is made of the notes, whole -/
noncomputable def GBw (q u : Int) (B : zB) : Prop := ∀ i, 0 ≤ i → i < u → (-1 ≤ B 4 q 369 i ∧ B 4 q 369 i ≤ 800) ∧ r32 (B 4 q 370 i) ∧ r32 (B 4 q 366 i) ∧ r32 (B 4 q 367 i) ∧ r32 (B 4 q 368 i) ∧ r32 (B 4 q 371 i)
theorem C_g34 {K : zK} {q c no l5 gr b : Int} {m : Nat} {F : zF} {B : zB} {rec : Int → Int → Int → Int → Int → zF → zB → zO} (h : QN K q m c F B) (b0 : 0 < b) (b1 : b ≤ 1000000000000) (n0 : 0 ≤ no) : ∀ (r n : Nat) {s : Int}, 1 ≤ s → no + s ≤ c → c - no - s ≤ r → r < n → ∃ s', s ≤ s' ∧ no + s' ≤ c ∧ f_Part_group_34 rec K n s l5 no gr q b F B = f_Part_group_76 rec K s' l5 no gr q b F B := by
  have c1 := h.2.2.1.2.2
  intro r
  induction r with
  | zero =>
    intro n s s1 sc sr hn
    obtain ⟨n, rfl⟩ : ∃ k, n = k + 1 := ⟨n - 1, by omega⟩
    obtain ⟨r1, e1, z1⟩ := C_bm h n0 (by omega)
    refine ⟨s, Int.le_refl _, sc, ?_⟩
    rw [f_Part_group_34, if_pos h.1, e1, zb_s]
    rcases z1 with rfl | rfl
    · rw [if_pos (by decide), if_pos rfl]
    · rw [if_pos (by decide), if_neg (by decide), if_pos (by unfold r32; omega), h.2.2.1.1, if_pos (by unfold r32; omega), if_pos (by omega)]
  | succ r ih =>
    intro n s s1 sc sr hn
    obtain ⟨n, rfl⟩ : ∃ k, n = k + 1 := ⟨n - 1, by omega⟩
    obtain ⟨r1, e1, z1⟩ := C_bm h n0 (by omega)
    rw [f_Part_group_34, if_pos h.1, e1, zb_s]
    rcases z1 with rfl | rfl
    · rw [if_pos (by decide), if_pos rfl]
      exact ⟨s, Int.le_refl _, sc, rfl⟩
    · rw [if_pos (by decide), if_neg (by decide), if_pos (by unfold r32; omega), h.2.2.1.1, if_pos (by unfold r32; omega)]
      by_cases y : c ≤ no + s
      · rw [if_pos y]; exact ⟨s, Int.le_refl _, sc, rfl⟩
      · obtain ⟨r2, e2, z2⟩ := C_bwi h n0 (by omega) (j := no + s) (by omega) (by omega) b0 b1
        rw [if_neg y, e2, zb_s]
        rcases z2 with rfl | rfl
        · rw [if_pos (by decide), if_pos rfl]; exact ⟨s, Int.le_refl _, sc, rfl⟩
        · rw [if_pos (by decide), if_neg (by decide)]
          obtain ⟨s', t1, t2, t3⟩ := ih n (s := s + 1) (by omega) (by omega) (by omega) (by omega)
          exact ⟨s', by omega, t2, t3⟩
theorem C_g80 {K : zK} {q c no l5 gr b s : Int} {m : Nat} {F : zF} {rec : Int → Int → Int → Int → Int → zF → zB → zO} (n0 : 0 ≤ no) (s1 : 1 ≤ s) (sc : no + s ≤ c) (g0 : 0 ≤ gr ∧ gr ≤ 800) : ∀ (r n : Nat) {k : Int} {B : zB}, no ≤ k → k + r = no + s → r < n → QN K q m c F B → GB q k B → ∃ B' x, f_Part_group_80 rec K n k s l5 no gr q b F B = f_Part_group_192 rec K s l5 no q b gr x F B' ∧ (x = 0 ∨ x = 1) ∧ qB q B B' ∧ QN K q m c F B' ∧ GB q (no + s) B' ∧ qR q B B' := by
  intro r
  induction r with
  | zero =>
    intro n k B k0 kr hn h hg
    obtain ⟨n, rfl⟩ : ∃ k, n = k + 1 := ⟨n - 1, by omega⟩
    have c1 := h.2.2.1.2.2
    rw [f_Part_group_80, if_pos (by unfold r32; omega), if_pos (by unfold r32; omega), if_pos (by omega), if_pos (by unfold r32; omega)]
    have hg' : GB q (no + s) B := by rwa [show no + s = k by omega]
    by_cases y : s ≤ 1
    · rw [if_pos y]; exact ⟨B, 0, rfl, Or.inl rfl, qB_r, h, hg', qR_r⟩
    · rw [if_neg y]; exact ⟨B, 1, rfl, Or.inr rfl, qB_r, h, hg', qR_r⟩
  | succ r ih =>
    intro n k B k0 kr hn h hg
    obtain ⟨n, rfl⟩ : ∃ k, n = k + 1 := ⟨n - 1, by omega⟩
    have c1 := h.2.2.1.2.2
    have h4 := h.1
    have put : ∀ (gv x : Int), -1 ≤ gv → gv ≤ 800 → r32 x → ∃ B' x', f_Part_group_173 rec (f_Part_group_80 rec K n) K k s l5 no gr q b q k x F (zup4 B 4 q 369 k gv) = f_Part_group_192 rec K s l5 no q b gr x' F B' ∧ (x' = 0 ∨ x' = 1) ∧ qB q B B' ∧ QN K q m c F B' ∧ GB q (no + s) B' ∧ qR q B B' := fun gv x g1 g2 hx => by
      obtain ⟨w1, w2⟩ := QN_w (k := 369) (i := k) (x := gv) h (by decide)
      obtain ⟨w3, w4⟩ := QN_w (k := 370) (i := k) (x := x) w1 (by decide)
      have gb : GB q (k + 1) (zup4 (zup4 B 4 q 369 k gv) 4 q 370 k x) := fun i a b' => by
        by_cases e : i = k
        · rw [e, zup4_v, if_neg (by omega), zup4_v, if_pos ⟨rfl, rfl, rfl, rfl⟩, zup4_v, if_pos ⟨rfl, rfl, rfl, rfl⟩]
          exact ⟨⟨g1, g2⟩, hx⟩
        · rw [zup4_v, if_neg (by omega), zup4_v, if_neg (by omega), zup4_v, if_neg (by omega), zup4_v, if_neg (by omega)]
          exact hg i a (by omega)
      obtain ⟨B', x', t1, t2, t3, t4, t5, t6⟩ := ih n (k := k + 1) (by omega) (by omega) (by omega) w3 gb
      refine ⟨B', x', ?_, t2, qB_t w2 (qB_t w4 t3), t4, t5, qR_t (qR_w (by unfold r32; omega)) (qR_t (qR_w hx) t6)⟩
      unfold f_Part_group_173
      rw [if_pos h4, if_pos (by omega)]
      exact t1
    have g129 : ∀ (hn' gv : Int), hn' = 0 ∨ (hn' = 1 ∧ k + 1 < no + s) → -1 ≤ gv → gv ≤ 800 → ∃ B' x', f_Part_group_129 rec (f_Part_group_80 rec K n) K hn' k s l5 no gr q b q k gv F B = f_Part_group_192 rec K s l5 no q b gr x' F B' ∧ (x' = 0 ∨ x' = 1) ∧ qB q B B' ∧ QN K q m c F B' ∧ GB q (no + s) B' ∧ qR q B B' := fun hn' gv hh g1 g2 => by
      unfold f_Part_group_129
      rw [if_pos h4, if_pos (by omega), if_pos h4]
      rcases hh with rfl | ⟨rfl, hh⟩
      · rw [if_pos (by decide), if_pos rfl]
        exact put gv 0 g1 g2 (by decide)
      · have a1 := (h.2.2.2.2.1 k (by omega) (by omega)).2.2.2
        have a2 := (h.2.2.2.2.1 (k + 1) (by omega) (by omega)).2.2.2
        have e1 : ∀ j, (zup4 B 4 q 369 k gv) 4 q 364 j = B 4 q 364 j := fun j => by rw [zup4_v, if_neg (by omega)]
        rw [if_pos (by decide), if_neg (by decide), if_pos (by omega), if_pos (by omega), e1, e1, if_pos (by unfold r32; omega), if_pos (by unfold r32; omega)]
        exact put gv _ g1 g2 (by unfold r32 zmin; split <;> omega)
    have g107 : ∀ (hn' : Int), hn' = 0 ∨ (hn' = 1 ∧ k + 1 < no + s) → ∃ B' x', f_Part_group_107 rec (f_Part_group_80 rec K n) K k s l5 no gr q b hn' F B = f_Part_group_192 rec K s l5 no q b gr x' F B' ∧ (x' = 0 ∨ x' = 1) ∧ qB q B B' ∧ QN K q m c F B' ∧ GB q (no + s) B' ∧ qR q B B' := fun hn' hh => by
      unfold f_Part_group_107
      rw [if_pos h4, if_pos (by unfold r32; omega)]
      by_cases y : s ≤ 1
      · rw [if_pos y]; exact g129 hn' (-1) hh (by decide) (by decide)
      · rw [if_neg y]; exact g129 hn' gr hh (by omega) (by omega)
    rw [f_Part_group_80, if_pos (by unfold r32; omega), if_pos (by unfold r32; omega), if_neg (by omega), if_pos (by unfold r32; omega)]
    by_cases y : no + s ≤ k + 1
    · rw [if_pos y]; exact g107 0 (Or.inl rfl)
    · rw [if_neg y]; exact g107 1 (Or.inr ⟨rfl, by omega⟩)
theorem C_grp {K : zK} {q c b : Int} {m : Nat} {F : zF} (hK : 3002 ≤ K.1) (b0 : 0 < b) (b1 : b ≤ 1000000000000) : ∀ (r n : Nat) {l5 no gr : Int} {B : zB}, 0 ≤ no → no ≤ c → c - no ≤ r → r < n → 0 ≤ gr → gr ≤ l5 → l5 ≤ no → QN K q m c F B → GB q no B → ∃ B', f_Part_group_8 K n l5 no gr q b F B = some (0, F, B') ∧ qB q B B' ∧ QN K q m c F B' ∧ GB q c B' ∧ qR q B B' := by
  intro r
  induction r with
  | zero =>
    intro n l5 no gr B n0 nc nr hn g0 g1 l1 h hg
    obtain ⟨n, rfl⟩ : ∃ k, n = k + 1 := ⟨n - 1, by omega⟩
    have c1 := h.2.2.1.2.2
    have hg' : GB q c B := by rwa [show c = no by omega]
    refine ⟨B, ?_, qB_r, h, hg', qR_r⟩
    rw [f_Part_group_8, if_pos (by unfold r32; omega)]
    simp only [f_Part_group_207]
    by_cases y : 800 ≤ l5
    · rw [if_pos y]
    · rw [if_neg y, if_pos h.1, if_pos (by unfold r32; omega), h.2.2.1.1, if_pos (by unfold r32; omega), if_pos (by omega)]
  | succ r ih =>
    intro n l5 no gr B n0 nc nr hn g0 g1 l1 h hg
    obtain ⟨n, rfl⟩ : ∃ k, n = k + 1 := ⟨n - 1, by omega⟩
    have c1 := h.2.2.1.2.2
    by_cases e : no = c
    · have hg' : GB q c B := by rwa [← e]
      refine ⟨B, ?_, qB_r, h, hg', qR_r⟩
      rw [f_Part_group_8, if_pos (by unfold r32; omega)]
      simp only [f_Part_group_207]
      by_cases y : 800 ≤ l5
      · rw [if_pos y]
      · rw [if_neg y, if_pos h.1, if_pos (by unfold r32; omega), h.2.2.1.1, if_pos (by unfold r32; omega), if_pos (by omega)]
    obtain ⟨s, t1, t2, t3⟩ := C_g34 (rec := f_Part_group_8 K n) (l5 := l5) (gr := gr) h b0 b1 n0 (c - no).toNat K.1 (s := 1) (Int.le_refl _) (by omega) (by omega) (by omega)
    obtain ⟨B1, x, u1, u2, u3, u4, u5, u6⟩ := C_g80 (K := K) (q := q) (c := c) (no := no) (l5 := l5) (gr := gr) (b := b) (s := s) (m := m) (F := F) (rec := f_Part_group_8 K n) n0 t1 t2 (by omega) s.toNat K.1 (k := no) (B := B) (Int.le_refl _) (by omega) (by omega) h hg
    rw [f_Part_group_8, if_pos (by unfold r32; omega), if_neg (by omega), if_pos h.1, if_pos (by unfold r32; omega), h.2.2.1.1, if_pos (by unfold r32; omega), if_neg (by omega), if_pos (by unfold r64; omega), if_neg (fun y => by have := zcmp_m.mp y; omega), t3, f_Part_group_76, u1, f_Part_group_192]
    obtain ⟨B', k1, k2, k3, k4, k5⟩ := ih n (l5 := l5 + 1) (no := no + s) (gr := gr + x) (B := B1) (by omega) t2 (by omega) (by omega) (by omega) (by omega) (by omega) u4 u5
    exact ⟨B', k1, qB_t u3 k2, k3, k4, qR_t u6 k5⟩
theorem GB_f {q c : Int} {B B' : zB} (h : GB q c B) (f : ∀ k i, k = 369 ∨ k = 370 → B' 4 q k i = B 4 q k i) : GB q c B' := fun i a b => by rw [f 369 i (Or.inl rfl), f 370 i (Or.inr rfl)]; exact h i a b
theorem C_st21 {K : zK} {q c no l2 : Int} {m : Nat} {F : zF} {B : zB} {rec : Int → Int → Int → zF → zB → zO} (h : QN K q m c F B) (hg : GB q c B) (n0 : 0 ≤ no) : ∀ (r n : Nat) {s : Int}, 1 ≤ s → no + s ≤ c → c - no - s ≤ r → r < n → ∃ s', s ≤ s' ∧ no + s' ≤ c ∧ f_Part_setStems_21 rec K n s l2 no q F B = f_Part_setStems_73 rec K s' l2 no q F B := by
  have c1 := h.2.2.1.2.2
  intro r
  induction r with
  | zero =>
    intro n s s1 sc sr hn
    obtain ⟨n, rfl⟩ : ∃ k, n = k + 1 := ⟨n - 1, by omega⟩
    have g1 := hg no n0 (by omega)
    refine ⟨s, Int.le_refl _, sc, ?_⟩
    rw [f_Part_setStems_21, if_pos h.1, if_pos (by omega), if_pos (by unfold r32; omega)]
    by_cases y : B 4 q 369 no = -1
    · rw [if_pos y]
    · rw [if_neg y, if_pos (by unfold r32; omega), h.2.2.1.1, if_pos (by unfold r32; omega), if_pos (by omega)]
  | succ r ih =>
    intro n s s1 sc sr hn
    obtain ⟨n, rfl⟩ : ∃ k, n = k + 1 := ⟨n - 1, by omega⟩
    have g1 := hg no n0 (by omega)
    rw [f_Part_setStems_21, if_pos h.1, if_pos (by omega), if_pos (by unfold r32; omega)]
    by_cases y : B 4 q 369 no = -1
    · rw [if_pos y]; exact ⟨s, Int.le_refl _, sc, rfl⟩
    rw [if_neg y, if_pos (by unfold r32; omega), h.2.2.1.1, if_pos (by unfold r32; omega)]
    by_cases z : c ≤ no + s
    · rw [if_pos z]; exact ⟨s, Int.le_refl _, sc, rfl⟩
    have g2 := hg (no + s) (by omega) (by omega)
    rw [if_neg z, if_pos (by omega), if_pos (by unfold r32; omega)]
    by_cases x : B 4 q 369 (no + s) = B 4 q 369 no
    · rw [if_pos x]
      obtain ⟨s', t1, t2, t3⟩ := ih n (s := s + 1) (by omega) (by omega) (by omega) (by omega)
      exact ⟨s', by omega, t2, t3⟩
    · rw [if_neg x]; exact ⟨s, Int.le_refl _, sc, rfl⟩
theorem C_st79 {K : zK} {q c no l2 s : Int} {m : Nat} {F : zF} {B : zB} {rec : Int → Int → Int → zF → zB → zO} (h : QN K q m c F B) (n0 : 0 ≤ no) (s1 : 1 ≤ s) (sc : no + s ≤ c) : ∀ (r n : Nat) {k u : Int}, no ≤ k → k + r = no + s → r < n → -(300 * (k - no)) ≤ u → u ≤ 300 * (k - no) → ∃ u', -300000 ≤ u' ∧ u' ≤ 300000 ∧ f_Part_setStems_79 rec K n k u s l2 no q F B = f_Part_setStems_130 rec K K.1 no u' s l2 no q F B := by
  have c1 := h.2.2.1.2.2
  intro r
  induction r with
  | zero =>
    intro n k u k0 kr hn u0 u1
    obtain ⟨n, rfl⟩ : ∃ k, n = k + 1 := ⟨n - 1, by omega⟩
    refine ⟨u, by omega, by omega, ?_⟩
    rw [f_Part_setStems_79, if_pos (by unfold r32; omega), if_pos (by unfold r32; omega), if_pos (by omega)]
  | succ r ih =>
    intro n k u k0 kr hn u0 u1
    obtain ⟨n, rfl⟩ : ∃ k, n = k + 1 := ⟨n - 1, by omega⟩
    obtain ⟨r1, e1, z1, z2⟩ := C_rn h (i := k) (by omega) (by omega)
    rw [f_Part_setStems_79, if_pos (by unfold r32; omega), if_pos (by unfold r32; omega), if_neg (by omega), if_pos h.1, e1, zb_s]
    rcases z1 with rfl | rfl
    · obtain ⟨y1, y2, y3⟩ := z2 rfl
      obtain ⟨a, b, ea, eb, ba, bb⟩ := C_hts h (i := k) (by omega) (by omega) y1 y2 y3
      rw [if_pos (by decide), if_pos rfl, ea, zb_s, eb, zb_s, f_Part_setStems_118]
      exact ih n (by omega) (by omega) (by omega) (by omega) (by omega)
    · rw [if_pos (by decide), if_neg (by decide), f_Part_setStems_118]
      exact ih n (by omega) (by omega) (by omega) (by omega) (by omega)
theorem C_st130 {K : zK} {q c no l2 s u : Int} {m : Nat} {F : zF} {rec : Int → Int → Int → zF → zB → zO} (n0 : 0 ≤ no) (s1 : 1 ≤ s) (sc : no + s ≤ c) (u0 : -300000 ≤ u ∧ u ≤ 300000) : ∀ (r n : Nat) {k : Int} {B : zB}, no ≤ k → k + r = no + s → r < n → QN K q m c F B → GB q c B → ∃ B', f_Part_setStems_130 rec K n k u s l2 no q F B = rec (l2 + 1) (no + s) q F B' ∧ qB q B B' ∧ QN K q m c F B' ∧ GB q c B' ∧ qR q B B' ∧ ∀ j, k ≤ j → j < no + s → r32 (B' 4 q 371 j) := by
  intro r
  induction r with
  | zero =>
    intro n k B k0 kr hn h hg
    obtain ⟨n, rfl⟩ : ∃ k, n = k + 1 := ⟨n - 1, by omega⟩
    have c1 := h.2.2.1.2.2
    rw [f_Part_setStems_130, if_pos (by unfold r32; omega), if_pos (by unfold r32; omega), if_pos (by omega)]
    exact ⟨B, rfl, qB_r, h, hg, qR_r, fun j a b => by omega⟩
  | succ r ih =>
    intro n k B k0 kr hn h hg
    obtain ⟨n, rfl⟩ : ∃ k, n = k + 1 := ⟨n - 1, by omega⟩
    have c1 := h.2.2.1.2.2
    have h4 := h.1
    obtain ⟨r1, e1, z1, z2⟩ := C_rn h (i := k) (by omega) (by omega)
    have put : ∀ x : Int, r32 x → ∃ B', f_Part_setStems_194 rec (f_Part_setStems_130 rec K n) K k u s l2 no q q k x F B = rec (l2 + 1) (no + s) q F B' ∧ qB q B B' ∧ QN K q m c F B' ∧ GB q c B' ∧ qR q B B' ∧ ∀ j, k ≤ j → j < no + s → r32 (B' 4 q 371 j) := fun x hx => by
      obtain ⟨w1, w2⟩ := QN_w (k := 371) (i := k) (x := x) h (by decide)
      obtain ⟨B', t1, t2, t3, t4, t5, t6⟩ := ih n (k := k + 1) (by omega) (by omega) (by omega) w1 (GB_f hg (fun k' i hk => by rw [zup4_v, if_neg (by omega)]))
      refine ⟨B', ?_, qB_t w2 t2, t3, t4, qR_t (qR_w hx) t5, fun j j0 j1 => by
        by_cases ej : j = k
        · rw [ej]
          exact t5 371 k (by decide) (by rw [zup4_v, if_pos ⟨rfl, rfl, rfl, rfl⟩]; exact hx)
        · exact t6 j (by omega) j1⟩
      unfold f_Part_setStems_194
      rw [if_pos h4, if_pos (by omega)]
      exact t1
    have bare : ∃ B', f_Part_setStems_159 rec (f_Part_setStems_130 rec K n) K k u s l2 no q F B = rec (l2 + 1) (no + s) q F B' ∧ qB q B B' ∧ QN K q m c F B' ∧ GB q c B' ∧ qR q B B' ∧ ∀ j, k ≤ j → j < no + s → r32 (B' 4 q 371 j) := by
      unfold f_Part_setStems_159 f_Part_setStems_164
      rw [if_pos h4, if_pos (by decide), if_neg (by decide)]
      exact put 0 (by decide)
    rw [f_Part_setStems_130, if_pos (by unfold r32; omega), if_pos (by unfold r32; omega), if_neg (by omega), if_pos h4, e1, zb_s]
    rcases z1 with rfl | rfl
    · have n4 := (h.2.2.2.2.1 k (by omega) (by omega)).2.2.2
      rw [if_pos (by decide), if_pos rfl, if_pos (by omega), if_pos (by unfold r32; omega)]
      by_cases y : B 4 q 364 k = 0
      · rw [if_pos y]; exact bare
      · rw [if_neg y]
        unfold f_Part_setStems_164
        rw [if_pos h4, if_pos (by decide), if_pos rfl, if_pos (by unfold r32; omega)]
        by_cases x : 0 ≤ u
        · rw [if_pos x]; exact put 2 (by decide)
        · rw [if_neg x]; exact put 1 (by decide)
    · rw [if_pos (by decide), if_neg (by decide)]
      exact bare
theorem C_stem {K : zK} {q c : Int} {m : Nat} {F : zF} (hK : 3002 ≤ K.1) : ∀ (r n : Nat) {l2 no : Int} {B : zB}, 0 ≤ no → no ≤ c → c - no ≤ r → r < n → 0 ≤ l2 → l2 ≤ no → QN K q m c F B → GB q c B → ∃ B', f_Part_setStems_4 K n l2 no q F B = some (0, F, B') ∧ qB q B B' ∧ QN K q m c F B' ∧ GB q c B' ∧ qR q B B' ∧ ∀ j, no ≤ j → j < c → r32 (B' 4 q 371 j) := by
  intro r
  induction r with
  | zero =>
    intro n l2 no B n0 nc nr hn l0 l1 h hg
    obtain ⟨n, rfl⟩ : ∃ k, n = k + 1 := ⟨n - 1, by omega⟩
    have c1 := h.2.2.1.2.2
    refine ⟨B, ?_, qB_r, h, hg, qR_r, fun j a b => by omega⟩
    rw [f_Part_setStems_4, if_pos (by unfold r32; omega)]
    simp only [f_Part_setStems_211]
    by_cases y : 800 ≤ l2
    · rw [if_pos y]
    · rw [if_neg y, if_pos h.1, if_pos (by unfold r32; omega), h.2.2.1.1, if_pos (by unfold r32; omega), if_pos (by omega)]
  | succ r ih =>
    intro n l2 no B n0 nc nr hn l0 l1 h hg
    obtain ⟨n, rfl⟩ : ∃ k, n = k + 1 := ⟨n - 1, by omega⟩
    have c1 := h.2.2.1.2.2
    by_cases e : no = c
    · refine ⟨B, ?_, qB_r, h, hg, qR_r, fun j a b => by omega⟩
      rw [f_Part_setStems_4, if_pos (by unfold r32; omega)]
      simp only [f_Part_setStems_211]
      by_cases y : 800 ≤ l2
      · rw [if_pos y]
      · rw [if_neg y, if_pos h.1, if_pos (by unfold r32; omega), h.2.2.1.1, if_pos (by unfold r32; omega), if_pos (by omega)]
    obtain ⟨s, t1, t2, t3⟩ := C_st21 (rec := f_Part_setStems_4 K n) (l2 := l2) h hg n0 (c - no).toNat K.1 (s := 1) (Int.le_refl _) (by omega) (by omega) (by omega)
    obtain ⟨u, u1, u2, u3⟩ := C_st79 (rec := f_Part_setStems_4 K n) (l2 := l2) h n0 t1 t2 s.toNat K.1 (k := no) (u := 0) (Int.le_refl _) (by omega) (by omega) (by omega) (by omega)
    obtain ⟨B1, v1, v2, v3, v4, v5, v6⟩ := C_st130 (K := K) (q := q) (c := c) (no := no) (l2 := l2) (s := s) (u := u) (m := m) (F := F) (rec := f_Part_setStems_4 K n) n0 t1 t2 ⟨u1, u2⟩ s.toNat K.1 (k := no) (B := B) (Int.le_refl _) (by omega) (by omega) h hg
    rw [f_Part_setStems_4, if_pos (by unfold r32; omega), if_neg (by omega), if_pos h.1, if_pos (by unfold r32; omega), h.2.2.1.1, if_pos (by unfold r32; omega), if_neg (by omega), t3, f_Part_setStems_73, u3, v1]
    obtain ⟨B', k1, k2, k3, k4, k5, k6⟩ := ih n (l2 := l2 + 1) (no := no + s) (B := B1) (by omega) t2 (by omega) (by omega) (by omega) (by omega) v3 v4
    refine ⟨B', k1, qB_t v2 k2, k3, k4, qR_t v5 k5, fun j j0 j1 => ?_⟩
    by_cases ej : j < no + s
    · exact k5 371 j (by decide) (v6 j j0 ej)
    · exact k6 j (by omega) j1
theorem C_beat {K : zK} {p n d : Int} {F : zF} {B : zB} (hp : 0 ≤ p ∧ p < K.2 6) (h4 : F 6 p 4 = n) (h5 : F 6 p 5 = d) (hn : 1 ≤ n ∧ n ≤ 12) (hd : d = 2 ∨ d = 4 ∨ d = 8 ∨ d = 16) : ∃ b, f_Piece_beatLength K p F B = some (b, F, B) ∧ 0 < b ∧ b ≤ 1000000000000 := by
  have bb := bc_b (n := n) (d := d)
  have rb : r32 (bc n d) := by unfold r32; omega
  unfold f_Piece_beatLength
  rw [if_pos hp, h5, h4]
  have hb := C_bc (K := K) (F := F) (B := B) hn hd
  rcases hd with rfl | rfl | rfl | rfl
  · rw [if_pos (by decide), if_pos (by decide), if_pos (by decide), hb, zb_s, if_pos rb]
    exact ⟨_, rfl, by rw [show zldv 812851200 (zmax 2 1) = 406425600 by decide]; omega, by rw [show zldv 812851200 (zmax 2 1) = 406425600 by decide]; omega⟩
  · rw [if_pos (by decide), if_pos (by decide), if_pos (by decide), hb, zb_s, if_pos rb]
    exact ⟨_, rfl, by rw [show zldv 812851200 (zmax 4 1) = 203212800 by decide]; omega, by rw [show zldv 812851200 (zmax 4 1) = 203212800 by decide]; omega⟩
  · rw [if_pos (by decide), if_pos (by decide), if_pos (by decide), hb, zb_s, if_pos rb]
    exact ⟨_, rfl, by rw [show zldv 812851200 (zmax 8 1) = 101606400 by decide]; omega, by rw [show zldv 812851200 (zmax 8 1) = 101606400 by decide]; omega⟩
  · rw [if_pos (by decide), if_pos (by decide), if_pos (by decide), hb, zb_s, if_pos rb]
    exact ⟨_, rfl, by rw [show zldv 812851200 (zmax 16 1) = 50803200 by decide]; omega, by rw [show zldv 812851200 (zmax 16 1) = 50803200 by decide]; omega⟩
theorem C_101 {K : zK} {q p c n d : Int} {m : Nat} {F : zF} {B : zB} (hK : 3002 ≤ K.1) (hp : 0 ≤ p ∧ p < K.2 6) (e4 : F 6 p 4 = n) (e5 : F 6 p 5 = d) (hn : 1 ≤ n ∧ n ≤ 12) (hd : d = 2 ∨ d = 4 ∨ d = 8 ∨ d = 16) (e2 : -7 ≤ F 6 p 2 ∧ F 6 p 2 ≤ 7) (h11 : F 4 q 11 = 0) (h : QN K q m c F B) : ∃ B', f_Part_writeNotes_101 K q p F B = some (0, F, B') ∧ qB q B B' ∧ QN K q m c F B' ∧ GBw q c B' := by
  have c0 := h.2.2.1
  obtain ⟨B1, a1, a2, a3, a4, a5⟩ := C_hold hK c.toNat K.1 (i := 0) (B := B) (by decide) (by omega) (by omega) h
  obtain ⟨B2, b1, b2, b3, b4, b5⟩ := C_acc hK e2 c.toNat K.1 (i := 0) (b := -1) (B := B1) (by decide) (by omega) (by omega) (by decide) a3
  obtain ⟨B3, d1, d2, d3, d4, d5⟩ := C_ledg c.toNat K.1 (i := 0) (B := B2) (by decide) (by omega) (by omega) b3
  obtain ⟨b, f1, f2, f3⟩ := C_beat (K := K) (F := F) (B := B3) hp e4 e5 hn hd
  obtain ⟨B4, g1, g2, g3, g4, g5⟩ := C_grp hK f2 f3 c.toNat K.1 (l5 := 0) (no := 0) (gr := 0) (B := B3) (by decide) (by omega) (by omega) (by omega) (by decide) (by decide) (by decide) d3 (fun i a b => by omega)
  obtain ⟨B5, k1, k2, k3, k4, k5, k6⟩ := C_stem hK c.toNat K.1 (l2 := 0) (no := 0) (B := B4) (by decide) (by omega) (by omega) (by omega) (by decide) (by decide) g3 g4
  unfold f_Part_writeNotes_101 f_Part_hold f_Part_setAccidentals f_Part_setLedgers f_Part_group f_Part_setStems
  rw [if_pos h.1, h11, if_pos (by decide), if_pos rfl, a1, zb_s, if_pos hp, b1, zb_s, d1, zb_s, f1, zb_s, g1, zb_s, k1, zb_s, f_Part_writeNotes_136]
  exact ⟨B5, rfl, qB_t a2 (qB_t b2 (qB_t d2 (qB_t g2 k2))), k3, fun i i0 i1 => ⟨(k4 i i0 i1).1, (k4 i i0 i1).2, qR_t b4 (qR_t d4 (qR_t g5 k5)) 366 i (by decide) (a5 i i0 i1), qR_t d4 (qR_t g5 k5) 367 i (by decide) (b5 i i0 i1), qR_t g5 k5 368 i (by decide) (d5 i i0 i1), k6 i i0 i1⟩⟩
end
end
section
section
/-! ===== the signs of the notes, exactly, on the one side ===== -/
variable {K : zK} {q c fi be : Int} {m : Nat} {F : zF} {D : zD}
/-- rows a to b change, from i0 on; and the row of what is known -/
noncomputable def qW (q : Int) (a b : Nat) (i0 : Int) (B B' : zB) : Prop := ∀ c y k x, ¬ (c = 4 ∧ y = q ∧ (k = 12 ∨ (a ≤ k ∧ k ≤ b ∧ i0 ≤ x))) → B' c y k x = B c y k x
theorem qW_r {a b : Nat} {i0 : Int} {B : zB} : qW q a b i0 B B := fun _ _ _ _ _ => rfl
theorem qW_q {a b : Nat} {i0 : Int} {B B' : zB} (ha : 366 ≤ a) (h : qW q a b i0 B B') : qB q B B' := fun c y k x n => h c y k x (by omega)
theorem cD_q {B B' : zB} (f : qB q B B') : cD q F B' fi be = cD q F B fi be := by
  have h1 : ∀ y j, B' 1 y 12 j = B 1 y 12 j := fun y j => f 1 y 12 j (by omega)
  have h2 : ∀ y j, B' 1 y 13 j = B 1 y 13 j := fun y j => f 1 y 13 j (by omega)
  have h3 : ∀ j, B' 4 q 5 j = B 4 q 5 j := fun j => f 4 q 5 j (by omega)
  have h4 : ∀ j, B' 4 q 360 j = B 4 q 360 j := fun j => f 4 q 360 j (by omega)
  have h5 : ∀ j, B' 4 q 361 j = B 4 q 361 j := fun j => f 4 q 361 j (by omega)
  have h6 : ∀ j, B' 4 q 9 j = B 4 q 9 j := fun j => f 4 q 9 j (by omega)
  have h7 : ∀ j, B' 4 q 364 j = B 4 q 364 j := fun j => f 4 q 364 j (by omega)
  unfold cD
  simp only [h1, h2, h3, h4, h5, h6, h7]
theorem C_rnD {i : Int} {B : zB} (h : QN K q m c F B) (hD : cD q F B fi be = D) (i0 : 0 ≤ i) (i1 : i < c) : f_Part_isRestNote K q i F B = some (rsN D i, F, B) ∧ (rsN D i = 0 → D 0 i 0 = B 4 q 360 i ∧ 0 ≤ B 4 q 360 i ∧ B 4 q 360 i < m ∧ 1 ≤ F 1 (B 4 q 5 (B 4 q 360 i)) 10) := by
  obtain ⟨h4, ⟨h6, m1⟩, ⟨h10, c0, c1⟩, hc, hn, he, _⟩ := h
  obtain ⟨n1, n2, n3, n4⟩ := hn i i0 i1
  obtain ⟨d0, _⟩ := cD_n hD h10 i0 i1
  unfold f_Part_isRestNote f_Part_isRestNote_33 f_Part_isRestNote_38
  rw [if_pos h4, if_pos (by omega), if_pos (by unfold r32; omega)]
  by_cases z : B 4 q 360 i < 0
  · have e : rsN D i = 1 := by unfold rsN; rw [d0, if_pos z]
    rw [e, if_pos z, if_pos (Or.inr rfl)]
    exact ⟨rfl, fun y => absurd y (by decide)⟩
  obtain ⟨e1, e2, e3, e4⟩ := he (B 4 q 360 i) (by omega) n1.2
  obtain ⟨_, g5, _⟩ := cD_e hD h6 (t := B 4 q 360 i) (by omega) n1.2
  rw [if_neg z, h6, if_pos (by unfold r32; omega), if_neg (by omega), if_pos (by omega), if_pos e1, if_pos (by unfold r32; omega)]
  by_cases y : F 1 (B 4 q 5 (B 4 q 360 i)) 10 = 0
  · have e : rsN D i = 1 := by unfold rsN; rw [d0, if_neg z, g5, if_pos y]
    rw [e, if_pos y, if_pos (Or.inr rfl)]
    exact ⟨rfl, fun y => absurd y (by decide)⟩
  · have e : rsN D i = 0 := by unfold rsN; rw [d0, if_neg z, g5, if_neg y]
    rw [e, if_neg y, if_pos (Or.inl rfl)]
    exact ⟨rfl, fun _ => ⟨d0, by omega, n1.2, by omega⟩⟩
theorem C_ctD {i : Int} {B : zB} (h : QN K q m c F B) (hD : cD q F B fi be = D) (i0 : 0 ≤ i) (i1 : i ≤ 800) : f_Part_continues K q i F B = some (coN D i, F, B) := by
  obtain ⟨h4, ⟨h6, m1⟩, ⟨h10, c0, c1⟩, hc, hn, he, _⟩ := h
  obtain ⟨s0, _⟩ := cD_s hD
  unfold f_Part_continues f_Part_continues_37 f_Part_continues_38
  rw [if_pos (by unfold r32; omega)]
  by_cases z : i ≤ 0
  · have e : coN D i = 0 := by unfold coN; rw [if_neg (fun y => by have := y.1; omega)]
    rw [e, if_pos z, if_pos (Or.inl rfl)]
  rw [if_neg z, if_pos h4, h10, if_pos (by unfold r32; omega)]
  by_cases y : c ≤ i
  · have e : coN D i = 0 := by unfold coN; rw [s0, h10, if_neg (fun y => by have := y.2.1; omega)]
    rw [e, if_pos y, if_pos (Or.inl rfl)]
  have a := hn i (by omega) (by omega)
  have b := hn (i - 1) (by omega) (by omega)
  obtain ⟨d0, _⟩ := cD_n hD h10 (i := i) (by omega) (by omega)
  obtain ⟨d1, _⟩ := cD_n hD h10 (i := i - 1) (by omega) (by omega)
  rw [if_neg y, if_pos (by omega), if_pos (by omega), if_pos (by unfold r32; omega), if_pos (by unfold r32; omega)]
  by_cases x : B 4 q 360 i = B 4 q 360 (i - 1)
  · have e : coN D i = 1 := by unfold coN; rw [s0, h10, d0, d1, if_pos ⟨by omega, by omega, x⟩]
    rw [e, if_pos x, if_pos (Or.inr rfl)]
  · have e : coN D i = 0 := by unfold coN; rw [s0, h10, d0, d1, if_neg (fun y => x y.2.2)]
    rw [e, if_neg x, if_pos (Or.inl rfl)]
theorem C_tpD {t : Int} {B : zB} (hK : 3002 ≤ K.1) (h : QN K q m c F B) (t0 : 0 ≤ t) (t1 : t < m) : f_Part_tiedPitches K q t F B = some (if ¬ zand (F 1 (B 4 q 5 t) 7) 1 = 0 ∧ t + 1 < m then shM (shB (B 4 q 5 t) (B 4 q 5 (t + 1)) (F 1 (B 4 q 5 (t + 1)) 10) B) (F 1 (B 4 q 5 t) 10).toNat else 0, F, B) := by
  obtain ⟨h4, ⟨h6, m1⟩, _, hc, hn, he, _⟩ := h
  obtain ⟨e1, e2, e3, e4⟩ := he t t0 t1
  unfold f_Part_tiedPitches f_Part_tiedPitches_27
  rw [if_pos (show r32 t by unfold r32; omega), if_neg (show ¬ t < 0 by omega), if_pos h4, if_pos (show r32 (t + 1) by unfold r32; omega), h6, if_pos (show r32 (m : Int) by unfold r32; omega)]
  by_cases z : (m : Int) ≤ t + 1
  · rw [if_pos z, if_neg (fun y => by have := y.2; omega)]
  obtain ⟨d1, d2, d3, d4⟩ := he (t + 1) (by omega) (by omega)
  rw [if_neg z, if_pos (show 0 ≤ t ∧ t < 200 by omega), if_pos e1, C_has e1, zb_s]
  by_cases y : zand (F 1 (B 4 q 5 t) 7) 1 = 0
  · rw [if_pos y, if_pos (show r32 0 by decide), if_pos (show (0 : Int) = 0 from rfl), if_neg (fun x => x.1 y)]
  · have sh := C_shared (K := K) (F := F) (B := B) hK e1 d1 rfl e3 rfl d3 (fun k u s => by have := e4 k u s; unfold r32; omega) (fun k u s => by have := d4 k u s; unfold r32; omega)
    rw [if_neg y, if_pos (show r32 1 by decide), if_neg (show ¬ (1 : Int) = 0 by decide), if_pos (show 0 ≤ t + 1 ∧ t + 1 < 200 by omega), if_pos e1, if_pos d1, sh, zb_s, if_pos ⟨y, by omega⟩]
theorem hdN_c {i : Int} (hr : rsN D i = 0) (hc : coN D (i + 1) = 1) (n0 : 0 ≤ D 5 (D 0 i 0) 0) (n1 : D 5 (D 0 i 0) 0 ≤ 6) : hdN D i = zshl 1 (D 5 (D 0 i 0) 0) - 1 := by
  unfold hdN
  rw [if_neg (by omega), shM_c (h' := fun _ => true) _ (fun j _ _ => by unfold hbN; exact decide_eq_true (Or.inl hc))]
  have z := shM_1 ⟨(D 5 (D 0 i 0) 0).toNat, by omega⟩
  rw [show (((⟨(D 5 (D 0 i 0) 0).toNat, by omega⟩ : Fin 7).val : Nat) : Int) = D 5 (D 0 i 0) 0 by show (((D 5 (D 0 i 0) 0).toNat : Nat) : Int) = _; omega] at z
  exact z
theorem hdN_t {i : Int} {B : zB} (hD : cD q F B fi be = D) (h6 : F 4 q 6 = m) (hr : rsN D i = 0) (hc : coN D (i + 1) = 0) (t0 : 0 ≤ D 0 i 0) (t1 : D 0 i 0 < m) : hdN D i = if ¬ zand (F 1 (B 4 q 5 (D 0 i 0)) 7) 1 = 0 ∧ D 0 i 0 + 1 < m then shM (shB (B 4 q 5 (D 0 i 0)) (B 4 q 5 (D 0 i 0 + 1)) (F 1 (B 4 q 5 (D 0 i 0 + 1)) 10) B) (F 1 (B 4 q 5 (D 0 i 0)) 10).toNat else 0 := by
  obtain ⟨s0, s1, _⟩ := cD_s hD
  obtain ⟨g4, g5, g6⟩ := cD_e hD h6 t0 t1
  unfold hdN
  rw [if_neg (by omega), g5]
  by_cases z : ¬ zand (F 1 (B 4 q 5 (D 0 i 0)) 7) 1 = 0 ∧ D 0 i 0 + 1 < m
  · rw [if_pos z]
    refine shM_c _ (fun j j0 j1 => ?_)
    obtain ⟨k6, k7⟩ := g6 j j0 (by omega)
    unfold hbN shB
    rw [hc, g4, s1, h6, k6, k7, fpD_c hD h6 (by omega) z.2]
    by_cases y : 0 ≤ fP (B 1 (B 4 q 5 (D 0 i 0 + 1)) 12) (B 1 (B 4 q 5 (D 0 i 0 + 1)) 13) (F 1 (B 4 q 5 (D 0 i 0 + 1)) 10) (B 1 (B 4 q 5 (D 0 i 0)) 12 j) (B 1 (B 4 q 5 (D 0 i 0)) 13 j) 7 0
    · rw [decide_eq_true y]; exact decide_eq_true (Or.inr ⟨z.1, z.2, y⟩)
    · rw [decide_eq_false y]; exact decide_eq_false (fun x => by
        rcases x with x | x
        · exact absurd x (by decide)
        · exact y x.2.2)
  · rw [if_neg z, shM_0]
    intro j j0 j1
    unfold hbN
    rw [hc, g4, s1, h6]
    exact decide_eq_false (fun x => by
      rcases x with x | x
      · exact absurd x (by decide)
      · exact z ⟨x.1, x.2.1⟩)
theorem C_hdD (hK : 3002 ≤ K.1) : ∀ (r n : Nat) {i : Int} {B : zB}, 0 ≤ i → i + r = c → r < n → QN K q m c F B → cD q F B fi be = D → ∃ B', f_Part_hold_2 K n i q F B = some (0, F, B') ∧ qW q 366 366 i B B' ∧ ∀ j, i ≤ j → j < c → B' 4 q 366 j = hdN D j := by
  intro r
  induction r with
  | zero =>
    intro n i B i0 ir hn h hD
    obtain ⟨n, rfl⟩ : ∃ k, n = k + 1 := ⟨n - 1, by omega⟩
    obtain ⟨h4, ⟨h6, m1⟩, ⟨h10, c0, c1⟩, _⟩ := h
    rw [f_Part_hold_2, if_pos h4, if_pos (by unfold r32; omega), h10, if_pos (by unfold r32; omega), if_pos (by omega)]
    exact ⟨B, rfl, qW_r, fun j a b => by omega⟩
  | succ r ih =>
    intro n i B i0 ir hn h hD
    obtain ⟨n, rfl⟩ : ∃ k, n = k + 1 := ⟨n - 1, by omega⟩
    have h' := h
    obtain ⟨h4, ⟨h6, m1⟩, ⟨h10, c0, c1⟩, hc, hno, he, _⟩ := h
    obtain ⟨e1, z2⟩ := C_rnD h' hD i0 (by omega)
    rw [f_Part_hold_2, if_pos h4, if_pos (by unfold r32; omega), h10, if_pos (by unfold r32; omega), if_neg (by omega), if_pos (by omega), e1, zb_s]
    have go : ∀ x : Int, x = hdN D i → ∃ B', f_Part_hold_89 (f_Part_hold_2 K n) K i q F (zup4 B 4 q 366 i x) = some (0, F, B') ∧ qW q 366 366 i B B' ∧ ∀ j, i ≤ j → j < c → B' 4 q 366 j = hdN D j := fun x hx => by
      obtain ⟨w1, w2⟩ := QN_w (k := 366) (i := i) (x := x) h' (by decide)
      obtain ⟨B', a, b, e⟩ := ih n (i := i + 1) (by omega) (by omega) (by omega) w1 (by rw [cD_q w2]; exact hD)
      refine ⟨B', a, fun c y k x' nn => by rw [b c y k x' (by omega), zup4_v, if_neg (by omega)], fun j j0 j1 => ?_⟩
      by_cases ej : j = i
      · rw [ej, b 4 q 366 i (by omega), zup4_v, if_pos ⟨rfl, rfl, rfl, rfl⟩]
        exact hx
      · exact e j (by omega) j1
    rcases rsN_b (D := D) (i := i) with z1 | z1
    · obtain ⟨y0, y1, y2, y3⟩ := z2 z1
      obtain ⟨g4, g5, _⟩ := cD_e hD h6 (t := D 0 i 0) (by omega) (by omega)
      have y4 := (he _ y1 y2).2.2.1
      rw [z1, if_pos (show r32 0 by decide), if_pos (show (0 : Int) = 0 from rfl), C_ctD h' hD (i := i + 1) (by omega) (by omega), zb_s]
      rcases coN_b (D := D) (i := i + 1) with z3 | z3
      · rw [z3, if_pos (show r32 0 by decide), if_pos (show (0 : Int) = 0 from rfl), C_tpD hK h' y1 y2, zb_s]
        refine go _ ?_
        rw [hdN_t hD h6 z1 z3 (by omega) (by omega), y0]
      · rw [z3, if_pos (show r32 1 by decide), if_neg (show ¬ (1 : Int) = 0 by decide), if_pos (by omega), if_pos (he _ y1 y2).1]
        refine go _ ?_
        rw [hdN_c z1 z3 (by rw [g5, y0]; exact y4.1) (by rw [g5, y0]; exact y4.2), g5, y0]
    · rw [z1, if_pos (show r32 1 by decide), if_neg (show ¬ (1 : Int) = 0 by decide)]
      exact go 0 (by unfold hdN; rw [if_pos z1])
/-! accidentals -/
theorem tdN_b {t k : Int} : tdN D t k = 0 ∨ tdN D t k = 1 := by
  unfold tdN
  split
  · exact Or.inr rfl
  · exact Or.inl rfl
theorem C_tdD {t k : Int} {B : zB} (hK : 3002 ≤ K.1) (h : QN K q m c F B) (hD : cD q F B fi be = D) (t0 : 0 ≤ t) (t1 : t < m) (k0 : 0 ≤ k) (k1 : k < F 1 (B 4 q 5 t) 10) : f_Part_isTiedFrom K q t k F B = some (tdN D t k, F, B) := by
  obtain ⟨h4, ⟨h6, m1⟩, _, hc, hn, he, _⟩ := h
  obtain ⟨e1, e2, e3, e4⟩ := he t t0 t1
  obtain ⟨_, _, g6⟩ := cD_e hD h6 t0 t1
  obtain ⟨k6, k7⟩ := g6 k k0 k1
  unfold f_Part_isTiedFrom f_Part_isTiedFrom_56 f_Part_isTiedFrom_57
  rw [if_pos h4, if_pos (by omega), if_pos (by unfold r32; omega)]
  by_cases z : t ≤ 0
  · have e : tdN D t k = 0 := by unfold tdN; rw [if_neg (fun y => by have := y.1; omega)]
    rw [e, if_pos z, if_pos (Or.inl rfl)]
  obtain ⟨d1, d2, d3, d4⟩ := he (t - 1) (by omega) (by omega)
  obtain ⟨g4, _, _⟩ := cD_e hD h6 (t := t - 1) (by omega) (by omega)
  have fp := fpD_c (s := D 6 t k) (a := D 7 t k) hD h6 (t := t - 1) (by omega) (by omega)
  rw [k6, k7] at fp
  rw [if_neg z, if_pos (by omega), if_pos d1, C_has d1, zb_s]
  by_cases y : zand (F 1 (B 4 q 5 (t - 1)) 7) 1 = 0
  · have e : tdN D t k = 0 := by unfold tdN; rw [g4, if_neg (fun x => x.2.1 y)]
    rw [e, if_pos y, if_pos (show r32 0 by decide), if_pos (show (0 : Int) = 0 from rfl), if_pos (Or.inl rfl)]
  · have ek := e4 k k0 k1
    rw [if_neg y, if_pos (show r32 1 by decide), if_neg (show ¬ (1 : Int) = 0 by decide), if_pos e1, if_pos (by omega), if_pos d1, C_hasP hK d1 rfl d3.2 d3.1 (fun j u s => by have := d4 j u s; unfold r32; omega) (by unfold r32; omega) (by unfold r32; omega), zb_s]
    by_cases x : fP (B 1 (B 4 q 5 (t - 1)) 12) (B 1 (B 4 q 5 (t - 1)) 13) (F 1 (B 4 q 5 (t - 1)) 10) (B 1 (B 4 q 5 t) 12 k) (B 1 (B 4 q 5 t) 13 k) 7 0 < 0
    · have e : tdN D t k = 0 := by unfold tdN; rw [g4, k6, k7, fp, if_neg (fun x' => by have := x'.2.2; omega)]
      rw [e, if_pos x, if_pos (show r32 0 by decide), if_pos (show (0 : Int) = 0 from rfl), if_pos (Or.inl rfl)]
    · have e : tdN D t k = 1 := by unfold tdN; rw [g4, k6, k7, fp, if_pos ⟨by omega, y, by omega⟩]
      rw [e, if_neg x, if_pos (show r32 1 by decide), if_neg (show ¬ (1 : Int) = 0 by decide), if_pos (Or.inr rfl)]
/-- the row of what is known alone -/
noncomputable def q12 (q : Int) (B B' : zB) : Prop := ∀ c y k x, ¬ (c = 4 ∧ y = q ∧ k = 12) → B' c y k x = B c y k x
theorem q12_q {B B' : zB} (h : q12 q B B') : qB q B B' := fun c y k x n => h c y k x (by omega)
theorem C_acD12 {t e : Int} {f : Int → Int} (hK : 3002 ≤ K.1) (t0 : 0 ≤ t) (t1 : t < m) : ∀ (r n k : Nat) {x : Int} {B : zB}, B 4 q 5 t = e → (k : Int) + r = F 1 e 10 → r < n → QN K q m c F B → cD q F B fi be = D → x = (acS D t f k).2 → (∀ s, 0 ≤ s → s < 63 → B 4 q 12 s = (acS D t f k).1 s) → ∃ B', f_Part_accidentalsOf_12 K n k x e q t F B = some ((acS D t f (F 1 e 10).toNat).2, F, B') ∧ q12 q B B' ∧ QN K q m c F B' ∧ ∀ s, 0 ≤ s → s < 63 → B' 4 q 12 s = (acS D t f (F 1 e 10).toNat).1 s := by
  intro r
  induction r with
  | zero =>
    intro n k x B hE kr hn h hD hx hs
    obtain ⟨n, rfl⟩ : ∃ j, n = j + 1 := ⟨n - 1, by omega⟩
    have h' := h
    obtain ⟨h4, ⟨h6, m1⟩, _, hc, hno, he, _⟩ := h
    obtain ⟨e1, e2, e3, e4⟩ := he t t0 t1
    rw [hE] at e1 e2 e3 e4
    rw [f_Part_accidentalsOf_12, if_pos e1, if_pos (by unfold r32; omega), if_pos (by unfold r32; omega), if_pos (by omega), show (F 1 e 10).toNat = k by omega, hx]
    exact ⟨B, rfl, fun _ _ _ _ _ => rfl, h', hs⟩
  | succ r ih =>
    intro n k x B hE kr hn h hD hx hs
    obtain ⟨n, rfl⟩ : ∃ j, n = j + 1 := ⟨n - 1, by omega⟩
    have h' := h
    obtain ⟨h4, ⟨h6, m1⟩, _, hc, hno, he, h12⟩ := h
    obtain ⟨e1, e2, e3, e4⟩ := he t t0 t1
    have ez := C_tdD hK h' hD t0 t1 (k := k) (by omega) (by rw [hE]; omega)
    obtain ⟨_, _, g6⟩ := cD_e hD h6 t0 t1
    rw [hE] at e1 e2 e3 e4 g6
    obtain ⟨k6, k7⟩ := g6 k (by omega) (by omega)
    have ek := e4 k (by omega) (by omega)
    have ab := acS_b (D := D) (t := t) (f := f) k
    rw [f_Part_accidentalsOf_12, if_pos e1, if_pos (by unfold r32; omega), if_pos (by unfold r32; omega), if_neg (by omega), if_pos (by omega), if_pos h4, ez, zb_s]
    simp only [f_Part_accidentalsOf_78]
    have same : (tdN D t k = 1 ∨ (acS D t f k).1 (D 6 t k) = D 7 t k) → acS D t f (k + 1) = acS D t f k := fun y => by rw [acS, if_pos y]
    have kk : ((k + 1 : Nat) : Int) = (k : Int) + 1 := by omega
    rcases tdN_b (D := D) (t := t) (k := k) with zb | zb
    · rw [zb, if_pos (show r32 0 by decide), if_pos (show (0 : Int) = 0 from rfl), if_pos (by omega), if_pos (h12 _ (by omega) (by omega)), if_pos (by unfold r32; omega)]
      have hk := hs (B 1 e 12 k) (by omega) (by omega)
      by_cases y : B 4 q 12 (B 1 e 12 k) = B 1 e 13 k
      · rw [if_pos y]
        have sm := same (Or.inr (by rw [k6, k7, ← hk]; exact y))
        have g := ih n (k + 1) (x := x) (B := B) hE (by omega) (by omega) h' hD (by rw [sm]; exact hx) (by rw [sm]; exact hs)
        rw [kk] at g
        exact g
      · rw [if_neg y]
        have nw : acS D t f (k + 1) = ((fun s => if s = D 6 t k then D 7 t k else (acS D t f k).1 s), (acS D t f k).2 + 2 ^ k) := by
          rw [acS, if_neg (fun x => by
            rcases x with x | x
            · omega
            · exact y (by rw [hk, ← k6, ← k7]; exact x))]
        generalize hC : zup4 B 4 q 12 (B 1 e 12 k) (B 1 e 13 k) = C
        have f12 : q12 q B C := fun d y j s nn => by rw [← hC, zup4_v, if_neg (by omega)]
        have hC' : QN K q m c F C := QN_f h' (q12_q f12) (fun s a b => by
          rw [← hC, zup4_v]
          split
          · unfold r32; omega
          · exact h12 s a b)
        obtain ⟨zz, _⟩ := zsh_i (k := k) (by omega) ab.1 ab.2
        obtain ⟨B', g1, g2, g3, g4⟩ := ih n (k + 1) (x := zor x (zshl 1 k)) (B := C) (by rw [f12 4 q 5 t (by omega)]; exact hE) (by omega) (by omega) hC' (by rw [cD_q (q12_q f12)]; exact hD) (by rw [nw, hx, zz]) (fun s s0 s1 => by
          rw [nw, ← hC, zup4_v]
          by_cases es : s = B 1 e 12 k
          · rw [if_pos ⟨rfl, rfl, rfl, es⟩]
            show _ = if s = D 6 t k then D 7 t k else _
            rw [if_pos (by rw [k6]; exact es), k7]
          · rw [if_neg (fun z => es z.2.2.2)]
            show _ = if s = D 6 t k then D 7 t k else _
            rw [if_neg (by rw [k6]; exact es)]
            exact hs s s0 s1)
        rw [kk] at g1
        exact ⟨B', g1, fun c y k x n => by rw [g2 c y k x n, f12 c y k x n], g3, g4⟩
    · rw [zb, if_pos (show r32 1 by decide), if_neg (show ¬ (1 : Int) = 0 by decide)]
      have sm := same (Or.inl zb)
      have g := ih n (k + 1) (x := x) (B := B) hE (by omega) (by omega) h' hD (by rw [sm]; exact hx) (by rw [sm]; exact hs)
      rw [kk] at g
      exact g
theorem C_acD36 {f i b : Int} {rec : Int → Int → Int → Int → zF → zB → zO} (hf : -7 ≤ f ∧ f ≤ 7) : ∀ (r n : Nat) {s : Int} {B : zB}, 0 ≤ s → s + r = 63 → r < n → QN K q m c F B → ∃ B', f_Part_setAccidentals_36 rec K n s b i q f F B = f_Part_setAccidentals_65 rec K i b q f F B' ∧ q12 q B B' ∧ QN K q m c F B' ∧ (∀ x, x < s → B' 4 q 12 x = B 4 q 12 x) ∧ ∀ x, s ≤ x → x < 63 → B' 4 q 12 x = kaV f (x % 7) := by
  intro r
  induction r with
  | zero =>
    intro n s B s0 sr hn h
    obtain ⟨n, rfl⟩ : ∃ j, n = j + 1 := ⟨n - 1, by omega⟩
    rw [f_Part_setAccidentals_36, if_pos (by unfold r32; omega), if_pos (by omega)]
    exact ⟨B, rfl, fun _ _ _ _ _ => rfl, h, fun _ _ => rfl, fun x a b => by omega⟩
  | succ r ih =>
    intro n s B s0 sr hn h
    obtain ⟨n, rfl⟩ : ∃ j, n = j + 1 := ⟨n - 1, by omega⟩
    have h' := h
    obtain ⟨h4, _, _, _, _, _, h12⟩ := h
    have m1 := Int.emod_nonneg s (show (7 : Int) ≠ 0 by decide)
    have m2 := Int.emod_lt_of_pos s (show (0 : Int) < 7 by decide)
    have zb := kaV_b (f := f) (s := s % 7)
    rw [f_Part_setAccidentals_36, if_pos (by unfold r32; omega), if_neg (by omega), if_pos h4, zrm_e s0 (by unfold r32; omega) (by decide) (by decide), C_kaV hf m1 (by omega), zb_s, if_pos (by omega)]
    generalize hC : zup4 B 4 q 12 s (kaV f (s % 7)) = C
    have f' : q12 q B C := fun d y j s nn => by rw [← hC, zup4_v, if_neg (by omega)]
    have hC' : QN K q m c F C := QN_f h' (q12_q f') (fun s a b => by
      rw [← hC, zup4_v]
      split
      · unfold r32; omega
      · exact h12 s a b)
    obtain ⟨B', g1, g2, g3, g4, g5⟩ := ih n (s := s + 1) (B := C) (by omega) (by omega) (by omega) hC'
    refine ⟨B', g1, fun c y k x n => by rw [g2 c y k x n, f' c y k x n], g3, fun x hx => by rw [g4 x (by omega), ← hC, zup4_v, if_neg (by omega)], fun x x0 x1 => ?_⟩
    by_cases ex : x = s
    · rw [ex, g4 s (by omega), ← hC, zup4_v, if_pos ⟨rfl, rfl, rfl, rfl⟩]
    · exact g5 x (by omega) x1
theorem C_acD {f : Int} (hK : 3002 ≤ K.1) (hf : -7 ≤ f ∧ f ≤ 7) (hfi : D 8 2 0 = f) : ∀ (r n i : Nat) {b : Int} {B : zB}, (i : Int) + r = c → r < n → r32 b → QN K q m c F B → cD q F B fi be = D → ((i = 0 ∧ b = -1) ∨ (0 < i ∧ b = D 1 ((i : Int) - 1) 0)) → (0 < i → ∀ s, 0 ≤ s → s < 63 → B 4 q 12 s = knN D i s) → ∃ B', f_Part_setAccidentals_4 K n i b q f F B = some (0, F, B') ∧ qW q 367 367 i B B' ∧ ∀ j, (i : Int) ≤ j → j < c → B' 4 q 367 j = acN D j := by
  intro r
  induction r with
  | zero =>
    intro n i b B ir hn rb h hD hb hs
    obtain ⟨n, rfl⟩ : ∃ k, n = k + 1 := ⟨n - 1, by omega⟩
    obtain ⟨h4, ⟨h6, m1⟩, ⟨h10, c0, c1⟩, _⟩ := h
    rw [f_Part_setAccidentals_4, if_pos h4, if_pos (by unfold r32; omega), h10, if_pos (by unfold r32; omega), if_pos (by omega)]
    exact ⟨B, rfl, qW_r, fun j a b => by omega⟩
  | succ r ih =>
    intro n i b B ir hn rb h hD hb hs
    obtain ⟨n, rfl⟩ : ∃ k, n = k + 1 := ⟨n - 1, by omega⟩
    have ii : ((i + 1 : Nat) : Int) = (i : Int) + 1 := by omega
    have kS : ∀ s, knN D (i + 1) s = (stN D i (kbN D i (knN D i))).1 s := fun s => rfl
    have aS : acN D i = (stN D i (kbN D i (knN D i))).2 := by unfold acN; rw [show (i : Int).toNat = i by omega]
    -- one note
    have note : ∀ (b' : Int) (C : zB), r32 b' → b' = D 1 i 0 → QN K q m c F C → cD q F C fi be = D → q12 q B C → (∀ s, 0 ≤ s → s < 63 → C 4 q 12 s = kbN D i (knN D i) s) → ∃ B', f_Part_setAccidentals_65 (f_Part_setAccidentals_4 K n) K i b' q f F C = some (0, F, B') ∧ qW q 367 367 i B B' ∧ ∀ j, (i : Int) ≤ j → j < c → B' 4 q 367 j = acN D j := by
      intro b' C rb' eb hC hCD fC hk
      have hC' := hC
      obtain ⟨h4, ⟨h6, m1⟩, ⟨h10, c0, c1⟩, hc, hno, he, _⟩ := hC
      have put : ∀ (x : Int) (E : zB), QN K q m c F E → q12 q B E → x = acN D i → (∀ s, 0 ≤ s → s < 63 → E 4 q 12 s = knN D (i + 1) s) → ∃ B', f_Part_setAccidentals_117 (f_Part_setAccidentals_4 K n) K i b' q f q i x F E = some (0, F, B') ∧ qW q 367 367 i B B' ∧ ∀ j, (i : Int) ≤ j → j < c → B' 4 q 367 j = acN D j := fun x E hE fE hx hkE => by
        obtain ⟨w1, w2⟩ := QN_w (k := 367) (i := (i : Int)) (x := x) hE (by decide)
        obtain ⟨B', g1, g2, g3⟩ := ih n (i + 1) (b := b') (B := zup4 E 4 q 367 i x) (by omega) (by omega) rb' w1 (by rw [cD_q w2, cD_q (q12_q fE)]; exact hD) (Or.inr ⟨by omega, by rw [eb, ii, show (i : Int) + 1 - 1 = i by omega]⟩) (fun _ s s0 s1 => by rw [zup4_v, if_neg (by omega)]; exact hkE s s0 s1)
        rw [ii] at g1 g2 g3
        refine ⟨B', ?_, fun c y k x' nn => by rw [g2 c y k x' (by omega), zup4_v, if_neg (by omega), fE c y k x' (by omega)], fun j j0 j1 => ?_⟩
        · unfold f_Part_setAccidentals_117
          rw [if_pos h4, if_pos (by omega)]
          exact g1
        · by_cases ej : j = i
          · rw [ej, g2 4 q 367 i (by omega), zup4_v, if_pos ⟨rfl, rfl, rfl, rfl⟩]
            exact hx
          · exact g3 j (by omega) j1
      obtain ⟨e1, z2⟩ := C_rnD hC' hCD (i := (i : Int)) (by omega) (by omega)
      unfold f_Part_setAccidentals_65 f_Part_setAccidentals_85 f_Part_setAccidentals_86
      rw [if_pos h4, e1, zb_s]
      have bare : (rsN D i = 1 ∨ coN D i = 1) → acN D i = 0 ∧ ∀ s, knN D (i + 1) s = kbN D i (knN D i) s := fun y => by
        refine ⟨by rw [aS]; unfold stN; rw [if_pos y], fun s => by rw [kS]; unfold stN; rw [if_pos y]⟩
      rcases rsN_b (D := D) (i := (i : Int)) with z1 | z1
      · obtain ⟨y0, y1, y2, y3⟩ := z2 z1
        obtain ⟨_, g5, _⟩ := cD_e hCD h6 (t := D 0 i 0) (by omega) (by omega)
        have y4 := (he _ y1 y2).2.2.1
        rw [z1, if_pos (show r32 0 by decide), if_pos (show (0 : Int) = 0 from rfl), C_ctD hC' hCD (i := (i : Int)) (by omega) (by omega), zb_s]
        rcases coN_b (D := D) (i := (i : Int)) with z3 | z3
        · have fresh : stN D i (kbN D i (knN D i)) = acS D (D 0 i 0) (kbN D i (knN D i)) (D 5 (D 0 i 0) 0).toNat := by unfold stN; rw [if_neg (by omega)]
          obtain ⟨E, g1, g2, g3, g4⟩ := C_acD12 (K := K) (q := q) (c := c) (fi := fi) (be := be) (m := m) (F := F) (D := D) (t := C 4 q 360 i) (e := C 4 q 5 (C 4 q 360 i)) (f := kbN D i (knN D i)) hK y1 y2 (F 1 (C 4 q 5 (C 4 q 360 i)) 10).toNat K.1 0 (x := 0) (B := C) rfl (by omega) (by omega) hC' hCD rfl hk
          rw [z3, if_pos (show r32 0 by decide), if_pos (show (0 : Int) = 0 from rfl), if_pos h4, if_pos (show r32 1 by decide), if_neg (show ¬ (1 : Int) = 0 by decide), if_pos (show 0 ≤ (i : Int) ∧ (i : Int) < 800 by omega), f_Part_accidentalsOf, if_pos h4, if_pos (show 0 ≤ C 4 q 360 i ∧ C 4 q 360 i < 200 by omega)]
          rw [show ((0 : Nat) : Int) = 0 from rfl] at g1
          rw [g1, zb_s]
          refine put _ E g3 (fun c y k x n => by rw [g2 c y k x n, fC c y k x n]) ?_ (fun s s0 s1 => ?_)
          · rw [aS, fresh, g5, y0]
          · rw [kS, fresh, g5, y0]; exact g4 s s0 s1
        · rw [z3, if_pos (show r32 1 by decide), if_neg (show ¬ (1 : Int) = 0 by decide), if_pos h4, if_pos (show r32 0 by decide), if_pos (show (0 : Int) = 0 from rfl)]
          obtain ⟨b1, b2⟩ := bare (Or.inr z3)
          exact put 0 C hC' fC b1.symm (fun s s0 s1 => by rw [b2]; exact hk s s0 s1)
      · rw [z1, if_pos (show r32 1 by decide), if_neg (show ¬ (1 : Int) = 0 by decide), if_pos h4, if_pos (show r32 0 by decide), if_pos (show (0 : Int) = 0 from rfl)]
        obtain ⟨b1, b2⟩ := bare (Or.inl z1)
        exact put 0 C hC' fC b1.symm (fun s s0 s1 => by rw [b2]; exact hk s s0 s1)
    have h' := h
    obtain ⟨h4, ⟨h6, m1⟩, ⟨h10, c0, c1⟩, hc, hno, he, _⟩ := h
    obtain ⟨n1, n2, n3, n4⟩ := hno i (by omega) (by omega)
    obtain ⟨_, d1, _⟩ := cD_n hD h10 (i := (i : Int)) (by omega) (by omega)
    rw [f_Part_setAccidentals_4, if_pos h4, if_pos (by unfold r32; omega), h10, if_pos (by unfold r32; omega), if_neg (by omega), if_pos (by omega), if_pos (by unfold r32; omega), if_pos rb]
    by_cases z : B 4 q 361 i = b
    · rw [if_pos z]
      have i0 : 0 < i := by
        rcases hb with ⟨_, y⟩ | y
        · omega
        · exact y.1
      refine note b B rb (by rw [d1]; exact z.symm) h' hD (fun _ _ _ _ _ => rfl) (fun s s0 s1 => ?_)
      rw [hs i0 s s0 s1]
      unfold kbN
      rw [if_neg (fun y => by
        rcases y with y | y
        · omega
        · rcases hb with ⟨y', _⟩ | ⟨_, y'⟩
          · omega
          · exact y (by rw [d1, z]; exact y'))]
    · rw [if_neg z]
      obtain ⟨C, g1, g2, g3, _, g5⟩ := C_acD36 (K := K) (q := q) (c := c) (m := m) (F := F) (rec := f_Part_setAccidentals_4 K n) (i := (i : Int)) (b := B 4 q 361 i) hf 63 K.1 (s := 0) (B := B) (by decide) (by decide) (by omega) h'
      rw [g1]
      refine note (B 4 q 361 i) C (by unfold r32; omega) d1.symm g3 (by rw [cD_q (q12_q g2)]; exact hD) g2 (fun s s0 s1 => ?_)
      rw [g5 s s0 s1]
      unfold kbN
      rw [if_pos (by
        rcases hb with ⟨y', _⟩ | ⟨_, y'⟩
        · exact Or.inl (by omega)
        · exact Or.inr (fun y => z (by rw [y', ← y, d1])))]
      unfold kyN
      rw [hfi]
end
end
