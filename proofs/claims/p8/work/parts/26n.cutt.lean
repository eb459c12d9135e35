section
/-! ===== an event in a bracket, cut and written, both sides ===== -/
theorem P_cutT {K : zK} {Km m n1 n2 i : Nat} {Z : Int → Int → Prop} {q p v w n d P : Int} {F : zF} {B : zB} {Fm : zF} {Bm : zB} (hK : 3002 ≤ K.1) (hKm : 70000000000 < Km) (h4 : 0 ≤ q ∧ q < K.2 4) (v0 : 0 ≤ v ∧ v < 4) (w0 : 0 ≤ w ∧ w < 3) (hn : 1 ≤ n ∧ n ≤ 12) (hd : d = 2 ∨ d = 4 ∨ d = 8 ∨ d = 16) (m4 : Fm 13 w 4 = n) (m5 : Fm 13 w 5 = d) (hi : i < m) (m1 : m ≤ 200) (he : 0 ≤ B 4 q 5 i ∧ B 4 q 5 i < K.2 1) (hE : EVW w (B 4 q 5 i) (1000 * v + i) F B Bm) (h5 : ¬ F 1 (B 4 q 5 i) 5 = 0) (P0 : 0 ≤ P) (P1 : P + F 1 (B 4 q 5 i) 1 ≤ 100 * barV n d) (hw : P + F 1 (B 4 q 5 i) 1 ≤ (P / barV n d + 1) * barV n d) (hZ : ∀ y, 0 ≤ y → y < P % barV n d + F 1 (B 4 q 5 i) 1 → Z (P / barV n d) y) (hN : (∃ c, NW q v w m Z c F B Bm) ∨ NX q v w F Bm) : zP (f_Part_cut_18 K (n1 + 1 + 1) 0 (P + F 1 (B 4 q 5 i) 1) P (barV n d) q p i F B) (f_M_pieces_16 Km (n2 + 1 + 1) (de (F 1 (B 4 q 5 i) 1)) (nu (F 1 (B 4 q 5 i) 1)) (de P) (nu P) w v i 1 Fm Bm) (fun _ F' B' _ Fm' Bm' => NO q v w m Z F B Fm Bm F' B' Fm' Bm') := by
  obtain ⟨bv1, _, bv3, bv4, bv5⟩ := bar_v hn hd
  obtain ⟨a1, ⟨a2, a2', a2''⟩, ⟨a3, a3', a3''⟩, ⟨z, hz, hl⟩, ⟨a5, a5', a5'', a5'''⟩, a6, ⟨a7, a7', a7'', _⟩, _, _, _, _, ep⟩ := hE
  have e21 : Bm 13 w 21 (1000 * v + i) = F 1 (B 4 q 5 i) 10 ∧ (0 ≤ F 1 (B 4 q 5 i) 10 ∧ F 1 (B 4 q 5 i) 10 ≤ 6) := ⟨ep.2.1, ep.2.2.1⟩
  generalize hee : B 4 q 5 i = e at *
  generalize hg : F 1 e 1 = g at *
  generalize hvl : F 1 e 2 = vl at *
  generalize ht1 : F 1 e 3 = t1 at *
  generalize ht2 : F 1 e 4 = t2 at *
  generalize hbar : barV n d = bar at *
  have q1 := Int.mul_ediv_add_emod P bar
  have q2 := Int.emod_nonneg P (show bar ≠ 0 by omega)
  have q3 := Int.emod_lt_of_pos P bv4
  have q4 : 0 ≤ P / bar := Int.ediv_nonneg P0 (by first | decide | omega)
  have q5 : P / bar < 100 := Int.ediv_lt_of_lt_mul bv4 (by first | decide | omega)
  have q6 : (P / bar + 1) * bar = bar * (P / bar) + bar := by rw [Int.add_mul, Int.one_mul, Int.mul_comm]
  have q7 : P / bar * bar = bar * (P / bar) := Int.mul_comm _ _
  have g1 : 1 ≤ g := a5''
  -- the class: one piece
  have cE : f_Part_cut_18 K (n1 + 1 + 1) 0 (P + g) P bar q p i F B = zbind (f_Part_writeTuplet_23 K K.1 0 (vl * 4) (P % bar) e q i (P / bar) F B) (fun _ F1 B1 => some (0, F1, B1)) := by
    rw [f_Part_cut_18, if_pos (by decide), if_neg (by decide), if_pos (show r64 P by unfold r64; omega), if_pos (show r64 (P + g) by unfold r64; omega), if_neg (show ¬ 0 ≤ zcmp P (P + g) from fun h => by
      have : zcmp P (P + g) < 0 := zcmp_lt.mpr (by first | decide | omega)
      omega), if_pos (show r64 bar by unfold r64; omega), if_neg (show ¬ zcmp bar 0 ≤ 0 from fun h => by have := zcmp_m.mp h; omega), if_pos (lI_n0 bv4 (by unfold r64; omega)), zldv_e P0 (by first | decide | omega) bv4 (by first | decide | omega), if_pos (show r32 (P / bar + 1) by unfold r32; omega), if_pos (show r64 ((P / bar + 1) * bar) by unfold r64; omega), if_pos (show r32 (i : Int) by unfold r32; omega), if_neg (show ¬ (i : Int) = -1 by omega), if_pos h4, if_pos (show 0 ≤ (i : Int) ∧ (i : Int) < 200 by omega), hee, if_pos he, if_pos (show r32 (F 1 e 5) by unfold r32; omega), if_neg h5]
    have zm : zmin (P + g) ((P / bar + 1) * bar) = P + g := by unfold zmin; rw [if_neg (by first | decide | omega)]
    unfold f_Part_cut_85 f_Part_writeTuplet
    rw [zm, if_pos (show r32 1 by decide), if_neg (show ¬ (1 : Int) = 0 by decide), if_pos (show r32 (P / bar) by unfold r32; omega), if_pos h4, if_pos h4, if_pos (show 0 ≤ (i : Int) ∧ (i : Int) < 200 by omega), hee, if_pos he, hvl, show P - P / bar * bar = P % bar by omega]
    congr 1
    funext r1 F1 B1
    rw [f_Part_cut_165, f_Part_cut_18, if_pos (by decide), if_neg (by decide), if_pos (show r64 (P + g) by unfold r64; omega), if_pos (show r64 (P + g) by unfold r64; omega), if_pos (show 0 ≤ zcmp (P + g) (P + g) by rw [zcmp_0.mpr rfl]; decide), f_Part_cut_175]
  have hg2 : g * t1 = X5 * (4 * vl) * t2 := by
    rw [hl, show X5 * (4 * vl) = 6350400 * vl by unfold X5; omega, hz]
    ac_rfl
  have nuz : zcmp (nu g) 0 ≤ 0 ↔ False := by
    have h := FR_r (p := g) (by first | decide | omega)
    obtain ⟨d0, _, n0, e'⟩ := h
    rw [zcmp_m]
    refine ⟨fun h => ?_, fun h => h.elim⟩
    have : nu g = 0 := by omega
    rw [this, Int.zero_mul] at e'
    rcases Int.mul_eq_zero.mp e'.symm with y | y <;> omega
  have rnu : r64 (nu g) := by
    have := FR_b (FR_r (p := g) (by first | decide | omega))
    have := (FR_r (p := g) (by first | decide | omega)).2.2.1
    unfold r64
    omega
  rcases hN with ⟨c, hN⟩ | hX
  case inr =>
    obtain ⟨k, hk⟩ : ∃ k, K.1 = k + 1 := ⟨K.1 - 1, (by first | decide | omega)⟩
    have wt := C_wtX (K := K) (n1 := k) (l := vl * 4) (at' := P % bar) (cnt := 0) (nb := P / bar) (e := e) (i := i) (F := F) (B := B) h4 (by decide) (by unfold r32; omega) hX
    rw [← hk] at wt
    rw [cE, wt, zb_s, f_M_pieces_16, if_pos rnu, if_neg (fun h => nuz.mp h), if_pos w0, if_pos v0, hX.2.2, if_pos (by decide), if_pos (by decide), f_M_pieces_215]
    exact zP_s (NO_r (Or.inr hX))
  have rn : r32 n := by unfold r32; omega
  have rd : r32 d := by unfold r32; omega
  have f1 : FR ((P / bar + 1) * n) d ((P / bar + 1) * bar) := FR_k bv1 (by first | decide | omega)
  have f2 : FR (P / bar * n) d (P / bar * bar) := FR_k bv1 q4
  have cmp : ∀ x y : Int, r32 (if x < y then (-1 : Int) else if x = y then 0 else 1) ∧ (0 ≤ (if x < y then (-1 : Int) else if x = y then 0 else 1) ↔ y ≤ x) := fun x y => by
    by_cases z : x < y
    · rw [if_pos z]; exact ⟨by decide, (by first | decide | omega)⟩
    · rw [if_neg z]
      by_cases z' : x = y
      · rw [if_pos z']; exact ⟨by decide, (by first | decide | omega)⟩
      · rw [if_neg z']; exact ⟨by decide, (by first | decide | omega)⟩
  -- the reference: one part
  have ptE : ∀ G : zF, G 13 w 4 = n → G 13 w 5 = d → f_M_part Km w v i (P / bar) (nu g) (de g) 1 G Bm = f_M_part_174 Km Km t1 t2 1 w v i (P / bar) (zup3 (zup3 (fr G (X5 * (4 * vl))) 14 0 52 (nu (X5 * (4 * vl)))) 14 0 53 (de (X5 * (4 * vl)))) Bm := fun G g4 g5 => by
    have e146 : f_M_part_146 Km t1 t2 1 w v i (P / bar) (nu g) (de g) G Bm = f_M_part_174 Km Km t1 t2 1 w v i (P / bar) (zup3 (zup3 (fr G (X5 * (4 * vl))) 14 0 52 (nu (X5 * (4 * vl)))) 14 0 53 (de (X5 * (4 * vl)))) Bm := by
      unfold f_M_part_146
      rw [L_timesR (r := X5 * (4 * vl)) hKm (FR_r (by first | decide | omega)) (by first | decide | omega) (by first | decide | omega) (by first | decide | omega) (by first | decide | omega) (by first | decide | omega) (by unfold X5; omega) hg2, zb_s, fr_0, fr_1]
    have e28 : ∀ ro : Int, ro = 0 ∨ ro = 1 → f_M_part_28 Km (1000 * v + i) w v i (P / bar) (nu g) (de g) 1 ro G Bm = f_M_part_146 Km t1 t2 1 w v i (P / bar) (nu g) (de g) G Bm := fun ro hr => by
      unfold f_M_part_28 f_M_part_49 f_M_part_68 f_M_part_87
      rw [if_pos (show r32 (i : Int) by unfold r32; omega), if_neg (show ¬ (i : Int) < 0 by omega), if_pos w0, if_pos (show 0 ≤ 1000 * v + (i : Int) ∧ 1000 * v + (i : Int) < 4000 by omega), if_pos (show r32 (Bm 13 w 22 (1000 * v + i)) by unfold r32; omega), if_neg (show ¬ Bm 13 w 22 (1000 * v + i) ≤ 0 from fun h => h5 (a7''.mpr (by first | decide | omega))), if_pos (show r32 1 by decide), if_neg (show ¬ (1 : Int) = 0 by decide), if_pos w0, if_pos (show 0 ≤ 1000 * v + (i : Int) ∧ 1000 * v + (i : Int) < 4000 by omega), ← a3, ← a2, if_pos (show r32 t2 by unfold r32; omega), if_pos (show r32 1 by decide), if_neg (show ¬ (1 : Int) = 0 by decide), if_pos w0, if_pos (show 0 ≤ 1000 * v + (i : Int) ∧ 1000 * v + (i : Int) < 4000 by omega), if_pos (show r32 t1 by unfold r32; omega)]
      rcases hr with rfl | rfl
      · rw [if_pos (show r32 0 by decide), if_pos (show (0 : Int) = 0 from rfl)]
      · rw [if_pos (show r32 1 by decide), if_neg (show ¬ (1 : Int) = 0 by decide), if_pos (show r32 1 by decide), if_neg (show ¬ (1 : Int) = 0 by decide)]
    unfold f_M_part f_M_part_23
    rw [if_pos (show r32 (i : Int) by unfold r32; omega), if_neg (show ¬ (i : Int) < 0 by omega), if_pos w0, if_pos (show 0 ≤ 1000 * v + (i : Int) ∧ 1000 * v + (i : Int) < 4000 by omega), if_pos (show r32 (Bm 13 w 21 (1000 * v + i)) by unfold r32; omega), e28 1 (Or.inr rfl), e28 0 (Or.inl rfl), e146]
    split <;> rfl
  have mE : ∃ G, nG Fm G ∧ G 14 0 54 = nu (P % bar) ∧ G 14 0 55 = de (P % bar) ∧ f_M_pieces_16 Km (n2 + 1 + 1) (de g) (nu g) (de P) (nu P) w v i 1 Fm Bm = zbind (f_M_part Km w v i (P / bar) (nu g) (de g) 1 G Bm) (fun _ F1 B1 => some (0, fr (fr F1 (P + g)) 0, B1)) := by
    have e111 : ∀ G : zF, (∀ c y k, ¬ (c = 14 ∧ y = 0 ∧ k ≤ 1) → G c y k = Fm c y k) → f_M_pieces_111 (f_M_pieces_16 Km (n2 + 1)) Km (de g) (nu g) (P / bar) (de g) (nu g) (de P) (nu P) w v i 1 G Bm = zbind (f_M_part Km w v i (P / bar) (nu g) (de g) 1 (zup3 (zup3 (fr G (P % bar)) 14 0 54 (nu (P % bar))) 14 0 55 (de (P % bar))) Bm) (fun _ F1 B1 => some (0, fr (fr F1 (P + g)) 0, B1)) := fun G hG => by
      unfold f_M_pieces_111
      rw [if_pos w0, hG 13 w 4 (by first | decide | omega), hG 13 w 5 (by first | decide | omega), m4, m5, if_pos rn, if_pos rd, L_minusR (by first | decide | omega) (FR_r P0) f2 (by first | decide | omega) (by first | decide | omega), zb_s, if_pos (show r32 (P / bar) by unfold r32; omega), show P - P / bar * bar = P % bar by omega, fr_0, fr_1]
      congr 1
      funext r1 F1 B1
      rw [L_plusR (by first | decide | omega) (FR_r P0) (FR_r (by first | decide | omega)) (by first | decide | omega), zb_s, L_minusR (by first | decide | omega) (FR_r (by first | decide | omega)) (FR_r (by first | decide | omega)) (by first | decide | omega) (by first | decide | omega), zb_s, Int.sub_self, fr_0, fr_1]
      obtain ⟨y1, y2⟩ := nu_L (l := 0) (by decide) (by decide)
      rw [show X5 * 0 = 0 by decide] at y1 y2
      rw [f_M_pieces_16, if_pos y2, if_pos (y1.mpr rfl), f_M_pieces_215]
    refine ⟨zup3 (zup3 (fr (fr Fm ((P / bar + 1) * bar - P)) (P % bar)) 14 0 54 (nu (P % bar))) 14 0 55 (de (P % bar)), fun c y k h => by rw [zup3_v, if_neg (by first | decide | omega), zup3_v, if_neg (by first | decide | omega), fr_n (by first | decide | omega), fr_n (by first | decide | omega)], by rw [zup3_v, if_neg (by first | decide | omega), zup3_v, if_pos (by first | decide | omega)], by rw [zup3_v, if_pos (by first | decide | omega)], ?_⟩
    rw [f_M_pieces_16, if_pos rnu, if_neg (fun h => nuz.mp h), if_pos w0, if_pos v0, hN.2.2.2.1, if_pos (show r32 c by have := hN.1; unfold r32; omega), if_neg (show ¬ 800 < c by have := hN.1; omega), m4, m5, if_pos rn, if_pos rd, L_oftR (FR_r P0) bv5 (by first | decide | omega) (by first | decide | omega) (by first | decide | omega) (by first | decide | omega) bv4 (by first | decide | omega), zb_s, m4, m5, if_pos rn, if_pos rd, L_minusR (by first | decide | omega) f1 (FR_r P0) (by first | decide | omega) (by first | decide | omega), zb_s, fr_0, fr_1, L_cmpR (by first | decide | omega) (FR_r (by first | decide | omega)) (FR_r (by first | decide | omega)) (by first | decide | omega) (by first | decide | omega), zb_s, if_pos (cmp _ _).1]
    by_cases y : (P / bar + 1) * bar - P ≤ g
    · rw [if_pos ((cmp _ _).2.mpr y)]
      have := e111 (fr Fm ((P / bar + 1) * bar - P)) (fun c y k h => fr_n h)
      rw [show (P / bar + 1) * bar - P = g by omega] at this ⊢
      exact this
    · rw [if_neg (fun h => y ((cmp _ _).2.mp h))]
      exact e111 (fr Fm ((P / bar + 1) * bar - P)) (fun c y k h => fr_n h)
  obtain ⟨G, g1', g2', g3', g4'⟩ := mE
  have G4 : G 13 w 4 = n := by rw [g1' 13 w 4 (by first | decide | omega)]; exact m4
  have G5 : G 13 w 5 = d := by rw [g1' 13 w 5 (by first | decide | omega)]; exact m5
  rw [cE, g4', ptE G G4 G5]
  have gx : ∀ c y k, ¬ (c = 14 ∧ y = 0 ∧ (k ≤ 1 ∨ k = 52 ∨ k = 53)) → zup3 (zup3 (fr G (X5 * (4 * vl))) 14 0 52 (nu (X5 * (4 * vl)))) 14 0 53 (de (X5 * (4 * vl))) c y k = G c y k := fun c y k h => by rw [zup3_v, if_neg (by first | decide | omega), zup3_v, if_neg (by first | decide | omega), fr_n (by first | decide | omega)]
  have g52 : zup3 (zup3 (fr G (X5 * (4 * vl))) 14 0 52 (nu (X5 * (4 * vl)))) 14 0 53 (de (X5 * (4 * vl))) 14 0 52 = nu (X5 * (4 * vl)) := by rw [zup3_v, if_neg (by first | decide | omega), zup3_v, if_pos (by first | decide | omega)]
  have g53 : zup3 (zup3 (fr G (X5 * (4 * vl))) 14 0 52 (nu (X5 * (4 * vl)))) 14 0 53 (de (X5 * (4 * vl))) 14 0 53 = de (X5 * (4 * vl)) := by rw [zup3_v, if_pos (by first | decide | omega)]
  generalize zup3 (zup3 (fr G (X5 * (4 * vl))) 14 0 52 (nu (X5 * (4 * vl)))) 14 0 53 (de (X5 * (4 * vl))) = G2 at gx g52 g53 ⊢
  have gg : nG Fm G2 := nG_t g1' (fun c y k h => gx c y k (by first | decide | omega))
  rw [show vl * 4 = 4 * vl by omega]
  have zz : z * (4 * vl / 4) * t2 = g := by rw [show 4 * vl / 4 = vl by omega]; exact hl.symm
  refine zP_c (P_tupL (K := K) (Km := Km) (m := m) (q := q) (v := v) (w := w) (nb := P / bar) (ev := i) (e := e) (t1 := t1) (t2 := t2) (z := z) (A := P % bar + g) (n := n) (d := d) hK hKm h4 v0 w0 hn hd (by first | decide | omega) (by first | decide | omega) he (by first | decide | omega) (by first | decide | omega) hz (by first | decide | omega) hZ 1024 K.1 Km (l := 4 * vl) (at' := P % bar) (cnt := 0) (F := F) (B := B) (Fm := G2) (Bm := Bm) (by first | decide | omega) (by first | decide | omega) (by first | decide | omega) (by first | decide | omega) q2 (by rw [zz]) (by decide) (by decide) (by first | decide | omega) (by first | decide | omega) (by first | decide | omega) ht1 ht2 (by rw [gg 13 w 4 (by first | decide | omega)]; exact m4) (by rw [gg 13 w 5 (by first | decide | omega)]; exact m5) g52 g53 (by rw [gx _ _ _ (by first | decide | omega)]; exact g2') (by rw [gx _ _ _ (by first | decide | omega)]; exact g3') (Or.inl ⟨c, hN⟩)) ?_
  intro _ F1 B1 _ Fm1 Bm1 h
  obtain ⟨o1, o2, o3, o4, o5⟩ := h
  exact zP_s ⟨o1, o2, nG_t gg (nG_t o3 (fun c y k h => by rw [fr_n (by first | decide | omega), fr_n (by first | decide | omega)])), o4, o5⟩
end
