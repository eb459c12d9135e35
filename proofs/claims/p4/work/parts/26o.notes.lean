section
section
/-! ===== a voice's notes, both sides ===== -/
theorem JS_n {K : zK} {q v w bar : Int} {m : Nat} {g : Int → Int} {F F' : zF} {B B' : zB} {Fm Fm' : zF} {Bm Bm' : zB} (h : JS K q v w m bar g F B Fm Bm) (f : nF q F F') (b : nB q B B') (fm : ∀ k, k = 36 ∨ k = 35 ∨ k = 6 → Fm' 14 0 k = Fm 14 0 k) (bm : nM' v w Bm Bm') : JS K q v w m bar g F' B' Fm' Bm' := by
  obtain ⟨a1, a2, a3, a4, a5⟩ := h
  refine ⟨by rw [f 4 q 6 (by omega), fm 36 (by omega), fm 35 (by omega), fm 6 (by omega)]; exact a1, a2, a3, fun i hi => ?_, fun t t0 t1 => by rw [b 4 q 5 t (by omega)]; exact a5 t t0 t1⟩
  obtain ⟨d1, d2, d3, d4, d5⟩ := a4 i hi
  rw [b 4 q 5 i (by omega), f 1 _ 0 (by omega), f 1 _ 1 (by omega), bm 13 w 14 _ (by omega) (by omega), bm 13 w 15 _ (by omega) (by omega)]
  exact ⟨EVW_h d1 (fun k _ _ => f 1 _ k (by omega)) (fun k y => b 1 _ k y (by omega)) (fun k h h' => bm 13 w k _ (by omega) (by omega)) (fun k y h h' _ _ => bm 13 w k y (by omega) (by omega)) (fun y => bm 14 0 8 y (by omega) (by omega)), d2, d3, d4, d5⟩
def nH (w : Int) (F F' : zF) : Prop := ∀ c y k, ¬ (c = 14 ∧ y = 0 ∧ (k ≤ 1 ∨ 52 ≤ k ∧ k ≤ 57)) → ¬ (c = 13 ∧ y = w ∧ k = 7) → F' c y k = F c y k
theorem nH_t {w : Int} {F F1 F2 : zF} (h : nH w F F1) (h' : nH w F1 F2) : nH w F F2 := fun c y k n n' => by rw [h' c y k n n', h c y k n n']
theorem nH_g {w : Int} {F F' : zF} (h : nG F F') : nH w F F' := fun c y k n _ => h c y k n
/-- places outside brackets are whole 128ths, and a bracket keeps within its bar -/
def BW (q : Int) (m : Nat) (bar : Int) (g : Int → Int) (F : zF) (B : zB) : Prop := (∀ i : Nat, i ≤ m → (i = m ∨ F 1 (B 4 q 5 i) 5 = 0) → sumZ g i % 6350400 = 0) ∧ (∀ i : Nat, i < m → F 1 (B 4 q 5 i) 5 = 0 → g i % 6350400 = 0) ∧ (∀ i : Nat, i < m → ¬ F 1 (B 4 q 5 i) 5 = 0 → sumZ g (i + 1) ≤ (sumZ g i / bar + 1) * bar) ∧ (∀ i : Nat, i < m → TIk q m F B i)
theorem BW_n {q bar : Int} {m : Nat} {g : Int → Int} {F F' : zF} {B B' : zB} (h : BW q m bar g F B) (f : nF q F F') (b : nB q B B') : BW q m bar g F' B' := by
  have e : ∀ i : Nat, F' 1 (B' 4 q 5 i) 5 = F 1 (B 4 q 5 i) 5 := fun i => by rw [b 4 q 5 i (by omega), f 1 _ 5 (by omega)]
  have e7 : ∀ i : Nat, F' 1 (B' 4 q 5 i) 7 = F 1 (B 4 q 5 i) 7 := fun i => by rw [b 4 q 5 i (by omega), f 1 _ 7 (by omega)]
  unfold BW TIk at h ⊢
  simp only [e, e7]
  exact h
/-- how many bars reach to S -/
def clB (S bar : Int) : Int := if S % bar = 0 then S / bar else S / bar + 1
/-- where a note may stand -/
def ZG (Z : Int → Int → Prop) (T E : Int) : Prop := ∀ nb y, 0 ≤ nb → nb < E → 0 ≤ y → y < T → Z nb y
def NR (K : zK) (q v w : Int) (m : Nat) (Z : Int → Int → Prop) (F : zF) (B : zB) (Fm : zF) (Bm : zB) (r : Int) (F' : zF) (B' : zB) (Fm' : zF) (Bm' : zB) : Prop := nF q F F' ∧ nB q B B' ∧ nH w Fm Fm' ∧ nM' v w Bm Bm' ∧ ((NW q v w m Z r F' B' Bm' ∧ Fm' 13 w 7 = clB (F' 4 q 7) (barV (Fm' 13 w 4) (Fm' 13 w 5))) ∨ (r = 801 ∧ NX q v w F' Bm'))
theorem P_wend {K : zK} {Km m : Nat} {Z : Int → Int → Prop} {q p v w n d Pk : Int} {g : Int → Int} {F : zF} {B : zB} {Fm : zF} {Bm : zB} (hK : 3002 ≤ K.1) (hKm : 70000000000 < Km) (h4 : 0 ≤ q ∧ q < K.2 4) (hp : 0 ≤ p ∧ p < K.2 6) (v0 : 0 ≤ v ∧ v < 4) (w0 : 0 ≤ w ∧ w < 3) (hn : 1 ≤ n ∧ n ≤ 12) (hd : d = 2 ∨ d = 4 ∨ d = 8 ∨ d = 16) (e4 : F 6 p 4 = n) (e5 : F 6 p 5 = d) (m4 : Fm 13 w 4 = n) (m5 : Fm 13 w 5 = d) (h7 : F 4 q 7 = sumZ g m) (hs0 : 0 ≤ sumZ g m) (hs1 : sumZ g m ≤ 100 * barV n d) (hs6 : sumZ g m % 6350400 = 0) (k0 : 0 ≤ Pk) (k1 : Pk ≤ 100 * barV n d) (hZ : ZG Z (barV n d) (clB (sumZ g m) (barV n d))) (hN : ((∃ c, NW q v w m Z c F B Bm) ∧ Pk = sumZ g m) ∨ NX q v w F Bm) : ∃ F' B' Fm' Bm' r, f_Part_writeNotes_57 K q p F B = f_Part_writeNotes_101 K q p F' B' ∧ f_M_notes_150 Km (de Pk) (nu Pk) w v 1 Fm Bm = some (r, Fm', Bm') ∧ NR K q v w m Z F B Fm Bm r F' B' Fm' Bm' := by
  have hu := un_d hd
  have b3 := un_3 hu (n := n) (by omega)
  have b4 := un_4 hu (n := n) (by omega)
  obtain ⟨bv1, _, bv3, bv4, bv5⟩ := bar_v hn hd
  have b5 := bar5 (n := n) hd
  have b44 : (512 / d * n) % 4 = 0 := by
    obtain ⟨y, hy⟩ := u_32 (n := n) hu
    omega
  have rn : r32 n := by unfold r32; omega
  have rd : r32 d := by unfold r32; omega
  have xa : ∀ y : Int, X5 * y = 1587600 * y := fun _ => rfl
  generalize hS : sumZ g m = S at *
  -- the class
  have cb := C_bar (F := F) (B := B) hp e4 e5 hn hd
  have o1 := Int.emod_nonneg S (show barV n d ≠ 0 by omega)
  have o2 := Int.emod_lt_of_pos S bv4
  have c57 : f_Part_writeNotes_57 K q p F B = if S % barV n d = 0 then f_Part_writeNotes_101 K q p F B else zbind (f_Part_cut_18 K K.1 0 (S + (barV n d - S % barV n d)) S (barV n d) q p (-1) F B) (fun _ F1 B1 => f_Part_writeNotes_101 K q p F1 B1) := by
    unfold f_Part_writeNotes_57 f_Part_writeNotes_78 f_Part_cut
    rw [if_pos hp, cb, zb_s, if_pos (show r64 (barV n d) by unfold r64; omega), if_neg (show ¬ zcmp (barV n d) 0 ≤ 0 from fun h => by have := zcmp_m.mp h; omega), if_pos h4, if_pos (lI_n0 bv4 (by unfold r64; omega)), h7, zlrm_e hs0 (by omega) bv4 (by omega), if_pos (show r64 (S % barV n d) by unfold r64; omega)]
    by_cases z : S % barV n d = 0
    · rw [if_pos z, if_pos (zcmp_0.mpr z)]
    · rw [if_neg z, if_neg (fun h => z (zcmp_0.mp h)), if_pos h4, if_pos hp, cb, zb_s]
  -- the reference
  have p1 := Int.mul_ediv_add_emod Pk (barV n d)
  have p2 := Int.emod_nonneg Pk (show barV n d ≠ 0 by omega)
  have p3 := Int.emod_lt_of_pos Pk bv4
  have p4 : 0 ≤ Pk / barV n d := Int.ediv_nonneg k0 (by omega)
  have p5 : Pk / barV n d ≤ 100 := Int.ediv_le_of_le_mul bv4 (by omega)
  have p6 : (Pk / barV n d + 1) * barV n d = barV n d * (Pk / barV n d) + barV n d := by rw [Int.add_mul, Int.one_mul, Int.mul_comm]
  have m150 : f_M_notes_150 Km (de Pk) (nu Pk) w v 1 Fm Bm = if Pk % barV n d = 0 then some (Bm 13 w 13 v, zup3 Fm 13 w 7 (Pk / barV n d), Bm) else zbind (f_M_pieces_16 Km Km (de ((Pk / barV n d + 1) * barV n d - Pk)) (nu ((Pk / barV n d + 1) * barV n d - Pk)) (de Pk) (nu Pk) w v (-1) 1 (fr (zup3 (zup3 Fm 13 w 7 (Pk / barV n d)) 13 w 7 (Pk / barV n d + 1)) ((Pk / barV n d + 1) * barV n d - Pk)) Bm) (fun _ F1 B1 => some (B1 13 w 13 v, F1, B1)) := by
    unfold f_M_notes_150
    have q4 : (zup3 Fm 13 w 7 (Pk / barV n d)) 13 w 4 = n := by rw [zup3_v, if_neg (by omega)]; exact m4
    have q5 : (zup3 Fm 13 w 7 (Pk / barV n d)) 13 w 5 = d := by rw [zup3_v, if_neg (by omega)]; exact m5
    rw [if_pos w0, m4, m5, if_pos rn, if_pos rd, L_oftR (FR_r k0) bv5 (by omega) (by omega) (by omega) (by omega) bv4 (by omega), zb_s, if_pos (show r32 (Pk / barV n d) by unfold r32; omega), m4, m5, if_pos rn, if_pos rd, L_multR (FR_r k0) bv5 (by omega) (by omega) (by omega) (by omega) bv4 (by omega), zb_s]
    by_cases z : Pk % barV n d = 0
    · rw [if_pos z, if_pos z, if_pos (by decide), if_neg (by decide), f_M_notes_248, if_pos w0, if_pos v0]
    · rw [if_neg z, if_neg z, if_pos (by decide), if_pos rfl, q4, q5, if_pos rn, if_pos rd, L_minusR (by omega) (FR_k bv1 (show 0 ≤ Pk / barV n d + 1 by omega)) (FR_r k0) (by omega) (by omega), zb_s, fr_0, fr_1]
      unfold f_M_pieces
      congr 1
      funext r1 F1 B1
      rw [f_M_notes_248, if_pos w0, if_pos v0]
  rcases hN with ⟨⟨c, hN⟩, hPk⟩ | hX
  · -- the notes so far fit
    subst hPk
    rw [c57, m150]
    by_cases z : Pk % barV n d = 0
    · rw [if_pos z, if_pos z]
      refine ⟨F, B, _, Bm, _, rfl, rfl, fun _ _ _ _ => rfl, fun _ _ _ _ _ => rfl, fun c y k _ h => by rw [zup3_v, if_neg h], fun _ _ _ _ _ _ => rfl, Or.inl ⟨by rw [hN.2.2.2.1]; exact hN, by rw [zup3_v, if_pos (by omega), zup3_v, if_neg (by omega), zup3_v, if_neg (by omega), m4, m5, h7]; unfold clB; rw [if_pos z]⟩⟩
    · rw [if_neg z, if_neg z]
      -- in 512ths
      obtain ⟨a, ha⟩ : ∃ a, Pk = X5 * a := ⟨4 * (Pk / 6350400), by rw [xa]; omega⟩
      have a4 : a % 4 = 0 := by have := xa a; omega
      have x1 := xa a
      have x2 := xa (512 / d * n)
      have dv : Pk / barV n d = a / (512 / d * n) := by rw [ha, b5, X5_d]
      have q1 : a / (512 / d * n) < 100 := by
        rw [← dv]
        apply Int.ediv_lt_of_lt_mul bv4
        rcases Int.lt_or_le Pk (100 * barV n d) with y | y
        · exact y
        · exfalso
          apply z
          rw [show Pk = 100 * barV n d by omega]
          exact Int.mul_emod_left _ _
      have te : (Pk / barV n d + 1) * barV n d = X5 * ((a / (512 / d * n) + 1) * (512 / d * n)) := by
        rw [dv, b5]
        ac_rfl
      have x3 := xa ((a / (512 / d * n) + 1) * (512 / d * n))
      have c1 : Pk + (barV n d - Pk % barV n d) = X5 * ((a / (512 / d * n) + 1) * (512 / d * n)) := by omega
      have c2 : (Pk / barV n d + 1) * barV n d - Pk = X5 * ((a / (512 / d * n) + 1) * (512 / d * n) - a) := by
        have := xa ((a / (512 / d * n) + 1) * (512 / d * n) - a)
        omega
      have ub : (a / (512 / d * n) + 1) * (512 / d * n) ≤ 100 * (512 / d * n) := Int.mul_le_mul_of_nonneg_right (by omega) (by omega)
      have q0 : 0 ≤ a / (512 / d * n) := Int.ediv_nonneg (by omega) (by omega)
      have ub2 : (a / (512 / d * n) + 1) * (512 / d * n) ≤ (a / (512 / d * n) + ((100 : Nat) : Int)) * (512 / d * n) := Int.mul_le_mul_of_nonneg_right (by omega) (by omega)
      have hZ' : ∀ nb y, 0 ≤ nb → 0 ≤ y → y < 512 / d * n → nb * (512 / d * n) + y < (a / (512 / d * n) + 1) * (512 / d * n) → Z nb (X5 * y) := fun nb y n0 y0 y1 h => by
        have x9 := xa y
        refine hZ nb (X5 * y) n0 ?_ (by omega) (by omega)
        unfold clB
        rw [if_neg z, dv]
        exact Int.lt_of_mul_lt_mul_right (show nb * (512 / d * n) < (a / (512 / d * n) + 1) * (512 / d * n) by omega) (by omega)
      have W := P_cutP (K := K) (Km := Km) (m := m) (q := q) (p := p) (v := v) (w := w) (n := n) (d := d) (ev := -1) (ro := 1) (t := (a / (512 / d * n) + 1) * (512 / d * n)) hK hKm h4 hp v0 w0 hn hd ub (m4_m a4 b44).2 hZ' 100 K.1 Km (cnt := 0) (a := a) (F := F) (B := B) (Fm := fr (zup3 (zup3 Fm 13 w 7 (Pk / barV n d)) 13 w 7 (Pk / barV n d + 1)) ((Pk / barV n d + 1) * barV n d - Pk)) (Bm := Bm) (by omega) (by omega) a4 (Or.inr ub2) (by decide) (by decide) (by omega) (by omega) e4 e5 (by rw [fr_n (by omega), zup3_v, if_neg (by omega), zup3_v, if_neg (by omega)]; exact m4) (by rw [fr_n (by omega), zup3_v, if_neg (by omega), zup3_v, if_neg (by omega)]; exact m5) (Or.inl ⟨rfl, rfl⟩) (Or.inl ⟨c, hN⟩)
      rw [← b5, ← ha, ← c1, ← c2] at W
      obtain ⟨r1, F1, B1, r1', Fm1, Bm1, y1, y2, o1', o2', o3', o4', o5'⟩ := W
      rw [y1, y2, zb_s, zb_s]
      have h0 : nH w Fm (fr (zup3 (zup3 Fm 13 w 7 (Pk / barV n d)) 13 w 7 (Pk / barV n d + 1)) ((Pk / barV n d + 1) * barV n d - Pk)) := fun c y k h h' => by rw [fr_n (by omega), zup3_v, if_neg h', zup3_v, if_neg h']
      refine ⟨F1, B1, Fm1, Bm1, _, rfl, rfl, o1', o2', nH_t h0 (nH_g o3'), o4', ?_⟩
      rcases o5' with ⟨c', h⟩ | h
      · exact Or.inl ⟨by rw [h.2.2.2.1]; exact h, by rw [o3' 13 w 7 (by omega), o3' 13 w 4 (by omega), o3' 13 w 5 (by omega), o1' 4 q 7 (by omega), h7, fr_n (by omega), fr_n (by omega), fr_n (by omega), zup3_v, if_pos (by omega), zup3_v, if_neg (by omega), zup3_v, if_neg (by omega), zup3_v, if_neg (by omega), zup3_v, if_neg (by omega), m4, m5]; unfold clB; rw [if_neg z]⟩
      · exact Or.inr ⟨h.2.2, h⟩
  · -- too many already
    have cE : ∃ F', f_Part_writeNotes_57 K q p F B = f_Part_writeNotes_101 K q p F' B ∧ nF q F F' ∧ NX q v w F' Bm := by
      rw [c57]
      by_cases z : S % barV n d = 0
      · rw [if_pos z]; exact ⟨F, rfl, fun _ _ _ _ => rfl, hX⟩
      · rw [if_neg z]
        obtain ⟨a, ha⟩ : ∃ a, S = X5 * a := ⟨4 * (S / 6350400), by rw [xa]; omega⟩
        have x1 := xa a
        have x2 := xa (512 / d * n)
        have s1 := Int.mul_ediv_add_emod S (barV n d)
        have dv : S / barV n d = a / (512 / d * n) := by rw [ha, b5, X5_d]
        have te : barV n d * (S / barV n d) + barV n d = X5 * ((a / (512 / d * n) + 1) * (512 / d * n)) := by
          rw [dv, b5, Int.add_mul, Int.one_mul, Int.mul_add]
          congr 1
          ac_rfl
        have x3 := xa ((a / (512 / d * n) + 1) * (512 / d * n))
        have c1 : S + (barV n d - S % barV n d) = X5 * ((a / (512 / d * n) + 1) * (512 / d * n)) := by omega
        have q0 : 0 ≤ a / (512 / d * n) := Int.ediv_nonneg (by omega) (by omega)
        have q1 : a / (512 / d * n) ≤ 100 := by
          rw [← dv]
          exact Int.ediv_le_of_le_mul bv4 (by omega)
        have ub : (a / (512 / d * n) + 1) * (512 / d * n) ≤ 101 * (512 / d * n) := Int.mul_le_mul_of_nonneg_right (by omega) (by omega)
        have ub2 : (a / (512 / d * n) + 1) * (512 / d * n) ≤ (a / (512 / d * n) + ((100 : Nat) : Int)) * (512 / d * n) := Int.mul_le_mul_of_nonneg_right (by omega) (by omega)
        have lt : S % barV n d < barV n d := o2
        have q1' : a / (512 / d * n) < 100 := by
          rw [← dv]
          apply Int.ediv_lt_of_lt_mul bv4
          rcases Int.lt_or_le S (100 * barV n d) with y | y
          · exact y
          · exfalso
            apply z
            rw [show S = 100 * barV n d by omega]
            exact Int.mul_emod_left _ _
        have ub' : (a / (512 / d * n) + 1) * (512 / d * n) ≤ 100 * (512 / d * n) := Int.mul_le_mul_of_nonneg_right (by omega) (by omega)
        obtain ⟨F', g1, g2, g3⟩ := C_cutX (m := m) (ev := -1) (ro := 1) (t := (a / (512 / d * n) + 1) * (512 / d * n)) (B := B) (Bm := Bm) hK h4 hp v0 w0 hn hd (by omega) 100 K.1 (cnt := 0) (a := a) (F := F) (by omega) (by omega) (Or.inr ub2) (by decide) (by decide) (by omega) e4 e5 (Or.inl ⟨rfl, rfl⟩) hX
        rw [← b5, ← ha, ← c1] at g1
        rw [g1, zb_s]
        exact ⟨F', rfl, g2, g3⟩
    obtain ⟨F', f1, f2, f3⟩ := cE
    have mE : ∃ Fm', f_M_notes_150 Km (de Pk) (nu Pk) w v 1 Fm Bm = some (801, Fm', Bm) ∧ nH w Fm Fm' := by
      rw [m150]
      by_cases z : Pk % barV n d = 0
      · rw [if_pos z, hX.2.2]
        exact ⟨_, rfl, fun c y k _ h => by rw [zup3_v, if_neg h]⟩
      · rw [if_neg z]
        obtain ⟨j, hj⟩ : ∃ j, Km = j + 1 := ⟨Km - 1, by omega⟩
        have h := FR_r (p := (Pk / barV n d + 1) * barV n d - Pk) (by omega)
        have hb := FR_b h
        obtain ⟨d0, _, n0, ee⟩ := h
        have nz : ¬ nu ((Pk / barV n d + 1) * barV n d - Pk) = 0 := fun y => by
          rw [y, Int.zero_mul] at ee
          rcases Int.mul_eq_zero.mp ee.symm with t | t <;> omega
        have e : ∀ G : zF, f_M_pieces_16 Km Km (de ((Pk / barV n d + 1) * barV n d - Pk)) (nu ((Pk / barV n d + 1) * barV n d - Pk)) (de Pk) (nu Pk) w v (-1) 1 G Bm = some (0, G, Bm) := fun G => by
          rw [show f_M_pieces_16 Km Km = f_M_pieces_16 Km (j + 1) by rw [← hj], f_M_pieces_16, if_pos (by unfold r64; omega), if_neg (fun y => by have := zcmp_m.mp y; omega), if_pos w0, if_pos v0, hX.2.2, if_pos (by decide), if_pos (by decide), f_M_pieces_215]
        rw [e, zb_s, hX.2.2]
        exact ⟨_, rfl, fun c y k h h' => by rw [fr_n (by omega), zup3_v, if_neg h', zup3_v, if_neg h']⟩
    obtain ⟨Fm', n1, n2⟩ := mE
    exact ⟨F', B, Fm', Bm, 801, f1, n1, f2, fun _ _ _ _ _ => rfl, n2, fun _ _ _ _ _ _ => rfl, Or.inr ⟨rfl, f3⟩⟩
end
end
section
section
/-! ===== a voice's notes written, both sides ===== -/
theorem clB_lt {nb S T : Int} (T0 : 0 < T) (h : nb * T < S) : nb < clB S T := by
  have e := Int.ediv_mul_add_emod S T
  have e1 := Int.emod_lt_of_pos S T0
  unfold clB
  split
  · exact Int.lt_of_mul_lt_mul_right (show nb * T < S / T * T by omega) (by omega)
  · refine Int.lt_of_mul_lt_mul_right (show nb * T < (S / T + 1) * T from ?_) (show 0 ≤ T by omega)
    rw [Int.add_mul, Int.one_mul]
    omega
theorem P_wn {K : zK} {Km m : Nat} {Z : Int → Int → Prop} {q p v w n d : Int} {g : Int → Int} (hK : 3002 ≤ K.1) (hKm : 70000000000 < Km) (h4 : 0 ≤ q ∧ q < K.2 4) (hp : 0 ≤ p ∧ p < K.2 6) (v0 : 0 ≤ v ∧ v < 4) (w0 : 0 ≤ w ∧ w < 3) (hn : 1 ≤ n ∧ n ≤ 12) (hd : d = 2 ∨ d = 4 ∨ d = 8 ∨ d = 16) (hZ : ZG Z (barV n d) (clB (sumZ g m) (barV n d))) : ∀ (r n1 n2 k : Nat) {F : zF} {B : zB} {Fm : zF} {Bm : zB}, k + r = m → r < n1 → r < n2 → F 6 p 4 = n → F 6 p 5 = d → Fm 13 w 4 = n → Fm 13 w 5 = d → Bm 13 w 12 v = m → F 4 q 7 = sumZ g m → JS K q v w m (barV n d) g F B Fm Bm → BW q m (barV n d) g F B → (∃ c, NW q v w m Z c F B Bm) ∨ NX q v w F Bm → ∃ F' B' Fm' Bm' r, f_Part_writeNotes_12 K n1 k q p F B = f_Part_writeNotes_101 K q p F' B' ∧ f_M_notes_22 Km n2 k (de (sumZ g k)) (nu (sumZ g k)) w v 1 Fm Bm = some (r, Fm', Bm') ∧ NR K q v w m Z F B Fm Bm r F' B' Fm' Bm' := by
  have hu := un_d hd
  have b3 := un_3 hu (n := n) (by omega)
  have b4 := un_4 hu (n := n) (by omega)
  obtain ⟨bv1, _, bv3, bv4, bv5⟩ := bar_v hn hd
  have b5 := bar5 (n := n) hd
  have xa : ∀ y : Int, X5 * y = 1587600 * y := fun _ => rfl
  intro r
  induction r with
  | zero =>
    intro n1 n2 k F B Fm Bm kr hn1 hn2 e4 e5 m4 m5 h12 h7 hJ hW hN
    obtain ⟨n1, rfl⟩ : ∃ j, n1 = j + 1 := ⟨n1 - 1, by omega⟩
    obtain ⟨n2, rfl⟩ : ∃ j, n2 = j + 1 := ⟨n2 - 1, by omega⟩
    obtain ⟨⟨c6, c36, c35, cw, mm0, mm1⟩, hg, hs, he, hV⟩ := hJ
    obtain rfl : k = m := by omega
    have s0 := sumZ_0 hg k (Nat.le_refl _)
    rw [f_Part_writeNotes_12, if_pos h4, if_pos (show r32 (k : Int) by unfold r32; omega), c6, if_pos (show r32 (k : Int) by unfold r32; omega), if_pos (Int.le_refl _), f_M_notes_22, if_pos w0, if_pos v0, if_pos (show r32 (k : Int) by unfold r32; omega), h12, if_pos (show r32 (k : Int) by unfold r32; omega), if_pos (Int.le_refl _)]
    refine P_wend (g := g) hK hKm h4 hp v0 w0 hn hd e4 e5 m4 m5 h7 s0 hs (hW.1 k (Nat.le_refl _) (Or.inl rfl)) s0 hs hZ ?_
    rcases hN with h | h
    · exact Or.inl ⟨h, rfl⟩
    · exact Or.inr h
  | succ r ih =>
    intro n1 n2 k F B Fm Bm kr hn1 hn2 e4 e5 m4 m5 h12 h7 hJ hW hN
    obtain ⟨n1, rfl⟩ : ∃ j, n1 = j + 1 := ⟨n1 - 1, by omega⟩
    obtain ⟨n2, rfl⟩ : ∃ j, n2 = j + 1 := ⟨n2 - 1, by omega⟩
    have hJ' := hJ
    obtain ⟨⟨c6, c36, c35, cw, mm0, mm1⟩, hg, hs, he, hV⟩ := hJ
    have hk : k < m := by omega
    have s0 := sumZ_0 hg k (by omega)
    have sm := sumZ_0 hg m (Nat.le_refl _)
    have s1 := sumZ_m hg r (k + 1) (by omega)
    have s2 : sumZ g (k + 1) = sumZ g k + g k := rfl
    have gk := hg k (by omega) (by omega)
    obtain ⟨ek, p0, p14, p15, pg⟩ := he k hk
    have hke := hV k (by omega) (by omega)
    have len := ek.2.2.2.2.1
    have rk : r32 (k : Int) := by unfold r32; omega
    have rm : r32 (m : Int) := by unfold r32; omega
    rw [f_Part_writeNotes_12, if_pos h4, if_pos rk, c6, if_pos rm, if_neg (show ¬ (m : Int) ≤ k by omega), f_M_notes_22, if_pos w0, if_pos v0, if_pos rk, h12, if_pos rm, if_neg (show ¬ (m : Int) ≤ k by omega)]
    rcases hN with ⟨c, hN⟩ | hX
    case inr =>
      rw [hX.2.1, if_pos (show r32 1 by decide), if_neg (show ¬ (1 : Int) = 0 by decide), hX.2.2, if_pos (show r32 801 by decide), if_pos (show (800 : Int) < 801 by decide)]
      exact P_wend (g := g) hK hKm h4 hp v0 w0 hn hd e4 e5 m4 m5 h7 sm hs (hW.1 m (Nat.le_refl _) (Or.inl rfl)) s0 (by omega) hZ (Or.inr hX)
    rw [hN.2.2.1, if_pos (show r32 0 by decide), if_pos (show (0 : Int) = 0 from rfl), if_pos (show 0 ≤ (k : Int) ∧ (k : Int) < 200 by omega), if_pos hke, p0, pg, hN.2.2.2.1, if_pos (show r32 c by have := hN.1; unfold r32; omega), if_neg (show ¬ 800 < c by have := hN.1; omega), if_pos (show 0 ≤ 1000 * v + (k : Int) ∧ 1000 * v + (k : Int) < 4000 by omega), p14, p15, len.1, len.2.1, pg]
    have cb := C_bar (F := F) (B := B) hp e4 e5 hn hd
    unfold f_Part_cut f_M_pieces
    rw [if_pos hp, cb, zb_s]
    have W : zP (f_Part_cut_18 K K.1 0 (sumZ g k + g k) (sumZ g k) (barV n d) q p k F B) (f_M_pieces_16 Km Km (de (g k)) (nu (g k)) (de (sumZ g k)) (nu (sumZ g k)) w v k 1 Fm Bm) (fun _ F' B' _ Fm' Bm' => NO q v w m Z F B Fm Bm F' B' Fm' Bm') := by
      by_cases z : F 1 (B 4 q 5 k) 5 = 0
      · have y1 := hW.1 k (by omega) (Or.inr z)
        have y2 := hW.2.1 k hk z
        obtain ⟨a, ha⟩ : ∃ a, sumZ g k = X5 * a := ⟨4 * (sumZ g k / 6350400), by rw [xa]; omega⟩
        obtain ⟨l, hl⟩ : ∃ l, g k = X5 * l := ⟨4 * (g k / 6350400), by rw [xa]; omega⟩
        have x1 := xa a
        have x2 := xa l
        have x3 := xa (512 / d * n)
        have x4 := xa (a + l)
        have q0 : 0 ≤ a / (512 / d * n) := Int.ediv_nonneg (by omega) (by omega)
        have ub : a + l ≤ (a / (512 / d * n) + ((100 : Nat) : Int)) * (512 / d * n) := by
          have : 100 * (512 / d * n) ≤ (a / (512 / d * n) + ((100 : Nat) : Int)) * (512 / d * n) := Int.mul_le_mul_of_nonneg_right (by omega) (by omega)
          omega
        have := P_cutP (K := K) (Km := Km) (m := m) (q := q) (p := p) (v := v) (w := w) (n := n) (d := d) (ev := k) (ro := if F 1 (B 4 q 5 k) 10 = 0 then 1 else 0) (t := a + l) hK hKm h4 hp v0 w0 hn hd (by omega) (by omega) (fun nb y n0 y0 y1 hh => hZ nb (X5 * y) n0 (clB_lt bv4 (by have x9 := xa y; have x8 := xa (nb * (512 / d * n)); rw [b5, show nb * (X5 * (512 / d * n)) = X5 * (nb * (512 / d * n)) by ac_rfl]; omega)) (by have x9 := xa y; omega) (by have x9 := xa y; omega)) 100 K.1 Km (cnt := 0) (a := a) (F := F) (B := B) (Fm := Fm) (Bm := Bm) (by omega) (by omega) (by omega) (Or.inr ub) (by decide) (by decide) (by omega) (by omega) e4 e5 m4 m5 (Or.inr ⟨k, rfl, hk, mm1, hke, z, (ek.2.2.2.2.2.2.1.2.2.1).mp z, ek.2.2.2.2.2.2.2.2.2.2.2.2.1.symm, ek.2.2.2.2.2.2.2.2.2.2.2.2.2.1, rfl⟩) (Or.inl ⟨c, hN⟩)
        rw [show a + l - a = l by omega, show X5 * (a + l) = X5 * a + X5 * l by omega, ← ha, ← hl, ← b5] at this
        exact this
      · obtain ⟨j1, hj1⟩ : ∃ j, K.1 = j + 1 + 1 := ⟨K.1 - 2, by omega⟩
        obtain ⟨j2, hj2⟩ : ∃ j, Km = j + 1 + 1 := ⟨Km - 2, by omega⟩
        have := P_cutT (K := K) (Km := Km) (m := m) (n1 := j1) (n2 := j2) (i := k) (q := q) (p := p) (v := v) (w := w) (n := n) (d := d) (P := sumZ g k) (F := F) (B := B) (Fm := Fm) (Bm := Bm) hK hKm h4 v0 w0 hn hd m4 m5 hk mm1 hke ek z s0 (by rw [pg]; omega) (by rw [pg]; exact hW.2.2.1 k hk z) (fun y y0 y1 => by
          have hw := hW.2.2.1 k hk z
          rw [pg] at y1
          have r1 := Int.ediv_mul_add_emod (sumZ g k) (barV n d)
          have r2 : (sumZ g k / barV n d + 1) * barV n d = sumZ g k / barV n d * barV n d + barV n d := by rw [Int.add_mul, Int.one_mul]
          exact hZ _ y (Int.ediv_nonneg s0 (by omega)) (clB_lt bv4 (by omega)) y0 (by omega)) (Or.inl ⟨c, hN⟩)
        rw [pg, ← hj1, show f_M_pieces_16 Km (j2 + 1 + 1) = f_M_pieces_16 Km Km by rw [← hj2]] at this
        exact this
    obtain ⟨r1, F1, B1, r1', Fm1, Bm1, y1, y2, o1, o2, o3, o4, o5⟩ := W
    rw [y1, y2, zb_s, zb_s, o4 13 w 14 _ (by omega) (by omega), o4 13 w 15 _ (by omega) (by omega), o4 13 w 16 _ (by omega) (by omega), o4 13 w 17 _ (by omega) (by omega), p14, p15, len.1, len.2.1, pg, L_plusR (by omega) (FR_r s0) (FR_r (by omega)) (by omega), zb_s, fr_0, fr_1, ← s2]
    have o3' : nG Fm (fr Fm1 (sumZ g (k + 1))) := nG_t o3 (fun c y k h => fr_n (by omega))
    obtain ⟨F', B', Fm', Bm', r', z1, z2, z3, z4, z5, z6, z7⟩ := ih n1 n2 (k + 1) (F := F1) (B := B1) (Fm := fr Fm1 (sumZ g (k + 1))) (Bm := Bm1) (by omega) (by omega) (by omega) (by rw [o1 6 p 4 (by omega)]; exact e4) (by rw [o1 6 p 5 (by omega)]; exact e5) (by rw [o3' 13 w 4 (by omega)]; exact m4) (by rw [o3' 13 w 5 (by omega)]; exact m5) (by rw [o4 13 w 12 v (by omega) (by omega)]; exact h12) (by rw [o1 4 q 7 (by omega)]; exact h7) (JS_n hJ' o1 o2 (fun k h => o3' 14 0 k (by omega)) o4) (BW_n hW o1 o2) o5
    rw [show ((k + 1 : Nat) : Int) = (k : Int) + 1 by omega] at z1 z2
    exact ⟨F', B', Fm', Bm', r', z1, z2, nF_t o1 z3, nB_t o2 z4, nH_t (nH_g o3') z5, nM_t o4 z6, z7⟩
theorem P_writeN {K : zK} {Km m : Nat} {Z : Int → Int → Prop} {q p v w n d : Int} {g : Int → Int} {F : zF} {B : zB} {Fm : zF} {Bm : zB} (hK : 3002 ≤ K.1) (hKm : 70000000000 < Km) (h4 : 0 ≤ q ∧ q < K.2 4) (hp : 0 ≤ p ∧ p < K.2 6) (v0 : 0 ≤ v ∧ v < 4) (w0 : 0 ≤ w ∧ w < 3) (hn : 1 ≤ n ∧ n ≤ 12) (hd : d = 2 ∨ d = 4 ∨ d = 8 ∨ d = 16) (e4 : F 6 p 4 = n) (e5 : F 6 p 5 = d) (m4 : Fm 13 w 4 = n) (m5 : Fm 13 w 5 = d) (h12 : Bm 13 w 12 v = m) (h7 : F 4 q 7 = sumZ g m) (hJ : JS K q v w m (barV n d) g F B Fm Bm) (hW : BW q m (barV n d) g F B) (hZ : ZG Z (barV n d) (clB (sumZ g m) (barV n d))) : ∃ F' B' Fm' Bm' r, f_Part_writeNotes K q p F B = f_Part_writeNotes_101 K q p F' B' ∧ f_M_notes Km w v 1 Fm Bm = some (r, Fm', Bm') ∧ NR K q v w m Z F B Fm Bm r F' B' Fm' Bm' := by
  have f0 : nF q F (zup3 (zup3 F 4 q 10 0) 4 q 11 0) := fun c y k h => by rw [zup3_v, if_neg (by omega), zup3_v, if_neg (by omega)]
  have b0 : nB q B B := fun _ _ _ _ _ => rfl
  have g0 : nG Fm (fr Fm 0) := fun c y k h => fr_n (by omega)
  have m0 : nM' v w Bm (zup4 Bm 13 w 13 v 0) := fun c y k x h h' => by rw [zup4_v, if_neg (by omega)]
  have mm : m ≤ 200 := hJ.1.2.2.2.2.2
  have N0 : NW q v w m Z 0 (zup3 (zup3 F 4 q 10 0) 4 q 11 0) B (zup4 Bm 13 w 13 v 0) := ⟨by decide, by rw [zup3_v, if_neg (by omega), zup3_v, if_pos (by omega)], by rw [zup3_v, if_pos (by omega)], by rw [zup4_v, if_pos (by omega)], fun i a b => by omega⟩
  obtain ⟨F', B', Fm', Bm', r, z1, z2, z3, z4, z5, z6, z7⟩ := P_wn (K := K) (Km := Km) (m := m) (q := q) (p := p) (v := v) (w := w) (n := n) (d := d) (g := g) hK hKm h4 hp v0 w0 hn hd hZ m K.1 Km 0 (F := zup3 (zup3 F 4 q 10 0) 4 q 11 0) (B := B) (Fm := fr Fm 0) (Bm := zup4 Bm 13 w 13 v 0) (by omega) (by omega) (by omega) (by rw [f0 6 p 4 (by omega)]; exact e4) (by rw [f0 6 p 5 (by omega)]; exact e5) (by rw [g0 13 w 4 (by omega)]; exact m4) (by rw [g0 13 w 5 (by omega)]; exact m5) (by rw [m0 13 w 12 v (by omega) (by omega)]; exact h12) (by rw [f0 4 q 7 (by omega)]; exact h7) (JS_n hJ f0 b0 (fun k h => g0 14 0 k (by omega)) m0) (BW_n hW f0 b0) (Or.inl ⟨0, N0⟩)
  refine ⟨F', B', Fm', Bm', r, ?_, ?_, nF_t f0 z3, nB_t b0 z4, nH_t (nH_g g0) z5, nM_t m0 z6, z7⟩
  · unfold f_Part_writeNotes
    rw [if_pos h4]
    exact z1
  · unfold f_M_notes
    rw [if_pos w0, if_pos v0, L_isR (by omega) (p := 0) ⟨by decide, ⟨WW, by decide⟩, by decide, by decide⟩ (by decide), zb_s, ← z2, show sumZ g 0 = 0 from rfl, nd0.1, nd0.2]
    rfl
end
end
section
section
/-! ===== the class's notes: what is made of them returns ===== -/
/-- what stands of a voice's notes and events -/
def QN (K : zK) (q : Int) (m : Nat) (c : Int) (F : zF) (B : zB) : Prop := (0 ≤ q ∧ q < K.2 4) ∧ (F 4 q 6 = m ∧ m ≤ 200) ∧ (F 4 q 10 = c ∧ 0 ≤ c ∧ c ≤ 800) ∧ (0 ≤ F 4 q 1 ∧ F 4 q 1 < 4) ∧ (∀ i, 0 ≤ i → i < c → (-1 ≤ B 4 q 360 i ∧ B 4 q 360 i < m) ∧ (0 ≤ B 4 q 361 i ∧ B 4 q 361 i ≤ 100) ∧ (0 ≤ B 4 q 9 i ∧ B 4 q 9 i ≤ 1000000000000) ∧ (0 ≤ B 4 q 364 i ∧ B 4 q 364 i ≤ 9)) ∧ (∀ t : Int, 0 ≤ t → t < m → (0 ≤ B 4 q 5 t ∧ B 4 q 5 t < K.2 1) ∧ (0 ≤ F 1 (B 4 q 5 t) 7 ∧ F 1 (B 4 q 5 t) 7 < 128) ∧ (0 ≤ F 1 (B 4 q 5 t) 10 ∧ F 1 (B 4 q 5 t) 10 ≤ 6) ∧ ∀ k, 0 ≤ k → k < F 1 (B 4 q 5 t) 10 → (0 ≤ B 1 (B 4 q 5 t) 12 k ∧ B 1 (B 4 q 5 t) 12 k ≤ 62) ∧ (-2 ≤ B 1 (B 4 q 5 t) 13 k ∧ B 1 (B 4 q 5 t) 13 k ≤ 2)) ∧ (∀ s, 0 ≤ s → s < 63 → r32 (B 4 q 12 s))
/-- what making changes -/
def qB (q : Int) (B B' : zB) : Prop := ∀ c y k x, ¬ (c = 4 ∧ y = q ∧ (k = 12 ∨ 366 ≤ k)) → B' c y k x = B c y k x
theorem qB_r {q : Int} {B : zB} : qB q B B := fun _ _ _ _ _ => rfl
theorem qB_t {q : Int} {B B1 B2 : zB} (h : qB q B B1) (h' : qB q B1 B2) : qB q B B2 := fun c y k x n => by rw [h' c y k x n, h c y k x n]
theorem QN_f {K : zK} {q c : Int} {m : Nat} {F : zF} {B B' : zB} (h : QN K q m c F B) (f : qB q B B') (r12 : ∀ s, 0 ≤ s → s < 63 → r32 (B' 4 q 12 s)) : QN K q m c F B' := by
  obtain ⟨a1, a2, a3, a4, a5, a6, _⟩ := h
  refine ⟨a1, a2, a3, a4, fun i u t => ?_, fun t u s => ?_, r12⟩
  · rw [f 4 q 360 i (by omega), f 4 q 361 i (by omega), f 4 q 9 i (by omega), f 4 q 364 i (by omega)]
    exact a5 i u t
  · rw [f 4 q 5 t (by omega)]
    obtain ⟨b1, b2, b3, b4⟩ := a6 t u s
    refine ⟨b1, b2, b3, fun k x y => ?_⟩
    rw [f 1 _ 12 k (by omega), f 1 _ 13 k (by omega)]
    exact b4 k x y
theorem QN_w {K : zK} {q c : Int} {m : Nat} {F : zF} {B : zB} {k : Nat} {i x : Int} (h : QN K q m c F B) (hk : 366 ≤ k) : QN K q m c F (zup4 B 4 q k i x) ∧ qB q B (zup4 B 4 q k i x) := by
  have f : qB q B (zup4 B 4 q k i x) := fun c y k x n => by rw [zup4_v, if_neg (by omega)]
  exact ⟨QN_f h f (fun s a b => by rw [zup4_v, if_neg (by omega)]; exact h.2.2.2.2.2.2 s a b), f⟩
/-- rows behind 366 that are numbers stay so -/
def qR (q : Int) (B B' : zB) : Prop := ∀ k x, 366 ≤ k → r32 (B 4 q k x) → r32 (B' 4 q k x)
theorem qR_r {q : Int} {B : zB} : qR q B B := fun _ _ _ h => h
theorem qR_t {q : Int} {B B1 B2 : zB} (h : qR q B B1) (h' : qR q B1 B2) : qR q B B2 := fun k x n z => h' k x n (h k x n z)
theorem qR_w {q : Int} {B : zB} {k : Nat} {i x : Int} (hx : r32 x) : qR q B (zup4 B 4 q k i x) := fun k' x' _ z => by
  rw [zup4_v]
  split
  · exact hx
  · exact z
theorem qR_q {q : Int} {B B' : zB} (h : ∀ k x, 366 ≤ k → B' 4 q k x = B 4 q k x) : qR q B B' := fun k x n z => by rw [h k x n]; exact z
theorem C_rn {K : zK} {q c i : Int} {m : Nat} {F : zF} {B : zB} (h : QN K q m c F B) (i0 : 0 ≤ i) (i1 : i < c) : ∃ r, f_Part_isRestNote K q i F B = some (r, F, B) ∧ (r = 0 ∨ r = 1) ∧ (r = 0 → 0 ≤ B 4 q 360 i ∧ B 4 q 360 i < m ∧ 1 ≤ F 1 (B 4 q 5 (B 4 q 360 i)) 10) := by
  obtain ⟨h4, ⟨h6, m1⟩, ⟨h10, c0, c1⟩, hc, hn, he, _⟩ := h
  obtain ⟨n1, n2, n3, n4⟩ := hn i i0 i1
  unfold f_Part_isRestNote f_Part_isRestNote_33 f_Part_isRestNote_38
  rw [if_pos h4, if_pos (by omega), if_pos (by unfold r32; omega)]
  by_cases z : B 4 q 360 i < 0
  · rw [if_pos z, if_pos (Or.inr rfl)]
    exact ⟨1, rfl, Or.inr rfl, fun y => absurd y (by decide)⟩
  obtain ⟨e1, e2, e3, e4⟩ := he (B 4 q 360 i) (by omega) n1.2
  rw [if_neg z, h6, if_pos (by unfold r32; omega), if_neg (by omega), if_pos (by omega), if_pos e1, if_pos (by unfold r32; omega)]
  by_cases y : F 1 (B 4 q 5 (B 4 q 360 i)) 10 = 0
  · rw [if_pos y, if_pos (Or.inr rfl)]
    exact ⟨1, rfl, Or.inr rfl, fun y => absurd y (by decide)⟩
  · rw [if_neg y, if_pos (Or.inl rfl)]
    exact ⟨0, rfl, Or.inl rfl, fun _ => ⟨by omega, n1.2, by omega⟩⟩
theorem C_ct {K : zK} {q c i : Int} {m : Nat} {F : zF} {B : zB} (h : QN K q m c F B) (i0 : 0 ≤ i) (i1 : i ≤ 800) : ∃ r, f_Part_continues K q i F B = some (r, F, B) ∧ (r = 0 ∨ r = 1) := by
  obtain ⟨h4, ⟨h6, m1⟩, ⟨h10, c0, c1⟩, hc, hn, he, _⟩ := h
  unfold f_Part_continues f_Part_continues_37 f_Part_continues_38
  rw [if_pos (by unfold r32; omega)]
  by_cases z : i ≤ 0
  · rw [if_pos z, if_pos (Or.inl rfl)]; exact ⟨0, rfl, Or.inl rfl⟩
  rw [if_neg z, if_pos h4, h10, if_pos (by unfold r32; omega)]
  by_cases y : c ≤ i
  · rw [if_pos y, if_pos (Or.inl rfl)]; exact ⟨0, rfl, Or.inl rfl⟩
  have a := hn i (by omega) (by omega)
  have b := hn (i - 1) (by omega) (by omega)
  rw [if_neg y, if_pos (by omega), if_pos (by omega), if_pos (by unfold r32; omega), if_pos (by unfold r32; omega)]
  by_cases x : B 4 q 360 i = B 4 q 360 (i - 1)
  · rw [if_pos x, if_pos (Or.inr rfl)]; exact ⟨1, rfl, Or.inr rfl⟩
  · rw [if_neg x, if_pos (Or.inl rfl)]; exact ⟨0, rfl, Or.inl rfl⟩
theorem C_tp {K : zK} {q c t : Int} {m : Nat} {F : zF} {B : zB} (hK : 3002 ≤ K.1) (h : QN K q m c F B) (t0 : 0 ≤ t) (t1 : t < m) : ∃ r, f_Part_tiedPitches K q t F B = some (r, F, B) ∧ 0 ≤ r ∧ r < 64 := by
  obtain ⟨h4, ⟨h6, m1⟩, _, hc, hn, he, _⟩ := h
  obtain ⟨e1, e2, e3, e4⟩ := he t t0 t1
  unfold f_Part_tiedPitches f_Part_tiedPitches_27
  rw [if_pos (by unfold r32; omega), if_neg (by omega), if_pos h4, if_pos (by unfold r32; omega), h6, if_pos (by unfold r32; omega)]
  by_cases z : (m : Int) ≤ t + 1
  · rw [if_pos z]; exact ⟨0, rfl, by decide, by decide⟩
  obtain ⟨d1, d2, d3, d4⟩ := he (t + 1) (by omega) (by omega)
  rw [if_neg z, if_pos (by omega), if_pos e1, C_has e1, zb_s]
  by_cases y : zand (F 1 (B 4 q 5 t) 7) 1 = 0
  · rw [if_pos y, if_pos (by decide), if_pos rfl]; exact ⟨0, rfl, by decide, by decide⟩
  · have sh := C_shared (K := K) (F := F) (B := B) hK e1 d1 rfl e3 rfl d3 (fun k u s => by have := e4 k u s; unfold r32; omega) (fun k u s => by have := d4 k u s; unfold r32; omega)
    have sb := shM_b (h := shB (B 4 q 5 t) (B 4 q 5 (t + 1)) (F 1 (B 4 q 5 (t + 1)) 10) B) (F 1 (B 4 q 5 t) 10).toNat
    have p64 : (2 : Int) ^ (F 1 (B 4 q 5 t) 10).toNat ≤ 64 := by
      obtain ⟨k, hk⟩ : ∃ k : Nat, F 1 (B 4 q 5 t) 10 = k := ⟨(F 1 (B 4 q 5 t) 10).toNat, by omega⟩
      have : k = 0 ∨ k = 1 ∨ k = 2 ∨ k = 3 ∨ k = 4 ∨ k = 5 ∨ k = 6 := by omega
      rw [hk]
      rcases this with rfl | rfl | rfl | rfl | rfl | rfl | rfl <;> decide
    rw [if_neg y, if_pos (by decide), if_neg (by decide), if_pos (by omega), if_pos e1, if_pos d1, sh, zb_s]
    exact ⟨_, rfl, sb.1, by omega⟩
theorem C_hold {K : zK} {q c : Int} {m : Nat} {F : zF} (hK : 3002 ≤ K.1) : ∀ (r n : Nat) {i : Int} {B : zB}, 0 ≤ i → i + r = c → r < n → QN K q m c F B → ∃ B', f_Part_hold_2 K n i q F B = some (0, F, B') ∧ qB q B B' ∧ QN K q m c F B' ∧ qR q B B' ∧ ∀ j, i ≤ j → j < c → r32 (B' 4 q 366 j) := by
  intro r
  induction r with
  | zero =>
    intro n i B i0 ir hn h
    obtain ⟨n, rfl⟩ : ∃ k, n = k + 1 := ⟨n - 1, by omega⟩
    have h' := h
    obtain ⟨h4, ⟨h6, m1⟩, ⟨h10, c0, c1⟩, _⟩ := h
    rw [f_Part_hold_2, if_pos h4, if_pos (by unfold r32; omega), h10, if_pos (by unfold r32; omega), if_pos (by omega)]
    exact ⟨B, rfl, qB_r, h', qR_r, fun j a b => by omega⟩
  | succ r ih =>
    intro n i B i0 ir hn h
    obtain ⟨n, rfl⟩ : ∃ k, n = k + 1 := ⟨n - 1, by omega⟩
    have h' := h
    obtain ⟨h4, ⟨h6, m1⟩, ⟨h10, c0, c1⟩, hc, hno, he, _⟩ := h
    obtain ⟨r1, e1, z1, z2⟩ := C_rn h' i0 (by omega)
    rw [f_Part_hold_2, if_pos h4, if_pos (by unfold r32; omega), h10, if_pos (by unfold r32; omega), if_neg (by omega), if_pos (by omega), e1, zb_s]
    have go : ∀ x : Int, r32 x → ∃ B', f_Part_hold_89 (f_Part_hold_2 K n) K i q F (zup4 B 4 q 366 i x) = some (0, F, B') ∧ qB q B B' ∧ QN K q m c F B' ∧ qR q B B' ∧ ∀ j, i ≤ j → j < c → r32 (B' 4 q 366 j) := fun x hx => by
      obtain ⟨w1, w2⟩ := QN_w (k := 366) (i := i) (x := x) h' (by decide)
      obtain ⟨B', a, b, c, d, e⟩ := ih n (i := i + 1) (by omega) (by omega) (by omega) w1
      refine ⟨B', a, qB_t w2 b, c, qR_t (qR_w hx) d, fun j j0 j1 => ?_⟩
      by_cases ej : j = i
      · rw [ej]
        exact d 366 i (by decide) (by rw [zup4_v, if_pos ⟨rfl, rfl, rfl, rfl⟩]; exact hx)
      · exact e j (by omega) j1
    have sh : ∀ k : Fin 7, r32 (zshl 1 (k.val : Int) - 1) := by decide +kernel
    rcases z1 with rfl | rfl
    · obtain ⟨y1, y2, y3⟩ := z2 rfl
      obtain ⟨r2, e2, z3⟩ := C_ct h' (i := i + 1) (by omega) (by omega)
      rw [if_pos (by decide), if_pos rfl, e2, zb_s]
      rcases z3 with rfl | rfl
      · obtain ⟨r3, e3, b3⟩ := C_tp hK h' y1 y2
        rw [if_pos (by decide), if_pos rfl, e3, zb_s]
        exact go _ (by unfold r32; omega)
      · rw [if_pos (by decide), if_neg (by decide), if_pos (by omega), if_pos (he _ y1 y2).1]
        refine go _ ?_
        have y4 := (he _ y1 y2).2.2.1
        have z := sh ⟨(F 1 (B 4 q 5 (B 4 q 360 i)) 10).toNat, by omega⟩
        rw [show (((⟨(F 1 (B 4 q 5 (B 4 q 360 i)) 10).toNat, by omega⟩ : Fin 7).val : Nat) : Int) = F 1 (B 4 q 5 (B 4 q 360 i)) 10 by show (((F 1 (B 4 q 5 (B 4 q 360 i)) 10).toNat : Nat) : Int) = _; omega] at z
        exact z
    · rw [if_pos (by decide), if_neg (by decide)]
      exact go _ (by decide)
theorem zt8 : ztl 8 = 4 ∧ (∀ k : Fin 4, 0 ≤ ztv 8 (k.val : Int) ∧ ztv 8 (k.val : Int) ≤ 100) := by decide +kernel
theorem C_hts {K : zK} {q c i : Int} {m : Nat} {F : zF} {B : zB} (h : QN K q m c F B) (i0 : 0 ≤ i) (i1 : i < c) (y1 : 0 ≤ B 4 q 360 i) (y2 : B 4 q 360 i < m) (y3 : 1 ≤ F 1 (B 4 q 5 (B 4 q 360 i)) 10) : ∃ a b, f_Part_leastHeight K q i F B = some (a, F, B) ∧ f_Part_greatestHeight K q i F B = some (b, F, B) ∧ (-100 ≤ a ∧ a ≤ 62) ∧ (-100 ≤ b ∧ b ≤ 62) := by
  obtain ⟨h4, ⟨h6, m1⟩, ⟨h10, c0, c1⟩, hc, hno, he, _⟩ := h
  obtain ⟨e1, e2, e3, e4⟩ := he _ y1 y2
  have z := zt8.2 ⟨(F 4 q 1).toNat, by omega⟩
  rw [show (((⟨(F 4 q 1).toNat, by omega⟩ : Fin 4).val : Nat) : Int) = F 4 q 1 by show (((F 4 q 1).toNat : Nat) : Int) = F 4 q 1; omega] at z
  have zm : zmax (F 1 (B 4 q 5 (B 4 q 360 i)) 10 - 1) 0 = F 1 (B 4 q 5 (B 4 q 360 i)) 10 - 1 := by unfold zmax; split <;> omega
  have k0 := (e4 0 (by decide) (by omega)).1
  have k1 := (e4 (F 1 (B 4 q 5 (B 4 q 360 i)) 10 - 1) (by omega) (by omega)).1
  unfold f_Part_leastHeight f_Part_greatestHeight
  rw [if_pos h4, if_pos (by omega), if_pos (by omega), if_pos e1, zt8.1, if_pos hc, if_pos h4, if_pos (by omega), if_pos (by omega), if_pos e1, if_pos (by unfold r32; omega), zm, if_pos (by omega), if_pos hc]
  exact ⟨_, _, rfl, rfl, by omega, by omega⟩
theorem C_ledg {K : zK} {q c : Int} {m : Nat} {F : zF} : ∀ (r n : Nat) {i : Int} {B : zB}, 0 ≤ i → i + r = c → r < n → QN K q m c F B → ∃ B', f_Part_setLedgers_2 K n i q F B = some (0, F, B') ∧ qB q B B' ∧ QN K q m c F B' ∧ qR q B B' ∧ ∀ j, i ≤ j → j < c → r32 (B' 4 q 368 j) := by
  intro r
  induction r with
  | zero =>
    intro n i B i0 ir hn h
    obtain ⟨n, rfl⟩ : ∃ k, n = k + 1 := ⟨n - 1, by omega⟩
    have h' := h
    obtain ⟨h4, ⟨h6, m1⟩, ⟨h10, c0, c1⟩, _⟩ := h
    rw [f_Part_setLedgers_2, if_pos h4, if_pos (by unfold r32; omega), h10, if_pos (by unfold r32; omega), if_pos (by omega)]
    exact ⟨B, rfl, qB_r, h', qR_r, fun j a b => by omega⟩
  | succ r ih =>
    intro n i B i0 ir hn h
    obtain ⟨n, rfl⟩ : ∃ k, n = k + 1 := ⟨n - 1, by omega⟩
    have h' := h
    obtain ⟨h4, ⟨h6, m1⟩, ⟨h10, c0, c1⟩, hc, hno, he, _⟩ := h
    obtain ⟨r1, e1, z1, z2⟩ := C_rn h' i0 (by omega)
    have go : ∀ x : Int, r32 x → ∃ B', f_Part_setLedgers_52 (f_Part_setLedgers_2 K n) K x i q F B = some (0, F, B') ∧ qB q B B' ∧ QN K q m c F B' ∧ qR q B B' ∧ ∀ j, i ≤ j → j < c → r32 (B' 4 q 368 j) := fun x hx => by
      obtain ⟨w1, w2⟩ := QN_w (k := 368) (i := i) (x := x) h' (by decide)
      obtain ⟨B', a, b, c, d, e⟩ := ih n (i := i + 1) (by omega) (by omega) (by omega) w1
      refine ⟨B', ?_, qB_t w2 b, c, qR_t (qR_w hx) d, fun j j0 j1 => by
        by_cases ej : j = i
        · rw [ej]
          exact d 368 i (by decide) (by rw [zup4_v, if_pos ⟨rfl, rfl, rfl, rfl⟩]; exact hx)
        · exact e j (by omega) j1⟩
      unfold f_Part_setLedgers_52
      rw [if_pos h4, if_pos (by omega)]
      exact a
    rw [f_Part_setLedgers_2, if_pos h4, if_pos (by unfold r32; omega), h10, if_pos (by unfold r32; omega), if_neg (by omega), e1, zb_s]
    rcases z1 with rfl | rfl
    · obtain ⟨y1, y2, y3⟩ := z2 rfl
      obtain ⟨a, b, ea, eb, ba, bb⟩ := C_hts h' i0 (by omega) y1 y2 y3
      rw [if_pos (by decide), if_pos rfl, eb, zb_s, if_pos (by unfold r32; omega), ea, zb_s, if_pos (by unfold r32; omega)]
      refine go _ ?_
      have hz : ∀ t : Int, t ≤ 200 → 0 ≤ zdv (zmax t 0) 2 ∧ zdv (zmax t 0) 2 ≤ 100 := fun t ht => by
        have q0 : 0 ≤ zmax t 0 ∧ zmax t 0 ≤ 200 := by unfold zmax; split <;> omega
        rw [zdv_e q0.1 (by unfold r32; omega) (by decide) (by decide)]
        omega
      have h1 := hz (b - 8) (by omega)
      have h2 := hz (-a) (by omega)
      unfold r32
      omega
    · rw [if_pos (by decide), if_neg (by decide)]
      exact go 0 (by decide)
end
end
section
section
/-! ===== accidentals: they return ===== -/
theorem C_fm {K : zK} {s : Int} {F : zF} {B : zB} (h0 : 0 ≤ s) (h1 : s ≤ 62) : f_Math_floorMod K s 7 F B = some (s % 7, F, B) := by
  have h := nat_f ⟨s.toNat, by omega⟩
  rw [show (((⟨s.toNat, by omega⟩ : Fin 63).val : Nat) : Int) = s by show ((s.toNat : Nat) : Int) = s; omega] at h
  obtain ⟨x0, x1, d, r, t⟩ := h
  unfold f_Math_floorMod f_Math_floorMod_18
  rw [if_pos (iI_n0 (by decide) (by decide)), if_pos (by omega), if_pos x0, r]
theorem zt7 : ztl 7 = 7 ∧ (∀ k : Fin 7, 0 ≤ ztv 7 (k.val : Int) ∧ ztv 7 (k.val : Int) ≤ 100) := by decide +kernel
theorem C_key {K : zK} {f s : Int} {F : zF} {B : zB} (hf : -7 ≤ f ∧ f ≤ 7) (h0 : 0 ≤ s) (h1 : s ≤ 6) : ∃ r, f_S_keyAlteration K f s F B = some (r, F, B) ∧ (-1 ≤ r ∧ r ≤ 1) := by
  have z := zt7.2 ⟨s.toNat, by omega⟩
  rw [show (((⟨s.toNat, by omega⟩ : Fin 7).val : Nat) : Int) = s by show ((s.toNat : Nat) : Int) = s; omega] at z
  unfold f_S_keyAlteration f_S_keyAlteration_25 f_S_keyAlteration_40
  rw [C_fm h0 (by omega), zb_s, show s % 7 = s by omega, zt7.1, if_pos (by omega), if_pos (by unfold r32; omega)]
  by_cases c : f ≤ 0
  · rw [if_pos c, if_pos (by unfold r32; omega), if_pos (by unfold r32; omega)]
    by_cases y : -f ≤ 6 - ztv 7 s
    · rw [if_pos y]; exact ⟨0, rfl, by decide⟩
    · rw [if_neg y]; exact ⟨-1, rfl, by decide⟩
  · rw [if_neg c, if_pos (by unfold r32; omega)]
    by_cases y : f ≤ ztv 7 s
    · rw [if_pos y]; exact ⟨0, rfl, by decide⟩
    · rw [if_neg y]; exact ⟨1, rfl, by decide⟩
theorem C_tied {K : zK} {q c t k : Int} {m : Nat} {F : zF} {B : zB} (hK : 3002 ≤ K.1) (h : QN K q m c F B) (t0 : 0 ≤ t) (t1 : t < m) (k0 : 0 ≤ k) (k1 : k < F 1 (B 4 q 5 t) 10) : ∃ r, f_Part_isTiedFrom K q t k F B = some (r, F, B) ∧ (r = 0 ∨ r = 1) := by
  obtain ⟨h4, ⟨h6, m1⟩, _, hc, hn, he, _⟩ := h
  obtain ⟨e1, e2, e3, e4⟩ := he t t0 t1
  unfold f_Part_isTiedFrom f_Part_isTiedFrom_56 f_Part_isTiedFrom_57
  rw [if_pos h4, if_pos (by omega), if_pos (by unfold r32; omega)]
  by_cases z : t ≤ 0
  · rw [if_pos z, if_pos (Or.inl rfl)]; exact ⟨0, rfl, Or.inl rfl⟩
  obtain ⟨d1, d2, d3, d4⟩ := he (t - 1) (by omega) (by omega)
  rw [if_neg z, if_pos (by omega), if_pos d1, C_has d1, zb_s]
  by_cases y : zand (F 1 (B 4 q 5 (t - 1)) 7) 1 = 0
  · rw [if_pos y, if_pos (by decide), if_pos rfl, if_pos (Or.inl rfl)]; exact ⟨0, rfl, Or.inl rfl⟩
  · have ek := e4 k k0 k1
    rw [if_neg y, if_pos (by decide), if_neg (by decide), if_pos e1, if_pos (by omega), if_pos d1, C_hasP hK d1 rfl d3.2 d3.1 (fun j u s => by have := d4 j u s; unfold r32; omega) (by unfold r32; omega) (by unfold r32; omega), zb_s]
    by_cases x : fP (B 1 (B 4 q 5 (t - 1)) 12) (B 1 (B 4 q 5 (t - 1)) 13) (F 1 (B 4 q 5 (t - 1)) 10) (B 1 (B 4 q 5 t) 12 k) (B 1 (B 4 q 5 t) 13 k) 7 0 < 0
    · rw [if_pos x, if_pos (by decide), if_pos rfl, if_pos (Or.inl rfl)]; exact ⟨0, rfl, Or.inl rfl⟩
    · rw [if_neg x, if_pos (by decide), if_neg (by decide), if_pos (Or.inr rfl)]; exact ⟨1, rfl, Or.inr rfl⟩
theorem C_acc12 {K : zK} {q c t : Int} {m : Nat} {F : zF} (hK : 3002 ≤ K.1) (t0 : 0 ≤ t) (t1 : t < m) : ∀ (r n : Nat) {k x : Int} {B : zB}, 0 ≤ k → k + r = F 1 (B 4 q 5 t) 10 → r < n → r32 x → QN K q m c F B → ∃ y B', f_Part_accidentalsOf_12 K n k x (B 4 q 5 t) q t F B = some (y, F, B') ∧ qB q B B' ∧ QN K q m c F B' ∧ qR q B B' ∧ r32 y := by
  intro r
  induction r with
  | zero =>
    intro n k x B k0 kr hn rx h
    obtain ⟨n, rfl⟩ : ∃ j, n = j + 1 := ⟨n - 1, by omega⟩
    have h' := h
    obtain ⟨h4, ⟨h6, m1⟩, _, hc, hno, he, _⟩ := h
    obtain ⟨e1, e2, e3, e4⟩ := he t t0 t1
    rw [f_Part_accidentalsOf_12, if_pos e1, if_pos (by unfold r32; omega), if_pos (by unfold r32; omega), if_pos (by omega)]
    exact ⟨x, B, rfl, qB_r, h', qR_r, rx⟩
  | succ r ih =>
    intro n k x B k0 kr hn rx h
    obtain ⟨n, rfl⟩ : ∃ j, n = j + 1 := ⟨n - 1, by omega⟩
    have h' := h
    obtain ⟨h4, ⟨h6, m1⟩, _, hc, hno, he, h12⟩ := h
    obtain ⟨e1, e2, e3, e4⟩ := he t t0 t1
    obtain ⟨z, ez, zb⟩ := C_tied hK h' t0 t1 k0 (by omega)
    have ek := e4 k k0 (by omega)
    rw [f_Part_accidentalsOf_12, if_pos e1, if_pos (by unfold r32; omega), if_pos (by unfold r32; omega), if_neg (by omega), if_pos (by omega), if_pos h4, ez, zb_s]
    simp only [f_Part_accidentalsOf_78]
    rcases zb with rfl | rfl
    · rw [if_pos (by decide), if_pos rfl, if_pos (by omega), if_pos (h12 _ (by omega) (by omega)), if_pos (by unfold r32; omega)]
      by_cases y : B 4 q 12 (B 1 (B 4 q 5 t) 12 k) = B 1 (B 4 q 5 t) 13 k
      · rw [if_pos y]
        exact ih n (k := k + 1) (by omega) (by omega) (by omega) rx h'
      · rw [if_neg y]
        generalize hC : zup4 B 4 q 12 (B 1 (B 4 q 5 t) 12 k) (B 1 (B 4 q 5 t) 13 k) = C
        have f : qB q B C := fun d y j s nn => by rw [← hC, zup4_v, if_neg (by omega)]
        have hC' : QN K q m c F C := QN_f h' f (fun s a b => by
          rw [← hC, zup4_v]
          split
          · unfold r32; omega
          · exact h12 s a b)
        have e5 : C 4 q 5 t = B 4 q 5 t := f 4 q 5 t (by omega)
        obtain ⟨y', B', g1, g2, g3, g4, g5⟩ := ih n (k := k + 1) (x := zor x (zshl 1 k)) (B := C) (by omega) (by rw [e5]; omega) (by omega) (toI_r _) hC'
        rw [e5] at g1
        exact ⟨y', B', g1, qB_t f g2, g3, qR_t (qR_q (fun k x n => by rw [← hC, zup4_v, if_neg (by omega)])) g4, g5⟩
    · rw [if_pos (by decide), if_neg (by decide)]
      exact ih n (k := k + 1) (by omega) (by omega) (by omega) rx h'
theorem C_acc36 {K : zK} {q c f i b : Int} {m : Nat} {F : zF} {rec : Int → Int → Int → Int → zF → zB → zO} (hf : -7 ≤ f ∧ f ≤ 7) : ∀ (r n : Nat) {s : Int} {B : zB}, 0 ≤ s → s + r = 63 → r < n → QN K q m c F B → ∃ B', f_Part_setAccidentals_36 rec K n s b i q f F B = f_Part_setAccidentals_65 rec K i b q f F B' ∧ qB q B B' ∧ QN K q m c F B' ∧ qR q B B' := by
  intro r
  induction r with
  | zero =>
    intro n s B s0 sr hn h
    obtain ⟨n, rfl⟩ : ∃ j, n = j + 1 := ⟨n - 1, by omega⟩
    rw [f_Part_setAccidentals_36, if_pos (by unfold r32; omega), if_pos (by omega)]
    exact ⟨B, rfl, qB_r, h, qR_r⟩
  | succ r ih =>
    intro n s B s0 sr hn h
    obtain ⟨n, rfl⟩ : ∃ j, n = j + 1 := ⟨n - 1, by omega⟩
    have h' := h
    obtain ⟨h4, _, _, _, _, _, h12⟩ := h
    have m1 := Int.emod_nonneg s (show (7 : Int) ≠ 0 by decide)
    have m2 := Int.emod_lt_of_pos s (show (0 : Int) < 7 by decide)
    obtain ⟨z, ez, zb⟩ := C_key (K := K) (F := F) (B := B) hf (s := s % 7) m1 (by omega)
    rw [f_Part_setAccidentals_36, if_pos (by unfold r32; omega), if_neg (by omega), if_pos h4, zrm_e s0 (by unfold r32; omega) (by decide) (by decide), ez, zb_s, if_pos (by omega)]
    generalize hC : zup4 B 4 q 12 s z = C
    have f' : qB q B C := fun d y j s nn => by rw [← hC, zup4_v, if_neg (by omega)]
    have hC' : QN K q m c F C := QN_f h' f' (fun s a b => by
      rw [← hC, zup4_v]
      split
      · unfold r32; omega
      · exact h12 s a b)
    obtain ⟨B', g1, g2, g3, g4⟩ := ih n (s := s + 1) (B := C) (by omega) (by omega) (by omega) hC'
    exact ⟨B', g1, qB_t f' g2, g3, qR_t (qR_q (fun k x n => by rw [← hC, zup4_v, if_neg (by omega)])) g4⟩
theorem C_acc {K : zK} {q c f : Int} {m : Nat} {F : zF} (hK : 3002 ≤ K.1) (hf : -7 ≤ f ∧ f ≤ 7) : ∀ (r n : Nat) {i b : Int} {B : zB}, 0 ≤ i → i + r = c → r < n → r32 b → QN K q m c F B → ∃ B', f_Part_setAccidentals_4 K n i b q f F B = some (0, F, B') ∧ qB q B B' ∧ QN K q m c F B' ∧ qR q B B' ∧ ∀ j, i ≤ j → j < c → r32 (B' 4 q 367 j) := by
  intro r
  induction r with
  | zero =>
    intro n i b B i0 ir hn rb h
    obtain ⟨n, rfl⟩ : ∃ k, n = k + 1 := ⟨n - 1, by omega⟩
    have h' := h
    obtain ⟨h4, ⟨h6, m1⟩, ⟨h10, c0, c1⟩, _⟩ := h
    rw [f_Part_setAccidentals_4, if_pos h4, if_pos (by unfold r32; omega), h10, if_pos (by unfold r32; omega), if_pos (by omega)]
    exact ⟨B, rfl, qB_r, h', qR_r, fun j a b => by omega⟩
  | succ r ih =>
    intro n i b B i0 ir hn rb h
    obtain ⟨n, rfl⟩ : ∃ k, n = k + 1 := ⟨n - 1, by omega⟩
    -- one note
    have note : ∀ (b' : Int) (C : zB), r32 b' → QN K q m c F C → ∃ B', f_Part_setAccidentals_65 (f_Part_setAccidentals_4 K n) K i b' q f F C = some (0, F, B') ∧ qB q C B' ∧ QN K q m c F B' ∧ qR q C B' ∧ ∀ j, i ≤ j → j < c → r32 (B' 4 q 367 j) := by
      intro b' C rb' hC
      have hC' := hC
      obtain ⟨h4, ⟨h6, m1⟩, ⟨h10, c0, c1⟩, hc, hno, he, _⟩ := hC
      have put : ∀ (x : Int) (D : zB), r32 x → QN K q m c F D → qB q C D → qR q C D → ∃ B', f_Part_setAccidentals_117 (f_Part_setAccidentals_4 K n) K i b' q f q i x F D = some (0, F, B') ∧ qB q C B' ∧ QN K q m c F B' ∧ qR q C B' ∧ ∀ j, i ≤ j → j < c → r32 (B' 4 q 367 j) := fun x D hx hD fD rD => by
        obtain ⟨w1, w2⟩ := QN_w (k := 367) (i := i) (x := x) hD (by decide)
        obtain ⟨B', g1, g2, g3, g4, g5⟩ := ih n (i := i + 1) (b := b') (by omega) (by omega) (by omega) rb' w1
        refine ⟨B', ?_, qB_t fD (qB_t w2 g2), g3, qR_t rD (qR_t (qR_w hx) g4), fun j j0 j1 => by
          by_cases ej : j = i
          · rw [ej]
            exact g4 367 i (by decide) (by rw [zup4_v, if_pos ⟨rfl, rfl, rfl, rfl⟩]; exact hx)
          · exact g5 j (by omega) j1⟩
        unfold f_Part_setAccidentals_117
        rw [if_pos h4, if_pos (by omega)]
        exact g1
      obtain ⟨r1, e1, z1, z2⟩ := C_rn hC' i0 (by omega)
      unfold f_Part_setAccidentals_65 f_Part_setAccidentals_85 f_Part_setAccidentals_86
      rw [if_pos h4, e1, zb_s]
      rcases z1 with rfl | rfl
      · obtain ⟨y1, y2, y3⟩ := z2 rfl
        obtain ⟨r2, e2, z3⟩ := C_ct hC' i0 (by omega)
        rw [if_pos (show r32 0 by decide), if_pos (show (0 : Int) = 0 from rfl), e2, zb_s]
        rcases z3 with rfl | rfl
        · obtain ⟨y', D, g1, g2, g3, g4, g5⟩ := C_acc12 hK y1 y2 (F 1 (C 4 q 5 (C 4 q 360 i)) 10).toNat K.1 (k := 0) (x := 0) (B := C) (by decide) (by have := (he _ y1 y2).2.2.1; omega) (by have := (he _ y1 y2).2.2.1; omega) (by decide) hC'
          rw [if_pos (show r32 0 by decide), if_pos (show (0 : Int) = 0 from rfl), if_pos h4, if_pos (show r32 1 by decide), if_neg (show ¬ (1 : Int) = 0 by decide), if_pos (show 0 ≤ i ∧ i < 800 by omega), f_Part_accidentalsOf, if_pos h4, if_pos (show 0 ≤ C 4 q 360 i ∧ C 4 q 360 i < 200 by omega), g1, zb_s]
          exact put _ D g5 g3 g2 g4
        · rw [if_pos (show r32 1 by decide), if_neg (show ¬ (1 : Int) = 0 by decide), if_pos h4, if_pos (show r32 0 by decide), if_pos (show (0 : Int) = 0 from rfl)]
          exact put 0 C (by decide) hC' qB_r qR_r
      · rw [if_pos (show r32 1 by decide), if_neg (show ¬ (1 : Int) = 0 by decide), if_pos h4, if_pos (show r32 0 by decide), if_pos (show (0 : Int) = 0 from rfl)]
        exact put 0 C (by decide) hC' qB_r qR_r
    have h' := h
    obtain ⟨h4, ⟨h6, m1⟩, ⟨h10, c0, c1⟩, hc, hno, he, _⟩ := h
    obtain ⟨n1, n2, n3, n4⟩ := hno i i0 (by omega)
    rw [f_Part_setAccidentals_4, if_pos h4, if_pos (by unfold r32; omega), h10, if_pos (by unfold r32; omega), if_neg (by omega), if_pos (by omega), if_pos (by unfold r32; omega), if_pos rb]
    by_cases z : B 4 q 361 i = b
    · rw [if_pos z]
      exact note b B rb h'
    · rw [if_neg z]
      obtain ⟨C, g1, g2, g3, g4⟩ := C_acc36 (rec := f_Part_setAccidentals_4 K n) (i := i) (b := B 4 q 361 i) hf 63 K.1 (s := 0) (B := B) (by decide) (by decide) (by omega) h'
      rw [g1]
      obtain ⟨B', k1, k2, k3, k4, k5⟩ := note (B 4 q 361 i) C (by unfold r32; omega) g3
      exact ⟨B', k1, qB_t g2 k2, k3, qR_t g4 k4, k5⟩
end
end
section
section
/-! ===== groups and stems: they return ===== -/
theorem C_bm {K : zK} {q c i : Int} {m : Nat} {F : zF} {B : zB} (h : QN K q m c F B) (i0 : 0 ≤ i) (i1 : i < c) : ∃ r, f_Part_isBeamed K q i F B = some (r, F, B) ∧ (r = 0 ∨ r = 1) := by
  obtain ⟨r1, e1, z1, z2⟩ := C_rn h i0 i1
  obtain ⟨h4, ⟨h6, m1⟩, ⟨h10, c0, c1⟩, hc, hno, he, _⟩ := h
  have n4 := (hno i i0 i1).2.2.2
  unfold f_Part_isBeamed f_Part_isBeamed_24 f_Part_isBeamed_25
  rw [if_pos h4, e1, zb_s]
  rcases z1 with rfl | rfl
  · rw [if_pos (by decide), if_pos rfl, if_pos (by omega), if_pos (by unfold r32; omega)]
    by_cases y : B 4 q 364 i < 3
    · rw [if_pos y, if_pos (Or.inl rfl)]; exact ⟨0, rfl, Or.inl rfl⟩
    · rw [if_neg y, if_pos (Or.inr rfl)]; exact ⟨1, rfl, Or.inr rfl⟩
  · rw [if_pos (by decide), if_neg (by decide), if_pos (Or.inl rfl)]; exact ⟨0, rfl, Or.inl rfl⟩
theorem C_bwi {K : zK} {q c i j b : Int} {m : Nat} {F : zF} {B : zB} (h : QN K q m c F B) (i0 : 0 ≤ i) (i1 : i < c) (j0 : 0 ≤ j) (j1 : j < c) (b0 : 0 < b) (b1 : b ≤ 1000000000000) : ∃ r, f_Part_beamsWith K q i j b F B = some (r, F, B) ∧ (r = 0 ∨ r = 1) := by
  obtain ⟨r1, e1, z1⟩ := C_bm h j0 j1
  obtain ⟨h4, ⟨h6, m1⟩, ⟨h10, c0, c1⟩, hc, hno, he, _⟩ := h
  have ni := hno i i0 i1
  have nj := hno j j0 j1
  have q1 : 0 ≤ B 4 q 9 i / b := Int.ediv_nonneg (by omega) (by omega)
  have q2 : B 4 q 9 i / b ≤ B 4 q 9 i := Int.ediv_le_self _ (by omega)
  have q3 : 0 ≤ B 4 q 9 j / b := Int.ediv_nonneg (by omega) (by omega)
  have q4 : B 4 q 9 j / b ≤ B 4 q 9 j := Int.ediv_le_self _ (by omega)
  unfold f_Part_beamsWith f_Part_beamsWith_59 f_Part_beamsWith_60
  rw [if_pos h4, if_pos (by unfold r32; omega), h10, if_pos (by unfold r32; omega), if_neg (by omega), e1, zb_s]
  rcases z1 with rfl | rfl
  · rw [if_pos (by decide), if_pos rfl, if_pos (Or.inl rfl)]; exact ⟨0, rfl, Or.inl rfl⟩
  rw [if_pos (by decide), if_neg (by decide), if_pos (by omega), if_pos (by omega), if_pos (by unfold r32; omega), if_pos (by unfold r32; omega)]
  by_cases y : B 4 q 361 i = B 4 q 361 j
  · rw [if_pos y, if_pos (lI_n0 b0 (by unfold r64; omega)), zldv_e (by omega) (by omega) b0 (by omega), zldv_e (by omega) (by omega) b0 (by omega), if_pos (by unfold r64; omega), if_pos (by unfold r64; omega)]
    by_cases z : zcmp (B 4 q 9 i / b) (B 4 q 9 j / b) = 0
    · rw [if_pos z, if_pos (Or.inr rfl)]; exact ⟨1, rfl, Or.inr rfl⟩
    · rw [if_neg z, if_pos (Or.inl rfl)]; exact ⟨0, rfl, Or.inl rfl⟩
  · rw [if_neg y, if_pos (Or.inl rfl)]; exact ⟨0, rfl, Or.inl rfl⟩
def GB (q u : Int) (B : zB) : Prop := ∀ i, 0 ≤ i → i < u → (-1 ≤ B 4 q 369 i ∧ B 4 q 369 i ≤ 800) ∧ r32 (B 4 q 370 i)
/-- what is made of the notes, whole -/
def GBw (q u : Int) (B : zB) : Prop := ∀ i, 0 ≤ i → i < u → (-1 ≤ B 4 q 369 i ∧ B 4 q 369 i ≤ 800) ∧ r32 (B 4 q 370 i) ∧ r32 (B 4 q 366 i) ∧ r32 (B 4 q 367 i) ∧ r32 (B 4 q 368 i) ∧ r32 (B 4 q 371 i)
theorem C_g34 {K : zK} {q c no l5 gr b : Int} {m : Nat} {F : zF} {B : zB} {rec : Int → Int → Int → Int → Int → zF → zB → zO} (h : QN K q m c F B) (b0 : 0 < b) (b1 : b ≤ 1000000000000) (n0 : 0 ≤ no) : ∀ (r n : Nat) {s : Int}, 1 ≤ s → no + s ≤ c → c - no - s ≤ r → r < n → ∃ s', s ≤ s' ∧ no + s' ≤ c ∧ f_Part_group_34 rec K n s l5 no gr q b F B = f_Part_group_76 rec K s' l5 no gr q b F B := by
  have c1 := h.2.2.1.2.2
  intro r
  induction r with
  | zero =>
    intro n s s1 sc sr hn
    obtain ⟨n, rfl⟩ : ∃ k, n = k + 1 := ⟨n - 1, by omega⟩
    obtain ⟨r1, e1, z1⟩ := C_bm h n0 (by omega)
    refine ⟨s, Int.le_refl _, sc, ?_⟩
    rw [f_Part_group_34, if_pos h.1, e1, zb_s]
    rcases z1 with rfl | rfl
    · rw [if_pos (by decide), if_pos rfl]
    · rw [if_pos (by decide), if_neg (by decide), if_pos (by unfold r32; omega), h.2.2.1.1, if_pos (by unfold r32; omega), if_pos (by omega)]
  | succ r ih =>
    intro n s s1 sc sr hn
    obtain ⟨n, rfl⟩ : ∃ k, n = k + 1 := ⟨n - 1, by omega⟩
    obtain ⟨r1, e1, z1⟩ := C_bm h n0 (by omega)
    rw [f_Part_group_34, if_pos h.1, e1, zb_s]
    rcases z1 with rfl | rfl
    · rw [if_pos (by decide), if_pos rfl]
      exact ⟨s, Int.le_refl _, sc, rfl⟩
    · rw [if_pos (by decide), if_neg (by decide), if_pos (by unfold r32; omega), h.2.2.1.1, if_pos (by unfold r32; omega)]
      by_cases y : c ≤ no + s
      · rw [if_pos y]; exact ⟨s, Int.le_refl _, sc, rfl⟩
      · obtain ⟨r2, e2, z2⟩ := C_bwi h n0 (by omega) (j := no + s) (by omega) (by omega) b0 b1
        rw [if_neg y, e2, zb_s]
        rcases z2 with rfl | rfl
        · rw [if_pos (by decide), if_pos rfl]; exact ⟨s, Int.le_refl _, sc, rfl⟩
        · rw [if_pos (by decide), if_neg (by decide)]
          obtain ⟨s', t1, t2, t3⟩ := ih n (s := s + 1) (by omega) (by omega) (by omega) (by omega)
          exact ⟨s', by omega, t2, t3⟩
theorem C_g80 {K : zK} {q c no l5 gr b s : Int} {m : Nat} {F : zF} {rec : Int → Int → Int → Int → Int → zF → zB → zO} (n0 : 0 ≤ no) (s1 : 1 ≤ s) (sc : no + s ≤ c) (g0 : 0 ≤ gr ∧ gr ≤ 800) : ∀ (r n : Nat) {k : Int} {B : zB}, no ≤ k → k + r = no + s → r < n → QN K q m c F B → GB q k B → ∃ B' x, f_Part_group_80 rec K n k s l5 no gr q b F B = f_Part_group_192 rec K s l5 no q b gr x F B' ∧ (x = 0 ∨ x = 1) ∧ qB q B B' ∧ QN K q m c F B' ∧ GB q (no + s) B' ∧ qR q B B' := by
  intro r
  induction r with
  | zero =>
    intro n k B k0 kr hn h hg
    obtain ⟨n, rfl⟩ : ∃ k, n = k + 1 := ⟨n - 1, by omega⟩
    have c1 := h.2.2.1.2.2
    rw [f_Part_group_80, if_pos (by unfold r32; omega), if_pos (by unfold r32; omega), if_pos (by omega), if_pos (by unfold r32; omega)]
    have hg' : GB q (no + s) B := by rwa [show no + s = k by omega]
    by_cases y : s ≤ 1
    · rw [if_pos y]; exact ⟨B, 0, rfl, Or.inl rfl, qB_r, h, hg', qR_r⟩
    · rw [if_neg y]; exact ⟨B, 1, rfl, Or.inr rfl, qB_r, h, hg', qR_r⟩
  | succ r ih =>
    intro n k B k0 kr hn h hg
    obtain ⟨n, rfl⟩ : ∃ k, n = k + 1 := ⟨n - 1, by omega⟩
    have c1 := h.2.2.1.2.2
    have h4 := h.1
    have put : ∀ (gv x : Int), -1 ≤ gv → gv ≤ 800 → r32 x → ∃ B' x', f_Part_group_173 rec (f_Part_group_80 rec K n) K k s l5 no gr q b q k x F (zup4 B 4 q 369 k gv) = f_Part_group_192 rec K s l5 no q b gr x' F B' ∧ (x' = 0 ∨ x' = 1) ∧ qB q B B' ∧ QN K q m c F B' ∧ GB q (no + s) B' ∧ qR q B B' := fun gv x g1 g2 hx => by
      obtain ⟨w1, w2⟩ := QN_w (k := 369) (i := k) (x := gv) h (by decide)
      obtain ⟨w3, w4⟩ := QN_w (k := 370) (i := k) (x := x) w1 (by decide)
      have gb : GB q (k + 1) (zup4 (zup4 B 4 q 369 k gv) 4 q 370 k x) := fun i a b' => by
        by_cases e : i = k
        · rw [e, zup4_v, if_neg (by omega), zup4_v, if_pos ⟨rfl, rfl, rfl, rfl⟩, zup4_v, if_pos ⟨rfl, rfl, rfl, rfl⟩]
          exact ⟨⟨g1, g2⟩, hx⟩
        · rw [zup4_v, if_neg (by omega), zup4_v, if_neg (by omega), zup4_v, if_neg (by omega), zup4_v, if_neg (by omega)]
          exact hg i a (by omega)
      obtain ⟨B', x', t1, t2, t3, t4, t5, t6⟩ := ih n (k := k + 1) (by omega) (by omega) (by omega) w3 gb
      refine ⟨B', x', ?_, t2, qB_t w2 (qB_t w4 t3), t4, t5, qR_t (qR_w (by unfold r32; omega)) (qR_t (qR_w hx) t6)⟩
      unfold f_Part_group_173
      rw [if_pos h4, if_pos (by omega)]
      exact t1
    have g129 : ∀ (hn' gv : Int), hn' = 0 ∨ (hn' = 1 ∧ k + 1 < no + s) → -1 ≤ gv → gv ≤ 800 → ∃ B' x', f_Part_group_129 rec (f_Part_group_80 rec K n) K hn' k s l5 no gr q b q k gv F B = f_Part_group_192 rec K s l5 no q b gr x' F B' ∧ (x' = 0 ∨ x' = 1) ∧ qB q B B' ∧ QN K q m c F B' ∧ GB q (no + s) B' ∧ qR q B B' := fun hn' gv hh g1 g2 => by
      unfold f_Part_group_129
      rw [if_pos h4, if_pos (by omega), if_pos h4]
      rcases hh with rfl | ⟨rfl, hh⟩
      · rw [if_pos (by decide), if_pos rfl]
        exact put gv 0 g1 g2 (by decide)
      · have a1 := (h.2.2.2.2.1 k (by omega) (by omega)).2.2.2
        have a2 := (h.2.2.2.2.1 (k + 1) (by omega) (by omega)).2.2.2
        have e1 : ∀ j, (zup4 B 4 q 369 k gv) 4 q 364 j = B 4 q 364 j := fun j => by rw [zup4_v, if_neg (by omega)]
        rw [if_pos (by decide), if_neg (by decide), if_pos (by omega), if_pos (by omega), e1, e1, if_pos (by unfold r32; omega), if_pos (by unfold r32; omega)]
        exact put gv _ g1 g2 (by unfold r32 zmin; split <;> omega)
    have g107 : ∀ (hn' : Int), hn' = 0 ∨ (hn' = 1 ∧ k + 1 < no + s) → ∃ B' x', f_Part_group_107 rec (f_Part_group_80 rec K n) K k s l5 no gr q b hn' F B = f_Part_group_192 rec K s l5 no q b gr x' F B' ∧ (x' = 0 ∨ x' = 1) ∧ qB q B B' ∧ QN K q m c F B' ∧ GB q (no + s) B' ∧ qR q B B' := fun hn' hh => by
      unfold f_Part_group_107
      rw [if_pos h4, if_pos (by unfold r32; omega)]
      by_cases y : s ≤ 1
      · rw [if_pos y]; exact g129 hn' (-1) hh (by decide) (by decide)
      · rw [if_neg y]; exact g129 hn' gr hh (by omega) (by omega)
    rw [f_Part_group_80, if_pos (by unfold r32; omega), if_pos (by unfold r32; omega), if_neg (by omega), if_pos (by unfold r32; omega)]
    by_cases y : no + s ≤ k + 1
    · rw [if_pos y]; exact g107 0 (Or.inl rfl)
    · rw [if_neg y]; exact g107 1 (Or.inr ⟨rfl, by omega⟩)
theorem C_grp {K : zK} {q c b : Int} {m : Nat} {F : zF} (hK : 3002 ≤ K.1) (b0 : 0 < b) (b1 : b ≤ 1000000000000) : ∀ (r n : Nat) {l5 no gr : Int} {B : zB}, 0 ≤ no → no ≤ c → c - no ≤ r → r < n → 0 ≤ gr → gr ≤ l5 → l5 ≤ no → QN K q m c F B → GB q no B → ∃ B', f_Part_group_8 K n l5 no gr q b F B = some (0, F, B') ∧ qB q B B' ∧ QN K q m c F B' ∧ GB q c B' ∧ qR q B B' := by
  intro r
  induction r with
  | zero =>
    intro n l5 no gr B n0 nc nr hn g0 g1 l1 h hg
    obtain ⟨n, rfl⟩ : ∃ k, n = k + 1 := ⟨n - 1, by omega⟩
    have c1 := h.2.2.1.2.2
    have hg' : GB q c B := by rwa [show c = no by omega]
    refine ⟨B, ?_, qB_r, h, hg', qR_r⟩
    rw [f_Part_group_8, if_pos (by unfold r32; omega)]
    simp only [f_Part_group_207]
    by_cases y : 800 ≤ l5
    · rw [if_pos y]
    · rw [if_neg y, if_pos h.1, if_pos (by unfold r32; omega), h.2.2.1.1, if_pos (by unfold r32; omega), if_pos (by omega)]
  | succ r ih =>
    intro n l5 no gr B n0 nc nr hn g0 g1 l1 h hg
    obtain ⟨n, rfl⟩ : ∃ k, n = k + 1 := ⟨n - 1, by omega⟩
    have c1 := h.2.2.1.2.2
    by_cases e : no = c
    · have hg' : GB q c B := by rwa [← e]
      refine ⟨B, ?_, qB_r, h, hg', qR_r⟩
      rw [f_Part_group_8, if_pos (by unfold r32; omega)]
      simp only [f_Part_group_207]
      by_cases y : 800 ≤ l5
      · rw [if_pos y]
      · rw [if_neg y, if_pos h.1, if_pos (by unfold r32; omega), h.2.2.1.1, if_pos (by unfold r32; omega), if_pos (by omega)]
    obtain ⟨s, t1, t2, t3⟩ := C_g34 (rec := f_Part_group_8 K n) (l5 := l5) (gr := gr) h b0 b1 n0 (c - no).toNat K.1 (s := 1) (Int.le_refl _) (by omega) (by omega) (by omega)
    obtain ⟨B1, x, u1, u2, u3, u4, u5, u6⟩ := C_g80 (K := K) (q := q) (c := c) (no := no) (l5 := l5) (gr := gr) (b := b) (s := s) (m := m) (F := F) (rec := f_Part_group_8 K n) n0 t1 t2 (by omega) s.toNat K.1 (k := no) (B := B) (Int.le_refl _) (by omega) (by omega) h hg
    rw [f_Part_group_8, if_pos (by unfold r32; omega), if_neg (by omega), if_pos h.1, if_pos (by unfold r32; omega), h.2.2.1.1, if_pos (by unfold r32; omega), if_neg (by omega), if_pos (by unfold r64; omega), if_neg (fun y => by have := zcmp_m.mp y; omega), t3, f_Part_group_76, u1, f_Part_group_192]
    obtain ⟨B', k1, k2, k3, k4, k5⟩ := ih n (l5 := l5 + 1) (no := no + s) (gr := gr + x) (B := B1) (by omega) t2 (by omega) (by omega) (by omega) (by omega) (by omega) u4 u5
    exact ⟨B', k1, qB_t u3 k2, k3, k4, qR_t u6 k5⟩
theorem GB_f {q c : Int} {B B' : zB} (h : GB q c B) (f : ∀ k i, k = 369 ∨ k = 370 → B' 4 q k i = B 4 q k i) : GB q c B' := fun i a b => by rw [f 369 i (Or.inl rfl), f 370 i (Or.inr rfl)]; exact h i a b
theorem C_st21 {K : zK} {q c no l2 : Int} {m : Nat} {F : zF} {B : zB} {rec : Int → Int → Int → zF → zB → zO} (h : QN K q m c F B) (hg : GB q c B) (n0 : 0 ≤ no) : ∀ (r n : Nat) {s : Int}, 1 ≤ s → no + s ≤ c → c - no - s ≤ r → r < n → ∃ s', s ≤ s' ∧ no + s' ≤ c ∧ f_Part_setStems_21 rec K n s l2 no q F B = f_Part_setStems_73 rec K s' l2 no q F B := by
  have c1 := h.2.2.1.2.2
  intro r
  induction r with
  | zero =>
    intro n s s1 sc sr hn
    obtain ⟨n, rfl⟩ : ∃ k, n = k + 1 := ⟨n - 1, by omega⟩
    have g1 := hg no n0 (by omega)
    refine ⟨s, Int.le_refl _, sc, ?_⟩
    rw [f_Part_setStems_21, if_pos h.1, if_pos (by omega), if_pos (by unfold r32; omega)]
    by_cases y : B 4 q 369 no = -1
    · rw [if_pos y]
    · rw [if_neg y, if_pos (by unfold r32; omega), h.2.2.1.1, if_pos (by unfold r32; omega), if_pos (by omega)]
  | succ r ih =>
    intro n s s1 sc sr hn
    obtain ⟨n, rfl⟩ : ∃ k, n = k + 1 := ⟨n - 1, by omega⟩
    have g1 := hg no n0 (by omega)
    rw [f_Part_setStems_21, if_pos h.1, if_pos (by omega), if_pos (by unfold r32; omega)]
    by_cases y : B 4 q 369 no = -1
    · rw [if_pos y]; exact ⟨s, Int.le_refl _, sc, rfl⟩
    rw [if_neg y, if_pos (by unfold r32; omega), h.2.2.1.1, if_pos (by unfold r32; omega)]
    by_cases z : c ≤ no + s
    · rw [if_pos z]; exact ⟨s, Int.le_refl _, sc, rfl⟩
    have g2 := hg (no + s) (by omega) (by omega)
    rw [if_neg z, if_pos (by omega), if_pos (by unfold r32; omega)]
    by_cases x : B 4 q 369 (no + s) = B 4 q 369 no
    · rw [if_pos x]
      obtain ⟨s', t1, t2, t3⟩ := ih n (s := s + 1) (by omega) (by omega) (by omega) (by omega)
      exact ⟨s', by omega, t2, t3⟩
    · rw [if_neg x]; exact ⟨s, Int.le_refl _, sc, rfl⟩
theorem C_st79 {K : zK} {q c no l2 s : Int} {m : Nat} {F : zF} {B : zB} {rec : Int → Int → Int → zF → zB → zO} (h : QN K q m c F B) (n0 : 0 ≤ no) (s1 : 1 ≤ s) (sc : no + s ≤ c) : ∀ (r n : Nat) {k u : Int}, no ≤ k → k + r = no + s → r < n → -(300 * (k - no)) ≤ u → u ≤ 300 * (k - no) → ∃ u', -300000 ≤ u' ∧ u' ≤ 300000 ∧ f_Part_setStems_79 rec K n k u s l2 no q F B = f_Part_setStems_130 rec K K.1 no u' s l2 no q F B := by
  have c1 := h.2.2.1.2.2
  intro r
  induction r with
  | zero =>
    intro n k u k0 kr hn u0 u1
    obtain ⟨n, rfl⟩ : ∃ k, n = k + 1 := ⟨n - 1, by omega⟩
    refine ⟨u, by omega, by omega, ?_⟩
    rw [f_Part_setStems_79, if_pos (by unfold r32; omega), if_pos (by unfold r32; omega), if_pos (by omega)]
  | succ r ih =>
    intro n k u k0 kr hn u0 u1
    obtain ⟨n, rfl⟩ : ∃ k, n = k + 1 := ⟨n - 1, by omega⟩
    obtain ⟨r1, e1, z1, z2⟩ := C_rn h (i := k) (by omega) (by omega)
    rw [f_Part_setStems_79, if_pos (by unfold r32; omega), if_pos (by unfold r32; omega), if_neg (by omega), if_pos h.1, e1, zb_s]
    rcases z1 with rfl | rfl
    · obtain ⟨y1, y2, y3⟩ := z2 rfl
      obtain ⟨a, b, ea, eb, ba, bb⟩ := C_hts h (i := k) (by omega) (by omega) y1 y2 y3
      rw [if_pos (by decide), if_pos rfl, ea, zb_s, eb, zb_s, f_Part_setStems_118]
      exact ih n (by omega) (by omega) (by omega) (by omega) (by omega)
    · rw [if_pos (by decide), if_neg (by decide), f_Part_setStems_118]
      exact ih n (by omega) (by omega) (by omega) (by omega) (by omega)
theorem C_st130 {K : zK} {q c no l2 s u : Int} {m : Nat} {F : zF} {rec : Int → Int → Int → zF → zB → zO} (n0 : 0 ≤ no) (s1 : 1 ≤ s) (sc : no + s ≤ c) (u0 : -300000 ≤ u ∧ u ≤ 300000) : ∀ (r n : Nat) {k : Int} {B : zB}, no ≤ k → k + r = no + s → r < n → QN K q m c F B → GB q c B → ∃ B', f_Part_setStems_130 rec K n k u s l2 no q F B = rec (l2 + 1) (no + s) q F B' ∧ qB q B B' ∧ QN K q m c F B' ∧ GB q c B' ∧ qR q B B' ∧ ∀ j, k ≤ j → j < no + s → r32 (B' 4 q 371 j) := by
  intro r
  induction r with
  | zero =>
    intro n k B k0 kr hn h hg
    obtain ⟨n, rfl⟩ : ∃ k, n = k + 1 := ⟨n - 1, by omega⟩
    have c1 := h.2.2.1.2.2
    rw [f_Part_setStems_130, if_pos (by unfold r32; omega), if_pos (by unfold r32; omega), if_pos (by omega)]
    exact ⟨B, rfl, qB_r, h, hg, qR_r, fun j a b => by omega⟩
  | succ r ih =>
    intro n k B k0 kr hn h hg
    obtain ⟨n, rfl⟩ : ∃ k, n = k + 1 := ⟨n - 1, by omega⟩
    have c1 := h.2.2.1.2.2
    have h4 := h.1
    obtain ⟨r1, e1, z1, z2⟩ := C_rn h (i := k) (by omega) (by omega)
    have put : ∀ x : Int, r32 x → ∃ B', f_Part_setStems_194 rec (f_Part_setStems_130 rec K n) K k u s l2 no q q k x F B = rec (l2 + 1) (no + s) q F B' ∧ qB q B B' ∧ QN K q m c F B' ∧ GB q c B' ∧ qR q B B' ∧ ∀ j, k ≤ j → j < no + s → r32 (B' 4 q 371 j) := fun x hx => by
      obtain ⟨w1, w2⟩ := QN_w (k := 371) (i := k) (x := x) h (by decide)
      obtain ⟨B', t1, t2, t3, t4, t5, t6⟩ := ih n (k := k + 1) (by omega) (by omega) (by omega) w1 (GB_f hg (fun k' i hk => by rw [zup4_v, if_neg (by omega)]))
      refine ⟨B', ?_, qB_t w2 t2, t3, t4, qR_t (qR_w hx) t5, fun j j0 j1 => by
        by_cases ej : j = k
        · rw [ej]
          exact t5 371 k (by decide) (by rw [zup4_v, if_pos ⟨rfl, rfl, rfl, rfl⟩]; exact hx)
        · exact t6 j (by omega) j1⟩
      unfold f_Part_setStems_194
      rw [if_pos h4, if_pos (by omega)]
      exact t1
    have bare : ∃ B', f_Part_setStems_159 rec (f_Part_setStems_130 rec K n) K k u s l2 no q F B = rec (l2 + 1) (no + s) q F B' ∧ qB q B B' ∧ QN K q m c F B' ∧ GB q c B' ∧ qR q B B' ∧ ∀ j, k ≤ j → j < no + s → r32 (B' 4 q 371 j) := by
      unfold f_Part_setStems_159 f_Part_setStems_164
      rw [if_pos h4, if_pos (by decide), if_neg (by decide)]
      exact put 0 (by decide)
    rw [f_Part_setStems_130, if_pos (by unfold r32; omega), if_pos (by unfold r32; omega), if_neg (by omega), if_pos h4, e1, zb_s]
    rcases z1 with rfl | rfl
    · have n4 := (h.2.2.2.2.1 k (by omega) (by omega)).2.2.2
      rw [if_pos (by decide), if_pos rfl, if_pos (by omega), if_pos (by unfold r32; omega)]
      by_cases y : B 4 q 364 k = 0
      · rw [if_pos y]; exact bare
      · rw [if_neg y]
        unfold f_Part_setStems_164
        rw [if_pos h4, if_pos (by decide), if_pos rfl, if_pos (by unfold r32; omega)]
        by_cases x : 0 ≤ u
        · rw [if_pos x]; exact put 2 (by decide)
        · rw [if_neg x]; exact put 1 (by decide)
    · rw [if_pos (by decide), if_neg (by decide)]
      exact bare
theorem C_stem {K : zK} {q c : Int} {m : Nat} {F : zF} (hK : 3002 ≤ K.1) : ∀ (r n : Nat) {l2 no : Int} {B : zB}, 0 ≤ no → no ≤ c → c - no ≤ r → r < n → 0 ≤ l2 → l2 ≤ no → QN K q m c F B → GB q c B → ∃ B', f_Part_setStems_4 K n l2 no q F B = some (0, F, B') ∧ qB q B B' ∧ QN K q m c F B' ∧ GB q c B' ∧ qR q B B' ∧ ∀ j, no ≤ j → j < c → r32 (B' 4 q 371 j) := by
  intro r
  induction r with
  | zero =>
    intro n l2 no B n0 nc nr hn l0 l1 h hg
    obtain ⟨n, rfl⟩ : ∃ k, n = k + 1 := ⟨n - 1, by omega⟩
    have c1 := h.2.2.1.2.2
    refine ⟨B, ?_, qB_r, h, hg, qR_r, fun j a b => by omega⟩
    rw [f_Part_setStems_4, if_pos (by unfold r32; omega)]
    simp only [f_Part_setStems_211]
    by_cases y : 800 ≤ l2
    · rw [if_pos y]
    · rw [if_neg y, if_pos h.1, if_pos (by unfold r32; omega), h.2.2.1.1, if_pos (by unfold r32; omega), if_pos (by omega)]
  | succ r ih =>
    intro n l2 no B n0 nc nr hn l0 l1 h hg
    obtain ⟨n, rfl⟩ : ∃ k, n = k + 1 := ⟨n - 1, by omega⟩
    have c1 := h.2.2.1.2.2
    by_cases e : no = c
    · refine ⟨B, ?_, qB_r, h, hg, qR_r, fun j a b => by omega⟩
      rw [f_Part_setStems_4, if_pos (by unfold r32; omega)]
      simp only [f_Part_setStems_211]
      by_cases y : 800 ≤ l2
      · rw [if_pos y]
      · rw [if_neg y, if_pos h.1, if_pos (by unfold r32; omega), h.2.2.1.1, if_pos (by unfold r32; omega), if_pos (by omega)]
    obtain ⟨s, t1, t2, t3⟩ := C_st21 (rec := f_Part_setStems_4 K n) (l2 := l2) h hg n0 (c - no).toNat K.1 (s := 1) (Int.le_refl _) (by omega) (by omega) (by omega)
    obtain ⟨u, u1, u2, u3⟩ := C_st79 (rec := f_Part_setStems_4 K n) (l2 := l2) h n0 t1 t2 s.toNat K.1 (k := no) (u := 0) (Int.le_refl _) (by omega) (by omega) (by omega) (by omega)
    obtain ⟨B1, v1, v2, v3, v4, v5, v6⟩ := C_st130 (K := K) (q := q) (c := c) (no := no) (l2 := l2) (s := s) (u := u) (m := m) (F := F) (rec := f_Part_setStems_4 K n) n0 t1 t2 ⟨u1, u2⟩ s.toNat K.1 (k := no) (B := B) (Int.le_refl _) (by omega) (by omega) h hg
    rw [f_Part_setStems_4, if_pos (by unfold r32; omega), if_neg (by omega), if_pos h.1, if_pos (by unfold r32; omega), h.2.2.1.1, if_pos (by unfold r32; omega), if_neg (by omega), t3, f_Part_setStems_73, u3, v1]
    obtain ⟨B', k1, k2, k3, k4, k5, k6⟩ := ih n (l2 := l2 + 1) (no := no + s) (B := B1) (by omega) t2 (by omega) (by omega) (by omega) (by omega) v3 v4
    refine ⟨B', k1, qB_t v2 k2, k3, k4, qR_t v5 k5, fun j j0 j1 => ?_⟩
    by_cases ej : j < no + s
    · exact k5 371 j (by decide) (v6 j j0 ej)
    · exact k6 j (by omega) j1
theorem C_beat {K : zK} {p n d : Int} {F : zF} {B : zB} (hp : 0 ≤ p ∧ p < K.2 6) (h4 : F 6 p 4 = n) (h5 : F 6 p 5 = d) (hn : 1 ≤ n ∧ n ≤ 12) (hd : d = 2 ∨ d = 4 ∨ d = 8 ∨ d = 16) : ∃ b, f_Piece_beatLength K p F B = some (b, F, B) ∧ 0 < b ∧ b ≤ 1000000000000 := by
  have bb := bc_b (n := n) (d := d)
  have rb : r32 (bc n d) := by unfold r32; omega
  unfold f_Piece_beatLength
  rw [if_pos hp, h5, h4]
  have hb := C_bc (K := K) (F := F) (B := B) hn hd
  rcases hd with rfl | rfl | rfl | rfl
  · rw [if_pos (by decide), if_pos (by decide), if_pos (by decide), hb, zb_s, if_pos rb]
    exact ⟨_, rfl, by rw [show zldv 812851200 (zmax 2 1) = 406425600 by decide]; omega, by rw [show zldv 812851200 (zmax 2 1) = 406425600 by decide]; omega⟩
  · rw [if_pos (by decide), if_pos (by decide), if_pos (by decide), hb, zb_s, if_pos rb]
    exact ⟨_, rfl, by rw [show zldv 812851200 (zmax 4 1) = 203212800 by decide]; omega, by rw [show zldv 812851200 (zmax 4 1) = 203212800 by decide]; omega⟩
  · rw [if_pos (by decide), if_pos (by decide), if_pos (by decide), hb, zb_s, if_pos rb]
    exact ⟨_, rfl, by rw [show zldv 812851200 (zmax 8 1) = 101606400 by decide]; omega, by rw [show zldv 812851200 (zmax 8 1) = 101606400 by decide]; omega⟩
  · rw [if_pos (by decide), if_pos (by decide), if_pos (by decide), hb, zb_s, if_pos rb]
    exact ⟨_, rfl, by rw [show zldv 812851200 (zmax 16 1) = 50803200 by decide]; omega, by rw [show zldv 812851200 (zmax 16 1) = 50803200 by decide]; omega⟩
theorem C_101 {K : zK} {q p c n d : Int} {m : Nat} {F : zF} {B : zB} (hK : 3002 ≤ K.1) (hp : 0 ≤ p ∧ p < K.2 6) (e4 : F 6 p 4 = n) (e5 : F 6 p 5 = d) (hn : 1 ≤ n ∧ n ≤ 12) (hd : d = 2 ∨ d = 4 ∨ d = 8 ∨ d = 16) (e2 : -7 ≤ F 6 p 2 ∧ F 6 p 2 ≤ 7) (h11 : F 4 q 11 = 0) (h : QN K q m c F B) : ∃ B', f_Part_writeNotes_101 K q p F B = some (0, F, B') ∧ qB q B B' ∧ QN K q m c F B' ∧ GBw q c B' := by
  have c0 := h.2.2.1
  obtain ⟨B1, a1, a2, a3, a4, a5⟩ := C_hold hK c.toNat K.1 (i := 0) (B := B) (by decide) (by omega) (by omega) h
  obtain ⟨B2, b1, b2, b3, b4, b5⟩ := C_acc hK e2 c.toNat K.1 (i := 0) (b := -1) (B := B1) (by decide) (by omega) (by omega) (by decide) a3
  obtain ⟨B3, d1, d2, d3, d4, d5⟩ := C_ledg c.toNat K.1 (i := 0) (B := B2) (by decide) (by omega) (by omega) b3
  obtain ⟨b, f1, f2, f3⟩ := C_beat (K := K) (F := F) (B := B3) hp e4 e5 hn hd
  obtain ⟨B4, g1, g2, g3, g4, g5⟩ := C_grp hK f2 f3 c.toNat K.1 (l5 := 0) (no := 0) (gr := 0) (B := B3) (by decide) (by omega) (by omega) (by omega) (by decide) (by decide) (by decide) d3 (fun i a b => by omega)
  obtain ⟨B5, k1, k2, k3, k4, k5, k6⟩ := C_stem hK c.toNat K.1 (l2 := 0) (no := 0) (B := B4) (by decide) (by omega) (by omega) (by omega) (by decide) (by decide) g3 g4
  unfold f_Part_writeNotes_101 f_Part_hold f_Part_setAccidentals f_Part_setLedgers f_Part_group f_Part_setStems
  rw [if_pos h.1, h11, if_pos (by decide), if_pos rfl, a1, zb_s, if_pos hp, b1, zb_s, d1, zb_s, f1, zb_s, g1, zb_s, k1, zb_s, f_Part_writeNotes_136]
  exact ⟨B5, rfl, qB_t a2 (qB_t b2 (qB_t d2 (qB_t g2 k2))), k3, fun i i0 i1 => ⟨(k4 i i0 i1).1, (k4 i i0 i1).2, qR_t b4 (qR_t d4 (qR_t g5 k5)) 366 i (by decide) (a5 i i0 i1), qR_t d4 (qR_t g5 k5) 367 i (by decide) (b5 i i0 i1), qR_t g5 k5 368 i (by decide) (d5 i i0 i1), k6 i i0 i1⟩⟩
end
end
section
section
/-! ===== a voice judged, both sides ===== -/
def inW (v w : Int) (c : Nat) (i : Int) (k : Nat) (x : Int) : Prop := c = 13 ∧ i = w ∧ (((k = 12 ∨ k = 13) ∧ x = v) ∨ (14 ≤ k ∧ k ≤ 27 ∧ 1000 * v ≤ x ∧ x < 1000 * v + 1000) ∨ (28 ≤ k ∧ k ≤ 29 ∧ 6000 * v ≤ x ∧ x < 6000 * v + 6000) ∨ (30 ≤ k ∧ k ≤ 35 ∧ 800 * v ≤ x ∧ x < 800 * v + 800))
/-- what a voice's walk and judgement may change -/
def VFR (q v w : Int) (F : zF) (B : zB) (Fm : zF) (Bm : zB) (F' : zF) (B' : zB) (Fm' : zF) (Bm' : zB) : Prop :=
  (∀ c y k, ¬ (c = 11 ∧ y = 0) → ¬ (c = 4 ∧ y = q ∧ 6 ≤ k) → ¬ (c = 1 ∧ ownE B q y) → F' c y k = F c y k) ∧
  (∀ c y k x, ¬ (c = 11 ∧ y = 0) → ¬ (c = 4 ∧ y = q ∧ 5 ≤ k) → ¬ (c = 1 ∧ ownE B q y) → B' c y k x = B c y k x) ∧
  (∀ y, ownE B' q y ↔ ownE B q y) ∧
  (∀ c i k, ¬ (c = 14 ∧ i = 0 ∧ (k ≤ 1 ∨ k = 17 ∨ k = 18 ∨ (36 ≤ k ∧ k ≤ 57))) → ¬ (c = 13 ∧ i = w ∧ k = 7) → Fm' c i k = Fm c i k) ∧
  (∀ c i k x, ¬ (c = 14 ∧ i = 0 ∧ 42 ≤ k ∧ k ≤ 51) → ¬ inW v w c i k x → Bm' c i k x = Bm c i k x) ∧
  (inJ q B → inJ q B')
theorem VFR_t {q v w : Int} {F F1 F2 : zF} {B B1 B2 : zB} {Fm Fm1 Fm2 : zF} {Bm Bm1 Bm2 : zB} (h : VFR q v w F B Fm Bm F1 B1 Fm1 Bm1) (h' : VFR q v w F1 B1 Fm1 Bm1 F2 B2 Fm2 Bm2) : VFR q v w F B Fm Bm F2 B2 Fm2 Bm2 :=
  ⟨fun c y k a b d => by rw [h'.1 c y k a b (fun z => d ⟨z.1, (h.2.2.1 y).mp z.2⟩), h.1 c y k a b d], fun c y k x a b d => by rw [h'.2.1 c y k x a b (fun z => d ⟨z.1, (h.2.2.1 y).mp z.2⟩), h.2.1 c y k x a b d], fun y => (h'.2.2.1 y).trans (h.2.2.1 y), fun c i k a b => by rw [h'.2.2.2.1 c i k a b, h.2.2.2.1 c i k a b], fun c i k x a b => by rw [h'.2.2.2.2.1 c i k x a b, h.2.2.2.2.1 c i k x a b], fun z => h'.2.2.2.2.2 (h.2.2.2.2.2 z)⟩
theorem VFR_5 {q v w : Int} {F F' : zF} {B B' : zB} {Fm Fm' : zF} {Bm Bm' : zB} (h : WF5 q v w F B Fm Bm F' B' Fm' Bm') : VFR q v w F B Fm Bm F' B' Fm' Bm' := by
  obtain ⟨a1, a2, a3, a4, a5, a6⟩ := h
  exact ⟨fun c y k a b d => a1 c y k a (by omega) d, fun c y k x a b d => a2 c y k x a (by omega) d, a3, fun c i k a b => a4 c i k (by omega), fun c i k x a b => a5 c i k x a (by unfold inV; unfold inW at b; omega), fun _ => a6⟩
/-- frames with the rows of events as they were -/
theorem VFR_s {q v w : Int} {F F' : zF} {B B' : zB} {Fm Fm' : zF} {Bm Bm' : zB} (f1 : ∀ c y k, ¬ (c = 4 ∧ y = q ∧ 6 ≤ k) → ¬ (c = 1 ∧ ownE B q y) → F' c y k = F c y k) (f2 : ∀ c y k x, ¬ (c = 4 ∧ y = q ∧ 6 ≤ k) → B' c y k x = B c y k x) (f4 : ∀ c i k, ¬ (c = 14 ∧ i = 0 ∧ (k ≤ 1 ∨ k = 17 ∨ k = 18 ∨ (36 ≤ k ∧ k ≤ 57))) → ¬ (c = 13 ∧ i = w ∧ k = 7) → Fm' c i k = Fm c i k) (f5 : ∀ c i k x, ¬ inW v w c i k x → Bm' c i k x = Bm c i k x) : VFR q v w F B Fm Bm F' B' Fm' Bm' := by
  have e5 : ∀ t, B' 4 q 5 t = B 4 q 5 t := fun t => f2 4 q 5 t (by omega)
  refine ⟨fun c y k a b d => f1 c y k b d, fun c y k x a b d => f2 c y k x (by omega), fun y => ?_, f4, fun c i k x a b => f5 c i k x b, fun h t t' a b a' b' e => ?_⟩
  · unfold ownE
    simp only [e5]
  · rw [e5, e5] at e
    exact h t t' a b a' b' e
/-- a note stands within its bar, and the bar within the voice -/
def zZ (T E b p : Int) : Prop := p < T ∧ b < E
def VD (K : zK) (q v w : Int) (m : Nat) (bar : Int) (g : Int → Int) (F : zF) (B Bm : zB) : Prop := (F 4 q 6 = m ∧ 1 ≤ m ∧ m ≤ 200) ∧ Bm 13 w 12 v = m ∧ (∀ j : Int, 0 ≤ j → j < m → 1 ≤ g j) ∧ sumZ g m ≤ 100 * bar ∧ F 4 q 7 = sumZ g m ∧ (∀ i : Nat, i < m → EVW w (B 4 q 5 i) (1000 * v + i) F B Bm ∧ F 1 (B 4 q 5 i) 0 = sumZ g i ∧ Bm 13 w 14 (1000 * v + i) = nu (sumZ g i) ∧ Bm 13 w 15 (1000 * v + i) = de (sumZ g i) ∧ F 1 (B 4 q 5 i) 1 = g i) ∧ SLs q v w m B F Bm ∧ BW q m bar g F B ∧ ∃ c, NW q v w m (zZ bar (clB (sumZ g m) bar)) c F B Bm ∧ QN K q m c F B ∧ GBw q c B
/-- what judging a voice comes to -/
def JO (K : zK) (q v w bar : Int) (F : zF) (B : zB) (Fm : zF) (Bm : zB) (r : Int) (F' : zF) (B' : zB) (Fm' : zF) (Bm' : zB) : Prop := VFR q v w F B Fm Bm F' B' Fm' Bm' ∧ (∀ s, 0 ≤ s → s < 63 → r32 (B' 4 q 12 s)) ∧ ((r = 0 ∧ Fm' 14 0 17 = 0 ∧ ∃ m g, VD K q v w m bar g F' B' Bm' ∧ Fm' 13 w 7 = clB (F' 4 q 7) bar) ∨ (bad Fm' ∧ r = Fm' 14 0 17 + 16 * Fm' 14 0 18 ∧ 0 ≤ Fm' 14 0 18 ∧ Fm' 14 0 18 ≤ 3000))
theorem P_judge {K : zK} {Km : Nat} {q p v w n d : Int} {F : zF} {B : zB} {Fm : zF} {Bm : zB} (hK : 3002 ≤ K.1) (hKm : 70000000000 < Km) (h4 : 0 ≤ q ∧ q < K.2 4) (hp : 0 ≤ p ∧ p < K.2 6) (v0 : 0 ≤ v ∧ v < 4) (w0 : 0 ≤ w ∧ w < 3) (hn : 1 ≤ n ∧ n ≤ 12) (hd : d = 2 ∨ d = 4 ∨ d = 8 ∨ d = 16) (e4 : F 6 p 4 = n) (e5 : F 6 p 5 = d) (e2 : -7 ≤ F 6 p 2 ∧ F 6 p 2 ≤ 7) (m4 : Fm 13 w 4 = n) (m5 : Fm 13 w 5 = d) (hV : ∀ t, 0 ≤ t → t < 200 → 0 ≤ B 4 q 5 t ∧ B 4 q 5 t < K.2 1) (hI : inJ q B) (hcl : 0 ≤ F 4 q 1 ∧ F 4 q 1 < 4) (h12 : ∀ s, 0 ≤ s → s < 63 → r32 (B 4 q 12 s)) (htk : F 4 q 3 = Bm 14 0 8 (Bm 14 0 28 v)) (h28 : 0 ≤ Bm 14 0 28 v ∧ Bm 14 0 28 v ≤ 3000) (htb : 0 ≤ F 4 q 3 ∧ F 4 q 3 ≤ 3000) (hS : WS q v w (barV n d) 0 F B Fm Bm) (hsum : sumZ (fun j => F 1 (B 4 q 5 j) 1) (F 4 q 6).toNat ≤ 100 * barV n d) (hm12 : Bm 13 w 12 v = Fm 14 0 36) : zP (f_Part_judge K q p F B) (f_M_judge Km Fm Bm) (fun r F' B' _ Fm' Bm' => JO K q v w (barV n d) F B Fm Bm r F' B' Fm' Bm') := by
  obtain ⟨⟨_, _, _, a4⟩, ⟨b1, b2, _, _⟩, _, _, _, _, _, _, _, _, _, _, ⟨o1, o2, o3, o4⟩⟩ := hS
  obtain ⟨bv1, _, bv3, bv4, bv5⟩ := bar_v hn hd
  obtain ⟨m, hm⟩ : ∃ m : Nat, F 4 q 6 = m := ⟨(F 4 q 6).toNat, by omega⟩
  have rm : r32 (m : Int) := by unfold r32; omega
  have tp : 0 ≤ Bm 14 0 8 (Bm 14 0 28 v) ∧ Bm 14 0 8 (Bm 14 0 28 v) ≤ 3000 := by rw [← htk]; exact htb
  unfold f_Part_judge f_M_judge
  rw [if_pos h4, hm, if_pos rm, ← o1, hm, if_pos rm]
  by_cases mz : (m : Int) = 0
  · rw [if_pos mz, if_pos mz, b1, if_pos v0, L_failAt a4 (by omega), zb_s]
    refine zP_s ⟨VFR_s (fun _ _ _ _ _ => rfl) (fun _ _ _ _ _ => rfl) (fun c i k h _ => by rw [flM_n (by omega)]) (fun _ _ _ _ _ => rfl), h12, Or.inr ⟨flM_b (by decide) (by decide), by rw [flM_17, flM_18, htk], by rw [flM_18]; exact tp⟩⟩
  rw [if_neg mz, if_neg mz, b2, if_pos w0, b1]
  -- the places
  have hg : ∀ j : Int, 0 ≤ j → j < m → 1 ≤ (fun j => F 1 (B 4 q 5 j) 1) j := fun j j0 j1 => by
    have := (o4 j j0 (by omega)).2.2.2.2.1.2.2.1
    exact this
  have hs' : sumZ (fun j => F 1 (B 4 q 5 j) 1) m ≤ 100 * barV n d := by
    rw [hm] at hsum
    exact hsum
  have hgd : (fun j => F 1 (B 4 q 5 j) 1) = (fun j => F 1 (B 4 q 5 j) 1) := rfl
  generalize hgg : (fun j : Int => F 1 (B 4 q 5 j) 1) = g at hg hs'
  have gv : ∀ j : Int, g j = F 1 (B 4 q 5 j) 1 := fun j => by rw [← hgg]
  obtain ⟨r1, F1, B1, r1', Fm1, Bm1, y1, y2, eB, f7, pl, pf1, pf2, pf3⟩ := P_places (K := K) (Km := Km) (m := m) (q := q) (v := v) (w := w) (B := B) (g := g) (F := F) (Fm := Fm) (Bm := Bm) hK (by omega) h4 v0 w0 hV hI (by omega) hg (by omega) hm (by rw [hm12, ← o1]; exact hm) (fun j j0 j1 => by
    have ev := o4 j j0 (by omega)
    have l := ev.2.2.2.2.1
    exact ⟨(gv j).symm, by rw [l.1, gv], by rw [l.2.1, gv]⟩)
  subst eB
  rw [y1, y2, zb_s, zb_s]
  have own : ∀ y, (∃ j : Int, 0 ≤ j ∧ j < m ∧ B1 4 q 5 j = y) → ownE B1 q y := fun y ⟨j, j0, j1, j2⟩ => ⟨j, j0, by omega, j2⟩
  have fA : VFR q v w F B1 Fm Bm F1 B1 Fm1 Bm1 := by
    refine VFR_s (fun c y k h h' => pf1 c y k (by omega) (fun z => h' ⟨z.1, own y (by obtain ⟨j, j0, j1, j2⟩ := z.2.2; exact ⟨j, j0, j1, j2⟩)⟩)) (fun _ _ _ _ _ => rfl) (fun c i k h _ => pf2 c i k (by omega)) (fun c i k x h => pf3 c i k x (fun z => h ?_))
    unfold inW
    omega
  have hJ : JS K q v w m (barV n d) g F1 B1 Fm1 Bm1 := by
    refine ⟨⟨by rw [pf1 4 q 6 (by omega) (by omega)]; exact hm, by rw [pf2 14 0 36 (by omega), ← o1]; exact hm, by rw [pf2 14 0 35 (by omega)]; exact b1, by rw [pf2 14 0 6 (by omega)]; exact b2, by omega, by omega⟩, hg, hs', fun i hi => ?_, hV⟩
    obtain ⟨q1, q2, q3⟩ := pl i hi
    have ev := o4 i (by omega) (by omega)
    refine ⟨EVW_h ev (fun k h h' => pf1 1 _ k (by omega) (fun z => by omega)) (fun _ _ => rfl) (fun k h h' => pf3 13 w k _ (by omega)) (fun k y h h' _ _ => pf3 13 w k y (by omega)) (fun y => pf3 14 0 8 y (by omega)), q1, q2, q3, ?_⟩
    rw [pf1 1 _ 1 (by omega) (by omega), gv]
  -- the frames of judging, as frames of the voice
  have fJ : ∀ {F2 : zF} {Fm2 : zF} {Bm2 : zB}, JFr q v w m B1 F1 Fm1 Bm1 F2 Fm2 Bm2 → VFR q v w F B1 Fm Bm F2 B1 Fm2 Bm2 := fun {F2 Fm2 Bm2} hf => by
    refine VFR_t fA (VFR_s (fun c y k h h' => hf.1 c y k (fun z => h' ⟨z.1, own y z.2.2⟩)) (fun _ _ _ _ _ => rfl) (fun c i k h _ => hf.2.1 c i k (by omega)) (fun c i k x h => hf.2.2 c i k x (fun z => h ?_)))
    unfold inW
    omega
  refine P_jl (K := K) (Km := Km) (m := m) (q := q) (p := p) (v := v) (w := w) (n := n) (d := d) (g := g) (B := B1) (F0 := F1) (Fm0 := Fm1) (Bm0 := Bm1) hK (by omega) h4 hp v0 w0 hn hd (by rw [pf1 6 p 4 (by omega) (by omega)]; exact e4) (by rw [pf1 6 p 5 (by omega) (by omega)]; exact e5) (by rw [pf2 13 w 4 (by omega)]; exact m4) (by rw [pf2 13 w 5 (by omega)]; exact m5) hI ?_ ?_ m K.1 Km 0 (by omega) (by omega) (by omega) (Or.inl rfl) hJ (by rw [pf2 14 0 17 (by omega)]; exact a4) JFr_r (fun j hj => by omega) (fun t ht => by omega)
  · -- behind the last event
    intro n1 n2 op F2 Fm2 Bm2 hop hJ2 h17 hf hsl hbs
    have hJ2' := hJ2
    obtain ⟨⟨c6, c36, c35, cw, mm0, mm1⟩, _, _, he2, _⟩ := hJ2
    have tk2 : F2 4 q 3 = Bm2 14 0 8 (Bm2 14 0 28 v) := by
      rw [hf.1 4 q 3 (by omega), pf1 4 q 3 (by omega) (by omega), hf.2.2 14 0 28 v (by omega), pf3 14 0 28 v (by omega), hf.2.2 14 0 8 _ (by omega), pf3 14 0 8 _ (by omega)]
      exact htk
    have t28 : Bm2 14 0 28 v = Bm 14 0 28 v := by rw [hf.2.2 14 0 28 v (by omega), pf3 14 0 28 v (by omega)]
    have tp2 : 0 ≤ Bm2 14 0 8 (Bm2 14 0 28 v) ∧ Bm2 14 0 8 (Bm2 14 0 28 v) ≤ 3000 := by
      rw [t28, hf.2.2 14 0 8 _ (by omega), pf3 14 0 8 _ (by omega)]
      exact tp
    have F6k : ∀ k, F2 6 p k = F 6 p k := fun k => by rw [hf.1 6 p k (by omega), pf1 6 p k (by omega) (by omega)]
    have M4 : Fm2 13 w 4 = n := by rw [hf.2.1 13 w 4 (by omega), pf2 13 w 4 (by omega)]; exact m4
    have M5 : Fm2 13 w 5 = d := by rw [hf.2.1 13 w 5 (by omega), pf2 13 w 5 (by omega)]; exact m5
    rw [f_Part_judge_26, if_pos h4, if_pos rm, c6, if_pos rm, if_pos (Int.le_refl _), joS_e, if_pos rm, c36, if_pos rm, if_pos (Int.le_refl _)]
    unfold f_M_judge_265
    rcases hop with rfl | rfl
    case inr =>
      have bd : bad (flM Fm2 Bm2 11 (Bm2 14 0 28 v)) := flM_b (by decide) (by decide)
      unfold f_M_judge_284 f_M_judge_325
      rw [if_pos (show r32 1 by decide), if_neg (show ¬ (1 : Int) = 0 by decide), if_pos (show r32 1 by decide), if_neg (show ¬ (1 : Int) = 0 by decide), c35, if_pos v0, L_failAt h17 (by rw [t28]; omega), zb_s, L_goodB bd, zb_s, if_pos (show r32 0 by decide), if_pos (show (0 : Int) = 0 from rfl)]
      refine zP_s ⟨VFR_t (fJ hf) (VFR_s (fun _ _ _ _ _ => rfl) (fun _ _ _ _ _ => rfl) (fun c i k h _ => by rw [flM_n (by omega)]) (fun _ _ _ _ _ => rfl)), h12, Or.inr ⟨bd, by rw [flM_17, flM_18, tk2], by rw [flM_18]; exact tp2⟩⟩
    rw [if_pos (show r32 0 by decide), if_pos (show (0 : Int) = 0 from rfl), if_pos (show r32 0 by decide), if_pos (show (0 : Int) = 0 from rfl)]
    unfold f_M_judge_284 f_M_judge_325
    rw [L_good h17, zb_s, if_pos (show r32 1 by decide), if_neg (show ¬ (1 : Int) = 0 by decide), cw, if_pos w0, c35]
    have h0 : ∀ i : Nat, i < m → F2 1 (B1 4 q 5 i) 5 = 0 → g i % 6350400 = 0 := fun i hi hz => by
      obtain ⟨ev, _, _, _, gi⟩ := he2 i hi
      obtain ⟨z, z1, z2⟩ := ev.2.2.2.1
      obtain ⟨t1, t2⟩ := ev.2.2.2.2.2.2.1.2.2.2 hz
      rw [t1, Int.one_mul] at z1
      rw [t2, Int.mul_one, ← z1, gi] at z2
      omega
    obtain ⟨w1, w2⟩ := BS_all bv4 hg h0 (fun i hi => (hbs i hi).1)
    have hW : BW q m (barV n d) g F2 B1 := ⟨w1, h0, w2, fun i hi => (hbs i hi).2⟩
    have h12' : Bm2 13 w 12 v = m := by rw [hf.2.2 13 w 12 v (by omega), pf3 13 w 12 v (by omega), hm12, ← o1]; exact hm
    have h7' : F2 4 q 7 = sumZ g m := by rw [hf.1 4 q 7 (by omega)]; exact f7
    obtain ⟨F3, B3, Fm3, Bm3, rr, x1, x2, x3, x4, x5, x6, x7⟩ := P_writeN (K := K) (Km := Km) (m := m) (q := q) (p := p) (v := v) (w := w) (n := n) (d := d) (g := g) (F := F2) (B := B1) (Fm := Fm2) (Bm := Bm2) hK hKm h4 hp v0 w0 hn hd (by rw [F6k]; exact e4) (by rw [F6k]; exact e5) M4 M5 h12' h7' hJ2' hW (Z := zZ (barV n d) (clB (sumZ g m) (barV n d))) (fun nb y _ a _ b => ⟨b, a⟩)
    rw [x1, x2, zb_s]
    have fW : VFR q v w F2 B1 Fm2 Bm2 F3 B3 Fm3 Bm3 := by
      refine VFR_s (fun c y k h h' => x3 c y k (by omega)) (fun c y k x h => x4 c y k x (by omega)) (fun c i k h h' => x5 c i k (by omega) h') (fun c i k x h => x6 c i k x (fun z => h ?_) (fun z => h ?_))
      · unfold inW; omega
      · unfold inW; omega
    have e35 : Fm3 14 0 35 = v := by rw [x5 14 0 35 (by omega) (by omega)]; exact c35
    have f3 : F3 4 q 3 = Bm3 14 0 8 (Bm3 14 0 28 v) := by
      rw [x3 4 q 3 (by omega), x6 14 0 28 v (by omega) (by omega), x6 14 0 8 _ (by omega) (by omega)]
      exact tk2
    rcases x7 with ⟨hNW, hbars⟩ | ⟨rfl, hX⟩
    · -- the notes fit
      have hJ3 := JS_n hJ2' x3 x4 (fun k h => x5 14 0 k (by omega) (by omega)) x6
      obtain ⟨⟨c6', _⟩, _, _, he3, hV3⟩ := hJ3
      have hQ : QN K q m rr F3 B3 := by
        refine ⟨h4, ⟨c6', mm1⟩, ⟨hNW.2.1, hNW.1⟩, by rw [x3 4 q 1 (by omega), hf.1 4 q 1 (by omega), pf1 4 q 1 (by omega) (by omega)]; exact hcl, fun i i0 i1 => ?_, fun t t0 t1 => ?_, fun s s0 s1 => by rw [x4 4 q 12 s (by omega)]; exact h12 s s0 s1⟩
        · obtain ⟨n1', n2', n3', n4', n5'⟩ := hNW.2.2.2.2 i i0 i1
          exact ⟨n1'.2, n2'.2, ⟨n3'.1, n3'.2.1⟩, n4'.2⟩
        · obtain ⟨k, hk⟩ : ∃ k : Nat, t = k := ⟨t.toNat, by omega⟩
          rw [hk]
          obtain ⟨ev, _⟩ := he3 k (by omega)
          have ep := ev.2.2.2.2.2.2.2.2.2.2.2
          exact ⟨hV3 k (by omega) (by omega), ev.2.2.2.2.2.2.2.2.1.2, ep.2.2.1, fun j j0 j1 => (ep.2.2.2.1 j j0 j1).2.2⟩
      obtain ⟨B4, u1, u2, u3, u4⟩ := C_101 (p := p) (n := n) (d := d) hK hp (by rw [x3 6 p 4 (by omega), F6k]; exact e4) (by rw [x3 6 p 5 (by omega), F6k]; exact e5) hn hd (by rw [x3 6 p 2 (by omega), F6k]; exact e2) hNW.2.2.1 hQ
      rw [u1, zb_s, hNW.2.2.1, if_pos (show r32 0 by decide), if_pos (show (0 : Int) = 0 from rfl), f_Part_judge_227, if_pos (show r32 rr by have := hNW.1; unfold r32; omega), if_pos (show rr ≤ 800 by have := hNW.1; omega)]
      have fQ : VFR q v w F3 B3 Fm3 Bm3 F3 B4 Fm3 Bm3 := VFR_s (fun _ _ _ _ _ => rfl) (fun c y k x h => u2 c y k x (by omega)) (fun _ _ _ _ _ => rfl) (fun _ _ _ _ _ => rfl)
      refine zP_s ⟨VFR_t (fJ hf) (VFR_t fW fQ), u3.2.2.2.2.2.2, Or.inl ⟨rfl, by rw [x5 14 0 17 (by omega) (by omega)]; exact h17, m, g, ?_, by rw [hbars, x5 13 w 4 (by omega) (by omega), x5 13 w 5 (by omega) (by omega), M4, M5]⟩⟩
      have b5 : ∀ i, B4 4 q 5 i = B3 4 q 5 i := fun i => u2 4 q 5 i (by omega)
      have bx5 : ∀ i, B3 4 q 5 i = B1 4 q 5 i := fun i => x4 4 q 5 i (by omega)
      refine ⟨⟨c6', mm0, mm1⟩, by rw [x6 13 w 12 v (by omega) (by omega)]; exact h12', hg, hs', by rw [x3 4 q 7 (by omega)]; exact h7', fun i hi => ?_, fun j hj => ?_, ?_, rr, ⟨hNW.1, hNW.2.1, hNW.2.2.1, hNW.2.2.2.1, fun i i0 i1 => ?_⟩, u3, u4⟩
      · obtain ⟨ev, q1, q2, q3, q4⟩ := he3 i hi
        rw [b5]
        exact ⟨EVW_h ev (fun _ _ _ => rfl) (fun k y => u2 1 _ k y (by omega)) (fun _ _ _ => rfl) (fun _ _ _ _ _ _ => rfl) (fun _ => rfl), q1, q2, q3, q4⟩
      · rw [b5, bx5, x3 1 _ 11 (by omega), x6 13 w 27 _ (by omega) (by omega)]
        exact hsl j hj
      · have := BW_n hW x3 x4
        unfold BW TIk at this ⊢
        simp only [b5]
        exact this
      · have := hNW.2.2.2.2 i i0 i1
        unfold NE at this ⊢
        rw [u2 4 q 360 i (by omega), u2 4 q 361 i (by omega), u2 4 q 9 i (by omega), u2 4 q 364 i (by omega), u2 4 q 365 i (by omega)]
        exact this
    · -- too many
      have x17 : Fm3 14 0 17 = 0 := by rw [x5 14 0 17 (by omega) (by omega)]; exact h17
      have bd : bad (flM Fm3 Bm3 14 (Bm3 14 0 28 v)) := flM_b (by decide) (by decide)
      have b28 : Bm3 14 0 28 v = Bm 14 0 28 v := by rw [x6 14 0 28 v (by omega) (by omega)]; exact t28
      unfold f_Part_writeNotes_101 f_Part_writeNotes_136
      rw [if_pos h4, hX.2.1, if_pos (show r32 1 by decide), if_neg (show ¬ (1 : Int) = 0 by decide), zb_s, hX.2.1, if_pos (show r32 1 by decide), if_neg (show ¬ (1 : Int) = 0 by decide), f_Part_judge_227, if_pos (show r32 801 by decide), if_neg (show ¬ (801 : Int) ≤ 800 by decide), e35, if_pos v0, L_failAt x17 (by rw [b28]; omega), zb_s]
      refine zP_s ⟨VFR_t (fJ hf) (VFR_t fW (VFR_s (fun _ _ _ _ _ => rfl) (fun _ _ _ _ _ => rfl) (fun c i k h _ => by rw [flM_n (by omega)]) (fun _ _ _ _ _ => rfl))), fun s s0 s1 => by rw [x4 4 q 12 s (by omega)]; exact h12 s s0 s1, Or.inr ⟨bd, by rw [flM_17, flM_18, f3], ?_⟩⟩
      rw [flM_18, b28, x6 14 0 8 _ (by omega) (by omega), hf.2.2 14 0 8 _ (by omega), pf3 14 0 8 _ (by omega)]
      exact tp
  · -- a fault in the loop
    intro rr F2 r' Fm2 Bm2 hf bd er hr
    exact ⟨fJ hf, h12, Or.inr ⟨bd, er, hr.1, hr.2⟩⟩
end
end
section
section
/-! ===== what one voice's reading leaves of the others ===== -/
theorem GS_v {K : zK} {q v w : Int} {F F' : zF} {B B' : zB} {Fm Fm' : zF} {Bm Bm' : zB} (h : GS K B) (q0 : 0 ≤ q ∧ q < K.2 4) (hI : inJ q B) (f : VFR q v w F B Fm Bm F' B' Fm' Bm') : GS K B' := by
  obtain ⟨g1, g2, g3, g4, g5⟩ := h
  have e6 : ∀ y u, B' 6 y 0 u = B 6 y 0 u := fun y u => f.2.1 6 y 0 u (by omega) (by omega) (by omega)
  have e4 : ∀ y x, y ≠ q → B' 4 y 5 x = B 4 y 5 x := fun y x n => f.2.1 4 y 5 x (by omega) (by omega) (by omega)
  have own : ∀ x, 0 ≤ x → x < 200 → ∃ y, 0 ≤ y ∧ y < 200 ∧ B 4 q 5 y = B' 4 q 5 x := fun x a b => (f.2.2.1 _).mp ⟨x, a, b, rfl⟩
  have iJ := f.2.2.2.2.2 hI
  refine ⟨g1, fun p u a b c d => by rw [e6]; exact g2 p u a b c d, fun p u p' u' a b c d a' b' c' d' z e => ?_, fun y x a b c d => ?_, fun y x y' x' a b c d a' b' c' d' e => ?_⟩
  · rw [e6] at z e
    rw [e6] at e
    exact g3 p u p' u' a b c d a' b' c' d' z e
  · by_cases n : y = q
    · rw [n]
      obtain ⟨t, t0, t1, t2⟩ := own x c d
      rw [← t2]
      exact g4 q t q0.1 q0.2 t0 t1
    · rw [e4 y x n]; exact g4 y x a b c d
  · by_cases n : y = q
    · by_cases n' : y' = q
      · rw [n, n'] at e
        exact ⟨by rw [n, n'], iJ x x' c d c' d' e⟩
      · exfalso
        obtain ⟨t, t0, t1, t2⟩ := own x c d
        rw [n, e4 y' x' n', ← t2] at e
        exact n' (g5 q t y' x' q0.1 q0.2 t0 t1 a' b' c' d' e).1.symm
    · by_cases n' : y' = q
      · exfalso
        obtain ⟨t, t0, t1, t2⟩ := own x' c' d'
        rw [n', e4 y x n, ← t2] at e
        exact n (g5 y x q t a b c d q0.1 q0.2 t0 t1 e).1
      · rw [e4 y x n, e4 y' x' n'] at e
        exact g5 y x y' x' a b c d a' b' c' d' e
theorem VD_f {K : zK} {q q' v v' w bar : Int} {m : Nat} {g : Int → Int} {F F' : zF} {B B' : zB} {Fm Fm' : zF} {Bm Bm' : zB} (hv : ¬ v' = v) (v0 : 0 ≤ v ∧ v < 4) (v0' : 0 ≤ v' ∧ v' < 4) (hq : ¬ q' = q) (hd : ∀ i : Int, 0 ≤ i → i < 200 → ¬ ownE B q (B 4 q' 5 i)) (h : VD K q' v' w m bar g F B Bm) (f : VFR q v w F B Fm Bm F' B' Fm' Bm') : VD K q' v' w m bar g F' B' Bm' := by
  obtain ⟨⟨a1, a2, a3⟩, a4, a5, a6, a7, a8, a9, a10, c, nw, qn, gb⟩ := h
  have f4 : ∀ k, F' 4 q' k = F 4 q' k := fun k => f.1 4 q' k (by omega) (by omega) (by omega)
  have b4 : ∀ k x, B' 4 q' k x = B 4 q' k x := fun k x => f.2.1 4 q' k x (by omega) (by omega) (by omega)
  have f1 : ∀ i : Int, 0 ≤ i → i < 200 → ∀ k, F' 1 (B 4 q' 5 i) k = F 1 (B 4 q' 5 i) k := fun i i0 i1 k => f.1 1 _ k (by omega) (by omega) (fun z => hd i i0 i1 z.2)
  have b1 : ∀ i : Int, 0 ≤ i → i < 200 → ∀ k x, B' 1 (B 4 q' 5 i) k x = B 1 (B 4 q' 5 i) k x := fun i i0 i1 k x => f.2.1 1 _ k x (by omega) (by omega) (fun z => hd i i0 i1 z.2)
  have m13 : ∀ (k : Nat) x, ¬ inW v w 13 w k x → Bm' 13 w k x = Bm 13 w k x := fun k x n => f.2.2.2.2.1 13 w k x (by omega) n
  have m8 : ∀ y, Bm' 14 0 8 y = Bm 14 0 8 y := fun y => f.2.2.2.2.1 14 0 8 y (by omega) (by unfold inW; omega)
  have r1 : ∀ (k : Nat) (i : Int), 14 ≤ k → k ≤ 27 → 0 ≤ i → i < 200 → Bm' 13 w k (1000 * v' + i) = Bm 13 w k (1000 * v' + i) := fun k i h0 h1 i0 i1 => m13 k _ (by unfold inW; omega)
  have rE : ∀ i : Nat, i < m → EVW w (B 4 q' 5 i) (1000 * v' + i) F B Bm → EVW w (B 4 q' 5 i) (1000 * v' + i) F' B' Bm' := fun i hi ev => EVW_h ev (fun k _ _ => f1 i (by omega) (by omega) k) (fun k y => b1 i (by omega) (by omega) k y) (fun k h0 h1 => r1 k i (by omega) (by omega) (by omega) (by omega)) (fun k y h0 h1 y0 y1 => m13 k y (by unfold inW; omega)) m8
  refine ⟨⟨by rw [f4]; exact a1, a2, a3⟩, by rw [m13 12 v' (by unfold inW; omega)]; exact a4, a5, a6, by rw [f4]; exact a7, fun i hi => ?_, fun j hj => ?_, ?_, c, ⟨nw.1, by rw [f4]; exact nw.2.1, by rw [f4]; exact nw.2.2.1, by rw [m13 13 v' (by unfold inW; omega)]; exact nw.2.2.2.1, fun i i0 i1 => ?_⟩, ?_, fun i i0 i1 => by simp only [b4]; exact gb i i0 i1⟩
  · obtain ⟨ev, q1, q2, q3, q4⟩ := a8 i hi
    rw [b4, f1 i (by omega) (by omega), f1 i (by omega) (by omega), r1 14 i (by decide) (by decide) (by omega) (by omega), r1 15 i (by decide) (by decide) (by omega) (by omega)]
    exact ⟨rE i hi ev, q1, q2, q3, q4⟩
  · rw [b4, f1 j (by omega) (by omega), r1 27 j (by decide) (by decide) (by omega) (by omega)]
    exact a9 j hj
  · obtain ⟨w1, w2, w3, w4⟩ := a10
    refine ⟨fun i hi hz => w1 i hi ?_, fun i hi hz => w2 i hi ?_, fun i hi hz => w3 i hi ?_, fun i hi => ?_⟩
    · rcases hz with hz | hz
      · exact Or.inl hz
      · by_cases e : i = m
        · exact Or.inl e
        · rw [b4, f1 i (by omega) (by omega)] at hz
          exact Or.inr hz
    · rw [b4, f1 i (by omega) (by omega)] at hz
      exact hz
    · rw [b4, f1 i (by omega) (by omega)] at hz
      exact hz
    · have := w4 i hi
      unfold TIk at this ⊢
      rw [b4, f1 i (by omega) (by omega)]
      exact this
  · have := nw.2.2.2.2 i i0 i1
    have c8 := nw.1.2
    unfold NE at this ⊢
    rw [b4, b4, b4, b4, b4, m13 30 _ (by unfold inW; omega), m13 31 _ (by unfold inW; omega), m13 32 _ (by unfold inW; omega), m13 33 _ (by unfold inW; omega), m13 34 _ (by unfold inW; omega), m13 35 _ (by unfold inW; omega)]
    exact this
  · obtain ⟨k1, k2, k3, k4, k5, k6, k7⟩ := qn
    refine ⟨k1, by rw [f4]; exact k2, by rw [f4]; exact k3, by rw [f4]; exact k4, fun i i0 i1 => by rw [b4, b4, b4, b4]; exact k5 i i0 i1, fun t t0 t1 => ?_, fun s s0 s1 => by rw [b4]; exact k7 s s0 s1⟩
    rw [b4, f1 t t0 (by omega), f1 t t0 (by omega)]
    obtain ⟨j1, j2, j3, j4⟩ := k6 t t0 t1
    refine ⟨j1, j2, j3, fun k h0 h1 => ?_⟩
    rw [b1 t t0 (by omega), b1 t t0 (by omega)]
    exact j4 k h0 h1
end
end
section
section
/-! ===== one voice read, both sides ===== -/
theorem WS_12 {q v w bar x : Int} {D : Nat} {F : zF} {B : zB} {Fm : zF} {Bm : zB} (h : WS q v w bar D F B Fm Bm) : WS q v w bar D F B Fm (zup4 Bm 13 w 12 v x) := by
  obtain ⟨s1, s2, s3, s4, s5, s6, s7, s8, s9, s10, s11, s12, s13⟩ := h
  have m14 : ∀ k y, (zup4 Bm 13 w 12 v x) 14 0 k y = Bm 14 0 k y := fun k y => by rw [zup4_v, if_neg (by omega)]
  refine ⟨s1, s2, s3, s4, s5, s6, s7, by rw [m14]; exact s8, TPL_c s9 (fun k _ _ => ⟨m14 46 k, m14 47 k⟩), s10, fun k u t => by rw [m14]; exact s11 k u t, ⟨s12.1, s12.2.1, s12.2.2.1, fun k u t => ?_⟩, s13.1, s13.2.1, s13.2.2.1, fun i i0 i1 => ?_⟩
  · have := s12.2.2.2 k u t
    unfold CRk at this ⊢
    rw [m14, m14, m14]
    exact this
  · exact EVW_f (s13.2.2.2 i i0 i1) (fun _ => rfl) (fun _ _ => rfl) (fun k h0 h1 => by rw [zup4_v, if_neg (by omega)]) (fun k y h0 h1 _ _ => by rw [zup4_v, if_neg (by omega)]) (fun y => m14 8 y)
/-- the voices before v are read; what stands for the others -/
def VLS (K : zK) (Km : Nat) (N L V p w n d v : Int) (B0 Bm0 : zB) (F : zF) (B : zB) (Fm : zF) (Bm : zB) : Prop :=
  (3002 ≤ K.1 ∧ 70000000000 < Km ∧ 0 < K.2 11 ∧ 0 < K.2 3 ∧ (0 ≤ p ∧ p < K.2 6) ∧ (0 ≤ w ∧ w < 3) ∧ (1 ≤ n ∧ n ≤ 12) ∧ (d = 2 ∨ d = 4 ∨ d = 8 ∨ d = 16) ∧ (0 ≤ v ∧ v ≤ V ∧ V ≤ 4)) ∧
  (F 6 p 1 = V ∧ Fm 13 w 1 = V ∧ F 6 p 4 = n ∧ F 6 p 5 = d ∧ Fm 13 w 4 = n ∧ Fm 13 w 5 = d ∧ (-7 ≤ F 6 p 2 ∧ F 6 p 2 ≤ 7) ∧ Fm 14 0 6 = w ∧ Fm 14 0 35 = v ∧ Fm 14 0 27 = L) ∧
  (TK B Bm N ∧ WT N B0 Bm0 B Bm ∧ MW Bm0 ∧ LTW L B0 Bm0 ∧ GS K B) ∧
  (∀ u, 0 ≤ u → u < V → (0 ≤ B 6 p 0 u ∧ B 6 p 0 u < K.2 4) ∧ (F 4 (B 6 p 0 u) 3 = Bm 14 0 8 (Bm 14 0 28 u) ∧ 0 ≤ F 4 (B 6 p 0 u) 3 ∧ F 4 (B 6 p 0 u) 3 ≤ 3000) ∧ (0 ≤ F 4 (B 6 p 0 u) 1 ∧ F 4 (B 6 p 0 u) 1 < 4) ∧ (0 ≤ Bm 14 0 28 u ∧ Bm 14 0 28 u ≤ 3000) ∧ (0 ≤ F 4 (B 6 p 0 u) 4 ∧ F 4 (B 6 p 0 u) 4 < 3000) ∧ (0 ≤ Bm 14 0 29 u ∧ Bm 14 0 29 u < 3000) ∧ BKf (IRd L 7) B0 Bm0 (F 4 (B 6 p 0 u) 4) (Bm 14 0 29 u) ∧ (v ≤ u → F 4 (B 6 p 0 u) 6 = 0) ∧ (∀ s, 0 ≤ s → s < 63 → r32 (B 4 (B 6 p 0 u) 12 s))) ∧
  (∀ u, 0 ≤ u → u < v → ∃ m g, VD K (B 6 p 0 u) u w m (barV n d) g F B Bm ∧ (u + 1 = v → Fm 13 w 7 = clB (F 4 (B 6 p 0 u) 7) (barV n d))) ∧
  (F 12 0 7 = p ∧ F 12 0 5 = 0 ∧ F 12 0 4 = 0 ∧ 0 < K.2 12)
theorem P_vstep {K : zK} {Km a b : Nat} {N L V p w n d v l1 : Int} {B0 Bm0 : zB} {F : zF} {B : zB} {Fm : zF} {Bm : zB} (h : VLS K Km N L V p w n d v B0 Bm0 F B Fm Bm) (h17 : Fm 14 0 17 = 0) (vV : v < V) : ∃ r F' B' Fm' Bm', f_S_read_54 (a + 1) K v 0 0 l1 F B = f_S_read_54 a K (v + 1) r 0 l1 F' B' ∧ f_M_through_5 Km (b + 1) Fm Bm = f_M_through_5 Km b (zup3 Fm' 14 0 35 (v + 1)) Bm' ∧ VFR (B 6 p 0 v) v w F B Fm Bm F' B' Fm' Bm' ∧ (∀ s, 0 ≤ s → s < 63 → r32 (B' 4 (B 6 p 0 v) 12 s)) ∧ ((r = 0 ∧ Fm' 14 0 17 = 0 ∧ ∃ m g, VD K (B 6 p 0 v) v w m (barV n d) g F' B' Bm' ∧ Fm' 13 w 7 = clB (F' 4 (B 6 p 0 v) 7) (barV n d)) ∨ (bad Fm' ∧ r = Fm' 14 0 17 + 16 * Fm' 14 0 18 ∧ 0 ≤ Fm' 14 0 18 ∧ Fm' 14 0 18 ≤ 3000)) := by
  obtain ⟨⟨hK, hKm, h11, h3, hp, w0, hn, hd, v0⟩, ⟨c1, c2, c3, c4, c5, c6, c7, c8, c9, c10⟩, ⟨hTK, hT, hMW, hLT, hGS⟩, hU, _, ⟨o7, o5, o4, h12k⟩⟩ := h
  obtain ⟨u1, ⟨u2, u2', u2''⟩, u3, u4, u5, u6, u7, u8, u9⟩ := hU v v0.1 vV
  generalize hq : B 6 p 0 v = q at *
  have hV : ∀ t, 0 ≤ t → t < 200 → 0 ≤ B 4 q 5 t ∧ B 4 q 5 t < K.2 1 := fun t t0 t1 => by have := hGS.2.2.2.1 q t u1.1 u1.2 t0 t1; omega
  have hI : inJ q B := fun t t' a0 a1 b0 b1 e => (hGS.2.2.2.2 q t q t' u1.1 u1.2 a0 a1 u1.1 u1.2 b0 b1 e).2
  obtain ⟨r, F1, B1, r', Fm1, Bm1, y1, y2, er, f5, s⟩ := P_walkV (K := K) (Km := Km) (N := N) (nl := L) (p := p) (q := q) (v := v) (w := w) (n := n) (d := d) (x := F 4 q 4) (a := Bm 14 0 29 v) (B0 := B0) (Bm0 := Bm0) (F := F) (B := B) (Fm := Fm) (Bm := Bm) hK (by omega) h11 h3 u1 hp (by omega) w0 hTK hV hI c3 c4 c5 c6 hn hd hT hMW hLT c10 h17 c9 c8 rfl u5 (u8 (Int.le_refl _)) rfl u6 u7
  have rv : r32 v := by unfold r32; omega
  have rV : r32 V := by unfold r32; omega
  have mE : f_M_through_5 Km (b + 1) Fm Bm = f_M_through_73 (f_M_through_5 Km b) Km Km 0 (vzF Fm) Bm := by
    rw [f_M_through_5, c8, if_pos w0, c9, if_pos rv, c2, if_pos rV, if_neg (by omega), L_good h17, zb_s, if_pos (by decide), if_neg (by decide)]
    rfl
  rw [mE, L_t73 (v := v) (a := Bm 14 0 29 v) (by omega) (by rw [vzF_n (by omega)]; exact c9) (by omega) rfl u6, y2, zb_s]
  rw [f_S_read_54, if_pos ⟨Int.le_refl _, h12k⟩, o7, if_pos hp, if_pos rv, c1, if_pos rV, if_neg (by omega), if_pos (show r32 0 by decide), if_pos (show (0 : Int) = 0 from rfl), if_pos (show 0 ≤ v ∧ v < 4 by omega), o5, if_pos ⟨Int.le_refl _, h11⟩, o4, if_pos ⟨Int.le_refl _, h3⟩, hq, if_pos u1, y1, zbN_s]
  have fA := VFR_5 f5
  have g6 : Fm1 14 0 6 = w := by rw [f5.2.2.2.1 14 0 6 (by omega)]; exact c8
  have g35 : Fm1 14 0 35 = v := by rw [f5.2.2.2.1 14 0 35 (by omega)]; exact c9
  have fB : VFR q v w F1 B1 Fm1 Bm1 F1 B1 Fm1 (zup4 Bm1 13 w 12 v (Fm1 14 0 36)) := VFR_s (fun _ _ _ _ _ => rfl) (fun _ _ _ _ _ => rfl) (fun _ _ _ _ _ => rfl) (fun c i k x hh => by rw [zup4_v, if_neg (fun z => hh (by unfold inW; omega))])
  have k12 : ∀ s, 0 ≤ s → s < 63 → r32 (B1 4 q 12 s) := fun s s0 s1 => by rw [f5.2.1 4 q 12 s (by omega) (by omega) (by omega)]; exact u9 s s0 s1
  unfold thT
  rw [g6, if_pos w0, g35, if_pos (show 0 ≤ v ∧ v < 4 by omega)]
  rcases s with ⟨s, hsum⟩ | s
  · have r0 : r = 0 := by rw [er]; exact s.1.2.2.1
    have a17 := s.1.2.2.2
    have p7 : F1 12 0 7 = p := by rw [f5.1 12 0 7 (by omega) (by omega) (by omega)]; exact o7
    have b6 : B1 6 p 0 v = q := by rw [f5.2.1 6 p 0 v (by omega) (by omega) (by omega)]; exact hq
    have F6 : ∀ k, F1 6 p k = F 6 p k := fun k => f5.1 6 p k (by omega) (by omega) (by omega)
    have F4 : ∀ k, k < 6 → F1 4 q k = F 4 q k := fun k hk => f5.1 4 q k (by omega) (by omega) (by omega)
    have m8 : ∀ k y, k < 42 → (zup4 Bm1 13 w 12 v (Fm1 14 0 36)) 14 0 k y = Bm 14 0 k y := fun k y hk => by rw [zup4_v, if_neg (by omega), f5.2.2.2.2.1 14 0 k y (by omega) (by unfold inV; omega)]
    obtain ⟨r2, F2, B2, r2', Fm2, Bm2, z1, z2, j1, j2, j3⟩ := P_judge (K := K) (Km := Km) (q := q) (p := p) (v := v) (w := w) (n := n) (d := d) (F := F1) (B := B1) (Fm := Fm1) (Bm := zup4 Bm1 13 w 12 v (Fm1 14 0 36)) hK hKm u1 hp (by omega) w0 hn hd (by rw [F6]; exact c3) (by rw [F6]; exact c4) (by rw [F6]; exact c7) (by rw [f5.2.2.2.1 13 w 4 (by omega)]; exact c5) (by rw [f5.2.2.2.1 13 w 5 (by omega)]; exact c6) (fun t t0 t1 => by
      obtain ⟨j, j0, j1, j2⟩ := (f5.2.2.1 _).mp ⟨t, t0, t1, rfl⟩
      rw [← j2]
      exact hV j j0 j1) f5.2.2.2.2.2 (by rw [F4 1 (by decide)]; exact u3) k12 (by rw [F4 3 (by decide), m8 28 v (by decide), m8 8 _ (by decide)]; exact u2) (by rw [m8 28 v (by decide)]; exact u4) (by rw [F4 3 (by decide)]; exact ⟨u2', u2''⟩) (WS_12 s) hsum (by rw [zup4_v, if_pos (by omega)])
    rw [r0, if_pos (show r32 0 by decide), if_pos (show (0 : Int) = 0 from rfl), p7, if_pos hp, b6, if_pos u1, z1, zbN_s, f_S_read_115, L_good a17, zb_s, if_pos (show r32 1 by decide), if_neg (show ¬ (1 : Int) = 0 by decide), z2, zb_s, f_M_through_148]
    have g35' : Fm2 14 0 35 = v := by rw [j1.2.2.2.1 14 0 35 (by omega) (by omega)]; exact g35
    rw [g35']
    exact ⟨r2, F2, B2, Fm2, Bm2, rfl, rfl, VFR_t fA (VFR_t fB j1), j2, j3⟩
  · obtain ⟨n1, n2⟩ := WE_n s
    rw [er, if_pos n1, if_neg n2, f_S_read_115, L_goodB s.2.2.2.1, zb_s, if_pos (show r32 0 by decide), if_pos (show (0 : Int) = 0 from rfl), f_M_through_148, g35]
    exact ⟨_, F1, B1, Fm1, _, rfl, rfl, VFR_t fA fB, k12, Or.inr ⟨s.2.2.2.1, s.2.2.1, s.2.2.2.2.1⟩⟩
end
end
section
section
/-! ===== all voices read, both sides ===== -/
def VTF (p w : Int) (F : zF) (B : zB) (Fm : zF) (Bm : zB) (F' : zF) (B' : zB) (Fm' : zF) (Bm' : zB) : Prop :=
  (∀ c y k, ¬ (c = 11 ∧ y = 0) → ¬ (c = 4 ∧ 6 ≤ k ∧ ∃ u, 0 ≤ u ∧ u < 4 ∧ 0 ≤ B 6 p 0 u ∧ y = B 6 p 0 u) → ¬ (c = 1 ∧ ∃ u, 0 ≤ u ∧ u < 4 ∧ 0 ≤ B 6 p 0 u ∧ ownE B (B 6 p 0 u) y) → F' c y k = F c y k) ∧
  (∀ c y k x, ¬ (c = 11 ∧ y = 0) → ¬ (c = 4 ∧ 5 ≤ k ∧ ∃ u, 0 ≤ u ∧ u < 4 ∧ 0 ≤ B 6 p 0 u ∧ y = B 6 p 0 u) → ¬ (c = 1 ∧ ∃ u, 0 ≤ u ∧ u < 4 ∧ 0 ≤ B 6 p 0 u ∧ ownE B (B 6 p 0 u) y) → B' c y k x = B c y k x) ∧
  (∀ u y, 0 ≤ u → u < 4 → (ownE B' (B 6 p 0 u) y ↔ ownE B (B 6 p 0 u) y)) ∧
  (∀ c i k, ¬ (c = 14 ∧ i = 0 ∧ (k ≤ 1 ∨ k = 17 ∨ k = 18 ∨ (35 ≤ k ∧ k ≤ 57))) → ¬ (c = 13 ∧ i = w ∧ k = 7) → Fm' c i k = Fm c i k) ∧
  (∀ c i k x, ¬ (c = 14 ∧ i = 0 ∧ 42 ≤ k ∧ k ≤ 51) → ¬ (c = 13 ∧ i = w ∧ 12 ≤ k ∧ k ≤ 35) → Bm' c i k x = Bm c i k x) ∧
  (∀ q, (∀ s, 0 ≤ s → s < 63 → r32 (B 4 q 12 s)) → ∀ s, 0 ≤ s → s < 63 → r32 (B' 4 q 12 s))
theorem VTF_r {p w : Int} {F : zF} {B : zB} {Fm : zF} {Bm : zB} : VTF p w F B Fm Bm F B Fm Bm := ⟨fun _ _ _ _ _ _ => rfl, fun _ _ _ _ _ _ _ => rfl, fun _ _ _ _ => Iff.rfl, fun _ _ _ _ _ => rfl, fun _ _ _ _ _ _ => rfl, fun _ h => h⟩
theorem VTF_t {p w : Int} {F F1 F2 : zF} {B B1 B2 : zB} {Fm Fm1 Fm2 : zF} {Bm Bm1 Bm2 : zB} (h : VTF p w F B Fm Bm F1 B1 Fm1 Bm1) (h' : VTF p w F1 B1 Fm1 Bm1 F2 B2 Fm2 Bm2) : VTF p w F B Fm Bm F2 B2 Fm2 Bm2 := by
  have e6 : ∀ u, B1 6 p 0 u = B 6 p 0 u := fun u => h.2.1 6 p 0 u (by omega) (by omega) (by omega)
  refine ⟨fun c y k a b d => ?_, fun c y k x a b d => ?_, fun u y u0 u1 => ?_, fun c i k a b => by rw [h'.2.2.2.1 c i k a b, h.2.2.2.1 c i k a b], fun c i k x a b => by rw [h'.2.2.2.2.1 c i k x a b, h.2.2.2.2.1 c i k x a b], fun q hq => h'.2.2.2.2.2 q (h.2.2.2.2.2 q hq)⟩
  · rw [h'.1 c y k a (fun ⟨z1, z2, u, z3, z4, z5⟩ => b ⟨z1, z2, u, z3, z4, by rw [← e6]; exact z5⟩) (fun ⟨z1, u, z2, z3, z4⟩ => d ⟨z1, u, z2, z3, by rw [← e6]; exact z4.1, (h.2.2.1 u y z2 z3).mp (by rw [← e6]; exact z4.2)⟩), h.1 c y k a b d]
  · rw [h'.2.1 c y k x a (fun ⟨z1, z2, u, z3, z4, z5⟩ => b ⟨z1, z2, u, z3, z4, by rw [← e6]; exact z5⟩) (fun ⟨z1, u, z2, z3, z4⟩ => d ⟨z1, u, z2, z3, by rw [← e6]; exact z4.1, (h.2.2.1 u y z2 z3).mp (by rw [← e6]; exact z4.2)⟩), h.2.1 c y k x a b d]
  · have := h'.2.2.1 u y u0 u1
    rw [e6] at this
    exact this.trans (h.2.2.1 u y u0 u1)
theorem VTF_v {p v w : Int} {F F' : zF} {B B' : zB} {Fm Fm' : zF} {Bm Bm' : zB} (v0 : 0 ≤ v ∧ v < 4) (hq : 0 ≤ B 6 p 0 v) (k12 : ∀ s, 0 ≤ s → s < 63 → r32 (B' 4 (B 6 p 0 v) 12 s)) (h : VFR (B 6 p 0 v) v w F B Fm Bm F' B' Fm' Bm') : VTF p w F B Fm Bm F' B' (zup3 Fm' 14 0 35 (v + 1)) Bm' := by
  refine ⟨fun c y k a b d => h.1 c y k a (fun z => b ⟨z.1, z.2.2, v, v0.1, v0.2, hq, z.2.1⟩) (fun z => d ⟨z.1, v, v0.1, v0.2, hq, z.2⟩), fun c y k x a b d => h.2.1 c y k x a (fun z => b ⟨z.1, z.2.2, v, v0.1, v0.2, hq, z.2.1⟩) (fun z => d ⟨z.1, v, v0.1, v0.2, hq, z.2⟩), fun u y u0 u1 => ?_, fun c i k a b => by rw [zup3_v, if_neg (by omega)]; exact h.2.2.2.1 c i k (by omega) b, fun c i k x a b => h.2.2.2.2.1 c i k x a (fun z => b ?_), fun q hh s s0 s1 => ?_⟩
  · by_cases e : B 6 p 0 u = B 6 p 0 v
    · rw [e]; exact h.2.2.1 y
    · unfold ownE
      have : ∀ t, B' 4 (B 6 p 0 u) 5 t = B 4 (B 6 p 0 u) 5 t := fun t => h.2.1 4 _ 5 t (by omega) (fun z => e z.2.1) (by omega)
      simp only [this]
  · unfold inW at z
    omega
  · by_cases e : q = B 6 p 0 v
    · rw [e]; exact k12 s s0 s1
    · rw [h.2.1 4 q 12 s (by omega) (fun z => e z.2.1) (by omega)]; exact hh s s0 s1
theorem VLS_n {K : zK} {Km : Nat} {N L V p w n d v : Int} {B0 Bm0 : zB} {F F' : zF} {B B' : zB} {Fm Fm' : zF} {Bm Bm' : zB} {m : Nat} {g : Int → Int} (h : VLS K Km N L V p w n d v B0 Bm0 F B Fm Bm) (vV : v < V) (f : VFR (B 6 p 0 v) v w F B Fm Bm F' B' Fm' Bm') (k12 : ∀ s, 0 ≤ s → s < 63 → r32 (B' 4 (B 6 p 0 v) 12 s)) (hD : VD K (B 6 p 0 v) v w m (barV n d) g F' B' Bm') (hbar : Fm' 13 w 7 = clB (F' 4 (B 6 p 0 v) 7) (barV n d)) : VLS K Km N L V p w n d (v + 1) B0 Bm0 F' B' (zup3 Fm' 14 0 35 (v + 1)) Bm' := by
  obtain ⟨⟨hK, hKm, h11, h3, hp, w0, hn, hd, v0⟩, ⟨c1, c2, c3, c4, c5, c6, c7, c8, c9, c10⟩, ⟨⟨t0, t1, t2⟩, hT, hMW, hLT, hGS⟩, hU, hDs, ⟨o7, o5, o4, h12k⟩⟩ := h
  have u1 := (hU v v0.1 vV).1
  have hI : inJ (B 6 p 0 v) B := fun t t' a0 a1 b0 b1 e => (hGS.2.2.2.2 _ t _ t' u1.1 u1.2 a0 a1 u1.1 u1.2 b0 b1 e).2
  have e6 : ∀ u, B' 6 p 0 u = B 6 p 0 u := fun u => f.2.1 6 p 0 u (by omega) (by omega) (by omega)
  have F6 : ∀ k, F' 6 p k = F 6 p k := fun k => f.1 6 p k (by omega) (by omega) (by omega)
  have F12 : ∀ k, F' 12 0 k = F 12 0 k := fun k => f.1 12 0 k (by omega) (by omega) (by omega)
  have gm : ∀ c i k, ¬ (c = 14 ∧ i = 0 ∧ (k ≤ 1 ∨ k = 17 ∨ k = 18 ∨ (35 ≤ k ∧ k ≤ 57))) → ¬ (c = 13 ∧ i = w ∧ k = 7) → zup3 Fm' 14 0 35 (v + 1) c i k = Fm c i k := fun c i k a b => by rw [zup3_v, if_neg (by omega)]; exact f.2.2.2.1 c i k (by omega) b
  have b3 : ∀ k y, B' 3 0 k y = B 3 0 k y := fun k y => f.2.1 3 0 k y (by omega) (by omega) (by omega)
  have b10 : ∀ k y, B' 10 0 k y = B 10 0 k y := fun k y => f.2.1 10 0 k y (by omega) (by omega) (by omega)
  have m14 : ∀ (k : Nat) y, k < 42 → Bm' 14 0 k y = Bm 14 0 k y := fun k y hk => f.2.2.2.2.1 14 0 k y (by omega) (by unfold inW; omega)
  have neq : ∀ u, 0 ≤ u → u < V → ¬ u = v → ¬ B 6 p 0 u = B 6 p 0 v := fun u u0 u1' n e => n (hGS.2.2.1 p u p v hp.1 hp.2 u0 (by omega) hp.1 hp.2 v0.1 (by omega) (hU u u0 u1').1.1 e).2
  have own : ∀ u, 0 ≤ u → u < V → ¬ u = v → ∀ i : Int, 0 ≤ i → i < 200 → ¬ ownE B (B 6 p 0 v) (B 4 (B 6 p 0 u) 5 i) := fun u u0 u1' n i i0 i1 ⟨j, j0, j1, j2⟩ => neq u u0 u1' n (hGS.2.2.2.2 _ j _ i u1.1 u1.2 j0 j1 (hU u u0 u1').1.1 (hU u u0 u1').1.2 i0 i1 j2).1.symm
  refine ⟨⟨hK, hKm, h11, h3, hp, w0, hn, hd, by omega⟩, ⟨by rw [F6]; exact c1, by rw [gm 13 w 1 (by omega) (by omega)]; exact c2, by rw [F6]; exact c3, by rw [F6]; exact c4, by rw [gm 13 w 4 (by omega) (by omega)]; exact c5, by rw [gm 13 w 5 (by omega) (by omega)]; exact c6, by rw [F6]; exact c7, by rw [gm 14 0 6 (by omega) (by omega)]; exact c8, by rw [zup3_v, if_pos (by omega)], by rw [gm 14 0 27 (by omega) (by omega)]; exact c10⟩, ⟨⟨t0, t1, fun j a b => ?_⟩, ⟨fun k y => by rw [b3]; exact hT.1 k y, fun k y hk => by rw [m14 k y (by omega)]; exact hT.2.1 k y hk, fun k y h0 h1 h2 => by rw [m14 k y (by omega)]; exact hT.2.2.1 k y h0 h1 h2, hT.2.2.2⟩, hMW, hLT, GS_v hGS u1 hI f⟩, fun u u0 u1' => ?_, fun u u0 u1' => ?_, by rw [F12, F12, F12]; exact ⟨o7, o5, o4, h12k⟩⟩
  · have := t2 j a b
    unfold TKj at this ⊢
    simp only [b10, m14 7 _ (by decide), m14 8 _ (by decide), m14 9 _ (by decide), m14 10 _ (by decide), m14 11 _ (by decide)]
    exact this
  · obtain ⟨r1, r2, r3, r4, r5, r6, r7, r8, r9⟩ := hU u u0 u1'
    have F4 : ∀ k, k < 6 → F' 4 (B 6 p 0 u) k = F 4 (B 6 p 0 u) k := fun k hk => f.1 4 _ k (by omega) (by omega) (by omega)
    rw [e6, F4 3 (by decide), F4 1 (by decide), F4 4 (by decide), m14 28 u (by decide), m14 29 u (by decide), m14 8 _ (by decide)]
    refine ⟨r1, r2, r3, r4, r5, r6, r7, fun hu => ?_, fun s s0 s1 => ?_⟩
    · rw [f.1 4 _ 6 (by omega) (fun z => neq u u0 u1' (by omega) z.2.1) (by omega)]
      exact r8 (by omega)
    · by_cases e : u = v
      · rw [e]; exact k12 s s0 s1
      · rw [f.2.1 4 _ 12 s (by omega) (fun z => neq u u0 u1' e z.2.1) (by omega)]
        exact r9 s s0 s1
  · rw [e6]
    by_cases e : u = v
    · rw [e]; exact ⟨m, g, hD, fun _ => by rw [zup3_v, if_neg (by omega)]; exact hbar⟩
    · obtain ⟨m', g', hD', _⟩ := hDs u u0 (by omega)
      exact ⟨m', g', VD_f e (by omega) (by omega) (neq u u0 (by omega) e) (own u u0 (by omega) e) hD' f, fun y => by omega⟩
theorem P_vs {K : zK} {Km : Nat} {N L V p w n d l1 : Int} {B0 Bm0 : zB} : ∀ (r a b : Nat) {v : Int} {F : zF} {B : zB} {Fm : zF} {Bm : zB}, v + r = V → r + 1 < a → r + 1 < b → VLS K Km N L V p w n d v B0 Bm0 F B Fm Bm → Fm 14 0 17 = 0 → ∃ fl F' B' Fm' Bm', f_S_read_54 a K v 0 0 l1 F B = f_S_read_121 K fl 0 l1 F' B' ∧ f_M_through_5 Km b Fm Bm = f_M_through_161 Km Fm' Bm' ∧ VTF p w F B Fm Bm F' B' Fm' Bm' ∧ (∀ u, 0 ≤ u → u < V → ∀ s, 0 ≤ s → s < 63 → r32 (B' 4 (B 6 p 0 u) 12 s)) ∧ GS K B' ∧ ((fl = 0 ∧ Fm' 14 0 17 = 0 ∧ VLS K Km N L V p w n d V B0 Bm0 F' B' Fm' Bm') ∨ (bad Fm' ∧ fl = Fm' 14 0 17 + 16 * Fm' 14 0 18 ∧ 0 ≤ Fm' 14 0 18 ∧ Fm' 14 0 18 ≤ 3000)) := by
  intro r
  induction r with
  | zero =>
    intro a b v F B Fm Bm vr ha hb h h17
    obtain ⟨a, rfl⟩ : ∃ k, a = k + 1 := ⟨a - 1, by omega⟩
    obtain ⟨b, rfl⟩ : ∃ k, b = k + 1 := ⟨b - 1, by omega⟩
    have h' := h
    obtain ⟨⟨hK, hKm, h11, h3, hp, w0, hn, hd, v0⟩, ⟨c1, c2, c3, c4, c5, c6, c7, c8, c9, c10⟩, ⟨_, _, _, _, hGS⟩, hU, _, ⟨o7, o5, o4, h12k⟩⟩ := h
    have ev : v = V := by omega
    have rv : r32 v := by unfold r32; omega
    have rV : r32 V := by unfold r32; omega
    refine ⟨0, F, B, Fm, Bm, ?_, ?_, VTF_r, fun u u0 u1 => (hU u u0 u1).2.2.2.2.2.2.2.2, hGS, Or.inl ⟨rfl, h17, by rw [← ev]; rw [← ev] at h'; exact h'⟩⟩
    · rw [f_S_read_54, if_pos ⟨Int.le_refl _, h12k⟩, o7, if_pos hp, if_pos rv, c1, if_pos rV, if_pos (by omega)]
    · rw [f_M_through_5, c8, if_pos w0, c9, if_pos rv, c2, if_pos rV, if_pos (by omega)]
  | succ r ih =>
    intro a b v F B Fm Bm vr ha hb h h17
    obtain ⟨a, rfl⟩ : ∃ k, a = k + 1 := ⟨a - 1, by omega⟩
    obtain ⟨b, rfl⟩ : ∃ k, b = k + 1 := ⟨b - 1, by omega⟩
    have h' := h
    obtain ⟨⟨hK, hKm, h11, h3, hp, w0, hn, hd, v0⟩, ⟨c1, c2, c3, c4, c5, c6, c7, c8, c9, c10⟩, ⟨_, _, _, _, hGS⟩, hU, _, ⟨o7, o5, o4, h12k⟩⟩ := h
    have vV : v < V := by omega
    obtain ⟨fl, F1, B1, Fm1, Bm1, x1, x2, x3, x4, x5⟩ := P_vstep (a := a) (b := b) (l1 := l1) h' h17 vV
    have u1 := (hU v v0.1 vV).1
    have ft := VTF_v (p := p) (by omega) u1.1 x4 x3
    have hI : inJ (B 6 p 0 v) B := fun t t' a0 a1 b0 b1 e => (hGS.2.2.2.2 _ t _ t' u1.1 u1.2 a0 a1 u1.1 u1.2 b0 b1 e).2
    have e6 : ∀ u, B1 6 p 0 u = B 6 p 0 u := fun u => x3.2.1 6 p 0 u (by omega) (by omega) (by omega)
    rw [x1, x2]
    rcases x5 with ⟨rfl, k17, m, g, hD, hbar⟩ | ⟨bd, efl, q0, q1⟩
    · have hn' := VLS_n h' vV x3 x4 hD hbar
      obtain ⟨fl', F2, B2, Fm2, Bm2, y1, y2, y3, y4, y5, y6⟩ := ih a b (v := v + 1) (by omega) (by omega) (by omega) hn' (by rw [zup3_v, if_neg (by omega)]; exact k17)
      refine ⟨fl', F2, B2, Fm2, Bm2, y1, y2, VTF_t ft y3, fun u u0 u1 => ?_, y5, y6⟩
      have := y4 u u0 u1
      rw [e6] at this
      exact this
    · obtain ⟨a, rfl⟩ : ∃ k, a = k + 1 := ⟨a - 1, by omega⟩
      obtain ⟨b, rfl⟩ : ∃ k, b = k + 1 := ⟨b - 1, by omega⟩
      have rv : r32 (v + 1) := by unfold r32; omega
      have rV : r32 V := by unfold r32; omega
      have bd' : bad (zup3 Fm1 14 0 35 (v + 1)) := by unfold bad at bd ⊢; rw [zup3_v, if_neg (by omega)]; exact bd
      have p7 : F1 12 0 7 = p := by rw [x3.1 12 0 7 (by omega) (by omega) (by omega)]; exact o7
      have p1 : F1 6 p 1 = V := by rw [x3.1 6 p 1 (by omega) (by omega) (by omega)]; exact c1
      have rf : r32 fl ∧ ¬ fl = 0 := by unfold bad at bd; unfold r32; omega
      refine ⟨fl, F1, B1, _, Bm1, ?_, ?_, ft, fun u u0 u1' s s0 s1 => ?_, GS_v hGS u1 hI x3, Or.inr ⟨bd', by rw [zup3_v, if_neg (by omega), zup3_v, if_neg (by omega)]; exact efl, by rw [zup3_v, if_neg (by omega)]; exact ⟨q0, q1⟩⟩⟩
      · rw [f_S_read_54, if_pos ⟨Int.le_refl _, h12k⟩, p7, if_pos hp, if_pos rv, p1, if_pos rV]
        by_cases z : V ≤ v + 1
        · rw [if_pos z]
        · rw [if_neg z, if_pos rf.1, if_neg rf.2]
      · have g6 : zup3 Fm1 14 0 35 (v + 1) 14 0 6 = w := by rw [zup3_v, if_neg (by omega), x3.2.2.2.1 14 0 6 (by omega) (by omega)]; exact c8
        have g35 : zup3 Fm1 14 0 35 (v + 1) 14 0 35 = v + 1 := by rw [zup3_v, if_pos (by omega)]
        have gV : zup3 Fm1 14 0 35 (v + 1) 13 w 1 = V := by rw [zup3_v, if_neg (by omega), x3.2.2.2.1 13 w 1 (by omega) (by omega)]; exact c2
        rw [f_M_through_5, g6, if_pos w0, g35, if_pos rv, gV, if_pos rV]
        by_cases z : V ≤ v + 1
        · rw [if_pos z]
        · rw [if_neg z, L_goodB bd', zb_s, if_pos (by decide), if_pos rfl]
      · by_cases e : B 6 p 0 u = B 6 p 0 v
        · rw [e]; exact x4 s s0 s1
        · rw [x3.2.1 4 _ 12 s (by omega) (fun z => e z.2.1) (by omega)]
          exact (hU u u0 u1').2.2.2.2.2.2.2.2 s s0 s1
end
end
section
section
/-! ===== where the voices end, both sides ===== -/
theorem L_vend {K : zK} {Km : Nat} {q v w bar : Int} {m : Nat} {g : Int → Int} {F : zF} {B Bm : zB} {G : zF} (hKm : 812851200 < Km) (hb : 100 * bar ≤ 1000000000000) (h : VD K q v w m bar g F B Bm) : f_M_plus Km (Bm 13 w 14 (1000 * v + m - 1)) (Bm 13 w 15 (1000 * v + m - 1)) (Bm 13 w 16 (1000 * v + m - 1)) (Bm 13 w 17 (1000 * v + m - 1)) G Bm = some (0, fr G (F 4 q 7), Bm) ∧ 0 ≤ F 4 q 7 ∧ F 4 q 7 ≤ 1000000000000 := by
  obtain ⟨⟨a1, a2, a3⟩, a4, a5, a6, a7, a8, _⟩ := h
  obtain ⟨k, rfl⟩ : ∃ k, m = k + 1 := ⟨m - 1, by omega⟩
  obtain ⟨ev, q1, q2, q3, q4⟩ := a8 k (by omega)
  have l := ev.2.2.2.2.1
  have s0 := sumZ_0 a5 k (by omega)
  have gk := a5 k (by omega) (by omega)
  have e : sumZ g (k + 1) = sumZ g k + g k := rfl
  rw [show 1000 * v + ((k + 1 : Nat) : Int) - 1 = 1000 * v + k by omega, q2, q3, l.1, l.2.1, q4, L_plusR hKm (FR_r s0) (FR_r (by omega)) (by omega), ← e, a7]
  exact ⟨rfl, by omega, by omega⟩
theorem clB_e {S bar : Int} (h : 0 < bar) : (S + bar - 1) / bar = clB S bar := by
  have e1 := Int.mul_ediv_add_emod S bar
  have e2 := Int.emod_nonneg S (show bar ≠ 0 by omega)
  have e3 := Int.emod_lt_of_pos S h
  unfold clB
  by_cases z : S % bar = 0
  · rw [if_pos z]
    have e : S + bar - 1 = (bar - 1) + bar * (S / bar) := by omega
    rw [e, Int.add_mul_ediv_left _ _ (by omega), Int.ediv_eq_zero_of_lt (by omega) (by omega)]
    omega
  · rw [if_neg z]
    have e : S + bar - 1 = (S % bar - 1) + bar * (S / bar + 1) := by rw [Int.mul_add, Int.mul_one]; omega
    rw [e, Int.add_mul_ediv_left _ _ (by omega), Int.ediv_eq_zero_of_lt (by omega) (by omega)]
    omega
theorem P_ends {K : zK} {Km : Nat} {N L V p w n d : Int} {B0 Bm0 : zB} {F : zF} {B : zB} {Bm : zB} : ∀ (r a b : Nat) {k : Int} {Fm : zF}, k + r = V → 1 ≤ k → (∀ u, 0 ≤ u → u < k → F 4 (B 6 p 0 u) 7 = F 4 (B 6 p 0 0) 7) → r < a → r + 1 < b → VLS K Km N L V p w n d V B0 Bm0 F B Fm Bm → Fm 14 0 17 = 0 → ∃ fl F' Fm', f_Piece_judgeEnds_2 K a k p F B = some (fl, F', B) ∧ f_M_through_163 Km b k Fm Bm = some (0, Fm', Bm) ∧ (∀ c y j, ¬ (c = 6 ∧ y = p ∧ j = 7) → F' c y j = F c y j) ∧ (∀ c y j, ¬ (c = 14 ∧ y = 0 ∧ (j ≤ 1 ∨ j = 17 ∨ j = 18)) → Fm' c y j = Fm c y j) ∧ ((fl = 0 ∧ Fm' 14 0 17 = 0 ∧ (F' 6 p 7 = Fm' 13 w 7 ∧ 0 ≤ F' 6 p 7 ∧ F' 6 p 7 ≤ 100 ∧ ∀ u, 0 ≤ u → u < V → Fm' 13 w 7 = clB (F 4 (B 6 p 0 u) 7) (barV n d))) ∨ (bad Fm' ∧ fl = Fm' 14 0 17 + 16 * Fm' 14 0 18 ∧ 0 ≤ Fm' 14 0 18 ∧ Fm' 14 0 18 ≤ 3000)) := by
  intro r
  induction r with
  | zero =>
    intro a b k Fm kr k1 heq ha hb h h17
    obtain ⟨a, rfl⟩ : ∃ j, a = j + 1 := ⟨a - 1, by omega⟩
    obtain ⟨b, rfl⟩ : ∃ j, b = j + 1 := ⟨b - 1, by omega⟩
    obtain ⟨⟨hK, hKm, h11, h3, hp, w0, hn, hd, v0⟩, ⟨c1, c2, c3, c4, c5, c6, c7, c8, c9, c10⟩, _, hU, hD, _⟩ := h
    obtain ⟨bv1, _, bv3, bv4, bv5⟩ := bar_v hn hd
    obtain ⟨m, g, hd0, _⟩ := hD 0 (by decide) (by omega)
    have q0 := (hU 0 (by decide) (by omega)).1
    obtain ⟨_, s0, s1⟩ := L_vend (Km := Km) (G := Fm) (by omega) (by omega) hd0
    have s2 : F 4 (B 6 p 0 0) 7 ≤ 100 * barV n d := by rw [hd0.2.2.2.2.1]; exact hd0.2.2.2.1
    have rk : r32 k := by unfold r32; omega
    have rV : r32 V := by unfold r32; omega
    have zm : zmax (barV n d) 1 = barV n d := by unfold zmax; rw [if_neg (by omega)]
    refine ⟨0, _, Fm, by rw [f_Piece_judgeEnds_2, if_pos hp, if_pos rk, c1, if_pos rV, if_pos (by omega), C_bar hp c3 c4 hn hd, zb_s, if_pos (show r64 (barV n d) by unfold r64; omega), if_pos q0, zm, if_pos (lI_n0 bv4 (by unfold r64; omega))], by rw [f_M_through_163, c8, if_pos w0, if_pos rk, c2, if_pos rV, if_pos (by omega), f_M_through_339], fun c y j hh => by rw [zup3_v, if_neg hh], fun _ _ _ _ => rfl, Or.inl ⟨rfl, h17, ?_⟩⟩
    obtain ⟨_, _, _, hbar⟩ := hD (V - 1) (by omega) (by omega)
    have hb7 := hbar (by omega)
    rw [heq (V - 1) (by omega) (by omega)] at hb7
    rw [zup3_v, if_pos (by omega), zldv_e (by omega) (by omega) bv4 (by omega), hb7]
    exact ⟨clB_e bv4, Int.ediv_nonneg (by omega) (by omega), Int.le_of_lt_add_one (Int.ediv_lt_of_lt_mul bv4 (by omega)), fun u u0 u1 => by rw [heq u u0 (by omega)]⟩
  | succ r ih =>
    intro a b k Fm kr k1 heq ha hb h h17
    obtain ⟨a, rfl⟩ : ∃ j, a = j + 1 := ⟨a - 1, by omega⟩
    obtain ⟨b, rfl⟩ : ∃ j, b = j + 1 + 1 := ⟨b - 2, by omega⟩
    have h' := h
    obtain ⟨⟨hK, hKm, h11, h3, hp, w0, hn, hd, v0⟩, ⟨c1, c2, c3, c4, c5, c6, c7, c8, c9, c10⟩, hS, hU, hD, hO⟩ := h
    obtain ⟨bv1, _, bv3, bv4, bv5⟩ := bar_v hn hd
    obtain ⟨m0, g0, d0, _⟩ := hD 0 (by decide) (by omega)
    obtain ⟨mk, gk, dk, _⟩ := hD k (by omega) (by omega)
    have q0 := (hU 0 (by decide) (by omega)).1
    obtain ⟨qk, tk, _, t28, _⟩ := hU k (by omega) (by omega)
    obtain ⟨e1, s0, s1⟩ := L_vend (Km := Km) (G := Fm) (by omega) (by omega) dk
    obtain ⟨e2, z0, z1⟩ := L_vend (Km := Km) (G := fr Fm (F 4 (B 6 p 0 k) 7)) (by omega) (by omega) d0
    have rk : r32 k := by unfold r32; omega
    have rk1 : r32 (k + 1) := by unfold r32; omega
    have rV : r32 V := by unfold r32; omega
    have mk0 := dk.1
    have m00 := d0.1
    have e12k := dk.2.1
    have e120 := d0.2.1
    have g6 : fr Fm (F 4 (B 6 p 0 k) 7) 14 0 6 = w := by rw [fr_n (by omega)]; exact c8
    have mE : f_M_through_163 Km (b + 1 + 1) k Fm Bm = if F 4 (B 6 p 0 k) 7 = F 4 (B 6 p 0 0) 7 then f_M_through_163 Km (b + 1) (k + 1) (fr (fr Fm (F 4 (B 6 p 0 k) 7)) (F 4 (B 6 p 0 0) 7)) Bm else f_M_through_163 Km (b + 1) (k + 1) (flM (fr (fr Fm (F 4 (B 6 p 0 k) 7)) (F 4 (B 6 p 0 0) 7)) Bm 6 (Bm 14 0 28 k)) Bm := by
      have i17 : fr (fr Fm (F 4 (B 6 p 0 k) 7)) (F 4 (B 6 p 0 0) 7) 14 0 17 = 0 := by rw [fr_n (by omega), fr_n (by omega)]; exact h17
      rw [show 1000 * 0 + (m0 : Int) - 1 = (m0 : Int) - 1 by omega] at e2
      rw [f_M_through_163, c8, if_pos w0, if_pos rk, c2, if_pos rV, if_neg (show ¬ V ≤ k by omega), L_good h17, zb_s, if_pos (show r32 1 by decide), if_neg (show ¬ (1 : Int) = 0 by decide), c8, if_pos w0, if_pos (show 0 ≤ k ∧ k < 4 by omega), e12k, if_pos (show 0 ≤ 1000 * k + (mk : Int) - 1 ∧ 1000 * k + (mk : Int) - 1 < 4000 by omega), e1, zb_s, g6, if_pos w0, e120, if_pos (show 0 ≤ (m0 : Int) - 1 ∧ (m0 : Int) - 1 < 4000 by omega), e2, zb_s, fr_0, fr_1, fr_0, fr_1, L_cmpR (by omega) (FR_r s0) (FR_r z0) (by omega) (by omega), zb_s]
      simp only [f_M_through_333]
      by_cases y : F 4 (B 6 p 0 k) 7 = F 4 (B 6 p 0 0) 7
      · rw [if_pos y, if_neg (show ¬ F 4 (B 6 p 0 k) 7 < F 4 (B 6 p 0 0) 7 by omega), if_pos y, if_pos (show r32 0 by decide), if_pos (show (0 : Int) = 0 from rfl)]
      · rw [if_neg y, if_neg y]
        have nz : r32 (if F 4 (B 6 p 0 k) 7 < F 4 (B 6 p 0 0) 7 then (-1 : Int) else 1) ∧ ¬ (if F 4 (B 6 p 0 k) 7 < F 4 (B 6 p 0 0) 7 then (-1 : Int) else 1) = 0 := by
          by_cases x : F 4 (B 6 p 0 k) 7 < F 4 (B 6 p 0 0) 7
          · rw [if_pos x]; decide
          · rw [if_neg x]; decide
        rw [if_pos nz.1, if_neg nz.2, L_failAt i17 (by omega), zb_s]
    have cE : f_Piece_judgeEnds_2 K (a + 1) k p F B = if F 4 (B 6 p 0 k) 7 = F 4 (B 6 p 0 0) 7 then f_Piece_judgeEnds_2 K a (k + 1) p F B else some (6 + 16 * F 4 (B 6 p 0 k) 3, F, B) := by
      rw [f_Piece_judgeEnds_2, if_pos hp, if_pos rk, c1, if_pos rV, if_neg (show ¬ V ≤ k by omega), if_pos (show 0 ≤ k ∧ k < 4 by omega), if_pos qk, if_pos q0, if_pos (show r64 (F 4 (B 6 p 0 k) 7) by unfold r64; omega), if_pos (show r64 (F 4 (B 6 p 0 0) 7) by unfold r64; omega)]
      by_cases y : F 4 (B 6 p 0 k) 7 = F 4 (B 6 p 0 0) 7
      · rw [if_pos y, if_pos (zcmp_0.mpr y)]
      · rw [if_neg y, if_neg (fun z => y (zcmp_0.mp z))]
    rw [mE, cE]
    have gn : ∀ c y j, ¬ (c = 14 ∧ y = 0 ∧ j ≤ 1) → fr (fr Fm (F 4 (B 6 p 0 k) 7)) (F 4 (B 6 p 0 0) 7) c y j = Fm c y j := fun c y j hh => by rw [fr_n hh, fr_n hh]
    by_cases y : F 4 (B 6 p 0 k) 7 = F 4 (B 6 p 0 0) 7
    · rw [if_pos y, if_pos y]
      have h2 : VLS K Km N L V p w n d V B0 Bm0 F B (fr (fr Fm (F 4 (B 6 p 0 k) 7)) (F 4 (B 6 p 0 0) 7)) Bm := ⟨⟨hK, hKm, h11, h3, hp, w0, hn, hd, v0⟩, ⟨c1, by rw [gn 13 w 1 (by omega)]; exact c2, c3, c4, by rw [gn 13 w 4 (by omega)]; exact c5, by rw [gn 13 w 5 (by omega)]; exact c6, c7, by rw [gn 14 0 6 (by omega)]; exact c8, by rw [gn 14 0 35 (by omega)]; exact c9, by rw [gn 14 0 27 (by omega)]; exact c10⟩, hS, hU, fun u u0 u1 => by
        obtain ⟨m, g, x, y⟩ := hD u u0 u1
        exact ⟨m, g, x, fun e => by rw [gn 13 w 7 (by omega)]; exact y e⟩, hO⟩
      obtain ⟨fl, F', Fm', x1, x2, x3, x4, x5⟩ := ih a (b + 1) (k := k + 1) (Fm := fr (fr Fm (F 4 (B 6 p 0 k) 7)) (F 4 (B 6 p 0 0) 7)) (by omega) (by omega) (fun u u0 u1 => by
        by_cases e : u = k
        · rw [e]; exact y
        · exact heq u u0 (by omega)) (by omega) (by omega) h2 (by rw [gn _ _ _ (by omega)]; exact h17)
      exact ⟨fl, F', Fm', x1, x2, x3, fun c y' j hh => by rw [x4 c y' j hh, gn c y' j (by omega)], x5⟩
    · rw [if_neg y, if_neg y]
      have bd : bad (flM (fr (fr Fm (F 4 (B 6 p 0 k) 7)) (F 4 (B 6 p 0 0) 7)) Bm 6 (Bm 14 0 28 k)) := flM_b (by decide) (by decide)
      refine ⟨_, F, flM (fr (fr Fm (F 4 (B 6 p 0 k) 7)) (F 4 (B 6 p 0 0) 7)) Bm 6 (Bm 14 0 28 k), rfl, ?_, fun _ _ _ _ => rfl, fun c y' j hh => by rw [flM_n (by omega), gn c y' j (by omega)], Or.inr ⟨bd, by rw [flM_17, flM_18, tk.1], by rw [flM_18, ← tk.1]; exact tk.2⟩⟩
      have i6 : flM (fr (fr Fm (F 4 (B 6 p 0 k) 7)) (F 4 (B 6 p 0 0) 7)) Bm 6 (Bm 14 0 28 k) 14 0 6 = w := by rw [flM_n (by decide), gn _ _ _ (by omega)]; exact c8
      have i1 : flM (fr (fr Fm (F 4 (B 6 p 0 k) 7)) (F 4 (B 6 p 0 0) 7)) Bm 6 (Bm 14 0 28 k) 13 w 1 = V := by rw [flM_n (by omega), gn _ _ _ (by omega)]; exact c2
      rw [f_M_through_163, i6, if_pos w0, if_pos rk1, i1, if_pos rV]
      simp only [f_M_through_339]
      by_cases z : V ≤ k + 1
      · rw [if_pos z]
      · rw [if_neg z, L_goodB bd, zb_s, if_pos (show r32 0 by decide), if_pos (show (0 : Int) = 0 from rfl)]
end
end
section
section
/-! ===== a text parsed: the voices can be walked ===== -/
def byB (N : Int) (Bm : zB) : zB := fun c i k y => if c = 14 ∧ i = 0 ∧ (k = 30 ∨ k = 31) ∧ N ≤ y then y else Bm c i k y
theorem byB_n {N : Int} {Bm : zB} {c k : Nat} {i y : Int} (h : ¬ (c = 14 ∧ i = 0 ∧ (k = 30 ∨ k = 31) ∧ N ≤ y)) : byB N Bm c i k y = Bm c i k y := by
  unfold byB
  rw [if_neg h]
theorem VLS_0 {K : zK} {Km : Nat} {N L V p w : Int} {F : zF} {B : zB} {Fm : zF} {Bm : zB} (h : VI K Km N L V N p w F B Fm Bm) (hKm : 70000000000 < Km) (h11 : 0 < K.2 11) (h12 : 0 < K.2 12) (o7 : F 12 0 7 = p) (o5 : F 12 0 5 = 0) (o4 : F 12 0 4 = 0) (hr : ∀ u, 0 ≤ u → u < V → ∀ s, 0 ≤ s → s < 63 → r32 (B 4 (B 6 p 0 u) 12 s)) : VLS K Km N L V p w (F 6 p 4) (F 6 p 5) 0 B (byB N Bm) F B (zup3 Fm 14 0 35 0) Bm := by
  obtain ⟨⟨hE, hS, hP, hLT, _, _, _, hSL⟩, hGS, hV1, hV2, hV3, hVv⟩ := h
  obtain ⟨hTK, hMW, _, k3, _, hK, _⟩ := hE
  obtain ⟨hp, w0, h6, h2, _, ⟨e4, n0, n1⟩, ⟨e5, hd⟩, _⟩ := hP
  obtain ⟨_, l27, l6, hl⟩ := hLT
  have am : agM L 0 N Bm (byB N Bm) := ⟨fun k y _ _ _ h4 => byB_n (by omega), fun k h0 h1 => by funext y; exact byB_n (by omega), fun q _ _ => byB_n (by omega)⟩
  have gn : ∀ c i k, ¬ (c = 14 ∧ i = 0 ∧ k = 35) → zup3 Fm 14 0 35 0 c i k = Fm c i k := fun c i k hh => by rw [zup3_v, if_neg hh]
  have row : ∀ k : Nat, ¬ (k = 30 ∨ k = 31) → byB N Bm 14 0 k = Bm 14 0 k := fun k hk => by funext y; exact byB_n (fun z => hk z.2.2.1)
  refine ⟨⟨hK, hKm, h11, k3, hp, w0, ⟨n0, n1⟩, hd, by omega⟩, ⟨hV1, by rw [gn 13 w 1 (by omega)]; exact hV2, rfl, rfl, by rw [gn 13 w 4 (by omega)]; exact e4.symm, by rw [gn 13 w 5 (by omega)]; exact e5.symm, h2.2, by rw [gn 14 0 6 (by omega)]; exact h6, by rw [zup3_v, if_pos (by omega)], by rw [gn 14 0 27 (by omega)]; exact l27⟩, ⟨hTK, ⟨fun _ _ => rfl, fun k y hk => (byB_n (by omega)).symm, fun k y _ _ hy => (byB_n (by omega)).symm, fun y hy => ?_⟩, ?_, ⟨l6, fun q q0 q1 => ?_⟩, hGS⟩, fun u u0 u1 => ?_, fun u u0 u1 => by omega, o7, o5, o4, h12⟩
  · unfold byB
    rw [if_pos (by omega), if_pos (by omega)]
    exact ⟨Int.le_refl _, Int.le_refl _⟩
  · unfold MW at hMW ⊢
    rw [row 13 (by decide), row 14 (by decide), row 15 (by decide)]
    exact hMW
  · obtain ⟨q2, q3, q4, q5⟩ := hl q q0 q1
    obtain ⟨s1, s2⟩ := hSL q q0 q1 B (byB N Bm) agB_r am (fun r _ _ => byB_n (by omega))
    refine ⟨⟨q4, q5⟩, by rw [byB_n (by omega), ← q2]; exact q3, s1, s2⟩
  · obtain ⟨⟨r1, r2, r3, r4, r5, r6, r7, r8, r9, r10, r11⟩, sv⟩ := hVv u u0 u1
    exact ⟨r1, r6, r4.2, r7, r8, r9, sv B (byB N Bm) agB_r am, fun _ => r10, hr u u0 u1⟩
end
end
section
section
/-! ===== the voices of a text, both sides, up to what is kept of the piece ===== -/
theorem VLS_F {K : zK} {Km : Nat} {N L V p w n d v : Int} {B0 Bm0 : zB} {F F' : zF} {B : zB} {Fm : zF} {Bm : zB} (h : VLS K Km N L V p w n d v B0 Bm0 F B Fm Bm) (f : ∀ c y k, ¬ c = 0 → F' c y k = F c y k) : VLS K Km N L V p w n d v B0 Bm0 F' B Fm Bm := by
  have e1 : F' 1 = F 1 := by funext y k; exact f 1 y k (by decide)
  have e4 : F' 4 = F 4 := by funext y k; exact f 4 y k (by decide)
  have e6 : F' 6 = F 6 := by funext y k; exact f 6 y k (by decide)
  have e12 : F' 12 = F 12 := by funext y k; exact f 12 y k (by decide)
  unfold VLS VD EVW EPR SLs BW TIk NW QN at h ⊢
  rw [e1, e4, e6, e12]
  exact h
theorem P_thr {K : zK} {Km : Nat} {N L V p w l1 : Int} {F : zF} {B : zB} {Fm : zF} {Bm : zB} (h : VI K Km N L V N p w F B Fm Bm) (V1 : 1 ≤ V) (hKm : 70000000000 < Km) (h0 : 0 < K.2 0) (h11 : 0 < K.2 11) (h12 : 0 < K.2 12) (o0 : F 12 0 0 = 0) (o7 : F 12 0 7 = p) (o5 : F 12 0 5 = 0) (o4 : F 12 0 4 = 0) (h17 : Fm 14 0 17 = 0) (hr : ∀ u, 0 ≤ u → u < V → ∀ s, 0 ≤ s → s < 63 → r32 (B 4 (B 6 p 0 u) 12 s)) : ∃ fl F1 F' B' Fm1 Fm' Bm', f_S_read_54 K.1 K 0 0 0 l1 F B = f_S_read_140 K fl 0 l1 F' B' ∧ f_M_through Km Fm Bm = some (0, Fm', Bm') ∧ VTF p w F B (zup3 Fm 14 0 35 0) Bm F1 B' Fm1 Bm' ∧ (∀ c y k, ¬ (c = 0 ∧ y = 0 ∧ (k = 1 ∨ k = 2)) → ¬ (c = 6 ∧ y = p ∧ k = 7) → F' c y k = F1 c y k) ∧ (F' 0 0 1 = 0 ∧ F' 0 0 2 = 0) ∧ (∀ c y j, ¬ (c = 14 ∧ y = 0 ∧ (j ≤ 1 ∨ j = 17 ∨ j = 18)) → Fm' c y j = Fm1 c y j) ∧ (∀ u, 0 ≤ u → u < V → ∀ s, 0 ≤ s → s < 63 → r32 (B' 4 (B 6 p 0 u) 12 s)) ∧ GS K B' ∧ r32 fl ∧ ((fl = 0 ∧ Fm' 14 0 17 = 0 ∧ (F' 6 p 7 = Fm' 13 w 7 ∧ 0 ≤ F' 6 p 7 ∧ F' 6 p 7 ≤ 100 ∧ ∀ u, 0 ≤ u → u < V → Fm' 13 w 7 = clB (F1 4 (B' 6 p 0 u) 7) (barV (F 6 p 4) (F 6 p 5))) ∧ VLS K Km N L V p w (F 6 p 4) (F 6 p 5) V B (byB N Bm) F1 B' Fm1 Bm') ∨ (bad Fm' ∧ fl = Fm' 14 0 17 + 16 * Fm' 14 0 18 ∧ 0 ≤ Fm' 14 0 18 ∧ Fm' 14 0 18 ≤ 3000)) := by
  have hS := VLS_0 h hKm h11 h12 o7 o5 o4 hr
  have hK := hS.1.1
  have hp := hS.1.2.2.2.2.1
  have w0 := hS.1.2.2.2.2.2.1
  have v4 := hS.1.2.2.2.2.2.2.2.2
  obtain ⟨fl, F1, B1, Fm1, Bm1, x1, x2, x3, x4, x5, x6⟩ := P_vs (l1 := l1) V.toNat K.1 Km (v := 0) (by omega) (by omega) (by omega) hS (by rw [zup3_v, if_neg (by omega)]; exact h17)
  have F12 : ∀ k, F1 12 0 k = F 12 0 k := fun k => x3.1 12 0 k (by omega) (by omega) (by omega)
  have cn : ∀ c y k, ¬ (c = 0 ∧ y = 0 ∧ (k = 1 ∨ k = 2)) → zup3 (zup3 F1 0 0 1 0) 0 0 2 0 c y k = F1 c y k := fun c y k hh => by rw [zup3_v, if_neg (by omega), zup3_v, if_neg (by omega)]
  have cl : f_ByteRow_clear K 0 F1 B1 = some (0, zup3 (zup3 F1 0 0 1 0) 0 0 2 0, B1) := by
    unfold f_ByteRow_clear
    rw [if_pos ⟨Int.le_refl _, h0⟩]
  have z1 : zup3 (zup3 F1 0 0 1 0) 0 0 2 0 0 0 1 = 0 := by rw [zup3_v, if_neg (by omega), zup3_v, if_pos (by omega)]
  have z2 : zup3 (zup3 F1 0 0 1 0) 0 0 2 0 0 0 2 = 0 := by rw [zup3_v, if_pos (by omega)]
  have z7 : zup3 (zup3 F1 0 0 1 0) 0 0 2 0 12 0 7 = p := by rw [cn 12 0 7 (by omega), F12]; exact o7
  have c121 : f_S_read_121 K fl 0 l1 F1 B1 = if r32 fl then (if fl = 0 then zbindN (f_Piece_judgeEnds K p (zup3 (zup3 F1 0 0 1 0) 0 0 2 0) B1) (fun r41 F41 B41 => f_S_read_140 K r41 0 l1 F41 B41) else f_S_read_140 K fl 0 l1 (zup3 (zup3 F1 0 0 1 0) 0 0 2 0) B1) else none := by
    unfold f_S_read_121
    rw [if_pos ⟨Int.le_refl _, h12⟩, F12, o0, if_pos ⟨Int.le_refl _, h0⟩, cl, zbN_s, z7, if_pos hp]
  have tE : f_M_through Km Fm Bm = f_M_through_163 Km Km 1 Fm1 Bm1 := by
    unfold f_M_through
    rw [x2, f_M_through_161]
  rw [x1, c121, tE]
  rcases x6 with ⟨rfl, k17, hV⟩ | ⟨bd, efl, q0, q1⟩
  · obtain ⟨r2, F2, Fm2, y1, y2, y3, y4, y5⟩ := P_ends (V.toNat - 1) K.1 Km (k := 1) (by omega) (by decide) (fun u u0 u1 => by rw [show u = 0 by omega]) (by omega) (by omega) (VLS_F hV (F' := zup3 (zup3 F1 0 0 1 0) 0 0 2 0) (fun c y k hc => cn c y k (by omega))) k17
    rw [if_pos (by decide), if_pos rfl, f_Piece_judgeEnds, y1, zbN_s, y2]
    refine ⟨r2, F1, F2, B1, Fm1, Fm2, Bm1, rfl, rfl, x3, fun c y k a b => by rw [y3 c y k b, cn c y k a], ⟨by rw [y3 0 0 1 (by omega)]; exact z1, by rw [y3 0 0 2 (by omega)]; exact z2⟩, y4, x4, x5, ?_, ?_⟩
    · rcases y5 with ⟨rfl, _⟩ | ⟨bd, e, q0, q1⟩
      · decide
      · unfold bad at bd; unfold r32; omega
    · rcases y5 with ⟨a, b, c⟩ | hb
      · refine Or.inl ⟨a, b, ⟨c.1, c.2.1, c.2.2.1, fun u u0 u1 => ?_⟩, hV⟩
        have := c.2.2.2 u u0 u1
        rw [cn 4 _ 7 (by omega)] at this
        exact this
      · exact Or.inr hb
  · have rf : r32 fl ∧ ¬ fl = 0 := by unfold bad at bd; unfold r32; omega
    rw [if_pos rf.1, if_neg rf.2]
    refine ⟨fl, F1, _, B1, Fm1, Fm1, Bm1, rfl, ?_, x3, fun c y k a _ => cn c y k a, ⟨z1, z2⟩, fun _ _ _ _ => rfl, x4, x5, rf.1, Or.inr ⟨bd, efl, q0, q1⟩⟩
    have g6 : Fm1 14 0 6 = w := by rw [x3.2.2.2.1 14 0 6 (by omega) (by omega)]; exact hS.2.1.2.2.2.2.2.2.2.1
    have gV : Fm1 13 w 1 = V := by rw [x3.2.2.2.1 13 w 1 (by omega) (by omega)]; exact hS.2.1.2.1
    obtain ⟨j, hj⟩ : ∃ j, Km = j + 1 := ⟨Km - 1, by omega⟩
    rw [show f_M_through_163 Km Km = f_M_through_163 Km (j + 1) by rw [← hj], f_M_through_163, g6, if_pos w0, if_pos (by decide), gV, if_pos (by unfold r32; omega)]
    simp only [f_M_through_339]
    by_cases z : V ≤ 1
    · rw [if_pos z]
    · rw [if_neg z, L_goodB bd, zb_s, if_pos (by decide), if_pos rfl]
end
end
section
section
/-! ===== a text with a fault: the class's read ends ===== -/
theorem C_rdX {K : zK} {p r l1 : Int} {F : zF} {B : zB} (hK : 3002 ≤ K.1) (h0 : 0 < K.2 0) (h12 : 0 < K.2 12) (hp : 0 ≤ p ∧ p < K.2 6) (o7 : F 12 0 7 = p) (o0 : F 12 0 0 = 0) (rV : r32 (F 6 p 1)) (rr : r32 r) (rz : ¬ r = 0) : f_S_read_54 K.1 K 0 r 0 l1 F B = some (r, zup3 (zup3 F 0 0 1 0) 0 0 2 0, B, K) := by
  obtain ⟨k, hk⟩ : ∃ k, K.1 = k + 1 := ⟨K.1 - 1, by omega⟩
  have c121 : f_S_read_121 K r 0 l1 F B = some (r, zup3 (zup3 F 0 0 1 0) 0 0 2 0, B, K) := by
    unfold f_S_read_121 f_ByteRow_clear f_S_read_140
    rw [if_pos ⟨Int.le_refl _, h12⟩, o0, if_pos ⟨Int.le_refl _, h0⟩, if_pos ⟨Int.le_refl _, h0⟩, zbN_s, if_pos rr, if_neg rz, if_pos rr, if_neg rz]
  rw [show f_S_read_54 K.1 = f_S_read_54 (k + 1) by rw [← hk], f_S_read_54, if_pos ⟨Int.le_refl _, h12⟩, o7, if_pos hp, if_pos (by decide), if_pos rV]
  by_cases z : F 6 p 1 ≤ 0
  · rw [if_pos z, c121]
  · rw [if_neg z, if_pos rr, if_neg rz, c121]
end
end
section
section
/-! ===== the reference's events learn the places of their tokens ===== -/
theorem L_r70 {K m : Nat} {rec : Int → Int → zF → zB → zO} {u w l1 : Int} {F : zF} (w0 : 0 ≤ w ∧ w < 3) (h6 : F 14 0 6 = w) (u0 : 0 ≤ u ∧ u < 4) (m1 : m ≤ 200) : ∀ (r n k : Nat) {B : zB}, k + r = m → r < n → B 13 w 12 u = m → (∀ i : Nat, k ≤ i → i < m → 0 ≤ B 13 w 20 (1000 * u + i) ∧ B 13 w 20 (1000 * u + i) ≤ 3000) → ∃ B', f_M_read_70 rec K n k u l1 F B = rec (u + 1) l1 F B' ∧ (∀ i : Nat, k ≤ i → i < m → B' 13 w 20 (1000 * u + i) = B 14 0 8 (B 13 w 20 (1000 * u + i))) ∧ (∀ c y j x, ¬ (c = 13 ∧ y = w ∧ j = 20 ∧ 1000 * u + k ≤ x ∧ x < 1000 * u + m) → B' c y j x = B c y j x) := by
  intro r
  induction r with
  | zero =>
    intro n k B kr hn h12 ht
    obtain ⟨n, rfl⟩ : ∃ j, n = j + 1 := ⟨n - 1, by omega⟩
    have rk : r32 (k : Int) := by unfold r32; omega
    have rm : r32 (m : Int) := by unfold r32; omega
    rw [f_M_read_70, h6, if_pos w0, if_pos u0, if_pos rk, h12, if_pos rm, if_pos (by omega)]
    exact ⟨B, rfl, fun i a b => by omega, fun _ _ _ _ _ => rfl⟩
  | succ r ih =>
    intro n k B kr hn h12 ht
    obtain ⟨n, rfl⟩ : ∃ j, n = j + 1 := ⟨n - 1, by omega⟩
    have rk : r32 (k : Int) := by unfold r32; omega
    have rm : r32 (m : Int) := by unfold r32; omega
    have tk := ht k (Nat.le_refl _) (by omega)
    rw [f_M_read_70, h6, if_pos w0, if_pos u0, if_pos rk, h12, if_pos rm, if_neg (by omega), if_pos (by omega), if_pos (by omega)]
    generalize hC : zup4 B 13 w 20 (1000 * u + k) (B 14 0 8 (B 13 w 20 (1000 * u + k))) = C
    have cn : ∀ c y j x, ¬ (c = 13 ∧ y = w ∧ j = 20 ∧ x = 1000 * u + k) → C c y j x = B c y j x := fun c y j x hh => by rw [← hC, zup4_v, if_neg hh]
    have cv : C 13 w 20 (1000 * u + k) = B 14 0 8 (B 13 w 20 (1000 * u + k)) := by rw [← hC, zup4_v, if_pos (by omega)]
    obtain ⟨B', g1, g2, g3⟩ := ih n (k + 1) (B := C) (by omega) (by omega) (by rw [cn 13 w 12 u (by omega)]; exact h12) (fun i a b => by rw [cn 13 w 20 _ (by omega)]; exact ht i (by omega) b)
    rw [show ((k + 1 : Nat) : Int) = (k : Int) + 1 by omega] at g1
    refine ⟨B', g1, fun i a b => ?_, fun c y j x hh => by rw [g3 c y j x (by omega), cn c y j x (by omega)]⟩
    by_cases e : i = k
    · rw [e, g3 13 w 20 _ (by omega), cv]
    · rw [g2 i (by omega) b, cn 14 0 8 _ (by omega), cn 13 w 20 _ (by omega)]
end
end
section
section
/-! ===== the same, for all voices ===== -/
theorem L_r57 {K : Nat} {w V l1 : Int} {F : zF} (hK : 3002 ≤ K) (w0 : 0 ≤ w ∧ w < 3) (h6 : F 14 0 6 = w) (hV : F 13 w 1 = V) (V4 : V ≤ 4) : ∀ (r n : Nat) {u : Int} {B : zB}, u + r = V → 0 ≤ u → r < n → (∀ t, u ≤ t → t < V → ∃ m : Nat, B 13 w 12 t = m ∧ m ≤ 200 ∧ ∀ i : Nat, i < m → 0 ≤ B 13 w 20 (1000 * t + i) ∧ B 13 w 20 (1000 * t + i) ≤ 3000) → ∃ B' n', 0 < n' ∧ f_M_read_57 K n u l1 F B = f_M_read_57 K n' V l1 F B' ∧ (∀ (t : Int) (m i : Nat), u ≤ t → t < V → B 13 w 12 t = m → i < m → B' 13 w 20 (1000 * t + i) = B 14 0 8 (B 13 w 20 (1000 * t + i))) ∧ (∀ c y j x, ¬ (c = 13 ∧ y = w ∧ j = 20 ∧ 1000 * u ≤ x) → B' c y j x = B c y j x) := by
  intro r
  induction r with
  | zero =>
    intro n u B ur u0 hn ht
    rw [show u = V by omega]
    exact ⟨B, n, by omega, rfl, fun t m i a b => by omega, fun _ _ _ _ _ => rfl⟩
  | succ r ih =>
    intro n u B ur u0 hn ht
    obtain ⟨n, rfl⟩ : ∃ j, n = j + 1 := ⟨n - 1, by omega⟩
    have ru : r32 u := by unfold r32; omega
    have rV : r32 V := by unfold r32; omega
    obtain ⟨m, e12, m1, hb⟩ := ht u (Int.le_refl _) (by omega)
    obtain ⟨C, g1, g2, g3⟩ := L_r70 (K := K) (rec := f_M_read_57 K n) (l1 := l1) (F := F) w0 h6 (by omega) m1 m K 0 (B := B) (by omega) (by omega) e12 (fun i _ b => hb i b)
    rw [f_M_read_57, h6, if_pos w0, if_pos ru, hV, if_pos rV, if_neg (by omega)]
    have g1' : f_M_read_70 (f_M_read_57 K n) K K 0 u l1 F B = f_M_read_57 K n (u + 1) l1 F C := g1
    rw [g1']
    obtain ⟨B', n', n0, k1, k2, k3⟩ := ih n (u := u + 1) (B := C) (by omega) (by omega) (by omega) (fun t a b => by
      obtain ⟨m', x1, x2, x3⟩ := ht t (by omega) b
      refine ⟨m', by rw [g3 13 w 12 t (by omega)]; exact x1, x2, fun i hi => ?_⟩
      rw [g3 13 w 20 _ (by omega)]
      exact x3 i hi)
    refine ⟨B', n', n0, k1, fun t m' i a b c hi => ?_, fun c y j x hh => by rw [k3 c y j x (by omega), g3 c y j x (by omega)]⟩
    by_cases e : t = u
    · subst e
      have em : m' = m := by omega
      subst em
      have kf : B' 13 w 20 (1000 * t + i) = C 13 w 20 (1000 * t + i) := by
        exact k3 13 w 20 _ (by omega)
      rw [kf]
      exact g2 i (by omega) hi
    · obtain ⟨m'', x1, x2, x3⟩ := ht t (by omega) b
      rw [k2 t m' i (by omega) b (by rw [g3 13 w 12 t (by omega)]; exact c) hi, g3 13 w 20 _ (by omega), g3 14 0 8 _ (by omega)]
end
end
