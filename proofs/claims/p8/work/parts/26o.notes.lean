section
/-! ===== a voice's notes, both sides ===== -/
theorem JS_n {K : zK} {q v w bar : Int} {m : Nat} {g : Int → Int} {F F' : zF} {B B' : zB} {Fm Fm' : zF} {Bm Bm' : zB} (h : JS K q v w m bar g F B Fm Bm) (f : nF q F F') (b : nB q B B') (fm : ∀ k, k = 36 ∨ k = 35 ∨ k = 6 → Fm' 14 0 k = Fm 14 0 k) (bm : nM' v w Bm Bm') : JS K q v w m bar g F' B' Fm' Bm' := by
  obtain ⟨a1, a2, a3, a4, a5⟩ := h
  refine ⟨by rw [f 4 q 6 (by first | decide | omega), fm 36 (by first | decide | omega), fm 35 (by first | decide | omega), fm 6 (by first | decide | omega)]; exact a1, a2, a3, fun i hi => ?_, fun t t0 t1 => by rw [b 4 q 5 t (by first | decide | omega)]; exact a5 t t0 t1⟩
  obtain ⟨d1, d2, d3, d4, d5⟩ := a4 i hi
  rw [b 4 q 5 i (by first | decide | omega), f 1 _ 0 (by first | decide | omega), f 1 _ 1 (by first | decide | omega), bm 13 w 14 _ (by first | decide | omega) (by first | decide | omega), bm 13 w 15 _ (by first | decide | omega) (by first | decide | omega)]
  exact ⟨EVW_h d1 (fun k _ _ => f 1 _ k (by first | decide | omega)) (fun k y => b 1 _ k y (by first | decide | omega)) (fun k h h' => bm 13 w k _ (by first | decide | omega) (by first | decide | omega)) (fun k y h h' _ _ => bm 13 w k y (by first | decide | omega) (by first | decide | omega)) (fun y => bm 14 0 8 y (by first | decide | omega) (by first | decide | omega)), d2, d3, d4, d5⟩
def nH (w : Int) (F F' : zF) : Prop := ∀ c y k, ¬ (c = 14 ∧ y = 0 ∧ (k ≤ 1 ∨ 52 ≤ k ∧ k ≤ 57)) → ¬ (c = 13 ∧ y = w ∧ k = 7) → F' c y k = F c y k
theorem nH_t {w : Int} {F F1 F2 : zF} (h : nH w F F1) (h' : nH w F1 F2) : nH w F F2 := fun c y k n n' => by rw [h' c y k n n', h c y k n n']
theorem nH_g {w : Int} {F F' : zF} (h : nG F F') : nH w F F' := fun c y k n _ => h c y k n
/-- places outside brackets are whole 128ths, and a bracket keeps within its bar -/
def BW (q : Int) (m : Nat) (bar : Int) (g : Int → Int) (F : zF) (B : zB) : Prop := (∀ i : Nat, i ≤ m → (i = m ∨ F 1 (B 4 q 5 i) 5 = 0) → sumZ g i % 6350400 = 0) ∧ (∀ i : Nat, i < m → F 1 (B 4 q 5 i) 5 = 0 → g i % 6350400 = 0) ∧ (∀ i : Nat, i < m → ¬ F 1 (B 4 q 5 i) 5 = 0 → sumZ g (i + 1) ≤ (sumZ g i / bar + 1) * bar) ∧ (∀ i : Nat, i < m → TIk q m F B i)
theorem BW_n {q bar : Int} {m : Nat} {g : Int → Int} {F F' : zF} {B B' : zB} (h : BW q m bar g F B) (f : nF q F F') (b : nB q B B') : BW q m bar g F' B' := by
  have e : ∀ i : Nat, F' 1 (B' 4 q 5 i) 5 = F 1 (B 4 q 5 i) 5 := fun i => by rw [b 4 q 5 i (by first | decide | omega), f 1 _ 5 (by first | decide | omega)]
  have e7 : ∀ i : Nat, F' 1 (B' 4 q 5 i) 7 = F 1 (B 4 q 5 i) 7 := fun i => by rw [b 4 q 5 i (by first | decide | omega), f 1 _ 7 (by first | decide | omega)]
  unfold BW TIk at h ⊢
  simp only [e, e7]
  exact h
/-- how many bars reach to S -/
def clB (S bar : Int) : Int := if S % bar = 0 then S / bar else S / bar + 1
/-- where a note may stand -/
def ZG (Z : Int → Int → Prop) (T E : Int) : Prop := ∀ nb y, 0 ≤ nb → nb < E → 0 ≤ y → y < T → Z nb y
def NR (K : zK) (q v w : Int) (m : Nat) (Z : Int → Int → Prop) (F : zF) (B : zB) (Fm : zF) (Bm : zB) (r : Int) (F' : zF) (B' : zB) (Fm' : zF) (Bm' : zB) : Prop := nF q F F' ∧ nB q B B' ∧ nH w Fm Fm' ∧ nM' v w Bm Bm' ∧ ((NW q v w m Z r F' B' Bm' ∧ Fm' 13 w 7 = clB (F' 4 q 7) (barV (Fm' 13 w 4) (Fm' 13 w 5))) ∨ (r = 801 ∧ NX q v w F' Bm'))
theorem P_wend {K : zK} {Km m : Nat} {Z : Int → Int → Prop} {q p v w n d Pk : Int} {g : Int → Int} {F : zF} {B : zB} {Fm : zF} {Bm : zB} (hK : 3002 ≤ K.1) (hKm : 70000000000 < Km) (h4 : 0 ≤ q ∧ q < K.2 4) (hp : 0 ≤ p ∧ p < K.2 6) (v0 : 0 ≤ v ∧ v < 4) (w0 : 0 ≤ w ∧ w < 3) (hn : 1 ≤ n ∧ n ≤ 12) (hd : d = 2 ∨ d = 4 ∨ d = 8 ∨ d = 16) (e4 : F 6 p 4 = n) (e5 : F 6 p 5 = d) (m4 : Fm 13 w 4 = n) (m5 : Fm 13 w 5 = d) (h7 : F 4 q 7 = sumZ g m) (hs0 : 0 ≤ sumZ g m) (hs1 : sumZ g m ≤ 100 * barV n d) (hs6 : sumZ g m % 6350400 = 0) (k0 : 0 ≤ Pk) (k1 : Pk ≤ 100 * barV n d) (hZ : ZG Z (barV n d) (clB (sumZ g m) (barV n d))) (hN : ((∃ c, NW q v w m Z c F B Bm) ∧ Pk = sumZ g m) ∨ NX q v w F Bm) : ∃ F' B' Fm' Bm' r, f_Part_writeNotes_57 K q p F B = f_Part_writeNotes_101 K q p F' B' ∧ f_M_notes_150 Km (de Pk) (nu Pk) w v 1 Fm Bm = some (r, Fm', Bm') ∧ NR K q v w m Z F B Fm Bm r F' B' Fm' Bm' := by
  have hu := un_d hd
  have b3 := un_3 hu (n := n) (by first | decide | omega)
  have b4 := un_4 hu (n := n) (by first | decide | omega)
  obtain ⟨bv1, _, bv3, bv4, bv5⟩ := bar_v hn hd
  have b5 := bar5 (n := n) hd
  have b44 : (512 / d * n) % 4 = 0 := by
    obtain ⟨y, hy⟩ := u_32 (n := n) hu
    omega
  have rn : r32 n := by unfold r32; omega
  have rd : r32 d := by unfold r32; omega
  have xa : ∀ y : Int, X5 * y = 1587600 * y := fun _ => rfl
  generalize hS : sumZ g m = S at *
  -- the class
  have cb := C_bar (F := F) (B := B) hp e4 e5 hn hd
  have o1 := Int.emod_nonneg S (show barV n d ≠ 0 by omega)
  have o2 := Int.emod_lt_of_pos S bv4
  have c57 : f_Part_writeNotes_57 K q p F B = if S % barV n d = 0 then f_Part_writeNotes_101 K q p F B else zbind (f_Part_cut_18 K K.1 0 (S + (barV n d - S % barV n d)) S (barV n d) q p (-1) F B) (fun _ F1 B1 => f_Part_writeNotes_101 K q p F1 B1) := by
    unfold f_Part_writeNotes_57 f_Part_writeNotes_78 f_Part_cut
    rw [if_pos hp, cb, zb_s, if_pos (show r64 (barV n d) by unfold r64; omega), if_neg (show ¬ zcmp (barV n d) 0 ≤ 0 from fun h => by have := zcmp_m.mp h; omega), if_pos h4, if_pos (lI_n0 bv4 (by unfold r64; omega)), h7, zlrm_e hs0 (by first | decide | omega) bv4 (by first | decide | omega), if_pos (show r64 (S % barV n d) by unfold r64; omega)]
    by_cases z : S % barV n d = 0
    · rw [if_pos z, if_pos (zcmp_0.mpr z)]
    · rw [if_neg z, if_neg (fun h => z (zcmp_0.mp h)), if_pos h4, if_pos hp, cb, zb_s]
  -- the reference
  have p1 := Int.mul_ediv_add_emod Pk (barV n d)
  have p2 := Int.emod_nonneg Pk (show barV n d ≠ 0 by omega)
  have p3 := Int.emod_lt_of_pos Pk bv4
  have p4 : 0 ≤ Pk / barV n d := Int.ediv_nonneg k0 (by first | decide | omega)
  have p5 : Pk / barV n d ≤ 100 := Int.ediv_le_of_le_mul bv4 (by first | decide | omega)
  have p6 : (Pk / barV n d + 1) * barV n d = barV n d * (Pk / barV n d) + barV n d := by rw [Int.add_mul, Int.one_mul, Int.mul_comm]
  have m150 : f_M_notes_150 Km (de Pk) (nu Pk) w v 1 Fm Bm = if Pk % barV n d = 0 then some (Bm 13 w 13 v, zup3 Fm 13 w 7 (Pk / barV n d), Bm) else zbind (f_M_pieces_16 Km Km (de ((Pk / barV n d + 1) * barV n d - Pk)) (nu ((Pk / barV n d + 1) * barV n d - Pk)) (de Pk) (nu Pk) w v (-1) 1 (fr (zup3 (zup3 Fm 13 w 7 (Pk / barV n d)) 13 w 7 (Pk / barV n d + 1)) ((Pk / barV n d + 1) * barV n d - Pk)) Bm) (fun _ F1 B1 => some (B1 13 w 13 v, F1, B1)) := by
    unfold f_M_notes_150
    have q4 : (zup3 Fm 13 w 7 (Pk / barV n d)) 13 w 4 = n := by rw [zup3_v, if_neg (by first | decide | omega)]; exact m4
    have q5 : (zup3 Fm 13 w 7 (Pk / barV n d)) 13 w 5 = d := by rw [zup3_v, if_neg (by first | decide | omega)]; exact m5
    rw [if_pos w0, m4, m5, if_pos rn, if_pos rd, L_oftR (FR_r k0) bv5 (by first | decide | omega) (by first | decide | omega) (by first | decide | omega) (by first | decide | omega) bv4 (by first | decide | omega), zb_s, if_pos (show r32 (Pk / barV n d) by unfold r32; omega), m4, m5, if_pos rn, if_pos rd, L_multR (FR_r k0) bv5 (by first | decide | omega) (by first | decide | omega) (by first | decide | omega) (by first | decide | omega) bv4 (by first | decide | omega), zb_s]
    by_cases z : Pk % barV n d = 0
    · rw [if_pos z, if_pos z, if_pos (by decide), if_neg (by decide), f_M_notes_248, if_pos w0, if_pos v0]
    · rw [if_neg z, if_neg z, if_pos (by decide), if_pos rfl, q4, q5, if_pos rn, if_pos rd, L_minusR (by first | decide | omega) (FR_k bv1 (show 0 ≤ Pk / barV n d + 1 by omega)) (FR_r k0) (by first | decide | omega) (by first | decide | omega), zb_s, fr_0, fr_1]
      unfold f_M_pieces
      congr 1
      funext r1 F1 B1
      rw [f_M_notes_248, if_pos w0, if_pos v0]
  rcases hN with ⟨⟨c, hN⟩, hPk⟩ | hX
  · -- the notes so far fit
    subst hPk
    rw [c57, m150]
    by_cases z : Pk % barV n d = 0
    · rw [if_pos z, if_pos z]
      refine ⟨F, B, _, Bm, _, rfl, rfl, fun _ _ _ _ => rfl, fun _ _ _ _ _ => rfl, fun c y k _ h => by rw [zup3_v, if_neg h], fun _ _ _ _ _ _ => rfl, Or.inl ⟨by rw [hN.2.2.2.1]; exact hN, by rw [zup3_v, if_pos (by first | decide | omega), zup3_v, if_neg (by first | decide | omega), zup3_v, if_neg (by first | decide | omega), m4, m5, h7]; unfold clB; rw [if_pos z]⟩⟩
    · rw [if_neg z, if_neg z]
      -- in 512ths
      obtain ⟨a, ha⟩ : ∃ a, Pk = X5 * a := ⟨4 * (Pk / 6350400), by rw [xa]; omega⟩
      have a4 : a % 4 = 0 := by have := xa a; omega
      have x1 := xa a
      have x2 := xa (512 / d * n)
      have dv : Pk / barV n d = a / (512 / d * n) := by rw [ha, b5, X5_d]
      have q1 : a / (512 / d * n) < 100 := by
        rw [← dv]
        apply Int.ediv_lt_of_lt_mul bv4
        rcases Int.lt_or_le Pk (100 * barV n d) with y | y
        · exact y
        · exfalso
          apply z
          rw [show Pk = 100 * barV n d by omega]
          exact Int.mul_emod_left _ _
      have te : (Pk / barV n d + 1) * barV n d = X5 * ((a / (512 / d * n) + 1) * (512 / d * n)) := by
        rw [dv, b5]
        ac_rfl
      have x3 := xa ((a / (512 / d * n) + 1) * (512 / d * n))
      have c1 : Pk + (barV n d - Pk % barV n d) = X5 * ((a / (512 / d * n) + 1) * (512 / d * n)) := by omega
      have c2 : (Pk / barV n d + 1) * barV n d - Pk = X5 * ((a / (512 / d * n) + 1) * (512 / d * n) - a) := by
        have := xa ((a / (512 / d * n) + 1) * (512 / d * n) - a)
        omega
      have ub : (a / (512 / d * n) + 1) * (512 / d * n) ≤ 100 * (512 / d * n) := Int.mul_le_mul_of_nonneg_right (by first | decide | omega) (by first | decide | omega)
      have q0 : 0 ≤ a / (512 / d * n) := Int.ediv_nonneg (by first | decide | omega) (by first | decide | omega)
      have ub2 : (a / (512 / d * n) + 1) * (512 / d * n) ≤ (a / (512 / d * n) + ((100 : Nat) : Int)) * (512 / d * n) := Int.mul_le_mul_of_nonneg_right (by first | decide | omega) (by first | decide | omega)
      have hZ' : ∀ nb y, 0 ≤ nb → 0 ≤ y → y < 512 / d * n → nb * (512 / d * n) + y < (a / (512 / d * n) + 1) * (512 / d * n) → Z nb (X5 * y) := fun nb y n0 y0 y1 h => by
        have x9 := xa y
        refine hZ nb (X5 * y) n0 ?_ (by first | decide | omega) (by first | decide | omega)
        unfold clB
        rw [if_neg z, dv]
        exact Int.lt_of_mul_lt_mul_right (show nb * (512 / d * n) < (a / (512 / d * n) + 1) * (512 / d * n) by omega) (by first | decide | omega)
      have W := P_cutP (K := K) (Km := Km) (m := m) (q := q) (p := p) (v := v) (w := w) (n := n) (d := d) (ev := -1) (ro := 1) (t := (a / (512 / d * n) + 1) * (512 / d * n)) hK hKm h4 hp v0 w0 hn hd ub (m4_m a4 b44).2 hZ' 100 K.1 Km (cnt := 0) (a := a) (F := F) (B := B) (Fm := fr (zup3 (zup3 Fm 13 w 7 (Pk / barV n d)) 13 w 7 (Pk / barV n d + 1)) ((Pk / barV n d + 1) * barV n d - Pk)) (Bm := Bm) (by first | decide | omega) (by first | decide | omega) a4 (Or.inr ub2) (by decide) (by decide) (by first | decide | omega) (by first | decide | omega) e4 e5 (by rw [fr_n (by first | decide | omega), zup3_v, if_neg (by first | decide | omega), zup3_v, if_neg (by first | decide | omega)]; exact m4) (by rw [fr_n (by first | decide | omega), zup3_v, if_neg (by first | decide | omega), zup3_v, if_neg (by first | decide | omega)]; exact m5) (Or.inl ⟨rfl, rfl⟩) (Or.inl ⟨c, hN⟩)
      rw [← b5, ← ha, ← c1, ← c2] at W
      obtain ⟨r1, F1, B1, r1', Fm1, Bm1, y1, y2, o1', o2', o3', o4', o5'⟩ := W
      rw [y1, y2, zb_s, zb_s]
      have h0 : nH w Fm (fr (zup3 (zup3 Fm 13 w 7 (Pk / barV n d)) 13 w 7 (Pk / barV n d + 1)) ((Pk / barV n d + 1) * barV n d - Pk)) := fun c y k h h' => by rw [fr_n (by first | decide | omega), zup3_v, if_neg h', zup3_v, if_neg h']
      refine ⟨F1, B1, Fm1, Bm1, _, rfl, rfl, o1', o2', nH_t h0 (nH_g o3'), o4', ?_⟩
      rcases o5' with ⟨c', h⟩ | h
      · exact Or.inl ⟨by rw [h.2.2.2.1]; exact h, by rw [o3' 13 w 7 (by first | decide | omega), o3' 13 w 4 (by first | decide | omega), o3' 13 w 5 (by first | decide | omega), o1' 4 q 7 (by first | decide | omega), h7, fr_n (by first | decide | omega), fr_n (by first | decide | omega), fr_n (by first | decide | omega), zup3_v, if_pos (by first | decide | omega), zup3_v, if_neg (by first | decide | omega), zup3_v, if_neg (by first | decide | omega), zup3_v, if_neg (by first | decide | omega), zup3_v, if_neg (by first | decide | omega), m4, m5]; unfold clB; rw [if_neg z]⟩
      · exact Or.inr ⟨h.2.2, h⟩
  · -- too many already
    have cE : ∃ F', f_Part_writeNotes_57 K q p F B = f_Part_writeNotes_101 K q p F' B ∧ nF q F F' ∧ NX q v w F' Bm := by
      rw [c57]
      by_cases z : S % barV n d = 0
      · rw [if_pos z]; exact ⟨F, rfl, fun _ _ _ _ => rfl, hX⟩
      · rw [if_neg z]
        obtain ⟨a, ha⟩ : ∃ a, S = X5 * a := ⟨4 * (S / 6350400), by rw [xa]; omega⟩
        have x1 := xa a
        have x2 := xa (512 / d * n)
        have s1 := Int.mul_ediv_add_emod S (barV n d)
        have dv : S / barV n d = a / (512 / d * n) := by rw [ha, b5, X5_d]
        have te : barV n d * (S / barV n d) + barV n d = X5 * ((a / (512 / d * n) + 1) * (512 / d * n)) := by
          rw [dv, b5, Int.add_mul, Int.one_mul, Int.mul_add]
          congr 1
          ac_rfl
        have x3 := xa ((a / (512 / d * n) + 1) * (512 / d * n))
        have c1 : S + (barV n d - S % barV n d) = X5 * ((a / (512 / d * n) + 1) * (512 / d * n)) := by omega
        have q0 : 0 ≤ a / (512 / d * n) := Int.ediv_nonneg (by first | decide | omega) (by first | decide | omega)
        have q1 : a / (512 / d * n) ≤ 100 := by
          rw [← dv]
          exact Int.ediv_le_of_le_mul bv4 (by first | decide | omega)
        have ub : (a / (512 / d * n) + 1) * (512 / d * n) ≤ 101 * (512 / d * n) := Int.mul_le_mul_of_nonneg_right (by first | decide | omega) (by first | decide | omega)
        have ub2 : (a / (512 / d * n) + 1) * (512 / d * n) ≤ (a / (512 / d * n) + ((100 : Nat) : Int)) * (512 / d * n) := Int.mul_le_mul_of_nonneg_right (by first | decide | omega) (by first | decide | omega)
        have lt : S % barV n d < barV n d := o2
        have q1' : a / (512 / d * n) < 100 := by
          rw [← dv]
          apply Int.ediv_lt_of_lt_mul bv4
          rcases Int.lt_or_le S (100 * barV n d) with y | y
          · exact y
          · exfalso
            apply z
            rw [show S = 100 * barV n d by omega]
            exact Int.mul_emod_left _ _
        have ub' : (a / (512 / d * n) + 1) * (512 / d * n) ≤ 100 * (512 / d * n) := Int.mul_le_mul_of_nonneg_right (by first | decide | omega) (by first | decide | omega)
        obtain ⟨F', g1, g2, g3⟩ := C_cutX (m := m) (ev := -1) (ro := 1) (t := (a / (512 / d * n) + 1) * (512 / d * n)) (B := B) (Bm := Bm) hK h4 hp v0 w0 hn hd (by first | decide | omega) 100 K.1 (cnt := 0) (a := a) (F := F) (by first | decide | omega) (by first | decide | omega) (Or.inr ub2) (by decide) (by decide) (by first | decide | omega) e4 e5 (Or.inl ⟨rfl, rfl⟩) hX
        rw [← b5, ← ha, ← c1] at g1
        rw [g1, zb_s]
        exact ⟨F', rfl, g2, g3⟩
    obtain ⟨F', f1, f2, f3⟩ := cE
    have mE : ∃ Fm', f_M_notes_150 Km (de Pk) (nu Pk) w v 1 Fm Bm = some (801, Fm', Bm) ∧ nH w Fm Fm' := by
      rw [m150]
      by_cases z : Pk % barV n d = 0
      · rw [if_pos z, hX.2.2]
        exact ⟨_, rfl, fun c y k _ h => by rw [zup3_v, if_neg h]⟩
      · rw [if_neg z]
        obtain ⟨j, hj⟩ : ∃ j, Km = j + 1 := ⟨Km - 1, (by first | decide | omega)⟩
        have h := FR_r (p := (Pk / barV n d + 1) * barV n d - Pk) (by first | decide | omega)
        have hb := FR_b h
        obtain ⟨d0, _, n0, ee⟩ := h
        have nz : ¬ nu ((Pk / barV n d + 1) * barV n d - Pk) = 0 := fun y => by
          rw [y, Int.zero_mul] at ee
          rcases Int.mul_eq_zero.mp ee.symm with t | t <;> omega
        have e : ∀ G : zF, f_M_pieces_16 Km Km (de ((Pk / barV n d + 1) * barV n d - Pk)) (nu ((Pk / barV n d + 1) * barV n d - Pk)) (de Pk) (nu Pk) w v (-1) 1 G Bm = some (0, G, Bm) := fun G => by
          rw [show f_M_pieces_16 Km Km = f_M_pieces_16 Km (j + 1) by rw [← hj], f_M_pieces_16, if_pos (by unfold r64; omega), if_neg (fun y => by have := zcmp_m.mp y; omega), if_pos w0, if_pos v0, hX.2.2, if_pos (by decide), if_pos (by decide), f_M_pieces_215]
        rw [e, zb_s, hX.2.2]
        exact ⟨_, rfl, fun c y k h h' => by rw [fr_n (by first | decide | omega), zup3_v, if_neg h', zup3_v, if_neg h']⟩
    obtain ⟨Fm', n1, n2⟩ := mE
    exact ⟨F', B, Fm', Bm, 801, f1, n1, f2, fun _ _ _ _ _ => rfl, n2, fun _ _ _ _ _ _ => rfl, Or.inr ⟨rfl, f3⟩⟩
end
