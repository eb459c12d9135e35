section
section
/-! ===== what one voice's reading leaves of the others ===== -/
theorem GS_v {K : zK} {q v w : Int} {F F' : zF} {B B' : zB} {Fm Fm' : zF} {Bm Bm' : zB} (h : GS K B) (q0 : 0 ≤ q ∧ q < K.2 4) (hI : inJ q B) (f : VFR q v w F B Fm Bm F' B' Fm' Bm') : GS K B' := by
  obtain ⟨g1, g2, g3, g4, g5⟩ := h
  have e6 : ∀ y u, B' 6 y 0 u = B 6 y 0 u := fun y u => f.2.1 6 y 0 u (by first | decide | omega) (by first | decide | omega) (by first | decide | omega)
  have e4 : ∀ y x, y ≠ q → B' 4 y 5 x = B 4 y 5 x := fun y x n => f.2.1 4 y 5 x (by first | decide | omega) (by first | decide | omega) (by first | decide | omega)
  have own : ∀ x, 0 ≤ x → x < 200 → ∃ y, 0 ≤ y ∧ y < 200 ∧ B 4 q 5 y = B' 4 q 5 x := fun x a b => (f.2.2.1 _).mp ⟨x, a, b, rfl⟩
  have iJ := f.2.2.2.2.2 hI
  refine ⟨g1, fun p u a b c d => by rw [e6]; exact g2 p u a b c d, fun p u p' u' a b c d a' b' c' d' z e => ?_, fun y x a b c d => ?_, fun y x y' x' a b c d a' b' c' d' e => ?_⟩
  · rw [e6] at z e
    rw [e6] at e
    exact g3 p u p' u' a b c d a' b' c' d' z e
  · by_cases n : y = q
    · rw [n]
      obtain ⟨t, t0, t1, t2⟩ := own x c d
      rw [← t2]
      exact g4 q t q0.1 q0.2 t0 t1
    · rw [e4 y x n]; exact g4 y x a b c d
  · by_cases n : y = q
    · by_cases n' : y' = q
      · rw [n, n'] at e
        exact ⟨by rw [n, n'], iJ x x' c d c' d' e⟩
      · exfalso
        obtain ⟨t, t0, t1, t2⟩ := own x c d
        rw [n, e4 y' x' n', ← t2] at e
        exact n' (g5 q t y' x' q0.1 q0.2 t0 t1 a' b' c' d' e).1.symm
    · by_cases n' : y' = q
      · exfalso
        obtain ⟨t, t0, t1, t2⟩ := own x' c' d'
        rw [n', e4 y x n, ← t2] at e
        exact n (g5 y x q t a b c d q0.1 q0.2 t0 t1 e).1
      · rw [e4 y x n, e4 y' x' n'] at e
        exact g5 y x y' x' a b c d a' b' c' d' e
theorem VD_f {K : zK} {q q' v v' w bar : Int} {m : Nat} {g : Int → Int} {F F' : zF} {B B' : zB} {Fm Fm' : zF} {Bm Bm' : zB} (hv : ¬ v' = v) (v0 : 0 ≤ v ∧ v < 4) (v0' : 0 ≤ v' ∧ v' < 4) (hq : ¬ q' = q) (hd : ∀ i : Int, 0 ≤ i → i < 200 → ¬ ownE B q (B 4 q' 5 i)) (h : VD K q' v' w m bar g F B Bm) (f : VFR q v w F B Fm Bm F' B' Fm' Bm') : VD K q' v' w m bar g F' B' Bm' := by
  obtain ⟨⟨a1, a2, a3⟩, a4, a5, a6, a7, a8, a9, a10, c, nw, qn, gb⟩ := h
  have f4 : ∀ k, F' 4 q' k = F 4 q' k := fun k => f.1 4 q' k (by first | decide | omega) (by first | decide | omega) (by first | decide | omega)
  have b4 : ∀ k x, B' 4 q' k x = B 4 q' k x := fun k x => f.2.1 4 q' k x (by first | decide | omega) (by first | decide | omega) (by first | decide | omega)
  have f1 : ∀ i : Int, 0 ≤ i → i < 200 → ∀ k, F' 1 (B 4 q' 5 i) k = F 1 (B 4 q' 5 i) k := fun i i0 i1 k => f.1 1 _ k (by first | decide | omega) (by first | decide | omega) (fun z => hd i i0 i1 z.2)
  have b1 : ∀ i : Int, 0 ≤ i → i < 200 → ∀ k x, B' 1 (B 4 q' 5 i) k x = B 1 (B 4 q' 5 i) k x := fun i i0 i1 k x => f.2.1 1 _ k x (by first | decide | omega) (by first | decide | omega) (fun z => hd i i0 i1 z.2)
  have m13 : ∀ (k : Nat) x, ¬ inW v w 13 w k x → Bm' 13 w k x = Bm 13 w k x := fun k x n => f.2.2.2.2.1 13 w k x (by first | decide | omega) n
  have m8 : ∀ y, Bm' 14 0 8 y = Bm 14 0 8 y := fun y => f.2.2.2.2.1 14 0 8 y (by first | decide | omega) (by unfold inW; omega)
  have r1 : ∀ (k : Nat) (i : Int), 14 ≤ k → k ≤ 27 → 0 ≤ i → i < 200 → Bm' 13 w k (1000 * v' + i) = Bm 13 w k (1000 * v' + i) := fun k i h0 h1 i0 i1 => m13 k _ (by unfold inW; omega)
  have rE : ∀ i : Nat, i < m → EVW w (B 4 q' 5 i) (1000 * v' + i) F B Bm → EVW w (B 4 q' 5 i) (1000 * v' + i) F' B' Bm' := fun i hi ev => EVW_h ev (fun k _ _ => f1 i (by first | decide | omega) (by first | decide | omega) k) (fun k y => b1 i (by first | decide | omega) (by first | decide | omega) k y) (fun k h0 h1 => r1 k i (by first | decide | omega) (by first | decide | omega) (by first | decide | omega) (by first | decide | omega)) (fun k y h0 h1 y0 y1 => m13 k y (by unfold inW; omega)) m8
  refine ⟨⟨by rw [f4]; exact a1, a2, a3⟩, by rw [m13 12 v' (by unfold inW; omega)]; exact a4, a5, a6, by rw [f4]; exact a7, fun i hi => ?_, fun j hj => ?_, ?_, c, ⟨nw.1, by rw [f4]; exact nw.2.1, by rw [f4]; exact nw.2.2.1, by rw [m13 13 v' (by unfold inW; omega)]; exact nw.2.2.2.1, fun i i0 i1 => ?_⟩, ?_, fun i i0 i1 => by simp only [b4]; exact gb i i0 i1⟩
  · obtain ⟨ev, q1, q2, q3, q4⟩ := a8 i hi
    rw [b4, f1 i (by first | decide | omega) (by first | decide | omega), f1 i (by first | decide | omega) (by first | decide | omega), r1 14 i (by decide) (by decide) (by first | decide | omega) (by first | decide | omega), r1 15 i (by decide) (by decide) (by first | decide | omega) (by first | decide | omega)]
    exact ⟨rE i hi ev, q1, q2, q3, q4⟩
  · rw [b4, f1 j (by first | decide | omega) (by first | decide | omega), r1 27 j (by decide) (by decide) (by first | decide | omega) (by first | decide | omega)]
    exact a9 j hj
  · obtain ⟨w1, w2, w3, w4⟩ := a10
    refine ⟨fun i hi hz => w1 i hi ?_, fun i hi hz => w2 i hi ?_, fun i hi hz => w3 i hi ?_, fun i hi => ?_⟩
    · rcases hz with hz | hz
      · exact Or.inl hz
      · by_cases e : i = m
        · exact Or.inl e
        · rw [b4, f1 i (by first | decide | omega) (by first | decide | omega)] at hz
          exact Or.inr hz
    · rw [b4, f1 i (by first | decide | omega) (by first | decide | omega)] at hz
      exact hz
    · rw [b4, f1 i (by first | decide | omega) (by first | decide | omega)] at hz
      exact hz
    · have := w4 i hi
      unfold TIk at this ⊢
      rw [b4, f1 i (by first | decide | omega) (by first | decide | omega)]
      exact this
  · have := nw.2.2.2.2 i i0 i1
    have c8 := nw.1.2
    unfold NE at this ⊢
    rw [b4, b4, b4, b4, b4, m13 30 _ (by unfold inW; omega), m13 31 _ (by unfold inW; omega), m13 32 _ (by unfold inW; omega), m13 33 _ (by unfold inW; omega), m13 34 _ (by unfold inW; omega), m13 35 _ (by unfold inW; omega)]
    exact this
  · obtain ⟨k1, k2, k3, k4, k5, k6, k7⟩ := qn
    refine ⟨k1, by rw [f4]; exact k2, by rw [f4]; exact k3, by rw [f4]; exact k4, fun i i0 i1 => by rw [b4, b4, b4, b4]; exact k5 i i0 i1, fun t t0 t1 => ?_, fun s s0 s1 => by rw [b4]; exact k7 s s0 s1⟩
    rw [b4, f1 t t0 (by first | decide | omega), f1 t t0 (by first | decide | omega)]
    obtain ⟨j1, j2, j3, j4⟩ := k6 t t0 t1
    refine ⟨j1, j2, j3, fun k h0 h1 => ?_⟩
    rw [b1 t t0 (by first | decide | omega), b1 t t0 (by first | decide | omega)]
    exact j4 k h0 h1
end
end
section
section
/-! ===== one voice read, both sides ===== -/
theorem WS_12 {q v w bar x : Int} {D : Nat} {F : zF} {B : zB} {Fm : zF} {Bm : zB} (h : WS q v w bar D F B Fm Bm) : WS q v w bar D F B Fm (zup4 Bm 13 w 12 v x) := by
  obtain ⟨s1, s2, s3, s4, s5, s6, s7, s8, s9, s10, s11, s12, s13⟩ := h
  have m14 : ∀ k y, (zup4 Bm 13 w 12 v x) 14 0 k y = Bm 14 0 k y := fun k y => by rw [zup4_v, if_neg (by first | decide | omega)]
  refine ⟨s1, s2, s3, s4, s5, s6, s7, by rw [m14]; exact s8, TPL_c s9 (fun k _ _ => ⟨m14 46 k, m14 47 k⟩), s10, fun k u t => by rw [m14]; exact s11 k u t, ⟨s12.1, s12.2.1, s12.2.2.1, fun k u t => ?_⟩, s13.1, s13.2.1, s13.2.2.1, fun i i0 i1 => ?_⟩
  · have := s12.2.2.2 k u t
    unfold CRk at this ⊢
    rw [m14, m14, m14]
    exact this
  · exact EVW_f (s13.2.2.2 i i0 i1) (fun _ => rfl) (fun _ _ => rfl) (fun k h0 h1 => by rw [zup4_v, if_neg (by first | decide | omega)]) (fun k y h0 h1 _ _ => by rw [zup4_v, if_neg (by first | decide | omega)]) (fun y => m14 8 y)
/-- the voices before v are read; what stands for the others -/
def VLS (K : zK) (Km : Nat) (N L V p w n d v : Int) (B0 Bm0 : zB) (F : zF) (B : zB) (Fm : zF) (Bm : zB) : Prop :=
  (3002 ≤ K.1 ∧ 70000000000 < Km ∧ 0 < K.2 11 ∧ 0 < K.2 3 ∧ (0 ≤ p ∧ p < K.2 6) ∧ (0 ≤ w ∧ w < 3) ∧ (1 ≤ n ∧ n ≤ 12) ∧ (d = 2 ∨ d = 4 ∨ d = 8 ∨ d = 16) ∧ (0 ≤ v ∧ v ≤ V ∧ V ≤ 4)) ∧
  (F 6 p 1 = V ∧ Fm 13 w 1 = V ∧ F 6 p 4 = n ∧ F 6 p 5 = d ∧ Fm 13 w 4 = n ∧ Fm 13 w 5 = d ∧ (-7 ≤ F 6 p 2 ∧ F 6 p 2 ≤ 7) ∧ Fm 14 0 6 = w ∧ Fm 14 0 35 = v ∧ Fm 14 0 27 = L) ∧
  (TK B Bm N ∧ WT N B0 Bm0 B Bm ∧ MW Bm0 ∧ LTW L B0 Bm0 ∧ GS K B) ∧
  (∀ u, 0 ≤ u → u < V → (0 ≤ B 6 p 0 u ∧ B 6 p 0 u < K.2 4) ∧ (F 4 (B 6 p 0 u) 3 = Bm 14 0 8 (Bm 14 0 28 u) ∧ 0 ≤ F 4 (B 6 p 0 u) 3 ∧ F 4 (B 6 p 0 u) 3 ≤ 3000) ∧ (0 ≤ F 4 (B 6 p 0 u) 1 ∧ F 4 (B 6 p 0 u) 1 < 4) ∧ (0 ≤ Bm 14 0 28 u ∧ Bm 14 0 28 u ≤ 3000) ∧ (0 ≤ F 4 (B 6 p 0 u) 4 ∧ F 4 (B 6 p 0 u) 4 < 3000) ∧ (0 ≤ Bm 14 0 29 u ∧ Bm 14 0 29 u < 3000) ∧ BKf (IRd L 7) B0 Bm0 (F 4 (B 6 p 0 u) 4) (Bm 14 0 29 u) ∧ (v ≤ u → F 4 (B 6 p 0 u) 6 = 0) ∧ (∀ s, 0 ≤ s → s < 63 → r32 (B 4 (B 6 p 0 u) 12 s))) ∧
  (∀ u, 0 ≤ u → u < v → ∃ m g, VD K (B 6 p 0 u) u w m (barV n d) g F B Bm ∧ (u + 1 = v → Fm 13 w 7 = clB (F 4 (B 6 p 0 u) 7) (barV n d))) ∧
  (F 12 0 7 = p ∧ F 12 0 5 = 0 ∧ F 12 0 4 = 0 ∧ 0 < K.2 12)
theorem P_vstep {K : zK} {Km a b : Nat} {N L V p w n d v l1 : Int} {B0 Bm0 : zB} {F : zF} {B : zB} {Fm : zF} {Bm : zB} (h : VLS K Km N L V p w n d v B0 Bm0 F B Fm Bm) (h17 : Fm 14 0 17 = 0) (vV : v < V) : ∃ r F' B' Fm' Bm', f_S_read_54 (a + 1) K v 0 0 l1 F B = f_S_read_54 a K (v + 1) r 0 l1 F' B' ∧ f_M_through_5 Km (b + 1) Fm Bm = f_M_through_5 Km b (zup3 Fm' 14 0 35 (v + 1)) Bm' ∧ VFR (B 6 p 0 v) v w F B Fm Bm F' B' Fm' Bm' ∧ (∀ s, 0 ≤ s → s < 63 → r32 (B' 4 (B 6 p 0 v) 12 s)) ∧ ((r = 0 ∧ Fm' 14 0 17 = 0 ∧ ∃ m g, VD K (B 6 p 0 v) v w m (barV n d) g F' B' Bm' ∧ Fm' 13 w 7 = clB (F' 4 (B 6 p 0 v) 7) (barV n d)) ∨ (bad Fm' ∧ r = Fm' 14 0 17 + 16 * Fm' 14 0 18 ∧ 0 ≤ Fm' 14 0 18 ∧ Fm' 14 0 18 ≤ 3000)) := by
  obtain ⟨⟨hK, hKm, h11, h3, hp, w0, hn, hd, v0⟩, ⟨c1, c2, c3, c4, c5, c6, c7, c8, c9, c10⟩, ⟨hTK, hT, hMW, hLT, hGS⟩, hU, _, ⟨o7, o5, o4, h12k⟩⟩ := h
  obtain ⟨u1, ⟨u2, u2', u2''⟩, u3, u4, u5, u6, u7, u8, u9⟩ := hU v v0.1 vV
  generalize hq : B 6 p 0 v = q at *
  have hV : ∀ t, 0 ≤ t → t < 200 → 0 ≤ B 4 q 5 t ∧ B 4 q 5 t < K.2 1 := fun t t0 t1 => by have := hGS.2.2.2.1 q t u1.1 u1.2 t0 t1; omega
  have hI : inJ q B := fun t t' a0 a1 b0 b1 e => (hGS.2.2.2.2 q t q t' u1.1 u1.2 a0 a1 u1.1 u1.2 b0 b1 e).2
  obtain ⟨r, F1, B1, r', Fm1, Bm1, y1, y2, er, f5, s⟩ := P_walkV (K := K) (Km := Km) (N := N) (nl := L) (p := p) (q := q) (v := v) (w := w) (n := n) (d := d) (x := F 4 q 4) (a := Bm 14 0 29 v) (B0 := B0) (Bm0 := Bm0) (F := F) (B := B) (Fm := Fm) (Bm := Bm) hK (by first | decide | omega) h11 h3 u1 hp (by first | decide | omega) w0 hTK hV hI c3 c4 c5 c6 hn hd hT hMW hLT c10 h17 c9 c8 rfl u5 (u8 (Int.le_refl _)) rfl u6 u7
  have rv : r32 v := by unfold r32; omega
  have rV : r32 V := by unfold r32; omega
  have mE : f_M_through_5 Km (b + 1) Fm Bm = f_M_through_73 (f_M_through_5 Km b) Km Km 0 (vzF Fm) Bm := by
    rw [f_M_through_5, c8, if_pos w0, c9, if_pos rv, c2, if_pos rV, if_neg (by first | decide | omega), L_good h17, zb_s, if_pos (by decide), if_neg (by decide)]
    rfl
  rw [mE, L_t73 (v := v) (a := Bm 14 0 29 v) (by first | decide | omega) (by rw [vzF_n (by first | decide | omega)]; exact c9) (by first | decide | omega) rfl u6, y2, zb_s]
  rw [f_S_read_54, if_pos ⟨Int.le_refl _, h12k⟩, o7, if_pos hp, if_pos rv, c1, if_pos rV, if_neg (by first | decide | omega), if_pos (show r32 0 by decide), if_pos (show (0 : Int) = 0 from rfl), if_pos (show 0 ≤ v ∧ v < 4 by omega), o5, if_pos ⟨Int.le_refl _, h11⟩, o4, if_pos ⟨Int.le_refl _, h3⟩, hq, if_pos u1, y1, zbN_s]
  have fA := VFR_5 f5
  have g6 : Fm1 14 0 6 = w := by rw [f5.2.2.2.1 14 0 6 (by first | decide | omega)]; exact c8
  have g35 : Fm1 14 0 35 = v := by rw [f5.2.2.2.1 14 0 35 (by first | decide | omega)]; exact c9
  have fB : VFR q v w F1 B1 Fm1 Bm1 F1 B1 Fm1 (zup4 Bm1 13 w 12 v (Fm1 14 0 36)) := VFR_s (fun _ _ _ _ _ => rfl) (fun _ _ _ _ _ => rfl) (fun _ _ _ _ _ => rfl) (fun c i k x hh => by rw [zup4_v, if_neg (fun z => hh (by unfold inW; omega))])
  have k12 : ∀ s, 0 ≤ s → s < 63 → r32 (B1 4 q 12 s) := fun s s0 s1 => by rw [f5.2.1 4 q 12 s (by first | decide | omega) (by first | decide | omega) (by first | decide | omega)]; exact u9 s s0 s1
  unfold thT
  rw [g6, if_pos w0, g35, if_pos (show 0 ≤ v ∧ v < 4 by omega)]
  rcases s with ⟨s, hsum⟩ | s
  · have r0 : r = 0 := by rw [er]; exact s.1.2.2.1
    have a17 := s.1.2.2.2
    have p7 : F1 12 0 7 = p := by rw [f5.1 12 0 7 (by first | decide | omega) (by first | decide | omega) (by first | decide | omega)]; exact o7
    have b6 : B1 6 p 0 v = q := by rw [f5.2.1 6 p 0 v (by first | decide | omega) (by first | decide | omega) (by first | decide | omega)]; exact hq
    have F6 : ∀ k, F1 6 p k = F 6 p k := fun k => f5.1 6 p k (by first | decide | omega) (by first | decide | omega) (by first | decide | omega)
    have F4 : ∀ k, k < 6 → F1 4 q k = F 4 q k := fun k hk => f5.1 4 q k (by first | decide | omega) (by first | decide | omega) (by first | decide | omega)
    have m8 : ∀ k y, k < 42 → (zup4 Bm1 13 w 12 v (Fm1 14 0 36)) 14 0 k y = Bm 14 0 k y := fun k y hk => by rw [zup4_v, if_neg (by first | decide | omega), f5.2.2.2.2.1 14 0 k y (by first | decide | omega) (by unfold inV; omega)]
    obtain ⟨r2, F2, B2, r2', Fm2, Bm2, z1, z2, j1, j2, j3⟩ := P_judge (K := K) (Km := Km) (q := q) (p := p) (v := v) (w := w) (n := n) (d := d) (F := F1) (B := B1) (Fm := Fm1) (Bm := zup4 Bm1 13 w 12 v (Fm1 14 0 36)) hK hKm u1 hp (by first | decide | omega) w0 hn hd (by rw [F6]; exact c3) (by rw [F6]; exact c4) (by rw [F6]; exact c7) (by rw [f5.2.2.2.1 13 w 4 (by first | decide | omega)]; exact c5) (by rw [f5.2.2.2.1 13 w 5 (by first | decide | omega)]; exact c6) (fun t t0 t1 => by
      obtain ⟨j, j0, j1, j2⟩ := (f5.2.2.1 _).mp ⟨t, t0, t1, rfl⟩
      rw [← j2]
      exact hV j j0 j1) f5.2.2.2.2.2 (by rw [F4 1 (by decide)]; exact u3) k12 (by rw [F4 3 (by decide), m8 28 v (by decide), m8 8 _ (by decide)]; exact u2) (by rw [m8 28 v (by decide)]; exact u4) (by rw [F4 3 (by decide)]; exact ⟨u2', u2''⟩) (WS_12 s) hsum (by rw [zup4_v, if_pos (by first | decide | omega)])
    rw [r0, if_pos (show r32 0 by decide), if_pos (show (0 : Int) = 0 from rfl), p7, if_pos hp, b6, if_pos u1, z1, zbN_s, f_S_read_115, L_good a17, zb_s, if_pos (show r32 1 by decide), if_neg (show ¬ (1 : Int) = 0 by decide), z2, zb_s, f_M_through_148]
    have g35' : Fm2 14 0 35 = v := by rw [j1.2.2.2.1 14 0 35 (by first | decide | omega) (by first | decide | omega)]; exact g35
    rw [g35']
    exact ⟨r2, F2, B2, Fm2, Bm2, rfl, rfl, VFR_t fA (VFR_t fB j1), j2, j3⟩
  · obtain ⟨n1, n2⟩ := WE_n s
    rw [er, if_pos n1, if_neg n2, f_S_read_115, L_goodB s.2.2.2.1, zb_s, if_pos (show r32 0 by decide), if_pos (show (0 : Int) = 0 from rfl), f_M_through_148, g35]
    exact ⟨_, F1, B1, Fm1, _, rfl, rfl, VFR_t fA fB, k12, Or.inr ⟨s.2.2.2.1, s.2.2.1, s.2.2.2.2.1⟩⟩
end
end
