section
section
/-! ===== the voices of a text, both sides, up to what is kept of the piece ===== -/
theorem VLS_F {K : zK} {Km : Nat} {N L V p w n d v : Int} {B0 Bm0 : zB} {F F' : zF} {B : zB} {Fm : zF} {Bm : zB} (h : VLS K Km N L V p w n d v B0 Bm0 F B Fm Bm) (f : ∀ c y k, ¬ c = 0 → F' c y k = F c y k) : VLS K Km N L V p w n d v B0 Bm0 F' B Fm Bm := by
  have e1 : F' 1 = F 1 := by funext y k; exact f 1 y k (by decide)
  have e4 : F' 4 = F 4 := by funext y k; exact f 4 y k (by decide)
  have e6 : F' 6 = F 6 := by funext y k; exact f 6 y k (by decide)
  have e12 : F' 12 = F 12 := by funext y k; exact f 12 y k (by decide)
  unfold VLS VD EVW EPR SLs BW TIk NW QN at h ⊢
  rw [e1, e4, e6, e12]
  exact h
theorem P_thr {K : zK} {Km : Nat} {N L V p w l1 : Int} {F : zF} {B : zB} {Fm : zF} {Bm : zB} (h : VI K Km N L V N p w F B Fm Bm) (V1 : 1 ≤ V) (hKm : 70000000000 < Km) (h0 : 0 < K.2 0) (h11 : 0 < K.2 11) (h12 : 0 < K.2 12) (o0 : F 12 0 0 = 0) (o7 : F 12 0 7 = p) (o5 : F 12 0 5 = 0) (o4 : F 12 0 4 = 0) (h17 : Fm 14 0 17 = 0) (hr : ∀ u, 0 ≤ u → u < V → ∀ s, 0 ≤ s → s < 63 → r32 (B 4 (B 6 p 0 u) 12 s)) : ∃ fl F1 F' B' Fm1 Fm' Bm', f_S_read_54 K.1 K 0 0 0 l1 F B = f_S_read_140 K fl 0 l1 F' B' ∧ f_M_through Km Fm Bm = some (0, Fm', Bm') ∧ VTF p w F B (zup3 Fm 14 0 35 0) Bm F1 B' Fm1 Bm' ∧ (∀ c y k, ¬ (c = 0 ∧ y = 0 ∧ (k = 1 ∨ k = 2)) → ¬ (c = 6 ∧ y = p ∧ k = 7) → F' c y k = F1 c y k) ∧ (F' 0 0 1 = 0 ∧ F' 0 0 2 = 0) ∧ (∀ c y j, ¬ (c = 14 ∧ y = 0 ∧ (j ≤ 1 ∨ j = 17 ∨ j = 18)) → Fm' c y j = Fm1 c y j) ∧ (∀ u, 0 ≤ u → u < V → ∀ s, 0 ≤ s → s < 63 → r32 (B' 4 (B 6 p 0 u) 12 s)) ∧ GS K B' ∧ r32 fl ∧ ((fl = 0 ∧ Fm' 14 0 17 = 0 ∧ (F' 6 p 7 = Fm' 13 w 7 ∧ 0 ≤ F' 6 p 7 ∧ F' 6 p 7 ≤ 100 ∧ ∀ u, 0 ≤ u → u < V → Fm' 13 w 7 = clB (F1 4 (B' 6 p 0 u) 7) (barV (F 6 p 4) (F 6 p 5))) ∧ VLS K Km N L V p w (F 6 p 4) (F 6 p 5) V B (byB N Bm) F1 B' Fm1 Bm') ∨ (bad Fm' ∧ fl = Fm' 14 0 17 + 16 * Fm' 14 0 18 ∧ 0 ≤ Fm' 14 0 18 ∧ Fm' 14 0 18 ≤ 3000)) := by
  have hS := VLS_0 h hKm h11 h12 o7 o5 o4 hr
  have hK := hS.1.1
  have hp := hS.1.2.2.2.2.1
  have w0 := hS.1.2.2.2.2.2.1
  have v4 := hS.1.2.2.2.2.2.2.2.2
  obtain ⟨fl, F1, B1, Fm1, Bm1, x1, x2, x3, x4, x5, x6⟩ := P_vs (l1 := l1) V.toNat K.1 Km (v := 0) (by first | decide | omega) (by first | decide | omega) (by first | decide | omega) hS (by rw [zup3_v, if_neg (by first | decide | omega)]; exact h17)
  have F12 : ∀ k, F1 12 0 k = F 12 0 k := fun k => x3.1 12 0 k (by first | decide | omega) (by first | decide | omega) (by first | decide | omega)
  have cn : ∀ c y k, ¬ (c = 0 ∧ y = 0 ∧ (k = 1 ∨ k = 2)) → zup3 (zup3 F1 0 0 1 0) 0 0 2 0 c y k = F1 c y k := fun c y k hh => by rw [zup3_v, if_neg (by first | decide | omega), zup3_v, if_neg (by first | decide | omega)]
  have cl : f_ByteRow_clear K 0 F1 B1 = some (0, zup3 (zup3 F1 0 0 1 0) 0 0 2 0, B1) := by
    unfold f_ByteRow_clear
    rw [if_pos ⟨Int.le_refl _, h0⟩]
  have z1 : zup3 (zup3 F1 0 0 1 0) 0 0 2 0 0 0 1 = 0 := by rw [zup3_v, if_neg (by first | decide | omega), zup3_v, if_pos (by first | decide | omega)]
  have z2 : zup3 (zup3 F1 0 0 1 0) 0 0 2 0 0 0 2 = 0 := by rw [zup3_v, if_pos (by first | decide | omega)]
  have z7 : zup3 (zup3 F1 0 0 1 0) 0 0 2 0 12 0 7 = p := by rw [cn 12 0 7 (by first | decide | omega), F12]; exact o7
  have c121 : f_S_read_121 K fl 0 l1 F1 B1 = if r32 fl then (if fl = 0 then zbindN (f_Piece_judgeEnds K p (zup3 (zup3 F1 0 0 1 0) 0 0 2 0) B1) (fun r41 F41 B41 => f_S_read_140 K r41 0 l1 F41 B41) else f_S_read_140 K fl 0 l1 (zup3 (zup3 F1 0 0 1 0) 0 0 2 0) B1) else none := by
    unfold f_S_read_121
    rw [if_pos ⟨Int.le_refl _, h12⟩, F12, o0, if_pos ⟨Int.le_refl _, h0⟩, cl, zbN_s, z7, if_pos hp]
  have tE : f_M_through Km Fm Bm = f_M_through_163 Km Km 1 Fm1 Bm1 := by
    unfold f_M_through
    rw [x2, f_M_through_161]
  rw [x1, c121, tE]
  rcases x6 with ⟨rfl, k17, hV⟩ | ⟨bd, efl, q0, q1⟩
  · obtain ⟨r2, F2, Fm2, y1, y2, y3, y4, y5⟩ := P_ends (V.toNat - 1) K.1 Km (k := 1) (by first | decide | omega) (by decide) (fun u u0 u1 => by rw [show u = 0 by omega]) (by first | decide | omega) (by first | decide | omega) (VLS_F hV (F' := zup3 (zup3 F1 0 0 1 0) 0 0 2 0) (fun c y k hc => cn c y k (by first | decide | omega))) k17
    rw [if_pos (by decide), if_pos rfl, f_Piece_judgeEnds, y1, zbN_s, y2]
    refine ⟨r2, F1, F2, B1, Fm1, Fm2, Bm1, rfl, rfl, x3, fun c y k a b => by rw [y3 c y k b, cn c y k a], ⟨by rw [y3 0 0 1 (by first | decide | omega)]; exact z1, by rw [y3 0 0 2 (by first | decide | omega)]; exact z2⟩, y4, x4, x5, ?_, ?_⟩
    · rcases y5 with ⟨rfl, _⟩ | ⟨bd, e, q0, q1⟩
      · decide
      · unfold bad at bd; unfold r32; omega
    · rcases y5 with ⟨a, b, c⟩ | hb
      · refine Or.inl ⟨a, b, ⟨c.1, c.2.1, c.2.2.1, fun u u0 u1 => ?_⟩, hV⟩
        have := c.2.2.2 u u0 u1
        rw [cn 4 _ 7 (by first | decide | omega)] at this
        exact this
      · exact Or.inr hb
  · have rf : r32 fl ∧ ¬ fl = 0 := by unfold bad at bd; unfold r32; omega
    rw [if_pos rf.1, if_neg rf.2]
    refine ⟨fl, F1, _, B1, Fm1, Fm1, Bm1, rfl, ?_, x3, fun c y k a _ => cn c y k a, ⟨z1, z2⟩, fun _ _ _ _ => rfl, x4, x5, rf.1, Or.inr ⟨bd, efl, q0, q1⟩⟩
    have g6 : Fm1 14 0 6 = w := by rw [x3.2.2.2.1 14 0 6 (by first | decide | omega) (by first | decide | omega)]; exact hS.2.1.2.2.2.2.2.2.2.1
    have gV : Fm1 13 w 1 = V := by rw [x3.2.2.2.1 13 w 1 (by first | decide | omega) (by first | decide | omega)]; exact hS.2.1.2.1
    obtain ⟨j, hj⟩ : ∃ j, Km = j + 1 := ⟨Km - 1, (by first | decide | omega)⟩
    rw [show f_M_through_163 Km Km = f_M_through_163 Km (j + 1) by rw [← hj], f_M_through_163, g6, if_pos w0, if_pos (by decide), gV, if_pos (by unfold r32; omega)]
    simp only [f_M_through_339]
    by_cases z : V ≤ 1
    · rw [if_pos z]
    · rw [if_neg z, L_goodB bd, zb_s, if_pos (by decide), if_pos rfl]
end
end
section
section
/-! ===== a text with a fault: the class's read ends ===== -/
theorem C_rdX {K : zK} {p r l1 : Int} {F : zF} {B : zB} (hK : 3002 ≤ K.1) (h0 : 0 < K.2 0) (h12 : 0 < K.2 12) (hp : 0 ≤ p ∧ p < K.2 6) (o7 : F 12 0 7 = p) (o0 : F 12 0 0 = 0) (rV : r32 (F 6 p 1)) (rr : r32 r) (rz : ¬ r = 0) : f_S_read_54 K.1 K 0 r 0 l1 F B = some (r, zup3 (zup3 F 0 0 1 0) 0 0 2 0, B, K) := by
  obtain ⟨k, hk⟩ : ∃ k, K.1 = k + 1 := ⟨K.1 - 1, (by first | decide | omega)⟩
  have c121 : f_S_read_121 K r 0 l1 F B = some (r, zup3 (zup3 F 0 0 1 0) 0 0 2 0, B, K) := by
    unfold f_S_read_121 f_ByteRow_clear f_S_read_140
    rw [if_pos ⟨Int.le_refl _, h12⟩, o0, if_pos ⟨Int.le_refl _, h0⟩, if_pos ⟨Int.le_refl _, h0⟩, zbN_s, if_pos rr, if_neg rz, if_pos rr, if_neg rz]
  rw [show f_S_read_54 K.1 = f_S_read_54 (k + 1) by rw [← hk], f_S_read_54, if_pos ⟨Int.le_refl _, h12⟩, o7, if_pos hp, if_pos (by decide), if_pos rV]
  by_cases z : F 6 p 1 ≤ 0
  · rw [if_pos z, c121]
  · rw [if_neg z, if_pos rr, if_neg rz, c121]
end
end
section
section
/-! ===== the reference's events learn the places of their tokens ===== -/
theorem L_r70 {K m : Nat} {rec : Int → Int → zF → zB → zO} {u w l1 : Int} {F : zF} (w0 : 0 ≤ w ∧ w < 3) (h6 : F 14 0 6 = w) (u0 : 0 ≤ u ∧ u < 4) (m1 : m ≤ 200) : ∀ (r n k : Nat) {B : zB}, k + r = m → r < n → B 13 w 12 u = m → (∀ i : Nat, k ≤ i → i < m → 0 ≤ B 13 w 20 (1000 * u + i) ∧ B 13 w 20 (1000 * u + i) ≤ 3000) → ∃ B', f_M_read_70 rec K n k u l1 F B = rec (u + 1) l1 F B' ∧ (∀ i : Nat, k ≤ i → i < m → B' 13 w 20 (1000 * u + i) = B 14 0 8 (B 13 w 20 (1000 * u + i))) ∧ (∀ c y j x, ¬ (c = 13 ∧ y = w ∧ j = 20 ∧ 1000 * u + k ≤ x ∧ x < 1000 * u + m) → B' c y j x = B c y j x) := by
  intro r
  induction r with
  | zero =>
    intro n k B kr hn h12 ht
    obtain ⟨n, rfl⟩ : ∃ j, n = j + 1 := ⟨n - 1, (by first | decide | omega)⟩
    have rk : r32 (k : Int) := by unfold r32; omega
    have rm : r32 (m : Int) := by unfold r32; omega
    rw [f_M_read_70, h6, if_pos w0, if_pos u0, if_pos rk, h12, if_pos rm, if_pos (by first | decide | omega)]
    exact ⟨B, rfl, fun i a b => (by first | decide | omega), fun _ _ _ _ _ => rfl⟩
  | succ r ih =>
    intro n k B kr hn h12 ht
    obtain ⟨n, rfl⟩ : ∃ j, n = j + 1 := ⟨n - 1, (by first | decide | omega)⟩
    have rk : r32 (k : Int) := by unfold r32; omega
    have rm : r32 (m : Int) := by unfold r32; omega
    have tk := ht k (Nat.le_refl _) (by first | decide | omega)
    rw [f_M_read_70, h6, if_pos w0, if_pos u0, if_pos rk, h12, if_pos rm, if_neg (by first | decide | omega), if_pos (by first | decide | omega), if_pos (by first | decide | omega)]
    generalize hC : zup4 B 13 w 20 (1000 * u + k) (B 14 0 8 (B 13 w 20 (1000 * u + k))) = C
    have cn : ∀ c y j x, ¬ (c = 13 ∧ y = w ∧ j = 20 ∧ x = 1000 * u + k) → C c y j x = B c y j x := fun c y j x hh => by rw [← hC, zup4_v, if_neg hh]
    have cv : C 13 w 20 (1000 * u + k) = B 14 0 8 (B 13 w 20 (1000 * u + k)) := by rw [← hC, zup4_v, if_pos (by first | decide | omega)]
    obtain ⟨B', g1, g2, g3⟩ := ih n (k + 1) (B := C) (by first | decide | omega) (by first | decide | omega) (by rw [cn 13 w 12 u (by first | decide | omega)]; exact h12) (fun i a b => by rw [cn 13 w 20 _ (by first | decide | omega)]; exact ht i (by first | decide | omega) b)
    rw [show ((k + 1 : Nat) : Int) = (k : Int) + 1 by omega] at g1
    refine ⟨B', g1, fun i a b => ?_, fun c y j x hh => by rw [g3 c y j x (by first | decide | omega), cn c y j x (by first | decide | omega)]⟩
    by_cases e : i = k
    · rw [e, g3 13 w 20 _ (by first | decide | omega), cv]
    · rw [g2 i (by first | decide | omega) b, cn 14 0 8 _ (by first | decide | omega), cn 13 w 20 _ (by first | decide | omega)]
end
end
section
section
/-! ===== the same, for all voices ===== -/
theorem L_r57 {K : Nat} {w V l1 : Int} {F : zF} (hK : 3002 ≤ K) (w0 : 0 ≤ w ∧ w < 3) (h6 : F 14 0 6 = w) (hV : F 13 w 1 = V) (V4 : V ≤ 4) : ∀ (r n : Nat) {u : Int} {B : zB}, u + r = V → 0 ≤ u → r < n → (∀ t, u ≤ t → t < V → ∃ m : Nat, B 13 w 12 t = m ∧ m ≤ 200 ∧ ∀ i : Nat, i < m → 0 ≤ B 13 w 20 (1000 * t + i) ∧ B 13 w 20 (1000 * t + i) ≤ 3000) → ∃ B' n', 0 < n' ∧ f_M_read_57 K n u l1 F B = f_M_read_57 K n' V l1 F B' ∧ (∀ (t : Int) (m i : Nat), u ≤ t → t < V → B 13 w 12 t = m → i < m → B' 13 w 20 (1000 * t + i) = B 14 0 8 (B 13 w 20 (1000 * t + i))) ∧ (∀ c y j x, ¬ (c = 13 ∧ y = w ∧ j = 20 ∧ 1000 * u ≤ x) → B' c y j x = B c y j x) := by
  intro r
  induction r with
  | zero =>
    intro n u B ur u0 hn ht
    rw [show u = V by omega]
    exact ⟨B, n, (by first | decide | omega), rfl, fun t m i a b => (by first | decide | omega), fun _ _ _ _ _ => rfl⟩
  | succ r ih =>
    intro n u B ur u0 hn ht
    obtain ⟨n, rfl⟩ : ∃ j, n = j + 1 := ⟨n - 1, (by first | decide | omega)⟩
    have ru : r32 u := by unfold r32; omega
    have rV : r32 V := by unfold r32; omega
    obtain ⟨m, e12, m1, hb⟩ := ht u (Int.le_refl _) (by first | decide | omega)
    obtain ⟨C, g1, g2, g3⟩ := L_r70 (K := K) (rec := f_M_read_57 K n) (l1 := l1) (F := F) w0 h6 (by first | decide | omega) m1 m K 0 (B := B) (by first | decide | omega) (by first | decide | omega) e12 (fun i _ b => hb i b)
    rw [f_M_read_57, h6, if_pos w0, if_pos ru, hV, if_pos rV, if_neg (by first | decide | omega)]
    have g1' : f_M_read_70 (f_M_read_57 K n) K K 0 u l1 F B = f_M_read_57 K n (u + 1) l1 F C := g1
    rw [g1']
    obtain ⟨B', n', n0, k1, k2, k3⟩ := ih n (u := u + 1) (B := C) (by first | decide | omega) (by first | decide | omega) (by first | decide | omega) (fun t a b => by
      obtain ⟨m', x1, x2, x3⟩ := ht t (by first | decide | omega) b
      refine ⟨m', by rw [g3 13 w 12 t (by first | decide | omega)]; exact x1, x2, fun i hi => ?_⟩
      rw [g3 13 w 20 _ (by first | decide | omega)]
      exact x3 i hi)
    refine ⟨B', n', n0, k1, fun t m' i a b c hi => ?_, fun c y j x hh => by rw [k3 c y j x (by first | decide | omega), g3 c y j x (by first | decide | omega)]⟩
    by_cases e : t = u
    · subst e
      have em : m' = m := by omega
      subst em
      have kf : B' 13 w 20 (1000 * t + i) = C 13 w 20 (1000 * t + i) := by
        exact k3 13 w 20 _ (by first | decide | omega)
      rw [kf]
      exact g2 i (by first | decide | omega) hi
    · obtain ⟨m'', x1, x2, x3⟩ := ht t (by first | decide | omega) b
      rw [k2 t m' i (by first | decide | omega) b (by rw [g3 13 w 12 t (by first | decide | omega)]; exact c) hi, g3 13 w 20 _ (by first | decide | omega), g3 14 0 8 _ (by first | decide | omega)]
end
end
