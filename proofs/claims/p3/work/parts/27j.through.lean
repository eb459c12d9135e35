section
/-! ===== the voices of a text, both sides, up to what is kept of the piece ===== -/
theorem VLS_F {K : zK} {Km : Nat} {N L V p w n d v : Int} {B0 Bm0 : zB} {F F' : zF} {B : zB} {Fm : zF} {Bm : zB} (h : VLS K Km N L V p w n d v B0 Bm0 F B Fm Bm) (f : ∀ c y k, ¬ c = 0 → F' c y k = F c y k) : VLS K Km N L V p w n d v B0 Bm0 F' B Fm Bm := by
  have e1 : F' 1 = F 1 := by funext y k; exact f 1 y k (by decide)
  have e4 : F' 4 = F 4 := by funext y k; exact f 4 y k (by decide)
  have e6 : F' 6 = F 6 := by funext y k; exact f 6 y k (by decide)
  have e12 : F' 12 = F 12 := by funext y k; exact f 12 y k (by decide)
  unfold VLS VD EVW EPR SLs BW TIk NW QN at h ⊢
  rw [e1, e4, e6, e12]
  exact h
theorem P_thr {K : zK} {Km : Nat} {N L V p w l1 : Int} {F : zF} {B : zB} {Fm : zF} {Bm : zB} (h : VI K Km N L V N p w F B Fm Bm) (V1 : 1 ≤ V) (hKm : 70000000000 < Km) (h0 : 0 < K.2 0) (h11 : 0 < K.2 11) (h12 : 0 < K.2 12) (o0 : F 12 0 0 = 0) (o7 : F 12 0 7 = p) (o5 : F 12 0 5 = 0) (o4 : F 12 0 4 = 0) (h17 : Fm 14 0 17 = 0) (hr : ∀ u, 0 ≤ u → u < V → ∀ s, 0 ≤ s → s < 63 → r32 (B 4 (B 6 p 0 u) 12 s)) : ∃ fl F1 F' B' Fm1 Fm' Bm', f_S_read_54 K.1 K 0 0 0 l1 F B = f_S_read_140 K fl 0 l1 F' B' ∧ f_M_through Km Fm Bm = some (0, Fm', Bm') ∧ VTF p w F B (zup3 Fm 14 0 35 0) Bm F1 B' Fm1 Bm' ∧ (∀ c y k, ¬ (c = 0 ∧ y = 0 ∧ (k = 1 ∨ k = 2)) → ¬ (c = 6 ∧ y = p ∧ k = 7) → F' c y k = F1 c y k) ∧ (F' 0 0 1 = 0 ∧ F' 0 0 2 = 0) ∧ (∀ c y j, ¬ (c = 14 ∧ y = 0 ∧ (j ≤ 1 ∨ j = 17 ∨ j = 18)) → Fm' c y j = Fm1 c y j) ∧ (∀ u, 0 ≤ u → u < V → ∀ s, 0 ≤ s → s < 63 → r32 (B' 4 (B 6 p 0 u) 12 s)) ∧ GS K B' ∧ r32 fl ∧ ((fl = 0 ∧ Fm' 14 0 17 = 0 ∧ (F' 6 p 7 = Fm' 13 w 7 ∧ 0 ≤ F' 6 p 7 ∧ F' 6 p 7 ≤ 100 ∧ ∀ u, 0 ≤ u → u < V → Fm' 13 w 7 = clB (F1 4 (B' 6 p 0 u) 7) (barV (F 6 p 4) (F 6 p 5))) ∧ VLS K Km N L V p w (F 6 p 4) (F 6 p 5) V B (byB N Bm) F1 B' Fm1 Bm') ∨ (bad Fm' ∧ fl = Fm' 14 0 17 + 16 * Fm' 14 0 18 ∧ 0 ≤ Fm' 14 0 18 ∧ Fm' 14 0 18 ≤ 3000)) := by
  have hS := VLS_0 h hKm h11 h12 o7 o5 o4 hr
  have hK := hS.1.1
  have hp := hS.1.2.2.2.2.1
  have w0 := hS.1.2.2.2.2.2.1
  have v4 := hS.1.2.2.2.2.2.2.2.2
  obtain ⟨fl, F1, B1, Fm1, Bm1, x1, x2, x3, x4, x5, x6⟩ := P_vs (l1 := l1) V.toNat K.1 Km (v := 0) (by omega) (by omega) (by omega) hS (by rw [zup3_v, if_neg (by omega)]; exact h17)
  have F12 : ∀ k, F1 12 0 k = F 12 0 k := fun k => x3.1 12 0 k (by omega) (by omega) (by omega)
  have cn : ∀ c y k, ¬ (c = 0 ∧ y = 0 ∧ (k = 1 ∨ k = 2)) → zup3 (zup3 F1 0 0 1 0) 0 0 2 0 c y k = F1 c y k := fun c y k hh => by rw [zup3_v, if_neg (by omega), zup3_v, if_neg (by omega)]
  have cl : f_ByteRow_clear K 0 F1 B1 = some (0, zup3 (zup3 F1 0 0 1 0) 0 0 2 0, B1) := by
    unfold f_ByteRow_clear
    rw [if_pos ⟨Int.le_refl _, h0⟩]
  have z1 : zup3 (zup3 F1 0 0 1 0) 0 0 2 0 0 0 1 = 0 := by rw [zup3_v, if_neg (by omega), zup3_v, if_pos (by omega)]
  have z2 : zup3 (zup3 F1 0 0 1 0) 0 0 2 0 0 0 2 = 0 := by rw [zup3_v, if_pos (by omega)]
  have z7 : zup3 (zup3 F1 0 0 1 0) 0 0 2 0 12 0 7 = p := by rw [cn 12 0 7 (by omega), F12]; exact o7
  have c121 : f_S_read_121 K fl 0 l1 F1 B1 = if r32 fl then (if fl = 0 then zbindN (f_Piece_judgeEnds K p (zup3 (zup3 F1 0 0 1 0) 0 0 2 0) B1) (fun r41 F41 B41 => f_S_read_140 K r41 0 l1 F41 B41) else f_S_read_140 K fl 0 l1 (zup3 (zup3 F1 0 0 1 0) 0 0 2 0) B1) else none := by
    unfold f_S_read_121
    rw [if_pos ⟨Int.le_refl _, h12⟩, F12, o0, if_pos ⟨Int.le_refl _, h0⟩, cl, zbN_s, z7, if_pos hp]
  have tE : f_M_through Km Fm Bm = f_M_through_163 Km Km 1 Fm1 Bm1 := by
    unfold f_M_through
    rw [x2, f_M_through_161]
  rw [x1, c121, tE]
  rcases x6 with ⟨rfl, k17, hV⟩ | ⟨bd, efl, q0, q1⟩
  · obtain ⟨r2, F2, Fm2, y1, y2, y3, y4, y5⟩ := P_ends (V.toNat - 1) K.1 Km (k := 1) (by omega) (by decide) (fun u u0 u1 => by rw [show u = 0 by omega]) (by omega) (by omega) (VLS_F hV (F' := zup3 (zup3 F1 0 0 1 0) 0 0 2 0) (fun c y k hc => cn c y k (by omega))) k17
    rw [if_pos (by decide), if_pos rfl, f_Piece_judgeEnds, y1, zbN_s, y2]
    refine ⟨r2, F1, F2, B1, Fm1, Fm2, Bm1, rfl, rfl, x3, fun c y k a b => by rw [y3 c y k b, cn c y k a], ⟨by rw [y3 0 0 1 (by omega)]; exact z1, by rw [y3 0 0 2 (by omega)]; exact z2⟩, y4, x4, x5, ?_, ?_⟩
    · rcases y5 with ⟨rfl, _⟩ | ⟨bd, e, q0, q1⟩
      · decide
      · unfold bad at bd; unfold r32; omega
    · rcases y5 with ⟨a, b, c⟩ | hb
      · refine Or.inl ⟨a, b, ⟨c.1, c.2.1, c.2.2.1, fun u u0 u1 => ?_⟩, hV⟩
        have := c.2.2.2 u u0 u1
        rw [cn 4 _ 7 (by omega)] at this
        exact this
      · exact Or.inr hb
  · have rf : r32 fl ∧ ¬ fl = 0 := by unfold bad at bd; unfold r32; omega
    rw [if_pos rf.1, if_neg rf.2]
    refine ⟨fl, F1, _, B1, Fm1, Fm1, Bm1, rfl, ?_, x3, fun c y k a _ => cn c y k a, ⟨z1, z2⟩, fun _ _ _ _ => rfl, x4, x5, rf.1, Or.inr ⟨bd, efl, q0, q1⟩⟩
    have g6 : Fm1 14 0 6 = w := by rw [x3.2.2.2.1 14 0 6 (by omega) (by omega)]; exact hS.2.1.2.2.2.2.2.2.2.1
    have gV : Fm1 13 w 1 = V := by rw [x3.2.2.2.1 13 w 1 (by omega) (by omega)]; exact hS.2.1.2.1
    obtain ⟨j, hj⟩ : ∃ j, Km = j + 1 := ⟨Km - 1, by omega⟩
    rw [show f_M_through_163 Km Km = f_M_through_163 Km (j + 1) by rw [← hj], f_M_through_163, g6, if_pos w0, if_pos (by decide), gV, if_pos (by unfold r32; omega)]
    simp only [f_M_through_339]
    by_cases z : V ≤ 1
    · rw [if_pos z]
    · rw [if_neg z, L_goodB bd, zb_s, if_pos (by decide), if_pos rfl]
end
