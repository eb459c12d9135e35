section
variable {cc : Int}
/-! ===== the call of follows ===== -/
theorem IV_m {Km : Nat} {K : zK} {F Fm Fm' : zF} {B Bm : zB} (h : IV cc Km K F B Fm Bm) (g : ∀ i y k, ¬ (i = 14 ∧ y = 0 ∧ k ≤ 1) → Fm' i y k = Fm i y k) : IV cc Km K F B Fm' Bm := by
  obtain ⟨p, p0, p1, w, w0, w1, hE, hW, hO, h7, hX, hK⟩ := h
  have hT' : IT F B Fm' Bm := by
    obtain ⟨t1, t2, t3, t4, t5⟩ := hE.1.2.2.2.1
    exact ⟨by rw [g 14 0 3 (by first | decide | omega)]; exact t1, t2, t3, t4, t5⟩
  refine ⟨p, p0, p1, w, w0, w1, IE_f hE rfl (fun _ _ => rfl) (Int.le_refl _) (fun _ _ _ _ _ _ _ _ => rfl) (fun _ _ _ _ _ _ _ _ _ => rfl) (fun i k => ⟨fun _ => g 13 i k (by first | decide | omega), g 14 0 6 (by first | decide | omega)⟩) ⟨fun _ _ _ _ => rfl, fun _ _ _ => rfl⟩ hT', ⟨by rw [g 14 0 71 (by first | decide | omega)]; exact hW.1, hW.2⟩, IOp_f hO rfl rfl (fun _ _ => rfl) (fun _ _ _ => rfl) (g 14 0 72 (by first | decide | omega)) (fun _ _ _ => rfl), h7, hX, hK⟩
theorem L_folR {Km : Nat} {a1 a2 a3 a4 : Int} (h1 : r32 a1) (h2 : r32 a2) (h3 : r32 a3) (h4 : r32 a4) {K : zK} {F Fm : zF} {B Bm : zB} (h : IV cc Km K F B Fm Bm) : ∃ r F', f_M_follows Km a1 a2 a3 a4 Fm Bm = some (r, F', Bm) ∧ ∀ i y k, ¬ (i = 14 ∧ y = 0 ∧ k ≤ 1) → F' i y k = Fm i y k := by
  have hKm := (IV_k h).2.1
  have d1 : r32 (1 : Int) := by decide
  have d0 : r32 (0 : Int) := by decide
  obtain ⟨x, y, e, e1, e2, e3, e4⟩ := prt h h1 h2
  obtain ⟨x', y', e', e1', e2', e3', e4'⟩ := prt h h1 h3
  have yy : y' = y := by
    rw [e2] at e2'
    injection e2' with q
    injection q with q
    exact q.symm
  rw [yy] at e3' e4'
  unfold f_M_follows f_M_follows_41 f_M_follows_109
  rw [e2, zb_s, e3, zb_s]
  rcases e4 with ⟨_, e0⟩ | ⟨e0, x0, y0, z0, q, V, vV, ex, hP, _⟩
  · rw [e0, if_pos d0, if_pos rfl]
    exact ⟨_, _, rfl, fun _ _ _ _ => rfl⟩
  rw [e0, if_pos d1, if_neg (by decide), e3', zb_s]
  rcases e4' with ⟨_, e0'⟩ | ⟨e0', x0', y0', z0', q', V', vV', ex', hP', _⟩
  · rw [e0', if_pos d0, if_pos rfl]
    exact ⟨_, _, rfl, fun _ _ _ _ => rfl⟩
  rw [e0', if_pos d1, if_neg (by decide), if_pos h2, if_pos h3]
  have hR := PK_r hP
  have eV : V' = V := by rw [← hP'.1.2.2.2.2, ← hP.1.2.2.2.2]
  rw [eV] at vV'
  by_cases c1 : a2 = a3
  · rw [if_pos c1]; exact ⟨_, _, rfl, fun _ _ _ _ => rfl⟩
  rw [if_neg c1, if_pos h4]
  by_cases c2 : a4 < 0
  · rw [if_pos c2]; exact ⟨_, _, rfl, fun _ _ _ _ => rfl⟩
  rw [if_neg c2]
  by_cases c3' : ¬ a4 ≤ 3
  · rw [if_neg c3']; exact ⟨_, _, rfl, fun _ _ _ _ => rfl⟩
  have c3 : a4 ≤ 3 := by omega
  have v1 := (rd_v hR z0.1 vV).1
  have v2 := (rd_v hR z0'.1 vV').1
  obtain ⟨r, er, hr⟩ := L_fs2 (K := Km) hR z0.1 vV (Bm 13 y 12 a2).toNat Km 0 (by first | decide | omega) (by first | decide | omega) (by first | decide | omega)
  obtain ⟨s, es, hs⟩ := L_fs2 (K := Km) hR z0'.1 vV' (Bm 13 y 12 a3).toNat Km 0 (by first | decide | omega) (by first | decide | omega) (by first | decide | omega)
  have er' : f_M_firstSounding Km y a2 Fm Bm = some (r, Fm, Bm) := er
  have es' : f_M_firstSounding Km y a3 Fm Bm = some (s, Fm, Bm) := es
  rw [if_pos c3, if_pos y0, er', zb_s, es', zb_s, if_pos (by unfold r32; omega)]
  by_cases c4 : r < 0
  · rw [if_pos c4]; exact ⟨_, _, rfl, fun _ _ _ _ => rfl⟩
  rw [if_neg c4, if_pos (by unfold r32; omega)]
  by_cases c5 : s < 0
  · rw [if_pos c5]; exact ⟨_, _, rfl, fun _ _ _ _ => rfl⟩
  obtain ⟨r1, r2, r3⟩ : 1000 * a2 ≤ r ∧ r < 1000 * a2 + Bm 13 y 12 a2 ∧ 0 < Bm 13 y 21 r := by omega
  obtain ⟨s1, s2, s3⟩ : 1000 * a3 ≤ s ∧ s < 1000 * a3 + Bm 13 y 12 a3 ∧ 0 < Bm 13 y 21 s := by omega
  obtain ⟨g1, g2, gg, g3, g4, _⟩ := ((hR.2.2.2.2.2.2 a2 z0.1 vV).2.1 r r1 r2).2.2
  obtain ⟨k1, k2, kk, k3, k4, _⟩ := ((hR.2.2.2.2.2.2 a3 z0'.1 vV').2.1 s s1 s2).2.2
  rw [if_neg c5, if_pos (by first | decide | omega), if_pos (by first | decide | omega), k3, k4, g3, g4, L_cmpR (by first | decide | omega) (FR_r (by first | decide | omega)) (FR_r (by first | decide | omega)) (by first | decide | omega) (by first | decide | omega), zb_s]
  by_cases c6 : g1 < k1
  · have ez : (if k1 < g1 then (-1 : Int) else if k1 = g1 then 0 else 1) = 1 := by rw [if_neg (by first | decide | omega), if_neg (by first | decide | omega)]
    rw [ez, if_pos d1, if_pos (by decide)]
    obtain ⟨t1, f1, b1, m1⟩ := L_lnO (K := Km) (by first | decide | omega) hR z0'.1 vV' s1 s2 s3
    obtain ⟨t2, f2, b2, m2⟩ := L_lnO (K := Km) (by first | decide | omega) hR z0.1 vV r1 r2 r3
    rw [f1, zb_s, if_pos b1, f2, zb_s, if_pos b2]
    exact L_146 (by first | decide | omega) hR z0.1 vV z0'.1 vV' ⟨r1, r2⟩ ⟨s1, s2⟩ (by unfold r32; omega) h4 (p := k1) (q := g1) (by first | decide | omega) ⟨k3, k4⟩ ⟨g3, g4⟩ (1000 * a2 + Bm 13 y 12 a2 - r).toNat Km 0 (by first | decide | omega) (by first | decide | omega) (by first | decide | omega)
  · have rr : ∃ z, (if k1 < g1 then (-1 : Int) else if k1 = g1 then 0 else 1) = z ∧ (z = -1 ∨ z = 0) := by
      by_cases c7 : k1 < g1
      · rw [if_pos c7]; exact ⟨-1, rfl, Or.inl rfl⟩
      · rw [if_neg c7, if_pos (by first | decide | omega)]; exact ⟨0, rfl, Or.inr rfl⟩
    obtain ⟨z, ez, hz⟩ := rr
    rw [ez, if_pos (by unfold r32; omega), if_neg (by first | decide | omega)]
    exact ⟨_, _, rfl, fun _ _ _ _ => rfl⟩
theorem p_follows {Km : Nat} (a1 a2 a3 a4 : Int) (h1 : r32 a1) (h2 : r32 a2) (h3 : r32 a3) (h4 : r32 a4) {K : zK} {F Fm : zF} {B Bm : zB} (h : IV cc Km K F B Fm Bm) : ∃ r1 F1 B1 r2 F2 B2, f_S_follows K 0 a1 a2 a3 a4 F B = some (r1, F1, B1) ∧ f_M_follows Km a1 a2 a3 a4 Fm Bm = some (r2, F2, B2) ∧ IV cc Km K F1 B1 F2 B2 := by
  obtain ⟨r, e⟩ := C_folR h1 h2 h3 h4 h
  obtain ⟨r', F', e', g⟩ := L_folR h1 h2 h3 h4 h
  exact ⟨r, F, B, r', F', Bm, e, e', IV_m h g⟩
end
