section
/-! ===== the call of look ===== -/
variable {cc : Int}
theorem p_look {Km : Nat} (a1 a2 : Int) (h1 : r32 a1) (h2 : r32 a2) {K : zK} {F Fm : zF} {B Bm : zB} (h : IV cc Km K F B Fm Bm) : ∃ r1 F1 B1 K1 r2 F2 B2, f_S_look K 0 a1 a2 F B = some (r1, F1, B1, K1) ∧ f_M_look Km a1 a2 Fm Bm = some (r2, F2, B2) ∧ IV cc Km K1 F1 B1 F2 B2 := by
  have hK := (IV_k h).1
  have hKm := (IV_k h).2.1
  have h12 := IV_12 h
  have hU := IV_u h
  rcases slotE h h1 with ⟨q, q0, x1, x3⟩ | ⟨p, p0, p1, w, w0, w1, q, v, V, hE, hZ, hc, hP, hM, hD, m0, hv, x1, x3, ln, q0⟩
  · refine ⟨-1, F, B, K, -1, Fm, Bm, ?_, ?_, h⟩
    · unfold f_S_look
      rw [if_pos h12, x1]
      simp only [zbN_s]
      rw [if_pos q0]
    · unfold f_M_look
      rw [x3, zb_s, if_pos (by decide)]
  have hq := hP.1.1
  have o3 := hE.1.2.2.2.2.2.2.2.2.1 q hq.1 hq.2
  have h5 : 0 ≤ K.2 5 := by have := hE.1.1.2.2; omega
  have g9 : 0 ≤ K.2 9 := by have := hE.1.1.2.2; omega
  have h33 : Fm 13 v 3 = 0 ∨ Fm 13 v 3 = 1 := by have := hP.2.1.2.1; omega
  obtain ⟨s, F1, B1, K1, y1, y2, y3, y4, y5, y6, y7, y8, y9, y10, y11⟩ := C_made (by first | decide | omega) h5 hP hE.2.1 hD
  obtain ⟨Fm', Bm', z1, z2, z3, z4, z5, z6⟩ := SDR_ga (Km := Km) (by first | decide | omega) y5 hE.2.1
  have hsm : ∀ {B2 : zB}, khB s B1 B2 → IV cc Km K1 F1 B2 Fm Bm := fun kb => IV_sm hE hZ hc hP hM hD m0 hv y2 y3 y4 y5 y6 y7 y8 y9 y10 y11 kb
  have hV1 : IV cc Km K1 F1 B1 Fm Bm := hsm (fun _ _ _ _ _ => rfl)
  obtain ⟨t, F3, B3, K3, e3, st, hq3⟩ := C_stm hK g9 hU (PQs_k h hP) o3.2.2
  have hV3 := IV_st hE hZ hc hP hM m0 ln st
  by_cases c9 : a2 = 9
  · -- the key heard
    have hS : F1 5 s 1 = 0 → 0 ≤ F1 5 s 0 ∧ F1 5 s 0 ≤ 2000 ∧ SB s (F1 5 s 0) B1 := fun z => by
      rcases z4 with ⟨g1, g2, g3, g4, g5⟩ | ⟨g1, g2, g3⟩
      · refine ⟨g3, g4, fun j j0 j1 => ?_⟩
        obtain ⟨b1, b2, b3, b4, b5, b6, b7⟩ := g5 j j0 j1
        exact ⟨b1.2, b2.2, b3.2, b4.2, b5.2, b7.1, b6.2⟩
      · omega
    have h51 : F1 5 s 1 = 0 ∨ F1 5 s 1 = 1 := by
      rcases z4 with ⟨g1, _⟩ | ⟨g1, _⟩
      · exact Or.inl g1
      · exact Or.inr g1
    obtain ⟨r, B2, ek, kb⟩ := C_khd (by rw [y2]; exact hK) y3 h51 hS
    obtain ⟨r', el⟩ := L_key (K := Km) (by first | decide | omega) z1 z4 ⟨z5, z6⟩ (TQm_e hU.2.2.2.2.2.2 (fun k x hk => z3 14 0 k x (by first | decide | omega)))
    refine ⟨r, F1, B2, K1, r', Fm', Bm', ?_, ?_, IV_s (hsm kb) (fun i y k n => z2 i y k (by first | decide | omega)) (fun c y k x n => z3 c y k x (by first | decide | omega))⟩
    · unfold f_S_look f_S_look_139
      rw [if_pos h12, x1]
      simp only [zbN_s]
      rw [if_neg (by first | decide | omega), if_pos h2, if_neg (by first | decide | omega), if_neg (by first | decide | omega), if_neg (by first | decide | omega), if_neg (by first | decide | omega), if_neg (by first | decide | omega), if_neg (by first | decide | omega), if_neg (by first | decide | omega), if_neg (by first | decide | omega), if_neg (by first | decide | omega), if_pos c9, if_pos hq, y1]
      simp only [zbM_s]
      rw [if_pos y3, ek]
      simp only [zbN_s]
    · unfold f_M_look
      rw [x3, zb_s, if_neg (by first | decide | omega), if_pos h2, if_neg (by first | decide | omega), if_neg (by first | decide | omega), if_neg (by first | decide | omega), if_neg (by first | decide | omega), if_neg (by first | decide | omega), if_neg (by first | decide | omega), if_neg (by first | decide | omega), if_neg (by first | decide | omega), if_neg (by first | decide | omega), if_pos c9, if_pos hv, el, zb_s]
  have hR : ∃ r, f_M_look Km a1 a2 Fm Bm = some (r, Fm, Bm) := by
    unfold f_M_look f_M_look_111
    rw [x3, zb_s]
    exact zR_i (fun _ => zR_s) (fun _ => zR_g h2 (zR_i (fun _ => zR_g hv zR_s) (fun _ => zR_i (fun _ => zR_g hv zR_s) (fun _ => zR_i (fun _ => zR_g hv zR_s) (fun _ => zR_i (fun _ => zR_g hv (zR_g (by unfold r32; omega) (zR_i (fun _ => zR_s) (fun _ => zR_s)))) (fun _ => zR_i (fun _ => zR_g hv zR_s) (fun _ => zR_i (fun _ => zR_g hv zR_s) (fun _ => zR_i (fun _ => zR_g hv zR_s) (fun _ => zR_i (fun _ => zR_g hv zR_s) (fun _ => zR_i (fun _ => zR_g hv zR_s) (fun _ => zR_i (fun a => absurd a c9) (fun _ => zR_i (fun _ => zR_g hv zR_s) (fun _ => zR_i (fun _ => zR_g hv zR_s) (fun _ => zR_i (fun _ => zR_g hv zR_s) (fun _ => zR_i (fun _ => zR_g hv zR_s) (fun _ => zR_s))))))))))))))))
  obtain ⟨r', eM⟩ := hR
  have d10 := hD.1
  unfold f_S_look f_S_look_123 f_S_look_131 f_S_look_161 f_S_look_173 f_S_look_180 f_S_look_193 f_S_look_201 f_S_look_213 f_S_look_220
  rw [if_pos h12, x1]
  simp only [zbN_s]
  rw [if_neg (by first | decide | omega), if_pos h2]
  have stay : ∀ r : Int, ∃ r1 F1 B1 K1 r2 F2 B2, some (r, F, B, K) = some (r1, F1, B1, K1) ∧ f_M_look Km a1 a2 Fm Bm = some (r2, F2, B2) ∧ IV cc Km K1 F1 B1 F2 B2 := fun r => ⟨r, F, B, K, r', Fm, Bm, rfl, eM, h⟩
  by_cases c0 : a2 = 0
  · rw [if_pos c0, if_pos hq]; exact stay _
  rw [if_neg c0]
  by_cases c1 : a2 = 1
  · rw [if_pos c1, if_pos hq]; exact stay _
  rw [if_neg c1]
  by_cases c2 : a2 = 2
  · rw [if_pos c2, if_pos hq]; exact stay _
  rw [if_neg c2]
  by_cases c3 : a2 = 3
  · rw [if_pos c3, if_pos hq]; exact stay _
  rw [if_neg c3]
  by_cases c4 : a2 = 4
  · rw [if_pos c4, if_pos hq]; exact stay _
  rw [if_neg c4]
  by_cases c5 : a2 = 5
  · rw [if_pos c5, if_pos hq]; exact stay _
  rw [if_neg c5]
  by_cases c6 : a2 = 6
  · rw [if_pos c6, if_pos hq]; exact stay _
  rw [if_neg c6]
  by_cases c7 : a2 = 7
  · rw [if_pos c7, if_pos hq, e3]
    simp only [zbM_s]
    rw [if_pos st.2.1]
    exact ⟨_, F3, B3, K3, r', Fm, Bm, rfl, eM, hV3⟩
  rw [if_neg c7]
  by_cases c8 : a2 = 8
  · rw [if_pos c8, if_pos hq, e3]
    simp only [zbM_s]
    rw [if_pos st.2.1]
    exact ⟨_, F3, B3, K3, r', Fm, Bm, rfl, eM, hV3⟩
  rw [if_neg c8, if_neg c9]
  by_cases c10 : a2 = 10
  · rw [if_pos c10, if_pos hq]
    by_cases n8 : F 6 q 8 < 0
    · rw [if_pos n8]; exact stay _
    · rw [if_neg n8, if_pos ⟨(by first | decide | omega), o3.1⟩]; exact stay _
  rw [if_neg c10]
  by_cases c11 : a2 = 11
  · rw [if_pos c11, if_pos hq, if_pos (by unfold r32; omega)]
    by_cases z : F 6 q 10 = 0
    · rw [if_pos z]; exact stay _
    · rw [if_neg z, y1]
      simp only [zbM_s]
      rw [if_pos y3]
      exact ⟨_, F1, B1, K1, r', Fm, Bm, rfl, eM, hV1⟩
  rw [if_neg c11]
  by_cases c12 : a2 = 12
  · rw [if_pos c12, if_pos hq, if_pos (by unfold r32; omega)]
    by_cases z : F 6 q 10 = 0
    · rw [if_pos z]; exact stay _
    · rw [if_neg z, y1]
      simp only [zbM_s]
      rw [if_pos y3]
      exact ⟨_, F1, B1, K1, r', Fm, Bm, rfl, eM, hV1⟩
  rw [if_neg c12]
  by_cases c13 : a2 = 13
  · rw [if_pos c13, if_pos hq, if_pos (by unfold r32; omega)]
    by_cases z : F 6 q 10 = 0
    · rw [if_pos z]; exact stay _
    · rw [if_neg z, y1]
      simp only [zbM_s]
      rw [if_pos y3]
      exact ⟨_, F1, B1, K1, r', Fm, Bm, rfl, eM, hV1⟩
  rw [if_neg c13]; exact stay _
end
