section
/-! ===== the calls of moment, look ===== -/
variable {cc : Int}
theorem L_mom {Km : Nat} {a1 a2 a3 v V : Int} {Fm : zF} {Bm : zB} (h2 : r32 a2) (h3 : r32 a3) (hK : 200 ≤ Km) (x3 : f_M_piece Km a1 Fm Bm = some (v, Fm, Bm)) (hR : RDW V v Fm Bm) (h33 : Fm 13 v 3 = 0 ∨ Fm 13 v 3 = 1) (hM : MW5 V v Fm Bm) : ∃ r Fm' Bm', f_M_moment_0 Km a1 a2 a3 Fm Bm = some (r, Fm', Bm') ∧ crdF Fm Fm' ∧ crdB Bm Bm' := by
  have hv := hR.1
  have k2 := hR.2.2.1
  have h72 := hM.1
  have same : ∀ r : Int, ∃ r' Fm' Bm', some (r, Fm, Bm) = some (r', Fm', Bm') ∧ crdF Fm Fm' ∧ crdB Bm Bm' := fun r => ⟨r, Fm, Bm, rfl, fun _ _ _ _ => rfl, fun _ _ _ _ _ => rfl⟩
  unfold f_M_moment_0 f_M_moment_0_35 f_M_moment_0_208
  rw [x3, zb_s, if_neg (by first | decide | omega), if_pos h2]
  by_cases c1 : a2 < 0
  · rw [if_pos c1]; exact same _
  rw [if_neg c1, if_pos hv, if_pos (by unfold r32; omega)]
  by_cases c2 : Fm 13 v 72 ≤ a2
  · rw [if_pos c2]; exact same _
  rw [if_neg c2, if_pos h3]
  by_cases c3 : a3 < 0
  · rw [if_pos c3]; exact same _
  rw [if_neg c3]
  by_cases c4 : ¬ a3 ≤ 8
  · rw [if_neg c4]; exact same _
  have c4' : a3 ≤ 8 := by omega
  rw [if_pos c4']
  by_cases d0 : a3 = 0
  · rw [if_pos d0, if_pos (by first | decide | omega)]; exact same _
  rw [if_neg d0]
  by_cases d1 : a3 = 1
  · rw [if_pos d1, if_pos (by first | decide | omega)]; exact same _
  rw [if_neg d1]
  obtain ⟨n, F1, B1, e, f, b, cl, lo, g4, g5⟩ := L_chA (K := Km) hK hR hM (j := a2) (by first | decide | omega)
  have n0 := cl.1
  rw [e, zb_s]
  have res : ∀ r : Int, ∃ r' Fm' Bm', some (r, F1, B1) = some (r', Fm', Bm') ∧ crdF Fm Fm' ∧ crdB Bm Bm' := fun r => ⟨r, F1, B1, rfl, f, b⟩
  by_cases d2 : a3 = 2
  · rw [if_pos d2, if_pos (by unfold r32; omega)]; exact res _
  rw [if_neg d2]
  by_cases d3 : a3 = 3
  · rw [if_pos d3, if_pos (by unfold r32; omega)]; exact res _
  rw [if_neg d3, if_pos (by unfold r32; omega)]
  by_cases d4 : ¬ 0 ≤ F1 14 0 104
  · rw [if_neg d4]; exact res _
  have d4' : 0 ≤ F1 14 0 104 := by omega
  obtain ⟨q0, q1⟩ := g5 d4'
  have kc := cl.2 (F1 14 0 105) q0 q1
  rw [if_pos d4']
  by_cases e4 : a3 = 4
  · rw [if_pos e4, if_pos (by first | decide | omega), if_pos (by unfold r32; omega)]; exact res _
  rw [if_neg e4]
  by_cases e5 : a3 = 5
  · rw [if_pos e5, if_pos (by first | decide | omega), if_pos (by unfold r32; omega)]; exact res _
  rw [if_neg e5]
  by_cases e6 : a3 = 6
  · have l2 : 0 ≤ F1 14 0 102 ∧ F1 14 0 102 ≤ 62 := by
      rcases lo with z | z
      · have := z.1; omega
      · exact z.2
    have ez : zrm (F1 14 0 102) 7 = F1 14 0 102 % 7 := zrm_e l2.1 (by unfold r32; omega) (by decide) (by decide)
    obtain ⟨r, F2, B2, e2, rfl, rfl, r0, r1⟩ := s_mod (K := Km) (a := F1 14 0 102 % 7 - B1 14 0 98 (F1 14 0 105)) (b := 7) (F := F1) (B := B1) (by unfold r32; omega) (by decide) (by decide)
    rw [if_pos e6, if_pos (by first | decide | omega), ez, e2, zb_s, if_pos (zdv_R _ _)]; exact res _
  rw [if_neg e6]
  have f2 : -7 ≤ F1 13 v 2 ∧ F1 13 v 2 ≤ 7 := by rw [f 13 v 2 (by first | decide | omega)]; exact k2
  have f3 : F1 13 v 3 = 0 ∨ F1 13 v 3 = 1 := by rw [f 13 v 3 (by first | decide | omega)]; exact h33
  by_cases e7 : a3 = 7
  · obtain ⟨t, et, t0, t1⟩ := L_tonL (K := Km) (B := B1) hv f2 f3
    obtain ⟨r, F2, B2, e2, rfl, rfl, r0, r1⟩ := s_mod (K := Km) (a := B1 14 0 98 (F1 14 0 105) - t) (b := 7) (F := F1) (B := B1) (by unfold r32; omega) (by decide) (by decide)
    rw [if_pos e7, if_pos (by first | decide | omega), et, zb_s, e2, zb_s, if_pos (by unfold r32; omega)]; exact res _
  · obtain ⟨r, er, r01⟩ := L_isF4 (K := Km) hv f2 cl n.toNat Km 0 0 (by first | decide | omega) (by decide) (by first | decide | omega) (Or.inl rfl)
    have er' : f_M_isForeign Km v F1 B1 = some (r, F1, B1) := er
    rw [if_neg e7, er', zb_s, if_pos (by unfold r32; omega)]
    by_cases z : r = 0
    · rw [if_pos z]; exact res _
    · rw [if_neg z]; exact res _
theorem p_moment {Km : Nat} (a1 a2 a3 : Int) (h1 : r32 a1) (h2 : r32 a2) (h3 : r32 a3) {K : zK} {F Fm : zF} {B Bm : zB} (h : IV cc Km K F B Fm Bm) : ∃ r1 F1 B1 K1 r2 F2 B2, f_S_moment K 0 a1 a2 a3 F B = some (r1, F1, B1, K1) ∧ f_M_moment_0 Km a1 a2 a3 Fm Bm = some (r2, F2, B2) ∧ IV cc Km K1 F1 B1 F2 B2 := by
  have hK := (IV_k h).1
  have hKm := (IV_k h).2.1
  have h12 := IV_12 h
  have hU := IV_u h
  rcases slotE h h1 with ⟨q, q0, x1, x3⟩ | ⟨p, p0, p1, w, w0, w1, q, v, V, hE, hZ, hc, hP, hM, hD, m0, hv, x1, x3, ln, q0⟩
  · refine ⟨-2147483648, F, B, K, -2147483648, Fm, Bm, ?_, ?_, h⟩
    · unfold f_S_moment f_S_moment_28
      rw [if_pos h12, x1]
      simp only [zbN_s]
      rw [if_pos q0]
    · unfold f_M_moment_0 f_M_moment_0_35
      rw [x3, zb_s, if_pos (by decide)]
  have hq := hP.1.1
  have h33 : Fm 13 v 3 = 0 ∨ Fm 13 v 3 = 1 := by have := hP.2.1.2.1; omega
  obtain ⟨r', Fm', Bm', eM, mf, mb⟩ := L_mom (a1 := a1) h2 h3 (by first | decide | omega) x3 (PK_r hP) h33 hM.1
  have fin : ∀ {K1 : zK} {F1 : zF} {B1 : zB}, IV cc Km K1 F1 B1 Fm Bm → IV cc Km K1 F1 B1 Fm' Bm' := fun hV => IV_s hV (fun i y k n => mf i y k (by first | decide | omega)) (fun c y k x n => mb c y k x (by first | decide | omega))
  by_cases c1 : a2 < 0
  · refine ⟨-2147483648, F, B, K, r', Fm', Bm', ?_, eM, fin h⟩
    unfold f_S_moment f_S_moment_28
    rw [if_pos h12, x1]
    simp only [zbN_s]
    rw [if_neg (by first | decide | omega), if_pos h2, if_pos c1]
  have l12 := (hE.1.2.2.2.2.2.2.2.2.1 q hq.1 hq.2).2.2
  have g9 : 0 ≤ K.2 9 := by have := hE.1.1.2.2; omega
  obtain ⟨s, F1, B1, K1, e, st, hq1⟩ := C_stm hK g9 hU (PQs_k h hP) l12
  have hV1 := IV_st hE hZ hc hP hM m0 ln st
  have st2 := C_stm2 (B1 := B1) hq1.1 st.2.1.1 st.2.2.2.1
  obtain ⟨t1, t2, t3⟩ := st.2.2.2.2.2.2
  have hK1 : 60000 ≤ K1.1 := by rw [st.1]; exact hK
  unfold f_S_moment f_S_moment_22
  rw [if_pos h12, x1]
  simp only [zbN_s]
  rw [if_neg (by first | decide | omega), if_pos h2, if_neg c1, if_pos hq, if_pos hq.2, e]
  simp only [zbM_s]
  rw [if_pos st.2.1, if_pos h2, if_pos (by unfold r32; omega)]
  by_cases c2 : ¬ a2 < F1 9 s 0
  · rw [if_neg c2]
    exact ⟨_, F1, B1, K1, r', Fm', Bm', rfl, eM, fin hV1⟩
  have c2' : a2 < F1 9 s 0 := by omega
  rw [if_pos c2', if_pos hq1.1, if_pos hq1.1.2, st2]
  simp only [zbM_s]
  unfold f_S_moment_37 f_S_moment_100 f_S_moment_115
  rw [if_pos h3]
  have pl := t3.1 a2
  by_cases d0 : a3 = 0
  · obtain ⟨r, er⟩ := C_above (K := K1) (x := B1 9 s 1 a2) (F := F1) (B := B1) (by first | decide | omega) pl
    rw [if_pos d0, if_pos st.2.1, if_pos (by first | decide | omega), er]
    simp only [zbN_s]
    exact ⟨r, F1, B1, K1, r', Fm', Bm', rfl, eM, fin hV1⟩
  rw [if_neg d0]
  by_cases d1 : a3 = 1
  · obtain ⟨r, er⟩ := C_below (K := K1) (x := B1 9 s 1 a2) (F := F1) (B := B1) (by first | decide | omega) pl
    rw [if_pos d1, if_pos st.2.1, if_pos (by first | decide | omega), er]
    simp only [zbN_s]
    exact ⟨r, F1, B1, K1, r', Fm', Bm', rfl, eM, fin hV1⟩
  rw [if_neg d1]
  by_cases d2 : a3 < 0
  · rw [if_pos d2]; exact ⟨_, F1, B1, K1, r', Fm', Bm', rfl, eM, fin hV1⟩
  rw [if_neg d2]
  by_cases d3 : ¬ a3 ≤ 8
  · rw [if_neg d3]; exact ⟨_, F1, B1, K1, r', Fm', Bm', rfl, eM, fin hV1⟩
  have d3' : a3 ≤ 8 := by omega
  obtain ⟨r, B2, er, b2, s2⟩ := C_told2 (j := a2) (l3 := a3) hK1 hq1 st.2.1 t3 (by first | decide | omega) h3
  have stm2 : STm K K1 q s F B F1 B2 := by
    obtain ⟨k1, k2, k3, k4, k5, k6, k7⟩ := st
    exact ⟨k1, k2, k3, k4, k5, fun c y k x hy n => by rw [b2 c y k x n, k6 c y k x hy n], t1, t2, s2⟩
  rw [if_pos d3', if_pos st.2.1, if_pos hq1.1, er]
  simp only [zbN_s]
  exact ⟨r, F1, B2, K1, r', Fm', Bm', rfl, eM, fin (IV_st hE hZ hc hP hM m0 ln stm2)⟩
/-- the sounds of a kept piece are made -/
theorem IV_sm {Km : Nat} {K K1 : zK} {p p0 p1 w w0 w1 q v V s : Int} {F F1 Fm : zF} {B B1 B2 Bm : zB} (hE : IE cc K Km p p0 p1 w w0 w1 F B Fm Bm) (hZ : IZ K F B Fm Bm) (hc : (q = p0 ∧ v = w0) ∨ (q = p1 ∧ v = w1)) (hP : PK K V q v F B Fm Bm) (hM : MK V v Fm Bm) (hD : PD K V q v F B Fm Bm) (m0 : Fm 13 v 0 = 1) (hv : 0 ≤ v ∧ v < 3) (x2 : K1.1 = K.1) (x3 : 0 ≤ s ∧ s < K1.2 5) (x4 : (s = F 6 q 9 ∧ K1 = K) ∨ (F 6 q 9 < 0 ∧ s = K.2 5 ∧ K1 = (K.1, zinN K.2 5))) (x5 : SDR s V q v F1 B1 Fm Bm) (x6 : F1 6 q 9 = s ∧ F1 6 q 11 = 1) (x7 : rwS s F1) (x8 : smF K q s F F1) (x9 : smB K s B B1) (x10 : F 6 q 11 = 1 → F1 = F ∧ B1 = B) (x11 : pfU K s F F1) (kb : khB s B1 B2) : IV cc Km K1 F1 B2 Fm Bm := by
  obtain ⟨d10, d11, d9, dr, ds, dp, dz⟩ := hD
  have hp := hP.1.1
  have hA := hE.1.1.2.2
  have f10 : F1 6 q 10 = F 6 q 10 := x8 6 q 10 hp.2 (by first | decide | omega) (by first | decide | omega)
  have hD' : PD K1 V q v F1 B2 Fm Bm := by
    refine ⟨by rw [f10]; exact d10, Or.inr x6.2, by rw [x6.1]; exact x3.2, fun _ => by rw [x6.1]; exact x7, fun _ => ⟨by rw [x6.1]; exact x3.1, by rw [x6.1]; exact SDR_e x5 ⟨rfl, rfl⟩ (fun k x hk => kb 5 s k x (by first | decide | omega)) (fun _ _ _ => rfl) (fun _ _ _ => rfl)⟩, fun z => ⟨x6.2, ?_⟩, fun z => dz (by rw [← f10]; exact z)⟩
    rw [f10] at z
    obtain ⟨e11, c, pfd⟩ := dp z
    obtain ⟨rfl, rfl⟩ := x10 e11
    have es : F1 6 q 9 = s := x6.1
    rw [es] at pfd ⊢
    exact ⟨c, PFD_p pfd x7 (fun _ _ => rfl) (fun k x hk => kb 5 s k x (by first | decide | omega)) (fun _ _ => rfl) (fun _ _ _ _ => rfl) pfd.2.2.2.2.2.2⟩
  have pF : pfF K q s F F1 := fun c y k q0 q1 q2 => x8 c y k q0 (by first | decide | omega) q2
  have pB : pfB K s B B2 := fun c y k x q0 q1 => by rw [kb c y k x (by first | decide | omega), x9 c y k x q0 (by first | decide | omega)]
  have pG : pfG v Fm Fm := fun _ _ _ _ _ => rfl
  have pM : pfM v Bm Bm := fun _ _ _ _ _ _ => rfl
  have kc : ∀ c, ¬ c = 5 → K1.2 c = K.2 c := fun c hc => by
    rcases x4 with ⟨_, z⟩ | ⟨_, _, z⟩
    · rw [z]
    · rw [z]; show zinN K.2 5 c = K.2 c; rw [zinN_v, if_neg hc]
  exact ⟨p, p0, p1, w, w0, w1, IE_pf hE hc hP hM m0 x2 x3 x4 x6.1 pF pB pG pM hD' (IU_pf hE.2.2.2.2.2.1 x3 x4 pF pB pG pM x11 (Or.inr (fun _ _ => rfl)) hv hp x6.1), IZ_f hZ x2 (kc 8 (by decide)) (pF 0 1 1 (by first | decide | omega) (by first | decide | omega) (by first | decide | omega)) (pF 12 0 8 (by first | decide | omega) (by first | decide | omega) (by first | decide | omega)) (pF 12 0 9 (by first | decide | omega) (by first | decide | omega) (by first | decide | omega)) (pF 7 0 4 (by first | decide | omega) (by first | decide | omega) (by first | decide | omega)) (fun o k ho => pF 8 o k ho (by first | decide | omega) (by first | decide | omega)) (fun x => pB 0 1 0 x (by first | decide | omega) (by first | decide | omega)) (fun x => pB 12 0 1 x (by first | decide | omega) (by first | decide | omega)) (fun o k x ho => pB 8 o k x ho (by first | decide | omega)) (fun _ _ => rfl) (fun _ _ _ => rfl)⟩
end
