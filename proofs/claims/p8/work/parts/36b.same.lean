section
variable {cc : Int}
/-! ===== answers alike: the other calls whose equality stands ===== -/
theorem sm3 {x : zO} {r r' : Int} {F F' : zF} {B B' : zB} (h : x = some (r, F, B)) (h' : x = some (r', F', B')) : r = r' := congrArg Prod.fst (Option.some.inj (h.symm.trans h'))
theorem sm4 {x : zOm} {r r' : Int} {F F' : zF} {B B' : zB} {K K' : zK} (h : x = some (r, F, B, K)) (h' : x = some (r', F', B', K')) : r = r' := congrArg Prod.fst (Option.some.inj (h.symm.trans h'))
theorem e_stroke {Km : Nat} (a1 a2 a3 : Int) (h1 : r32 a1) (h2 : r32 a2) (h3 : r32 a3) {K : zK} {F Fm : zF} {B Bm : zB} (h : IV cc Km K F B Fm Bm) : zE (f_S_stroke K 0 a1 a2 a3 F B) (f_M_stroke Km a1 a2 a3 Fm Bm) F B Fm Bm := by
  obtain ⟨x, y, e1, e2, e3⟩ := prf h h1
  unfold f_S_stroke f_S_stroke_23 f_M_stroke f_M_stroke_33 f_M_stroke_89
  refine zE_l1 (IV_12 h) (zE_bl e1 (zE_br e2 ?_))
  rcases e3 with ⟨x0, y0 | ⟨y0, z⟩⟩ | ⟨x0, y0, z, c, pfd, hr⟩
  · exact zE_l1 x0 (zE_r1 y0 (zE_s rfl))
  · exact zE_l1 x0 (zE_r0 (by first | decide | omega) (zE_r1 y0 (zE_r1 (by rw [z]; decide) (zE_r1 z (zE_s rfl)))))
  · have hc := pfd.1.2
    have h60 := pfd.2.1.2.2
    refine zE_l0 (by first | decide | omega) (zE_l1 x0 ?_)
    refine zE_r0 (by first | decide | omega) (zE_r1 y0 (zE_r1 (by rw [z]; decide) (zE_r0 (by first | decide | omega) (zE_r1 h2 ?_))))
    by_cases r : 0 ≤ a2 ∧ a2 < 2 * c
    · obtain ⟨on, ev, j, e, w1, w2, w3, w4, w5, w6, w7, _⟩ := PFD_s pfd r.1 r.2
      obtain ⟨t0, t1, t2, t3⟩ := C_toldK (K := K) x0 ⟨hc.1, hc.2⟩ hr r.1 r.2 w1 w2 w3 w4 w5 w6 e
      have ab : 0 ≤ a2 ∧ a2 < 4000 := by omega
      refine zE_r0 (by first | decide | omega) (zE_r1 (by unfold r32; omega) (zE_r1 (by first | decide | omega) (zE_r1 h3 ?_)))
      by_cases c0 : a3 = 0
      · rw [c0]; exact zE_r1 rfl (zE_bl t0 (zE_r1 ab (zE_s rfl)))
      · refine zE_r0 c0 ?_
        by_cases c1 : a3 = 1
        · rw [c1]; exact zE_r1 rfl (zE_bl t1 (zE_r1 ab (zE_s rfl)))
        · refine zE_r0 c1 ?_
          by_cases c2 : a3 = 2
          · rw [c2]; exact zE_r1 rfl (zE_bl t2 (zE_r1 ab (zE_s rfl)))
          · refine zE_r0 c2 ?_
            by_cases c3 : a3 = 3
            · rw [c3]; exact zE_r1 rfl (zE_bl t3 (zE_r1 ab (zE_s w7)))
            · refine zE_r0 c3 (zE_bl (r := -1) ?_ (zE_s rfl))
              obtain ⟨g1, g2⟩ : ((lnC 5 x (F 5 x 8).toNat : Nat) : Int) = 4000 ∧ zk 5 (F 5 x 8).toNat = (3, 1) := by
                rcases hr with ⟨e8, _⟩ | ⟨e8, _⟩
                · rw [e8]; exact ⟨rfl, by decide⟩
                · rw [e8]; exact ⟨rfl, by decide⟩
              have g3 : lnC 5 x (F 5 x 8).toNat ≤ 2147483647 := by omega
              unfold f_Performance_strokeTold
              rw [if_pos h2, if_neg (by first | decide | omega), if_pos x0, hc.1, if_pos (by unfold r32; omega), if_pos r.2, if_pos (by first | decide | omega), if_pos g2, if_pos g3, if_pos h3, if_neg c0, if_neg c1, if_neg c2, if_neg c3]
    · unfold f_Performance_strokeTold f_Performance_strokeTold_14
      rw [if_pos h2]
      by_cases z' : a2 < 0
      · rw [if_pos z', zb_s]; exact zE_r1 z' (zE_s rfl)
      · rw [if_neg z', if_pos x0, hc.1, if_pos (by unfold r32; omega), if_neg (by first | decide | omega), zb_s]
        exact zE_r0 z' (zE_r1 (by unfold r32; omega) (zE_r0 (by first | decide | omega) (zE_s rfl)))
theorem v_perform {Km : Nat} (a1 : Int) (h1 : r32 a1) {K : zK} {F Fm : zF} {B Bm : zB} (h : IV cc Km K F B Fm Bm) : ∃ r F1 B1 K1 F2 B2, f_S_perform K 0 a1 F B = some (r, F1, B1, K1) ∧ f_M_perform Km a1 Fm Bm = some (r, F2, B2) := by
  obtain ⟨x, y, e1, e2, e3⟩ := slot h h1
  have h12 := IV_12 h
  have hk := IV_k h
  rcases e3 with ⟨x0, y0⟩ | ⟨x0, y0, V, hP, hM, hD⟩
  · refine ⟨-1, F, B, K, Fm, Bm, ?_, ?_⟩
    · unfold f_S_perform
      rw [if_pos h12, e1]
      simp only [zbN_s]
      rw [if_pos x0]
    · unfold f_M_perform
      rw [e2, zb_s, if_pos (by first | decide | omega)]
  · have hT : T61 Bm := by obtain ⟨_, _, _, _, _, _, hE, _⟩ := h; exact hE.2.1
    have h5 : 0 ≤ K.2 5 := by obtain ⟨_, _, _, _, _, _, hE, _⟩ := h; have := hE.1.1.2.2; omega
    obtain ⟨r, s, F', B', K', Fm', Bm', y1, y2, _⟩ := P_prf (K := K) (Km := Km) (by first | decide | omega) (by first | decide | omega) h5 hP hT hD
    refine ⟨r, F', B', K', Fm', Bm', ?_, ?_⟩
    · unfold f_S_perform
      rw [if_pos h12, e1]
      simp only [zbN_s]
      rw [if_neg (by first | decide | omega), if_pos x0, if_pos x0.2]
      exact y1
    · unfold f_M_perform
      rw [e2, zb_s, if_neg (by first | decide | omega), if_pos y0]
      exact y2
theorem v_file {Km : Nat} (a1 : Int) (h1 : r32 a1) {K : zK} {F Fm : zF} {B Bm : zB} (h : IV cc Km K F B Fm Bm) : ∃ r F1 B1 F2 B2, f_S_file K 0 a1 F B = some (r, F1, B1) ∧ f_M_file Km a1 Fm Bm = some (r, F2, B2) := by
  obtain ⟨p, p0, p1, w, w0, w1, hE, hW, hO, h7, hX, hK⟩ := h
  have hA := hE.1.1
  have hB := hE.1.2.1
  obtain ⟨n1, n2, n3, n4, n5, n6⟩ := hE.1.2.2.2.2.1
  have hWw := hE.1.2.2.2.2.2.1
  have s0 := hE.1.2.2.2.2.2.2.2.2.2.1
  have s1 := hE.1.2.2.2.2.2.2.2.2.2.2
  have h12 : 0 < K.2 12 := by have := hA.2.2; omega
  by_cases z : a1 < 0 ∨ 2 ≤ a1
  · refine ⟨-1, F, B, Fm, Bm, ?_, ?_⟩
    · have x1 := C_atx (K := K) (F := F) (B := B) h1 z
      unfold f_S_file f_S_performanceOf f_S_performanceOf_17 f_S_performanceOf_25 f_S_file_20
      rw [if_pos ⟨(by first | decide | omega), h12⟩, x1, zb_s, if_pos ⟨(by first | decide | omega), h12⟩, x1, zb_s, if_pos (by decide), zb_s, if_pos (by decide)]
    · have x1 := L_atx (Km := Km) (F := Fm) (B := Bm) h1 z
      unfold f_M_file f_M_file_17
      rw [x1, zb_s, if_pos (by decide)]
  · have go : ∀ q v, B 12 0 3 a1 = q → Bm 14 0 5 a1 = v → 0 ≤ v ∧ v < 3 → SLD K q v F B Fm Bm → ∃ r F1 B1 F2 B2, f_S_file K 0 a1 F B = some (r, F1, B1) ∧ f_M_file Km a1 Fm Bm = some (r, F2, B2) := fun q v eq ev hv hs => by
      obtain ⟨r, F', B', r', Fm', Bm', x1, x2, e, _⟩ := P_fl (K := K) (Km := Km) (by have := hA.2.2; omega) (by first | decide | omega) (by have := hA.2.1; omega) h12 hB.2.1 (show 0 ≤ a1 ∧ a1 < 2 by omega) eq ev hv hs
      exact ⟨r, F', B', Fm', Bm', x1, by rw [e]; exact x2⟩
    rcases (show a1 = 0 ∨ a1 = 1 by omega) with e | e
    · exact go p0 w0 (by rw [e]; exact n2) (by rw [e]; exact n5) hWw.2.1 (SLD_of s0 hE.2.2.2.1)
    · exact go p1 w1 (by rw [e]; exact n3) (by rw [e]; exact n6) hWw.2.2.1 (SLD_of s1 hE.2.2.2.2.1)
theorem v_out {Km : Nat} (a1 : Int) (h1 : r32 a1) {K : zK} {F Fm : zF} {B Bm : zB} (h : IV cc Km K F B Fm Bm) : ∃ r F1 B1 F2 B2, f_S_out K 0 a1 F B = some (r, F1, B1) ∧ f_M_out Km a1 Fm Bm = some (r, F2, B2) := by
  obtain ⟨p, p0, p1, w, w0, w1, hE, hW, hO, h7, hX, hK⟩ := h
  have hA := hE.1.1
  have hB := hE.1.2.1
  refine ⟨_, _, _, Fm, Bm, C_out (by have := hA.2.2; omega) (by have := hA.2.2; omega) h1 hB.2.1 hW.2.1.1 hW.2.1.2, (L_out h1 (by have := hW.1; have := hW.2.1; omega) (by have := hW.1; have := hW.2.1; omega)).trans ?_⟩
  have e : (if 0 ≤ a1 ∧ a1 < Fm 14 0 71 then zand (Bm 14 0 70 a1) 255 else -1) = (if 0 ≤ a1 ∧ a1 < F 0 1 1 then B 0 1 0 a1 else -1) := by
    rw [← hW.1]
    by_cases c : 0 ≤ a1 ∧ a1 < F 0 1 1
    · rw [if_pos c, if_pos c, zand255, hW.2.2 a1 c.1 c.2]
    · rw [if_neg c, if_neg c]
  rw [e]
theorem v_again {Km : Nat} {K : zK} {F Fm : zF} {B Bm : zB} (h : IV cc Km K F B Fm Bm) : ∃ r F1 B1 F2 B2, f_S_again K 0 F B = some (r, F1, B1) ∧ f_M_again Km Fm Bm = some (r, F2, B2) := by
  obtain ⟨p, p0, p1, w, w0, w1, hE, hW, hO, h7, hX, hK⟩ := h
  have hA := hE.1.1
  have hB := hE.1.2.1
  obtain ⟨v1, v2, v3⟩ := hW
  have c := C_again (K := K) (F := F) (B := B) (by first | decide | omega) (by have := hA.2.2; omega) (by have := hA.2.2; omega) hB.1 hB.2.1 v2.1 v2.2
  have l := L_again (K := Km) (F := Fm) (B := Bm) (by have := hA.2.1; omega) (by first | decide | omega) (by first | decide | omega)
  by_cases z : F 0 1 1 = 0 ∨ 3000 < F 0 1 1
  · exact ⟨_, _, _, _, _, c.1 z, l.1 (by first | decide | omega)⟩
  · obtain ⟨F', B', x1, _⟩ := c.2 (by first | decide | omega) (by first | decide | omega)
    obtain ⟨Bm', y1, _⟩ := l.2 (by first | decide | omega) (by first | decide | omega)
    exact ⟨_, _, _, _, _, x1, by rw [v1]; exact y1⟩
theorem v_open {Km : Nat} {K : zK} {F Fm : zF} {B Bm : zB} (h : IV cc Km K F B Fm Bm) : ∃ r F1 B1 K1 F2 B2, f_S_open K 0 F B = some (r, F1, B1, K1) ∧ f_M_open Km Fm Bm = some (r, F2, B2) := by
  obtain ⟨p, p0, p1, w, w0, w1, hE, hW, hO, h7, hX, hK⟩ := h
  have hA := hE.1.1
  have hB := hE.1.2.1
  obtain ⟨r, F', B', K', Fm', Bm', x1, x2, _⟩ := P_op (K := K) (Km := Km) (by have := hA.2.2; omega) (by have := hA.2.2; omega) (by first | decide | omega) (by have := hA.2.1; omega) hB.1 hE.1.2.2.2.1 hO
  exact ⟨_, _, _, _, _, _, x1, x2⟩
theorem v_down {Km : Nat} (a1 : Int) (h1 : r32 a1) {K : zK} {F Fm : zF} {B Bm : zB} (h : IV cc Km K F B Fm Bm) : ∃ r F1 B1 F2 B2, f_S_down K 0 a1 F B = some (r, F1, B1) ∧ f_M_down Km a1 Fm Bm = some (r, F2, B2) := by
  obtain ⟨p, p0, p1, w, w0, w1, hE, hW, hO, h7, hX, hK⟩ := h
  have hA := hE.1.1
  have hB := hE.1.2.1
  have hN := hE.1.2.2.2.2.1
  have hD := hE.1.2.2.1.1.1
  obtain ⟨r, F', B', Fm', Bm', x1, x2, _⟩ := P_dw (K := K) (Km := Km) (x := a1) (w := w) (F := F) (B := B) (Fm := Fm) (Bm := Bm) ⟨by have := hA.2.2; omega, by have := hA.2.2; omega, by have := hD 1 (by decide); omega, hK⟩ hA.2.1 (by have := hA.2.2; omega) h1 hB.2.1 hB.2.2.2.2.1 h7 ⟨hN.2.2.2.1, hE.1.2.2.2.2.2.1.1⟩ hO hW
  exact ⟨_, _, _, _, _, x1, x2⟩
theorem v_read {Km : Nat} (a1 : Int) (h1 : r32 a1) {K : zK} {F Fm : zF} {B Bm : zB} (h : IV cc Km K F B Fm Bm) : ∃ r F1 B1 K1 F2 B2, f_S_read K 0 a1 F B = some (r, F1, B1, K1) ∧ f_M_read Km a1 Fm Bm = some (r, F2, B2) := by
  obtain ⟨p, p0, p1, w, w0, w1, hE, _⟩ := h
  obtain ⟨r, K', F', B', Fm', Bm', _, _, _, _, _, _, y1, y2, _⟩ := P_read hE.1 h1
  exact ⟨_, _, _, _, _, _, y1, y2⟩
end
