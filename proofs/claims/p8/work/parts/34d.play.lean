section
/-! ===== the calls of play and sample ===== -/
variable {cc : Int}
theorem IV_u {Km : Nat} {K : zK} {F Fm : zF} {B Bm : zB} (h : IV cc Km K F B Fm Bm) : IU cc K F B Fm Bm := by
  obtain ⟨p, p0, p1, w, w0, w1, hE, _⟩ := h
  exact hE.2.2.2.2.2.1
theorem IU_mono {cd : Int} {K : zK} {F Fm : zF} {B Bm : zB} (hc : cc ≤ cd) (h : IU cc K F B Fm Bm) : IU cd K F B Fm Bm := by
  obtain ⟨h0, h1, h2, h3, h4, h5, h6⟩ := h
  refine ⟨⟨(by first | decide | omega), h0.2⟩, h1, fun s s0 s1 => ?_, h3, h4, fun i i0 i1 z => ?_, h6⟩
  · have := h2 s s0 s1
    unfold PXu at *
    omega
  · have := h5 i i0 i1 z
    unfold PMu at *
    omega
theorem IV_mono {cd : Int} {Km : Nat} {K : zK} {F Fm : zF} {B Bm : zB} (hc : cc ≤ cd) (h : IV cc Km K F B Fm Bm) : IV cd Km K F B Fm Bm := by
  obtain ⟨p, p0, p1, w, w0, w1, ⟨e1, e2, e3, e4, e5, e6, e7⟩, hz⟩ := h
  exact ⟨p, p0, p1, w, w0, w1, ⟨e1, e2, e3, e4, e5, IU_mono hc e6, e7⟩, hz⟩
theorem p_sample {Km : Nat} (a1 a2 a3 : Int) (h1 : r32 a1) (h2 : r32 a2) (h3 : r32 a3) {K : zK} {F Fm : zF} {B Bm : zB} (h : IV cc Km K F B Fm Bm) : ∃ r1 F1 B1 r2 F2 B2, f_S_sample K 0 a1 a2 a3 F B = some (r1, F1, B1) ∧ f_M_sample Km a1 a2 a3 Fm Bm = some (r2, F2, B2) ∧ IV cc Km K F1 B1 F2 B2 := by
  obtain ⟨x, y, e1, e2, e3⟩ := prf h h1
  obtain ⟨_, _, hU5, _, _, hUm, _⟩ := IV_u h
  refine rd2 h ?_ ?_
  · unfold f_S_sample f_S_sample_25
    rw [if_pos (IV_12 h), e1, zb_s]
    rcases e3 with ⟨x0, _⟩ | ⟨x0, _⟩
    · exact zR_i (fun _ => zR_s) (fun a => absurd x0 a)
    · have px := (hU5 x x0.1 x0.2).2.1
      exact zR_i (fun _ => zR_s) (fun _ => zR_g h2 (zR_i (fun _ => zR_s) (fun n => zR_g x0 (zR_g (by unfold r32; omega) (zR_i (fun l => zR_g h3 (zR_i (fun _ => zR_g (by first | decide | omega) zR_s) (fun _ => zR_i (fun _ => zR_g (by first | decide | omega) zR_s) (fun _ => zR_s)))) (fun _ => zR_s))))))
  · unfold f_M_sample f_M_sample_33 f_M_sample_69
    rw [e2, zb_s]
    rcases e3 with ⟨_, y0 | ⟨y0, z⟩⟩ | ⟨_, y0, z, _⟩
    · exact zR_i (fun _ => zR_s) (fun a => absurd y0 a)
    · exact zR_i (fun _ => zR_s) (fun _ => zR_g y0 (zR_g (by rw [z]; decide) (zR_i (fun _ => zR_s) (fun a => absurd z a))))
    · have px := (hUm y y0.1 y0.2 (by first | decide | omega)).2.1
      exact zR_i (fun _ => zR_s) (fun _ => zR_g y0 (zR_g (by rw [z]; decide) (zR_i (fun _ => zR_s) (fun _ => zR_g h2 (zR_i (fun _ => zR_s) (fun n => zR_g (by unfold r32; omega) (zR_i (fun l => zR_g h3 (zR_i (fun _ => zR_g (by first | decide | omega) zR_s) (fun _ => zR_i (fun _ => zR_g (by first | decide | omega) zR_s) (fun _ => zR_s)))) (fun _ => zR_s))))))))
theorem PFD_p {s w c : Int} {F F' : zF} {B B' : zB} {Fm Fm' : zF} {Bm Bm' : zB} (h : PFD s w c F B Fm Bm) (hr : rwS s F) (f : ∀ k, k = 0 ∨ k = 1 ∨ k = 8 → F' 5 s k = F 5 s k) (b : ∀ k x, 180 ≤ k → B' 5 s k x = B 5 s k x) (fm : ∀ k, k = 53 ∨ k = 54 ∨ k = 60 → Fm' 13 w k = Fm 13 w k) (bm : ∀ k x, 55 ≤ k → k ≤ 64 → Bm' 13 w k x = Bm 13 w k x) (e65 : F' 5 s 2 = Fm' 13 w 65) : PFD s w c F' B' Fm' Bm' := by
  have h8 : 180 ≤ (F 5 s 8).toNat := by unfold rwS at hr; omega
  have b8 : ∀ x, B' 5 s (F 5 s 8).toNat x = B 5 s (F 5 s 8).toNat x := fun x => b _ x h8
  unfold PFD SB kz SX at *
  rw [f 0 (by first | decide | omega), f 1 (by first | decide | omega), f 8 (by first | decide | omega), fm 53 (by first | decide | omega), fm 54 (by first | decide | omega), fm 60 (by first | decide | omega)]
  simp only [b8, b 340 _ (by decide), b 341 _ (by decide), b 342 _ (by decide), b 343 _ (by decide), b 344 _ (by decide), b 345 _ (by decide), bm 55 _ (by decide) (by decide), bm 56 _ (by decide) (by decide), bm 57 _ (by decide) (by decide), bm 58 _ (by decide) (by decide), bm 59 _ (by decide) (by decide), bm 61 _ (by decide) (by decide), bm 62 _ (by decide) (by decide), bm 63 _ (by decide) (by decide), bm 64 _ (by decide) (by decide)]
  exact ⟨h.1, h.2.1, h.2.2.1, h.2.2.2.1, h.2.2.2.2.1, h.2.2.2.2.2.1, e65⟩
theorem q_play {Km : Nat} (a1 a2 : Int) (h1 : r32 a1) (h2 : r32 a2) (hcc : cc ≤ 900000) {K : zK} {F Fm : zF} {B Bm : zB} (h : IV cc Km K F B Fm Bm) : ∃ r1 F1 B1 r2 F2 B2, f_S_play K 0 a1 a2 F B = some (r1, F1, B1) ∧ f_M_play Km a1 a2 Fm Bm = some (r2, F2, B2) ∧ IV (cc + 1000) Km K F1 B1 F2 B2 ∧ r1 = r2 := by
  have hI : IV (cc + 1000) Km K F B Fm Bm := IV_mono (by first | decide | omega) h
  obtain ⟨p, p0, p1, w, w0, w1, hE, hW, hO, h7, hX, hK⟩ := h
  have hA := hE.1.1
  obtain ⟨n1, n2, n3, n4, n5, n6⟩ := hE.1.2.2.2.2.1
  have hWw := hE.1.2.2.2.2.2.1
  have s0 := hE.1.2.2.2.2.2.2.2.2.2.1
  have s1 := hE.1.2.2.2.2.2.2.2.2.2.2
  have hU := hE.2.2.2.2.2.1
  have h12 : 0 < K.2 12 := by have := hA.2.2; omega
  have outC : ∀ q, q < 0 → f_S_pieceAt K 0 a1 F B = some (q, F, B) → f_S_play K 0 a1 a2 F B = some (-1, F, B) := fun q q0 c => by
    unfold f_S_play f_S_play_33 f_S_performanceOf f_S_performanceOf_17 f_S_performanceOf_25
    rw [if_pos ⟨(by first | decide | omega), h12⟩, if_pos ⟨(by first | decide | omega), h12⟩, c, zb_s, if_pos q0, zb_s, c, zb_s, if_pos (by decide)]
  have outL : f_M_piece Km a1 Fm Bm = some (-1, Fm, Bm) → f_M_play Km a1 a2 Fm Bm = some (-1, Fm, Bm) := fun l => by
    unfold f_M_play f_M_play_28
    rw [l, zb_s, if_pos (by decide)]
  by_cases z : a1 < 0 ∨ 2 ≤ a1
  · exact ⟨_, _, _, _, _, _, outC (-1) (by decide) (C_atx h1 z), outL (L_atx h1 z), hI, rfl⟩
  · have hl : 0 ≤ a1 ∧ a1 < 2 := by omega
    have go : ∀ q v, B 12 0 3 a1 = q → Bm 14 0 5 a1 = v → 0 ≤ v ∧ v < 3 → ((q = p0 ∧ v = w0) ∨ (q = p1 ∧ v = w1)) → SLD K q v F B Fm Bm → ∃ r1 F1 B1 r2 F2 B2, f_S_play K 0 a1 a2 F B = some (r1, F1, B1) ∧ f_M_play Km a1 a2 Fm Bm = some (r2, F2, B2) ∧ IV (cc + 1000) Km K F1 B1 F2 B2 ∧ r1 = r2 := fun q v eq ev hv hc hs => by
      have x1 := C_at (K := K) (F := F) h12 hl eq
      rcases hs with ⟨q0, m0⟩ | ⟨q0, m0, V, hP, hM, hD⟩
      · have x3 := L_at (Km := Km) (F := Fm) hl ev hv (Or.inl m0)
        rw [if_pos m0] at x3
        exact ⟨_, _, _, _, _, _, outC q q0 x1, outL x3, hI, rfl⟩
      have x3 := L_at (Km := Km) (F := Fm) hl ev hv (Or.inr m0)
      rw [if_neg (by first | decide | omega)] at x3
      have hq := hP.1.1
      obtain ⟨d10, d11, d9, dr, ds, dp, dz⟩ := hD
      rcases d10 with z10 | z10
      · refine ⟨-1, F, B, -1, Fm, Bm, ?_, ?_, hI, rfl⟩
        · unfold f_S_play f_S_play_33 f_S_performanceOf f_S_performanceOf_17 f_S_performanceOf_25
          rw [if_pos ⟨(by first | decide | omega), h12⟩, if_pos ⟨(by first | decide | omega), h12⟩, x1, zb_s, if_neg (by first | decide | omega), if_pos hq, z10, if_pos (by decide), if_pos rfl, zb_s, x1, zb_s, if_pos (by decide)]
        · unfold f_M_play f_M_play_28
          rw [x3, zb_s, if_neg (by first | decide | omega), if_pos hv, dz z10, if_pos (by decide), if_pos rfl]
      obtain ⟨z11, c, pfd⟩ := dp z10
      obtain ⟨s0', sdr⟩ := ds z11
      have hs : 0 ≤ F 6 q 9 ∧ F 6 q 9 < K.2 5 := ⟨s0', d9⟩
      obtain ⟨S, eS⟩ : ∃ S, S = F 6 q 9 := ⟨_, rfl⟩
      have rw9 := dr s0'
      rw [← eS] at s0' sdr hs d9 pfd rw9
      have pf : f_S_performanceOf K 0 a1 F B = some (S, F, B) := by
        unfold f_S_performanceOf f_S_performanceOf_25
        rw [if_pos ⟨(by first | decide | omega), h12⟩, x1, zb_s, if_neg (by first | decide | omega), if_pos hq, z10, if_pos (by decide), if_neg (by decide), eS]
      have c53 := pfd.2.1
      by_cases b1 : a2 < 0 ∨ 1000 < a2
      · refine ⟨-1, F, B, -1, Fm, Bm, ?_, ?_, hI, rfl⟩
        · unfold f_S_play f_S_play_33
          rw [if_pos ⟨(by first | decide | omega), h12⟩, pf, zb_s, x1, zb_s, if_neg (by first | decide | omega), if_neg (by first | decide | omega), if_pos h2]
          by_cases b2 : a2 < 0
          · rw [if_pos b2]
          · rw [if_neg b2, if_neg (by first | decide | omega)]
        · unfold f_M_play f_M_play_28
          rw [x3, zb_s, if_neg (by first | decide | omega), if_pos hv, c53.1, if_pos (by decide), if_neg (by decide), if_pos h2]
          by_cases b2 : a2 < 0
          · rw [if_pos b2]
          · rw [if_neg b2, if_neg (by first | decide | omega)]
      -- it plays
      have px := hU.2.2.1 S hs.1 hs.2
      have pm := hU.2.2.2.2.2.1 v hv.1 hv.2 (by rw [c53.1]; decide)
      have hTQ := hU.2.2.2.2.2.2
      have hG : ∀ j, 0 ≤ j → j < c → B 5 S 340 j < V := by
        obtain ⟨Fx, Bx, _, _, _, ga, _⟩ := SDR_ga (Km := Km) (by have := hA.2.1; omega) sdr hE.2.1
        rcases ga with ⟨_, _, _, _, g5⟩ | ⟨g1, _⟩
        · intro j j0 j1
          exact (g5 j j0 (by rw [pfd.1.2.1]; exact j1)).2.2.2.2.2.2.2
        · have := pfd.1.1; omega
      have hSB : SB S c B := pfd.2.2.1
      have h55 := pfd.2.2.2.1
      have vh : ∀ j, 0 ≤ j → j < c → (0 ≤ B 6 q 0 (B 5 S 340 j) ∧ B 6 q 0 (B 5 S 340 j) < K.2 4) ∧ (F 4 (B 6 q 0 (B 5 S 340 j)) 2 = Bm 13 v 9 (B 5 S 340 j) ∧ 0 ≤ F 4 (B 6 q 0 (B 5 S 340 j)) 2 ∧ F 4 (B 6 q 0 (B 5 S 340 j)) 2 ≤ 3) := fun j j0 j1 => by
        have k := (hP.2.2 (B 5 S 340 j) (hSB j j0 j1).1.1 (hG j j0 j1)).1
        exact ⟨k.1, k.2.2.2.1⟩
      obtain ⟨r, F', B', e, er, f, b, f2, f3, fC⟩ := C_play (n := a2) hK hs hq hP.2.1.2.2.2.2.1.2 (by have := px.1; omega) ⟨px.2.2.1, px.2.2.2.1, px.2.2.2.2⟩ (by first | decide | omega) ⟨pfd.1.2.1, pfd.1.2.2⟩ hSB (fun j j0 j1 => ⟨(vh j j0 j1).1, (vh j j0 j1).2.2⟩)
      have hmx : MXh v c Fm Bm := by
        refine ⟨hv, ⟨c53.2.1, pfd.1.2.2⟩, by rw [← hP.2.1.2.2.2.2.1.1]; exact hP.2.1.2.2.2.2.1.2, fun j j0 j1 => ?_⟩
        obtain ⟨k1, k2, k3, k4, k5⟩ := h55 j j0 j1
        obtain ⟨a0, a1', a2', a3', a4, a5, a6⟩ := hSB j j0 j1
        have k := (vh j j0 j1).2
        rw [k1, k2, k3, k4, k5, ← k.1]
        exact ⟨⟨a4, a5, a6⟩, a2', a3', a0, k.2⟩
      obtain ⟨r', Fm', Bm', e', er', g, m, g2, g3, gC⟩ := L_pl33 (K := Km) (n := a2) (P := Fm 13 v 65) (by have := hA.2.1; omega) hTQ hmx (by first | decide | omega) (by have := pm.1; omega) a2.toNat Km 0 Fm Bm (by first | decide | omega) (by decide) (by have := hA.2.1; omega) (fun _ _ _ _ => rfl) (fun _ _ _ _ _ => rfl) (by first | decide | omega) ⟨pm.2.2.1, pm.2.2.2.1, pm.2.2.2.2⟩
      have e6 : ∀ k, F' 6 q k = F 6 q k := fun k => f 6 q k (by first | decide | omega)
      have hD' : PD K V q v F' B' Fm' Bm' := by
        refine ⟨Or.inr (by rw [e6]; exact z10), Or.inr (by rw [e6]; exact z11), by rw [e6, ← eS]; exact d9, fun _ => ?_, fun _ => ⟨by rw [e6, ← eS]; exact s0', ?_⟩, fun _ => ⟨by rw [e6]; exact z11, c, ?_⟩, fun y => by rw [e6] at y; omega⟩
        · rw [e6, ← eS]
          unfold rwS at *
          rw [f 5 S 8 (by first | decide | omega), f 5 S 9 (by first | decide | omega)]; exact rw9
        · rw [e6, ← eS]
          exact SDR_e sdr ⟨f 5 S 0 (by first | decide | omega), f 5 S 1 (by first | decide | omega)⟩ (fun k x hk => b 5 S k x (by first | decide | omega)) (fun k a b => g 13 v k (by first | decide | omega)) (fun k x hk => m 13 v k x (by first | decide | omega))
        · rw [e6, ← eS]
          exact PFD_p pfd rw9 (fun k hk => f 5 S k (by first | decide | omega)) (fun k x hk => b 5 S k x (by first | decide | omega)) (fun k hk => g 13 v k (by first | decide | omega)) (fun k x h0 h1 => m 13 v k x (by first | decide | omega)) (by rw [f2, g2, pfd.2.2.2.2.2.2])
      have hU' : IU (cc + 1000) K F' B' Fm' Bm' := by
        have hm := IU_mono (cd := cc + 1000) (by first | decide | omega) hU
        refine IU_f hm (IKn_f hm.1.2 rfl rfl rfl rfl (fun y k _ _ _ => f 6 y k (by first | decide | omega))) rfl rfl (fun l _ _ => ⟨Or.inl (f 2 l 0 (by first | decide | omega)), f 2 l 4 (by first | decide | omega), fun k x => b 2 l k x (by first | decide | omega)⟩) (fun x x0 x1 => ?_) (fun t _ _ => ⟨fun k => f 9 t k (by first | decide | omega), fun k x => b 9 t k x (by first | decide | omega)⟩) (fun y _ y1 => Or.inr ⟨y1, f 6 y 13 (by first | decide | omega), f 6 y 12 (by first | decide | omega)⟩) (fun i i0 i1 z => ?_) (fun k x hk => m 14 0 k x (by first | decide | omega))
        · by_cases ex : x = S
          · rw [ex]
            unfold PXu
            rw [f2, f3]
            exact ⟨by have := px.1; omega, (by first | decide | omega), fC.1, fC.2.1, fC.2.2⟩
          · exact PXu_e (hm.2.2.1 x x0 x1) (fun k _ => f 5 x k (by first | decide | omega))
        · by_cases ei : i = v
          · rw [ei]
            unfold PMu
            rw [g2, g3]
            exact ⟨by have := pm.1; omega, (by first | decide | omega), gC.1, gC.2.1, gC.2.2⟩
          · rw [g 13 i 53 (by first | decide | omega)] at z
            exact PMu_e (hm.2.2.2.2.2.1 i i0 i1 z) (fun k k0 k1 => g 13 i k (by first | decide | omega))
      refine ⟨r, F', B', r', Fm', Bm', ?_, ?_, ⟨p, p0, p1, w, w0, w1, IE_pf (s := S) hE hc hP hM m0 rfl hs (Or.inl ⟨eS, rfl⟩) (by rw [e6, eS]) (fun c y k _ _ n => f c y k (by first | decide | omega)) (fun c y k x _ n => b c y k x (by first | decide | omega)) (fun c y k _ n => g c y k (by first | decide | omega)) (fun c y k x _ n => m c y k x (by first | decide | omega)) hD' hU', ?_, ?_, ?_, ?_, hK⟩, by rw [er, er', pfd.2.2.2.2.2.2]⟩
      · unfold f_S_play
        rw [if_pos ⟨(by first | decide | omega), h12⟩, pf, zb_s, x1, zb_s, if_neg (by first | decide | omega), if_neg (by first | decide | omega), if_pos h2, if_neg (by first | decide | omega), if_pos (by first | decide | omega), if_pos hs, if_pos hq, e, zb_s]
      · unfold f_M_play
        rw [x3, zb_s, if_neg (by first | decide | omega), if_pos hv, c53.1, if_pos (by decide), if_neg (by decide), if_pos h2, if_neg (by first | decide | omega), if_pos (by first | decide | omega)]
        exact e'
      · have e1 : F' 0 1 1 = F 0 1 1 := f 0 1 1 (by first | decide | omega)
        refine ⟨by rw [e1, g 14 0 71 (by first | decide | omega)]; exact hW.1, by rw [e1]; exact hW.2.1, fun j j0 j1 => ?_⟩
        rw [e1] at j1
        rw [b 0 1 0 j (by first | decide | omega), m 14 0 70 j (by first | decide | omega)]; exact hW.2.2 j j0 j1
      · exact IOp_g hO rfl (f 12 0 8 (by first | decide | omega)) (f 12 0 9 (by first | decide | omega)) (fun o k _ => f 8 o k (by first | decide | omega)) (fun o k x _ => b 8 o k x (by first | decide | omega)) (g 14 0 72 (by first | decide | omega)) (fun k x hk => m 14 0 k x (by first | decide | omega))
      · rw [f 7 0 4 (by first | decide | omega)]; exact h7
      · intro y y0 y1
        rw [b 12 0 1 y (by first | decide | omega), m 14 0 4 y (by first | decide | omega)]; exact hX y y0 y1
    have : a1 = 0 ∨ a1 = 1 := by omega
    rcases this with e | e
    · exact go p0 w0 (by rw [e]; exact n2) (by rw [e]; exact n5) hWw.2.1 (Or.inl ⟨rfl, rfl⟩) (SLD_of s0 hE.2.2.2.1)
    · exact go p1 w1 (by rw [e]; exact n3) (by rw [e]; exact n6) hWw.2.2.1 (Or.inr ⟨rfl, rfl⟩) (SLD_of s1 hE.2.2.2.2.1)
theorem p_play {Km : Nat} (a1 a2 : Int) (h1 : r32 a1) (h2 : r32 a2) (hcc : cc ≤ 900000) {K : zK} {F Fm : zF} {B Bm : zB} (h : IV cc Km K F B Fm Bm) : ∃ r1 F1 B1 r2 F2 B2, f_S_play K 0 a1 a2 F B = some (r1, F1, B1) ∧ f_M_play Km a1 a2 Fm Bm = some (r2, F2, B2) ∧ IV (cc + 1000) Km K F1 B1 F2 B2 := by
  obtain ⟨r1, F1, B1, r2, F2, B2, x1, x2, x3, _⟩ := q_play a1 a2 h1 h2 hcc h
  exact ⟨r1, F1, B1, r2, F2, B2, x1, x2, x3⟩
end
