section
/-! ===== a whole voice, on both sides ===== -/
def VPO (K : zK) (Km : Nat) (N L V j p w : Int) (F : zF) (B : zB) (Fm : zF) (Bm : zB) (r : Int) (F' : zF) (B' : zB) (K' : zK) (Fm' : zF) (Bm' : zB) : Prop := VF K p w F B Fm Bm K' F' B' Fm' Bm' ∧ GS K' B' ∧ ((r = 1 ∧ ∃ j', j < j' ∧ VI K' Km N L (V + 1) j' p w F' B' Fm' Bm') ∨ (r = 0 ∧ ERR F' Fm'))
theorem P_voice {K : zK} {Km : Nat} {N L V j p w : Int} {F : zF} {B : zB} {Fm : zF} {Bm : zB} (hI : VI K Km N L V j p w F B Fm Bm) (wd : wdAt Bm j 508675318629) (hV4 : V < 4) : zPm (f_Parser_takeVoice K 0 p F B) (f_M_voiceText Km Fm Bm) (fun r F' B' K' _ Fm' Bm' => VPO K Km N L V j p w F B Fm Bm r F' B' K' Fm' Bm') := by
  obtain ⟨⟨hE, hS, hP, hLT, hit, hi0, hdep, hSL⟩, hGS, hV1, hV2, hV3, hVv⟩ := hI
  have hX := PS_CX hE hS
  have hM := PS_MX hE hS
  have k3 := hE.2.2.2.1
  have k10 := hE.2.2.2.2.1
  have k1 := hE.2.2.2.2.2.1
  have km := hE.2.2.2.2.2.2
  have h4 := wd.1
  have jj := hS.2.1.1
  have nn := hE.1.2.1
  have ep := hS.2.1.2.2.1
  have tk0 := hE.1.2.2 j jj.1 jj.2
  have p15 := hS.2.2.2.2.2.2.2
  have hjN : j < N := by
    have : ¬ j = N := fun z => by have := tk0.2.2.2.1.mpr z; omega
    omega
  have hx14 : 0 ≤ F 3 0 14 ∧ F 3 0 14 < 3000 := by omega
  have hV : 0 ≤ V ∧ V < 4 := ⟨hV3.1, hV4⟩
  obtain ⟨p0, w0, h6, hPr⟩ := hP
  have hP0 : HP K p w F Fm := ⟨p0, w0, h6, hPr⟩
  -- the root is made, the word voice is passed
  have hK1 : fK 0 (F 3 0 14) (F 3 0 14) (F 3 0 15) B (newB B (F 3 0 14) 10 (F 10 0 1)) := newB_k fK_r (Int.le_refl _)
  have gM1 : tM Bm (zup4 Bm 14 0 28 V j) := tM_u tM_r (by decide) (by decide)
  have hE1 := EV_t (EV_k hE hK1 (fJ_H (fr := 0) (j := j) fH_r (Int.le_refl _))) tB_r gM1
  have hS0 := PS_k (PS_u (k := 14) (v := F 3 0 14 + 1) hS (by decide)) hK1 (fJ_H (fr := 0) (j := j) fH_r (Int.le_refl _))
  have hS1 := PS_t (PS_step (EV_k hE hK1 (fJ_H (fr := 0) (j := j) fH_r (Int.le_refl _))) hS0 (by first | decide | omega)) tB_r gM1
  have rowsM : ∀ k, k ≠ 28 → (zup4 Bm 14 0 28 V j) 14 0 k = Bm 14 0 k := fun k hk => by funext y; rw [zup4_v, if_neg (fun z => hk z.2.2.1)]
  have row13 : ∀ k, (zup4 Bm 14 0 28 V j) 13 w k = Bm 13 w k := fun k => by funext y; rw [zup4_v, if_neg (fun z => absurd z.1 (by decide))]
  have e28 : (zup4 Bm 14 0 28 V j) 14 0 28 V = j := by rw [zup4_v, if_pos ⟨rfl, rfl, rfl, rfl⟩]
  have n28 : ∀ v, v ≠ V → (zup4 Bm 14 0 28 V j) 14 0 28 v = Bm 14 0 28 v := fun v hv => by rw [zup4_v, if_neg (fun z => hv z.2.2.2)]
  have hX1 := PS_CX hE1 hS1
  have hM1 := PS_MX hE1 hS1
  have hg1 := hS1.2.2.2.1
  have jj1 := hS1.2.1.1
  have ev := hS1.2.1.2.2.2.1
  have tk := hE1.1.2.2 (j + 1) jj1.1 jj1.2
  have gB1 : tB B (newB B (F 3 0 14) 10 (F 10 0 1)) := tB_K hK1
  have nb := newB_at (B := B) (x := F 3 0 14) (s := 10) (p := F 10 0 1)
  generalize hBm1 : zup4 Bm 14 0 28 V j = Bm1 at *
  generalize hB1 : newB B (F 3 0 14) 10 (F 10 0 1) = B1 at *
  have gF1 : fF F (advF (zup3 F 3 0 14 (F 3 0 14 + 1)) B1) := fF_a (fF_u fF_r (by decide))
  have gG1 : fG Fm (zup3 Fm 14 0 16 (j + 1)) := fG_u fG_r (by decide) (by decide)
  have nr := nmF_r (Bm1 14 0 7 (j + 1)) (Bm1 14 0 11 (j + 1))
  have bad70 : ∀ {Fx : zF} {Bx : zB}, bad Fx → f_M_voiceText_70 Km V Fx Bx = some (0, Fx, Bx) := by
    intro Fx Bx hb
    unfold f_M_voiceText_70
    rw [L_goodB hb]
    simp only [zb_s, ir0, if_true]
  unfold f_Parser_takeVoice f_M_voiceText
  rw [if_pos ⟨Int.le_refl _, k3⟩, C_newItem hX hx14, h6, if_pos w0, hV2, if_pos hV, hM.1, hBm1, hB1, L_isName km hM1 hE1.2.1]
  simp only [zb_s, zbN_s]
  rw [show (zup3 F 3 0 14 (F 3 0 14 + 1)) 3 0 11 = 0 from hS0.1, if_pos ⟨Int.le_refl _, k10⟩, C_adv (CX_u (by rw [← hB1]; exact CX_n hX) (by decide))]
  simp only [zbN_s]
  rw [C_isName hX1, PS_nm hE1 hS1]
  simp only [zbN_s]
  rw [if_pos (show r32 (nmF (Bm1 14 0 7 (j + 1)) (Bm1 14 0 11 (j + 1))) by omega), if_pos (show r32 (nmF (Bm1 14 0 7 (j + 1)) (Bm1 14 0 11 (j + 1))) by omega)]
  by_cases z : nmF (Bm1 14 0 7 (j + 1)) (Bm1 14 0 11 (j + 1)) = 0
  · have er := PS_err2 hE1 hS1
    rw [if_pos z, if_pos z, C_refuse hX1, L_wrong hg1 hM1]
    simp only [zb_s, zbN_s]
    rw [if_pos (by decide), bad70 er.2]
    exact zPm_s ⟨VF_h (hF_f (fF_e gF1)) (hG_f (fG_e gG1)) gB1 gM1, GS_t hGS gB1, Or.inr ⟨rfl, er⟩⟩
  · have k4 : Bm1 14 0 7 (j + 1) = 4 := by
      by_cases q : Bm1 14 0 7 (j + 1) = 4 ∧ nmC (Bm1 14 0 11 (j + 1))
      · exact q.1
      · exact absurd (nmF_0 q) z
    have w4 := hM1.2.2.2.2 k4
    have nzw : NZb (Bm1 14 0 11 (j + 1)) := by have t7 := tk.2.2.2.2.2.2.1 k4; rw [← t7.1]; exact t7.2.2
    have e2 : (advF (zup3 F 3 0 14 (F 3 0 14 + 1)) B1) 10 0 2 = Bm1 14 0 11 (j + 1) := by rw [ev]; exact (tk.2.2.2.2.2.2.1 k4).1
    have F64 : ∀ c y k, c = 4 ∨ c = 6 → (advF (zup3 F 3 0 14 (F 3 0 14 + 1)) B1) c y k = F c y k := fun c y k hc => gF1 c y k (fun z => by have := z.1; omega) (fun z => by have := z.1; omega)
    have B60 : ∀ y k x, B1 6 y k x = B 6 y k x := fun y k x => gB1 6 y k x (fun z => absurd z.1 (by decide))
    have hp := C_hasPart (K := K) (p := p) (w := Bm1 14 0 11 (j + 1)) (V := V) (F := advF (zup3 F 3 0 14 (F 3 0 14 + 1)) B1) (B := B1) k1 p0 (by rw [F64 6 p 1 (by decide)]; exact hV1) hV3 (fun v v0 v1 => by
      have q := (hVv v v0 v1).1
      rw [B60, F64 4 _ 0 (by decide)]
      exact ⟨q.1, by have := q.2.2.1; omega⟩) (by first | decide | omega)
    have ef : fdR (fun v => (advF (zup3 F 3 0 14 (F 3 0 14 + 1)) B1) 4 (B1 6 p 0 v) 0) V (Bm1 14 0 11 (j + 1)) 22 0 = fdR (Bm1 13 w 10) V (Bm1 14 0 11 (j + 1)) 22 0 := fdR_c (fun v v0 v1 => by
      have q := (hVv v v0 v1).1
      show (advF (zup3 F 3 0 14 (F 3 0 14 + 1)) B1) 4 (B1 6 p 0 v) 0 = _
      rw [B60, F64 4 _ 0 (by decide), row13]
      exact q.2.1)
    rw [ef] at hp
    have mn := L_find (K := Km) (c := 13) (i := w) (k := 10) (m := V) (w := Bm1 14 0 11 (j + 1)) (F := zup3 Fm 14 0 16 (j + 1)) (B := Bm1) km (by rw [show nM 13 = 3 by decide]; exact w0) (by rw [show (lnM 13 w 10 : Int) = 4 from rfl]; omega) (by rw [show lnM 13 w 10 = 4 from rfl]; decide) (by decide) (by first | decide | omega) (fun v v0 v1 => by
      have q := (hVv v v0 v1).1
      rw [row13, ← q.2.1]
      have := q.2.2.1
      omega) (by first | decide | omega)
    have e6 : (zup3 Fm 14 0 16 (j + 1)) 14 0 6 = w := by simp [zup3_v]; exact h6
    have e16 : (zup3 Fm 14 0 16 (j + 1)) 14 0 16 = j + 1 := by simp [zup3_v]
    rw [if_neg z, if_neg z, hS1.1, if_pos ⟨Int.le_refl _, k10⟩, if_pos p0, e2, e6, if_pos w0, e16, if_pos (show 0 ≤ j + 1 ∧ j + 1 < 3001 by omega), mn]
    rcases fdR_r (row := Bm1 13 w 10) (m := V) (w := Bm1 14 0 11 (j + 1)) (f := 22) (k := 0) (by first | decide | omega) with n1 | ⟨n1, n2, n3⟩
    · rw [n1, if_pos (show (-1 : Int) < 0 by decide)] at hp
      rw [hp, n1]
      simp only [zb_s, zbN_s]
      have hS2' := PS_step hE1 hS1 (by first | decide | omega)
      rw [if_pos (show r32 0 by decide), if_pos trivial, hS1.1, if_pos ⟨Int.le_refl _, k10⟩, C_adv hX1, if_pos (show r32 (-1) by decide), if_pos (show (-1 : Int) < 0 by decide)]
      simp only [zbN_s]
      unfold f_M_voiceText_70
      rw [L_good hg1]
      simp only [zb_s, ir1, i10]
      rw [e6, if_pos w0, e16, if_pos (show 0 ≤ j + 1 ∧ j + 1 < 3001 by omega), if_pos hV]
      have ew : (zup4 Bm1 13 w 10 V (Bm1 14 0 11 (j + 1))) 14 0 11 (j + 1) = Bm1 14 0 11 (j + 1) := by rw [zup4_v, if_neg (fun z => absurd z.1 (by decide))]
      rw [ew, L_108 (m := 9) (by omega) (by omega) (by have : (256 : Int) ^ 9 = 4722366482869645213696 := by decide
                                                       omega) (by first | decide | omega)]
      rw [f_M_voiceText_108]
      rw [if_pos (show r64 0 by decide), if_pos (zcmp_le.mpr (Int.le_refl _)), e6, if_pos w0, if_pos hV, e16, if_pos (show 0 ≤ j + 1 + 1 ∧ j + 1 + 1 < 3001 by have := hS2'.2.1.1; omega), show (0 : Int) + ltr 9 (Bm1 14 0 11 (j + 1)) = ltr 9 (Bm1 14 0 11 (j + 1)) by omega]
      generalize hBm3 : zup4 (zup4 Bm1 13 w 10 V (Bm1 14 0 11 (j + 1))) 13 w 11 V (ltr 9 (Bm1 14 0 11 (j + 1))) = Bm3
      have m14 : ∀ k, Bm3 14 0 k = Bm1 14 0 k := fun k => by
        rw [← hBm3]; funext y; rw [zup4_v, if_neg (fun z => absurd z.1 (by decide)), zup4_v, if_neg (fun z => absurd z.1 (by decide))]
      have m13 : ∀ k v, (k = 10 ∨ k = 11 → v ≠ V) → Bm3 13 w k v = Bm1 13 w k v := fun k v h => by
        rw [← hBm3, zup4_v, if_neg (fun z => h (Or.inr z.2.2.1) z.2.2.2), zup4_v, if_neg (fun z => h (Or.inl z.2.2.1) z.2.2.2)]
      have m10 : Bm3 13 w 10 V = Bm1 14 0 11 (j + 1) := by rw [← hBm3]; simp [zup4_v]
      have m11 : Bm3 13 w 11 V = ltr 9 (Bm1 14 0 11 (j + 1)) := by rw [← hBm3]; simp [zup4_v]
      have hE3 := EV_B (B' := B1) (Bm' := Bm3) hE1 (fun _ => rfl) (fun k _ => m14 k)
      have hS2 := PS_B (B' := B1) (Bm' := Bm3) hS2' (fun _ => rfl) (fun k _ => m14 k)
      rw [m14, m14]
      generalize hF3 : advF (advF (zup3 F 3 0 14 (F 3 0 14 + 1)) B1) B1 = F3 at *
      generalize hFm2 : zup3 (zup3 Fm 14 0 16 (j + 1)) 14 0 16 (j + 1 + 1) = Fm2 at *
      have hX3 := PS_CX hE3 hS2
      have gF3 : fF F F3 := by rw [← hF3]; exact fF_a gF1
      have gG3 : fG Fm Fm2 := by rw [← hFm2]; exact fG_u gG1 (by decide) (by decide)
      have a14 : F3 3 0 14 = F 3 0 14 + 1 := by rw [← hF3]; simp [zup3_v, advF_o]
      have a15 : F3 3 0 15 = F 3 0 15 := by rw [← hF3]; simp [zup3_v, advF_o]
      have a18 : F3 3 0 18 = 0 := by rw [← hF3]; simp [zup3_v, advF_o]; exact hdep
      have kk := hS2.2.1.2.1
      have vv := hS2.2.1.2.2.2.1
      have tk2 := hE3.1.2.2 (j + 1 + 1) hS2.2.1.1.1 hS2.2.1.1.2
      have hP3 : HP K p w F3 Fm2 := HP_f hP0 gF3 gG3
      have hLT3 : LT L F3 B1 Fm2 Bm3 := by
        have h := LT_k (Bm' := Bm) hLT gF3 gG3 hK1 (by decide) (fJ_H (fr := 0) (j := 0) fH_r (Int.le_refl _))
        obtain ⟨l1, l2, l3, l4⟩ := h
        exact ⟨l1, l2, l3, fun q q0 q1 => by rw [m14 25, rowsM 25 (by decide)]; exact l4 q q0 q1⟩
      rw [hS2.1, if_pos ⟨Int.le_refl _, k10⟩, if_pos (show r32 (F3 10 0 0) by have := hX3.2.2.2.1; omega), if_pos (show r32 (Bm1 14 0 7 (j + 1 + 1)) by have := tk2.2.2.1; rw [m14] at this; omega)]
      -- from the clef on
      have main : ∀ s, (s = -1 ∨ (0 ≤ s ∧ s < 4 ∧ ¬ Bm3 14 0 7 (j + 1 + 1) = 0)) → zPm (f_Parser_takeVoice_84 K (Bm1 14 0 11 (j + 1)) (F 3 0 14) 0 p s F3 B1) (f_M_voiceText_187 Km V w V s Fm2 Bm3) (fun r F' B' K' _ Fm' Bm' => VPO K Km N L V j p w F B Fm Bm r F' B' K' Fm' Bm') := by
        intro s hs
        refine zPm_m (P_v84 (N := N) (t := j + 1 + 1) (x := F 3 0 14) (wd := Bm1 14 0 11 (j + 1)) hE3 hS2 hP3 hLT3 ⟨hx14.1, (by first | decide | omega)⟩ (by first | decide | omega) a18 nb.2.2.2.2.1 (GS_t hGS gB1) (by rw [gF3 6 p 1 (fun z => absurd z.1 (by decide)) (fun z => absurd z.1 (by decide))]; exact hV1) (by rw [gG3 13 w 1 (fun z => absurd z.1 (by decide))]; exact hV2) hV hs) (fun r F' B' K' r' Fm' Bm' hh => ?_)
        obtain ⟨vf, gs, res⟩ := hh
        have vf0 : VF K p w F B Fm Bm K F3 B1 Fm2 Bm3 := ⟨Kle_r, fun c y k _ h1 h2 h3 _ => hF_f (p := p) gF3 c y k h1 h2 (fun z => h3 ⟨z.1, z.2.1, by have := z.2.2.1; omega, z.2.2.2⟩), fun c y k x _ h1 _ => gB1 c y k x h1, fun v _ _ => Or.inl (B60 p 0 v), fun c i k h1 _ => gG3 c i k (fun z => h1 ⟨z.1, z.2.1, z.2.2.1, by have := z.2.2.2; omega⟩), fun c i k y h1 h2 => by
          rw [← hBm3, zup4_v, if_neg (fun z => h2 ⟨z.1, z.2.1, by have := z.2.2.1; omega, by have := z.2.2.1; omega⟩), zup4_v, if_neg (fun z => h2 ⟨z.1, z.2.1, by have := z.2.2.1; omega, by have := z.2.2.1; omega⟩)]
          exact gM1 c i k y h1, fun q s a b => (by first | decide | omega), ⟨fun _ _ => rfl, (by first | decide | omega), by rw [em_e (fun v => B60 p 0 v)]⟩, Or.inl (hF_f (p := p) gF3 6 p 1 (fun z => absurd z.1 (by decide)) (fun z => absurd z.1 (by decide)) (fun z => absurd z.2.2.1 (by decide)))⟩
        refine ⟨VF_t vf0 vf, gs, ?_⟩
        rcases res with ⟨rfl, j', n, s', m', u1, u2, u3, u4, u5, u6, u7, u8, u9, u10, u11, u12, u13, u14, u15, u16, u17, u18, u19, u20, u21, u22, u23, u24, u25, u26, u27, u28, u29, u30, u31, u32, u33⟩ | er
        · left
          rw [a15] at u25 u32 u33
          have kle := vf.1
          have ju := u3.2.1.1
          rw [show j + 1 + 1 + 3 = j + 1 + 1 + 2 + 1 by omega] at u33
          have aB0 : agB L 0 (F 3 0 14) 0 (F 3 0 15) (-1) B B' := by
            refine ⟨fun k y h1 h2 h3 _ => ?_, fun k y h1 h2 h3 h4 => ?_, fun q h1 h2 => ?_⟩
            · rw [u25 k y (by first | decide | omega) (by first | decide | omega) (by first | decide | omega)]
              exact hK1 3 0 k y (fun z => by have := z.2.2.2; omega) (fun z => by have := z.2.2.1; omega) (fun z => by have := z.2.2.2; omega)
            · rw [u25 k y (by first | decide | omega) (by first | decide | omega) (by first | decide | omega)]
              exact hK1 3 0 k y (fun z => by have := z.2.2.1; omega) (fun z => by have := z.2.2.2.2; omega) (fun z => by have := z.2.2.1; omega)
            · rw [u25 13 q (by first | decide | omega) (by first | decide | omega) (by first | decide | omega)]
              exact hK1 3 0 13 q (fun z => absurd z.2.2.1 (by decide)) (fun z => absurd z.2.2.2.1 (by decide)) (fun z => absurd z.2.2.1 (by decide))
          have bm7 : ∀ k, k ≤ 15 → Bm' 14 0 k = Bm 14 0 k := fun k hk => by
            funext y
            rw [vf.2.2.2.2.2.1 14 0 k y (fun z => by have := z.2.2.1; omega) (fun z => absurd z.1 (by decide)), m14, rowsM k (by first | decide | omega)]
          have b25 : Bm' 14 0 25 = Bm 14 0 25 := by rw [u28 25 (by decide), m14, rowsM 25 (by decide)]
          have b26 : Bm' 14 0 26 = Bm 14 0 26 := by rw [u28 26 (by decide), m14, rowsM 26 (by decide)]
          have aM0 : agM L 0 j Bm Bm' := by
            refine ⟨fun k y h1 h2 h3 h4 => ?_, fun k h1 h2 => bm7 k (by first | decide | omega), fun q h1 h2 => by rw [b25]⟩
            rw [u29 k y h1 h2 (by first | decide | omega), m14, rowsM k (by first | decide | omega)]
          have own : ∀ v, 0 ≤ v → v < V → B' 6 p 0 v = B 6 p 0 v := fun v v0 v1 => by rw [u19 v v0 (by first | decide | omega) (by first | decide | omega), B60]
          have neq : ∀ v, 0 ≤ v → v < V → B 6 p 0 v ≠ B' 6 p 0 V := fun v v0 v1 e => by
            have q := (hVv v v0 v1).1
            have k6 := kle.2 6
            have := (gs.2.2.1 p v p V p0.1 (by first | decide | omega) v0 (by first | decide | omega) p0.1 (by first | decide | omega) hV.1 hV.2 (by rw [own v v0 v1]; exact q.1.1) (by rw [own v v0 v1]; exact e)).2
            omega
          have F4v : ∀ v k, 0 ≤ v → v < V → F' 4 (B' 6 p 0 v) k = F 4 (B 6 p 0 v) k := fun v k v0 v1 => by
            have q := (hVv v v0 v1).1
            rw [own v v0 v1, u20 _ k q.1.1 q.1.2 (neq v v0 v1), gF3 4 _ k (fun z => absurd z.1 (by decide)) (fun z => absurd z.1 (by decide))]
          refine ⟨rfl, j', (by first | decide | omega), ⟨u2, u3, ?_, ?_, (by first | decide | omega), (by first | decide | omega), u18, ?_⟩, gs, u16, u17, (by first | decide | omega), fun v v0 v1 => ?_⟩
          · refine HP_cg (K := K') (F := F3) (Fm := Fm2) ?_ (fun k k0 k1 => (u21 k k0 k1).1) u23 (fun k k0 k1 => (u21 k k0 k1).2) (fun k hk => u24 k (by first | decide | omega))
            · obtain ⟨t1, t2⟩ := hP3
              have := kle.2 6
              exact ⟨⟨t1.1, (by first | decide | omega)⟩, t2⟩
          · refine ⟨?_, ?_, hLT3.2.2.1, fun q q0 q1 => ?_⟩
            · rw [u22]; exact hLT3.1
            · rw [u24 27 (by decide)]; exact hLT3.2.1
            · rw [u25 12 q (by first | decide | omega) (by first | decide | omega) (by first | decide | omega), u25 13 q (by first | decide | omega) (by first | decide | omega) (by first | decide | omega), u28 25 (by decide)]
              exact hLT3.2.2.2 q q0 q1
          · exact SLT_t hSL aB0 aM0 (fun r _ _ => by rw [b26]) (by first | decide | omega) (by first | decide | omega) (by first | decide | omega)
          · by_cases e : v = V
            · subst e
              refine ⟨⟨u4, ?_, ?_, ?_, ?_, ?_, ?_, ?_, ?_, u10, ?_, ?_⟩, ?_⟩
              · rw [u5, u27 10 (by decide)]; exact m10.symm
              · rw [u5]; omega
              · rw [u6, u11]; omega
              · rw [u7, u12]; omega
              · have e6 : F' 4 (B' 6 p 0 v) 3 = Bm' 14 0 8 (Bm' 14 0 28 v) := by
                  rw [u8, u28 28 (by decide), m14, e28, bm7 8 (by decide)]
                  exact nb.2.1.trans ep
                have e8 : 0 ≤ Bm' 14 0 8 (Bm' 14 0 28 v) ∧ Bm' 14 0 8 (Bm' 14 0 28 v) ≤ 3000 := by
                  rw [u28 28 (by decide), m14, e28, bm7 8 (by decide)]
                  exact (hE.1.2.2 j (by first | decide | omega) (by first | decide | omega)).2.2.2.2.2.2.2.2.2.1
                exact ⟨e6, by rw [e6]; exact e8.1, by rw [e6]; exact e8.2⟩
              · rw [u28 28 (by decide), m14, e28]; omega
              · rw [u9]; exact hx14
              · rw [u15]; omega
              · rw [u27 11 (by decide), u27 10 (by decide), m10, m11]
              · rw [u27 10 (by decide), m10]; exact nzw
              · rw [u9, u15]
                intro Bx By ab am
                exact BK_of (agB_m ab (by first | decide | omega) (Int.le_refl _) (Int.le_refl _) (Int.le_refl _) (Or.inr (Or.inl (by first | decide | omega)))) am u33 u30 (by first | decide | omega) (Int.le_refl _) (by first | decide | omega) (Int.le_refl _) (by first | decide | omega) (Int.le_refl _) (by first | decide | omega) (by first | decide | omega) (by first | decide | omega)
            · have q := hVv v v0 (by first | decide | omega)
              obtain ⟨⟨r1, r2, r3, r4, r5, r6, r7, r8, r9, r10, r11, r12⟩, sv⟩ := q
              have ov := own v v0 (by first | decide | omega)
              have fv : ∀ k, F' 4 (B' 6 p 0 v) k = F 4 (B 6 p 0 v) k := fun k => F4v v k v0 (by first | decide | omega)
              have k4 := kle.2 4
              obtain ⟨s8, s9, s29⟩ := u26 v e
              refine ⟨⟨by rw [ov]; omega, ?_, ?_, ?_, ?_, ?_, ?_, ?_, ?_, ?_, ?_, ?_⟩, ?_⟩
              · rw [fv, u27 10 (by decide), m13 10 v (fun _ => e), row13]; exact r2
              · rw [fv]; exact r3
              · rw [fv, s8, m13 8 v (fun h => (by first | decide | omega)), row13]; exact r4
              · rw [fv, s9, m13 9 v (fun h => (by first | decide | omega)), row13]; exact r5
              · rw [fv, u28 28 (by decide), m14, n28 v e, bm7 8 (by decide)]; exact r6
              · rw [u28 28 (by decide), m14, n28 v e]; exact r7
              · rw [fv]; exact r8
              · rw [s29, m14, rowsM 29 (by decide)]; exact r9
              · rw [fv]; exact r10
              · rw [u27 11 (by decide), u27 10 (by decide), m13 11 v (fun _ => e), m13 10 v (fun _ => e), row13, row13]; exact r11
              · rw [u27 10 (by decide), m13 10 v (fun _ => e), row13]; exact r12
              · rw [fv, s29, m14, rowsM 29 (by decide)]
                exact SVC_t sv aB0 aM0 (by first | decide | omega) (by first | decide | omega) (by first | decide | omega)
        · exact Or.inr er
      by_cases c4 : Bm1 14 0 7 (j + 1 + 1) = 4
      · have w5 := hM1
        have vw : F3 10 0 2 = Bm1 14 0 11 (j + 1 + 1) := by rw [vv, (tk2.2.2.2.2.2.2.1 (by rw [m14]; exact c4)).1, m14]
        have wb := tk2.2.2.2.2.2.2.2.2.1
        rw [if_pos (show F3 10 0 0 = 4 by rw [kk, m14]; exact c4), if_pos c4, C_ixC k1 (by have := hX3.2.2.2.2.1; omega), vw, L_fC km hE3.2.1 (by have := hX3.2.2.2.2.1; omega)]
        simp only [zb_s, zbN_s]
        have fb := fiL_c (w := Bm1 14 0 11 (j + 1 + 1)) (L := wC)
        have fl : wC.length = 4 := rfl
        refine main _ ?_
        rcases fb.2 with q | q
        · exact Or.inl q
        · by_cases e : fiL wC (Bm1 14 0 11 (j + 1 + 1)) 0 = -1
          · exact Or.inl e
          · exact Or.inr ⟨(by first | decide | omega), (by first | decide | omega), by rw [m14]; omega⟩
      · rw [if_neg (show ¬ F3 10 0 0 = 4 by rw [kk, m14]; exact c4), if_neg c4]
        exact main (-1) (Or.inl rfl)
    · have er := PS_err (s := 4) (s' := 4) hE1 hS1 (by rw [if_neg (by first | decide | omega)]) (by decide)
      rw [if_neg (show ¬ fdR (Bm1 13 w 10) V (Bm1 14 0 11 (j + 1)) 22 0 < 0 by omega)] at hp
      rw [hp]
      simp only [zb_s, zbN_s]
      rw [if_pos (show r32 1 by decide), if_neg (show ¬ (1 : Int) = 0 by decide), if_pos (show r32 (fdR (Bm1 13 w 10) V (Bm1 14 0 11 (j + 1)) 22 0) by omega), if_neg (show ¬ fdR (Bm1 13 w 10) V (Bm1 14 0 11 (j + 1)) 22 0 < 0 by omega), C_refuse hX1, L_fail hg1 (by rw [e16]; omega)]
      simp only [zb_s, zbN_s]
      rw [if_pos (by decide), bad70 er.2]
      exact zPm_s ⟨VF_h (hF_f (fF_e gF1)) (hG_f (fG_e gG1)) gB1 gM1, GS_t hGS gB1, Or.inr ⟨rfl, er⟩⟩
end
