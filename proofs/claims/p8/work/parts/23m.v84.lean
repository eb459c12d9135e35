section
/-! ===== a voice from its clef on, on both sides ===== -/
/-- what a voice from its clef on comes to -/
def V84 (K : zK) (Km : Nat) (N L V t p w x wd : Int) (F : zF) (B : zB) (Fm : zF) (Bm : zB) (r : Int) (F' : zF) (B' : zB) (K' : zK) (Fm' : zF) (Bm' : zB) : Prop := VF K p w F B Fm Bm K' F' B' Fm' Bm' ∧ GS K' B' ∧ ((r = 1 ∧ ∃ j' n s m, t + 4 ≤ j' ∧ EV K' Km N B' Bm' ∧ PS N j' F' B' Fm' Bm' ∧ (0 ≤ B' 6 p 0 V ∧ B' 6 p 0 V < K'.2 4) ∧ F' 4 (B' 6 p 0 V) 0 = wd ∧ F' 4 (B' 6 p 0 V) 1 = s ∧ F' 4 (B' 6 p 0 V) 2 = m ∧ F' 4 (B' 6 p 0 V) 3 = B 3 0 1 x ∧ F' 4 (B' 6 p 0 V) 4 = x ∧ F' 4 (B' 6 p 0 V) 6 = 0 ∧ Bm' 13 w 8 V = s ∧ Bm' 13 w 9 V = m ∧ (0 ≤ s ∧ s < 4) ∧ (0 ≤ m ∧ m ≤ 3) ∧ Bm' 14 0 29 V = t + 2 ∧ F' 6 p 1 = V + 1 ∧ Fm' 13 w 1 = V + 1 ∧ F' 3 0 18 = 0 ∧ (∀ v, 0 ≤ v → v < 4 → v ≠ V → B' 6 p 0 v = B 6 p 0 v) ∧ (∀ y k, 0 ≤ y → y < K.2 4 → y ≠ B' 6 p 0 V → F' 4 y k = F 4 y k) ∧ (∀ k, 2 ≤ k → k ≤ 6 → F' 6 p k = F 6 p k ∧ Fm' 13 w k = Fm 13 w k) ∧ F' 3 0 16 = F 3 0 16 ∧ F' 3 0 17 = F 3 0 17 ∧ (∀ k, k = 6 ∨ k = 22 ∨ k = 23 ∨ k = 24 ∨ k = 27 → Fm' 14 0 k = Fm 14 0 k) ∧ (∀ k y, ¬ (k ≤ 7 ∧ x + 1 ≤ y) → ¬ (8 ≤ k ∧ k ≤ 10 ∧ F 3 0 15 ≤ y) → ¬ (k = 4 ∧ y = x) → B' 3 0 k y = B 3 0 k y) ∧ (∀ v, v ≠ V → Bm' 13 w 8 v = Bm 13 w 8 v ∧ Bm' 13 w 9 v = Bm 13 w 9 v ∧ Bm' 14 0 29 v = Bm 14 0 29 v) ∧ (∀ k, k = 10 ∨ k = 11 → Bm' 13 w k = Bm 13 w k) ∧ (∀ k, k = 25 ∨ k = 26 ∨ k = 28 → Bm' 14 0 k = Bm 14 0 k) ∧ (∀ k y, 30 ≤ k → k ≤ 34 → y < t + 2 → Bm' 14 0 k y = Bm 14 0 k y) ∧ Bm' 14 0 30 (t + 2) = j' - 1 ∧ (x + 1 ≤ F' 3 0 14 ∧ F' 3 0 14 - (x + 1) ≤ j' - t - 4) ∧ F 3 0 15 ≤ F' 3 0 15 ∧ SLR L 7 n (B' 3 0 4 x) (t + 3) (j' - 1) (x + 1) (F' 3 0 14) (F 3 0 15) (F' 3 0 15) B' Bm') ∨ (r = 0 ∧ ERR F' Fm'))
theorem GS_new {K K' : zK} {p V q : Int} {B B' : zB} (h : GS K B) (hp : 0 ≤ p ∧ p < K.2 6) (hV : 0 ≤ V ∧ V < 4) (hK : ∀ c, K'.2 c = if c = 1 then K.2 1 + 200 else if c = 4 then K.2 4 + 1 else K.2 c) (hq : q = K.2 4) (h5 : ∀ x, 0 ≤ x → x < 200 → B' 4 q 5 x = K.2 1 + x) (hB : ∀ c y k x, y < K.2 c → ¬ (c = 6 ∧ y = p ∧ k = 0 ∧ x = V) → B' c y k x = B c y k x) (hV' : B' 6 p 0 V = q) : GS K' B' := by
  obtain ⟨a, b, c, d, e⟩ := h
  have k1 : K'.2 1 = K.2 1 + 200 := by rw [hK 1, if_pos rfl]
  have k4 : K'.2 4 = K.2 4 + 1 := by rw [hK 4, if_neg (by decide), if_pos rfl]
  have k6 : K'.2 6 = K.2 6 := by rw [hK 6, if_neg (by decide), if_neg (by decide)]
  have a1 := a 1 (by decide)
  have a4 := a 4 (by decide)
  have a6 := a 6 (by decide)
  have g6 : ∀ p' v', p' < K.2 6 → ¬ (p' = p ∧ v' = V) → B' 6 p' 0 v' = B 6 p' 0 v' := fun p' v' h1 h2 => hB 6 p' 0 v' h1 (fun z => h2 ⟨z.2.1, z.2.2.2⟩)
  have g4 : ∀ q' x', q' < K.2 4 → B' 4 q' 5 x' = B 4 q' 5 x' := fun q' x' h1 => hB 4 q' 5 x' h1 (fun z => absurd z.1 (by decide))
  refine ⟨fun c hc => ?_, fun p' v' h1 h2 h3 h4 => ?_, fun p1 v1 p2 v2 h1 h2 h3 h4 h7 h8 h9 h10 h11 h12 => ?_, fun q' x' h1 h2 h3 h4 => ?_, fun q1 x1 q2 x2 h1 h2 h3 h4 h7 h8 h9 h10 h11 => ?_⟩
  · rcases hc with rfl | rfl | rfl <;> omega
  · by_cases z : p' = p ∧ v' = V
    · rw [z.1, z.2, hV']; omega
    · rw [g6 p' v' (by first | decide | omega) z]
      have := b p' v' h1 (by first | decide | omega) h3 h4
      omega
  · by_cases z1 : p1 = p ∧ v1 = V
    · by_cases z2 : p2 = p ∧ v2 = V
      · exact ⟨z1.1.trans z2.1.symm, z1.2.trans z2.2.symm⟩
      · rw [z1.1, z1.2, hV', g6 p2 v2 (by first | decide | omega) z2] at h12
        have := b p2 v2 h7 (by first | decide | omega) h9 h10
        omega
    · by_cases z2 : p2 = p ∧ v2 = V
      · rw [z2.1, z2.2, hV', g6 p1 v1 (by first | decide | omega) z1] at h12
        have := b p1 v1 h1 (by first | decide | omega) h3 h4
        omega
      · rw [g6 p1 v1 (by first | decide | omega) z1] at h11 h12
        rw [g6 p2 v2 (by first | decide | omega) z2] at h12
        exact c p1 v1 p2 v2 h1 (by first | decide | omega) h3 h4 h7 (by first | decide | omega) h9 h10 h11 h12
  · by_cases z : q' = q
    · rw [z, h5 x' h3 h4]; omega
    · rw [g4 q' x' (by first | decide | omega)]
      have := d q' x' h1 (by first | decide | omega) h3 h4
      omega
  · by_cases z1 : q1 = q
    · by_cases z2 : q2 = q
      · rw [z1, z2, h5 x1 h3 h4, h5 x2 h9 h10] at h11
        exact ⟨z1.trans z2.symm, (by first | decide | omega)⟩
      · rw [z1, h5 x1 h3 h4, g4 q2 x2 (by first | decide | omega)] at h11
        have := d q2 x2 h7 (by first | decide | omega) h9 h10
        omega
    · by_cases z2 : q2 = q
      · rw [z2, h5 x2 h9 h10, g4 q1 x1 (by first | decide | omega)] at h11
        have := d q1 x1 h1 (by first | decide | omega) h3 h4
        omega
      · rw [g4 q1 x1 (by first | decide | omega), g4 q2 x2 (by first | decide | omega)] at h11
        exact e q1 x1 q2 x2 h1 (by first | decide | omega) h3 h4 h7 (by first | decide | omega) h9 h10 h11
theorem P_v84 {K : zK} {Km : Nat} {N L V t p w x wd s : Int} {F : zF} {B : zB} {Fm : zF} {Bm : zB} (hE : EV K Km N B Bm) (hS : PS N t F B Fm Bm) (hP : HP K p w F Fm) (hLT : LT L F B Fm Bm) (hx : 0 ≤ x ∧ x + 1 = F 3 0 14) (hit : F 3 0 14 ≤ t) (hd : F 3 0 18 = 0) (h4x : B 3 0 4 x = -1) (hGS : GS K B) (hV1 : F 6 p 1 = V) (hV2 : Fm 13 w 1 = V) (hV : 0 ≤ V ∧ V < 4) (hs : s = -1 ∨ (0 ≤ s ∧ s < 4 ∧ ¬ Bm 14 0 7 t = 0)) : zPm (f_Parser_takeVoice_84 K wd x 0 p s F B) (f_M_voiceText_187 Km V w V s Fm Bm) (fun r F' B' K' _ Fm' Bm' => V84 K Km N L V t p w x wd F B Fm Bm r F' B' K' Fm' Bm') := by
  have hX := PS_CX hE hS
  have hM := PS_MX hE hS
  have hg := hS.2.2.2.1
  have k3 := hE.2.2.2.1
  have k10 := hE.2.2.2.2.1
  have k1 := hE.2.2.2.2.2.1
  have km := hE.2.2.2.2.2.2
  have jj := hS.2.1.1
  have nn := hE.1.2.1
  obtain ⟨p0, w0, h6, hPr⟩ := hP
  have e8 : (zup4 Bm 13 w 8 V s) 13 w 8 V = s := by rw [zup4_v, if_pos ⟨rfl, rfl, rfl, rfl⟩]
  have rows8 : ∀ k, (zup4 Bm 13 w 8 V s) 14 0 k = Bm 14 0 k := fun k => by funext y; rw [zup4_v, if_neg (fun z => absurd z.1 (by decide))]
  -- the reference behind its clef in a bad state
  have bad217 : ∀ {Fx : zF} {Bx : zB}, bad Fx → Fx 14 0 6 = w → f_M_voiceText_217 Km V Fx Bx = some (0, zup3 (zup3 (zup3 Fx 14 0 20 4) 14 0 21 0) 13 w 1 (Fx 13 w 1 + 1), zup4 (zup4 Bx 13 w 9 V 0) 14 0 29 V (Fx 14 0 16)) := by
    intro Fx Bx hb h6x
    unfold f_M_voiceText_217
    rw [h6x, if_pos w0, L_numberB hb]
    simp only [zb_s]
    rw [if_pos hV, top_bad km (bad_cg hb (by simp [zup3_v]))]
    simp only [zb_s]
    rw [show (zup3 (zup3 Fx 14 0 20 4) 14 0 21 0) 14 0 6 = w by simp [zup3_v]; exact h6x, if_pos w0, show (zup3 (zup3 Fx 14 0 20 4) 14 0 21 0) 13 w 1 = Fx 13 w 1 by simp [zup3_v]]
  have VFe : ∀ {Fx Fmx : zF} {Bmx : zB}, hF p F Fx → (∀ c i k, ¬ (c = 14 ∧ i = 0 ∧ 16 ≤ k ∧ k ≤ 27) → ¬ (c = 13 ∧ i = w ∧ 1 ≤ k ∧ k ≤ 6) → Fmx c i k = Fm c i k) → (∀ c i k y, ¬ (c = 14 ∧ i = 0 ∧ 25 ≤ k ∧ k ≤ 34) → ¬ (c = 13 ∧ i = w ∧ 8 ≤ k ∧ k ≤ 11) → Bmx c i k y = Bm c i k y) → VF K p w F B Fm Bm K Fx B Fmx Bmx := fun a b c => ⟨Kle_r, fun c y k _ h1 h2 h3 _ => a c y k h1 h2 (fun z => h3 ⟨z.1, z.2.1, by have := z.2.2.1; omega, z.2.2.2⟩), fun _ _ _ _ _ _ _ => rfl, fun _ _ _ => Or.inl rfl, b, c, fun q s a b => (by first | decide | omega), ⟨fun _ _ => rfl, (by first | decide | omega), rfl⟩, Or.inl (a 6 p 1 (fun z => absurd z.1 (by decide)) (fun z => absurd z.1 (by decide)) (fun z => absurd z.2.2.1 (by decide)))⟩
  unfold f_Parser_takeVoice_84 f_M_voiceText_187
  rw [if_pos w0, if_pos hV, h6, if_pos w0, if_pos hV, e8]
  rcases hs with rfl | ⟨s0, s1, s2⟩
  · have er := PS_err2 hE hS
    have hM' : MX Fm (zup4 Bm 13 w 8 V (-1)) t := by
      unfold MX at *
      rw [rows8, rows8, rows8]; exact hM
    have e1 : errM Fm (zup4 Bm 13 w 8 V (-1)) (wr (zup4 Bm 13 w 8 V (-1)) t) = errM Fm Bm (wr Bm t) := by
      unfold errM wr
      rw [rows8, rows8]
    rw [if_pos (show r32 (-1) by decide), if_pos rfl, if_pos ⟨Int.le_refl _, k3⟩, C_refuse hX, if_pos (show r32 (-1) by decide), if_neg (show ¬ (0 : Int) ≤ -1 by decide), L_wrong hg hM', e1]
    simp only [zb_s, zbN_s]
    rw [if_pos (by decide), bad217 er.2 (by unfold errM; simp [zup3_v]; exact h6)]
    refine zPm_s ⟨VFe (hF_e hF_r) (fun c i k a b => ?_) (fun c i k y a b => ?_), hGS, Or.inr ⟨rfl, ERR_cg er rfl (by simp [zup3_v]) (by simp [zup3_v])⟩⟩
    · rw [zup3_v, if_neg (fun z => b ⟨z.1, z.2.1, by have := z.2.2; omega, by have := z.2.2; omega⟩)]
      exact fG_u (fG_u (fG_e fG_r) (by decide) (by decide)) (by decide) (by decide) c i k (fun z => a ⟨z.1, z.2.1, z.2.2.1, by have := z.2.2.2; omega⟩)
    · rw [zup4_v, if_neg (fun z => a ⟨z.1, z.2.1, by have := z.2.2.1; omega, by have := z.2.2.1; omega⟩), zup4_v, if_neg (fun z => b ⟨z.1, z.2.1, by have := z.2.2.1; omega, by have := z.2.2.1; omega⟩), zup4_v, if_neg (fun z => b ⟨z.1, z.2.1, by have := z.2.2.1; omega, by have := z.2.2.1; omega⟩)]
  · have hE8 : EV K Km N B (zup4 Bm 13 w 8 V s) := EV_B hE (fun _ => rfl) (fun k _ => rows8 k)
    have hS1 := PS_B (B' := B) (Bm' := zup4 Bm 13 w 8 V s) (PS_step hE hS s2) (fun _ => rfl) (fun k _ => rows8 k)
    have e61 : (zup3 Fm 14 0 16 (Fm 14 0 16 + 1)) 14 0 6 = w := by simp [zup3_v]; exact h6
    rw [if_pos (show r32 s by omega), if_neg (show ¬ s = -1 by omega), if_pos ⟨Int.le_refl _, k3⟩, hS.1, if_pos ⟨Int.le_refl _, k10⟩, C_adv hX, if_pos (show r32 s by omega), if_pos s0]
    simp only [zbN_s]
    unfold f_M_voiceText_217
    rw [e61, if_pos w0, hM.1]
    rcases P_num hE8 hS1 (lo := 0) (hi := 3) (by decide) (by decide) with ⟨n1, n2, n3, c1, m1, hS2⟩ | ⟨se, s', ve, c1, m1, er⟩
    · rw [rows8] at n2 n3 c1 m1 hS2
      rw [c1, m1]
      simp only [zb_s, zbN_s]
      rw [if_pos (show r32 1 by decide), if_neg (show ¬ (1 : Int) = 0 by decide), if_pos p0, if_pos hV]
      generalize hF3 : advF (zup3 (advF F B) 3 0 19 (Bm 14 0 9 (t + 1))) B = F3 at hS2 ⊢
      have gF3 : fF F F3 := by rw [← hF3]; exact fF_a (fF_u (fF_a fF_r) (by decide))
      have a19 : F3 3 0 19 = Bm 14 0 9 (t + 1) := by rw [← hF3, advF_o (by decide)]; simp [zup3_v]
      have a14 : F3 3 0 14 = F 3 0 14 := by rw [← hF3]; simp [zup3_v, advF_o]
      have a15 : F3 3 0 15 = F 3 0 15 := by rw [← hF3]; simp [zup3_v, advF_o]
      have a18 : F3 3 0 18 = 0 := by rw [← hF3]; simp [zup3_v, advF_o]; exact hd
      have v3 : F3 6 p 1 = V := by rw [gF3 6 p 1 (fun z => absurd z.1 (by decide)) (fun z => absurd z.1 (by decide))]; exact hV1
      obtain ⟨q, F4, B4, K4, b1, b2, b3, b4, b5, b6, b7, b8, b9, b10, b11, b12⟩ := C_newPart (F := F3) (B := B) k1 (hGS.1 1 (by decide)).1 (hGS.1 4 (by decide)).1 p0 v3 hV (hGS.2.1 p V p0.1 p0.2 hV.1 hV.2)
      have x3 : 0 ≤ x ∧ x < 3000 := by omega
      have k43 : 0 < K4.2 3 := Int.lt_of_lt_of_le k3 (b2.2 3)
      have c3 : ∀ k, F4 3 0 k = F3 3 0 k := fun k => b4 3 0 k k3 (fun z => absurd z.1 (by decide)) (fun z => absurd z.1 (by decide))
      have c10 : ∀ k, F4 10 0 k = F3 10 0 k := fun k => b4 10 0 k k10 (fun z => absurd z.1 (by decide)) (fun z => absurd z.1 (by decide))
      have r3 : ∀ k y, B4 3 0 k y = B 3 0 k y := fun k y => b5 3 0 k y k3 (fun z => absurd z.1 (by decide))
      have r10 : ∀ k, B4 10 0 k = B 10 0 k := fun k => by funext y; exact b5 10 0 k y k10 (fun z => absurd z.1 (by decide))
      rw [b1]
      simp only [zbM_s]
      unfold f_Parser_takeVoice_121
      rw [if_pos ⟨b7, b8⟩, if_pos ⟨Int.le_refl _, k43⟩, if_pos x3, c3, a19, r3]
      generalize hF5 : zup3 (zup3 (zup3 (zup3 (zup3 (zup3 F4 4 q 0 wd) 4 q 1 s) 4 q 2 (Bm 14 0 9 (t + 1))) 4 q 3 (B 3 0 1 x)) 4 q 4 x) 3 0 20 32 = F5
      have f5 : ∀ c y k, ¬ (c = 4 ∧ y = q) → ¬ (c = 3 ∧ y = 0 ∧ k = 20) → F5 c y k = F4 c y k := fun c y k h1 h2 => by
        rw [← hF5, zup3_v, if_neg (fun z => h2 ⟨z.1, z.2.1, z.2.2⟩), zup3_v, if_neg (fun z => h1 ⟨z.1, z.2.1⟩), zup3_v, if_neg (fun z => h1 ⟨z.1, z.2.1⟩), zup3_v, if_neg (fun z => h1 ⟨z.1, z.2.1⟩), zup3_v, if_neg (fun z => h1 ⟨z.1, z.2.1⟩), zup3_v, if_neg (fun z => h1 ⟨z.1, z.2.1⟩)]
      have f53 : ∀ k, k ≠ 20 → F5 3 0 k = F3 3 0 k := fun k hk => by rw [f5 3 0 k (fun z => absurd z.1 (by decide)) (fun z => hk z.2.2), c3]
      have f520 : F5 3 0 20 = 32 := by rw [← hF5, zup3_v, if_pos ⟨rfl, rfl, rfl⟩]
      have f510 : ∀ k, F5 10 0 k = F3 10 0 k := fun k => by rw [f5 10 0 k (fun z => absurd z.1 (by decide)) (fun z => absurd z.1 (by decide)), c10]
      have e29 : (zup3 (zup3 Fm 14 0 16 (t + 1)) 14 0 16 (t + 1 + 1)) 14 0 16 = t + 1 + 1 := by simp [zup3_v]
      rw [e29]
      generalize hBm5 : zup4 (zup4 (zup4 Bm 13 w 8 V s) 13 w 9 V (Bm 14 0 9 (t + 1))) 14 0 29 V (t + 1 + 1) = Bm5
      have m5 : ∀ k, k ≠ 29 → Bm5 14 0 k = Bm 14 0 k := fun k hk => by
        rw [← hBm5]
        funext y
        rw [zup4_v, if_neg (fun z => hk z.2.2.1), zup4_v, if_neg (fun z => absurd z.1 (by decide)), zup4_v, if_neg (fun z => absurd z.1 (by decide))]
      generalize hFm5 : zup3 (zup3 (zup3 (zup3 Fm 14 0 16 (t + 1)) 14 0 16 (t + 1 + 1)) 14 0 20 4) 14 0 21 0 = Fm5
      have gm5 : fG Fm Fm5 := by rw [← hFm5]; exact fG_u (fG_u (fG_u (fG_u fG_r (by decide) (by decide)) (by decide) (by decide)) (by decide) (by decide)) (by decide) (by decide)
      have hS5 : PS N (t + 1 + 1) F5 B4 Fm5 Bm5 := by
        have h := PS_len (v := 32) (n := 4) (p := 0) hS2 (by decide) (Or.inr (Or.inr (Or.inl rfl))) (by decide)
        have h2 := PS_cg (F' := F5) (Fm' := Fm5) h (fun k => by rw [f510 k]; simp [zup3_v]) (fun k hk => by
          by_cases e : k = 20
          · rw [e, f520]; simp [zup3_v]
          · rw [f53 k e, zup3_v, if_neg (fun z => e z.2.2)]) (fun k _ => by rw [← hFm5])
        exact PS_B h2 r10 (fun k hk => by rw [m5 k (by first | decide | omega), rows8])
      have hE5 : EV K4 Km N B4 Bm5 := EV_K (EV_B hE r10 (fun k hk => m5 k (by first | decide | omega))) b2
      have hLT5 : LT L F5 B4 Fm5 Bm5 := by
        obtain ⟨l1, l2, l3, l4⟩ := hLT
        refine ⟨?_, ?_, l3, fun y y0 y1 => ?_⟩
        · rw [f53 16 (by decide), gF3 3 0 16 (by decide) (by decide)]; exact l1
        · rw [gm5 14 0 27 (by decide)]; exact l2
        · rw [r3, r3, m5 25 (by decide)]; exact l4 y y0 y1
      refine zPm_n (top_blk (K := K4) km (x := x) (j := t + 1 + 1) hx.1 (by rw [f53 14 (by decide)]; omega) (by rw [f53 14 (by decide)]; omega) hE5 hS5 (by rw [f53 18 (by decide), a18]; decide) (by rw [f520, ← hFm5]; simp [zup3_v]; exact ⟨by decide, Or.inr (Or.inr (Or.inl rfl))⟩) hLT5 (by rw [r3]; exact h4x)) (fun r F' B' r' Fm' Bm' hh => ?_)
      have hr := BPO_r hh
      obtain ⟨g1, g2, g3, g4, g5⟩ := hh
      have d14 : F5 3 0 14 = x + 1 := by rw [f53 14 (by decide), a14]; omega
      have d15 : F5 3 0 15 = F 3 0 15 := by rw [f53 15 (by decide), a15]
      rw [d14, d15] at g3
      have h6' : Fm' 14 0 6 = w := by rw [g2 14 0 6 (by decide), gm5 14 0 6 (by decide)]; exact h6
      have h1' : Fm' 13 w 1 = V := by rw [g2 13 w 1 (fun z => absurd z.1 (by decide)), gm5 13 w 1 (fun z => absurd z.1 (by decide))]; exact hV2
      rw [if_pos hr, h6', if_pos w0, h1']
      have hB6 : ∀ y v, B' 6 y 0 v = B4 6 y 0 v := fun y v => g3 6 y 0 v (fun z => absurd z.1 (by decide)) (fun z => absurd z.1 (by decide)) (fun z => absurd z.1 (by decide))
      have hB45 : ∀ y v, B' 4 y 5 v = B4 4 y 5 v := fun y v => g3 4 y 5 v (fun z => absurd z.1 (by decide)) (fun z => absurd z.1 (by decide)) (fun z => absurd z.1 (by decide))
      have hqV : B' 6 p 0 V = q := by rw [hB6]; exact b6
      have hGS4 : GS K4 B4 := by
        rcases b3 with ⟨_, _, rfl, rfl⟩ | ⟨z1, z2, z3, z4, _⟩
        · exact hGS
        · exact GS_new hGS p0 hV z3 z2 z4 b5 b6
      have hGS' : GS K4 B' := GS_B hGS4 (fun y v _ _ => hB6 y v) (fun y v _ _ => hB45 y v)
      have qown : ∀ y, y < K.2 4 → y = q → ∃ v, 0 ≤ v ∧ v < 4 ∧ y = B 6 p 0 v := fun y h1 h2 => by
        rcases b3 with ⟨z1, _, _, _⟩ | ⟨z1, z2, _⟩
        · exact ⟨V, hV.1, hV.2, h2.trans z1⟩
        · omega
      have FF : ∀ c y k, y < K.2 c → ¬ (c = 10 ∧ y = 0) → ¬ (c = 3 ∧ y = 0 ∧ (k = 14 ∨ k = 15 ∨ 18 ≤ k)) → ¬ (c = 6 ∧ y = p ∧ k = 1) → ¬ (c = 4 ∧ y = q) → F' c y k = F c y k := fun c y k h0 h1 h2 h3 h4 => by
        rw [g1 c y k h1 h2, f5 c y k h4 (fun z => h2 ⟨z.1, z.2.1, by have := z.2.2; omega⟩), b4 c y k h0 h4 h3, gF3 c y k h1 h2]
      have BB : ∀ c y k z, y < K.2 c → ¬ (c = 3 ∧ y = 0) → ¬ (c = 6 ∧ y = p ∧ k = 0 ∧ z = V) → B' c y k z = B c y k z := fun c y k z h0 h1 h2 => by
        rw [g3 c y k z (fun q => h1 ⟨q.1, q.2.1⟩) (fun q => h1 ⟨q.1, q.2.1⟩) (fun q => h1 ⟨q.1, q.2.1⟩), b5 c y k z h0 h2]
      have MM : ∀ c i k, ¬ (c = 14 ∧ i = 0 ∧ 16 ≤ k ∧ k ≤ 21) → ¬ (c = 13 ∧ i = w ∧ k = 1) → (zup3 Fm' 13 w 1 (V + 1)) c i k = Fm c i k := fun c i k h1 h2 => by
        rw [zup3_v, if_neg (fun z => h2 ⟨z.1, z.2.1, z.2.2⟩), g2 c i k h1, gm5 c i k h1]
      have m5' : ∀ c i k y, ¬ (c = 14 ∧ i = 0 ∧ k = 29 ∧ y = V) → ¬ (c = 13 ∧ i = w ∧ (k = 8 ∨ k = 9) ∧ y = V) → Bm5 c i k y = Bm c i k y := fun c i k y h1 h2 => by
        rw [← hBm5, zup4_v, if_neg (fun z => h1 z), zup4_v, if_neg (fun z => h2 ⟨z.1, z.2.1, Or.inr z.2.2.1, z.2.2.2⟩), zup4_v, if_neg (fun z => h2 ⟨z.1, z.2.1, Or.inl z.2.2.1, z.2.2.2⟩)]
      have vf : VF K p w F B Fm Bm K4 F' B' (zup3 Fm' 13 w 1 (V + 1)) Bm' := by
        refine ⟨b2, fun c y k h0 h1 h2 h3 h4 => ?_, fun c y k z h0 h1 h2 => BB c y k z h0 h1 (fun q => h2 ⟨q.1, q.2.1, q.2.2.1⟩), fun v v0 v1 => ?_, fun c i k h1 h2 => ?_, fun c i k y h1 h2 => ?_, fun qq s h1 h2 => ?_, ?_, Or.inr ?_⟩
        · refine FF c y k h0 h1 (fun z => h2 ⟨z.1, z.2.1, by have := z.2.2; omega⟩) (fun z => h3 ⟨z.1, z.2.1, by have := z.2.2; omega, by have := z.2.2; omega⟩) (fun z => ?_)
          have z1 := z.1
          subst z1
          exact h4 ⟨rfl, qown y h0 z.2⟩
        · by_cases e : v = V
          · rw [e, hqV]
            rcases b3 with ⟨z1, _, _, _⟩ | ⟨z1, z2, _⟩
            · exact Or.inl z1
            · exact Or.inr ⟨z1, (by first | decide | omega)⟩
          · exact Or.inl (BB 6 p 0 v p0.2 (fun z => absurd z.1 (by decide)) (fun z => e z.2.2.2))
        · exact MM c i k (fun z => h1 ⟨z.1, z.2.1, z.2.2.1, by have := z.2.2.2; omega⟩) (fun z => h2 ⟨z.1, z.2.1, by have := z.2.2; omega, by have := z.2.2; omega⟩)
        · rw [g4 c i k y (fun z => h1 ⟨z.1, z.2.1, by have := z.2.2.1; omega, by have := z.2.2.2.1; omega⟩)]
          exact m5' c i k y (fun z => h1 ⟨z.1, z.2.1, by have := z.2.2.1; omega, by have := z.2.2.1; omega⟩) (fun z => h2 ⟨z.1, z.2.1, by have := z.2.2.1; omega, by have := z.2.2.1; omega⟩)
        · rcases b3 with ⟨_, _, rfl, rfl⟩ | ⟨z1, z2, z3, z4, z5, _⟩
          · omega
          · have k4 : K4.2 4 = K.2 4 + 1 := by rw [z3 4, if_neg (by decide), if_pos rfl]
            rw [g3 4 qq 12 s (fun z => absurd z.1 (by decide)) (fun z => absurd z.1 (by decide)) (fun z => absurd z.1 (by decide)), show qq = q by omega, z5 12 s (by decide)]
            decide
        · rcases b3 with ⟨_, _, rfl, rfl⟩ | ⟨z1, z2, z3, z4, z5, _⟩
          · exact ⟨fun _ _ => rfl, (by first | decide | omega), by rw [em_e (fun v => hB6 p v)]⟩
          · have k4 : K4.2 4 = K.2 4 + 1 := by rw [z3 4, if_neg (by decide), if_pos rfl]
            have k1' : K4.2 1 = K.2 1 + 200 := by rw [z3 1, if_pos rfl]
            refine ⟨fun c hc => by rw [z3 c, if_neg (fun e => hc (Or.inl e)), if_neg (fun e => hc (Or.inr e))], (by first | decide | omega), ?_⟩
            have := em_1 (B := B) (B' := B') (p := p) hV (fun v hv => BB 6 p 0 v p0.2 (fun z => absurd z.1 (by decide)) (fun z => hv z.2.2.2)) z1 (by rw [hqV]; exact b7)
            omega
        · rw [g1 6 p 1 (fun z => absurd z.1 (by decide)) (fun z => absurd z.1 (by decide)), f5 6 p 1 (fun z => absurd z.1 (by decide)) (fun z => absurd z.1 (by decide)), b9]
          omega
      refine zPm_s ⟨vf, hGS', ?_⟩
      rcases g5 with ⟨rfl, j', n, v1, v2, v3', v4, v5, v6, v7, v8⟩ | ⟨rfl, er⟩
      · left
        rw [d14] at v5 v7
        rw [d15] at v6 v7
        have q4 : ∀ k, F' 4 q k = F5 4 q k := fun k => g1 4 q k (fun z => absurd z.1 (by decide)) (fun z => absurd z.1 (by decide))
        have mk : ∀ k y, k ≤ 29 → Bm' 14 0 k y = Bm5 14 0 k y := fun k y hk => by rw [fH_k g4 k hk]
        have m13 : ∀ k y, Bm' 13 w k y = Bm5 13 w k y := fun k y => g4 13 w k y (fun z => absurd z.1 (by decide))
        refine ⟨rfl, j', n, s, Bm 14 0 9 (t + 1), (by first | decide | omega), EV_B hE5 (fK_10 g3) (fun k hk => fH_k g4 k (by first | decide | omega)), PS_cg v2 (fun _ => rfl) (fun _ _ => rfl) (fun k _ => by simp [zup3_v]), by rw [hqV]; exact ⟨b7, b8⟩, ?_, ?_, ?_, ?_, ?_, ?_, ?_, ?_, ⟨s0, s1⟩, (by first | decide | omega), ?_, ?_, ?_, ?_, fun v v0 v1 e => BB 6 p 0 v p0.2 (fun z => absurd z.1 (by decide)) (fun z => e z.2.2.2), fun y k y0 y1 e => FF 4 y k y1 (fun z => absurd z.1 (by decide)) (fun z => absurd z.1 (by decide)) (fun z => absurd z.1 (by decide)) (fun z => e (by rw [hqV]; exact z.2)), fun k k0 k1 => ⟨FF 6 p k p0.2 (fun z => absurd z.1 (by decide)) (fun z => absurd z.1 (by decide)) (fun z => by have := z.2.2; omega) (fun z => absurd z.1 (by decide)), MM 13 w k (fun z => absurd z.1 (by decide)) (fun z => by have := z.2.2; omega)⟩, FF 3 0 16 k3 (by decide) (by decide) (fun z => absurd z.1 (by decide)) (fun z => absurd z.1 (by decide)), FF 3 0 17 k3 (by decide) (by decide) (fun z => absurd z.1 (by decide)) (fun z => absurd z.1 (by decide)), fun k hk => MM 14 0 k (fun z => by have := z.2.2.2; omega) (fun z => absurd z.1 (by decide)), fun k y h1 h2 h3 => ?_, fun v e => ⟨?_, ?_, ?_⟩, fun k hk => ?_, fun k hk => ?_, fun k y h1 h2 h3 => ?_, ?_, (by first | decide | omega), (by first | decide | omega), ?_⟩
        · rw [hqV, q4, ← hF5]; simp [zup3_v]
        · rw [hqV, q4, ← hF5]; simp [zup3_v]
        · rw [hqV, q4, ← hF5]; simp [zup3_v]
        · rw [hqV, q4, ← hF5]; simp [zup3_v]
        · rw [hqV, q4, ← hF5]; simp [zup3_v]
        · rw [hqV, q4, ← hF5]; simp [zup3_v]; exact b10
        · rw [m13, ← hBm5]; simp [zup4_v]
        · rw [m13, ← hBm5]; simp [zup4_v]
        · rw [mk 29 V (by decide), ← hBm5]; simp [zup4_v]; omega
        · rw [g1 6 p 1 (fun z => absurd z.1 (by decide)) (fun z => absurd z.1 (by decide)), f5 6 p 1 (fun z => absurd z.1 (by decide)) (fun z => absurd z.1 (by decide))]; exact b9
        · simp [zup3_v]
        · rw [v4, f53 18 (by decide)]; exact a18
        · rw [g3 3 0 k y (fun z => h1 ⟨z.2.2.1, z.2.2.2⟩) (fun z => h2 ⟨z.2.2.1, z.2.2.2.1, z.2.2.2.2⟩) (fun z => h3 ⟨z.2.2.1, z.2.2.2⟩)]; exact r3 k y
        · rw [m13]; exact m5' 13 w 8 v (fun z => absurd z.1 (by decide)) (fun z => e z.2.2.2)
        · rw [m13]; exact m5' 13 w 9 v (fun z => absurd z.1 (by decide)) (fun z => e z.2.2.2)
        · rw [mk 29 v (by decide)]; exact m5' 14 0 29 v (fun z => e z.2.2.2) (fun z => absurd z.1 (by decide))
        · funext y
          rw [m13]; exact m5' 13 w k y (fun z => absurd z.1 (by decide)) (fun z => by have := z.2.2.1; omega)
        · funext y
          rw [mk k y (by first | decide | omega)]; exact m5' 14 0 k y (fun z => by have := z.2.2.1; omega) (fun z => absurd z.1 (by decide))
        · rw [g4 14 0 k y (fun z => by have := z.2.2.2.2; omega)]; exact m5' 14 0 k y (fun z => by have := z.2.2.1; omega) (fun z => absurd z.1 (by decide))
        · rw [show t + 2 = t + 1 + 1 by omega]; exact v3'
        · rw [show t + 3 = t + 1 + 1 + 1 by omega]; exact v7
      · exact Or.inr ⟨rfl, ERR_cg er rfl (by simp [zup3_v]) (by simp [zup3_v])⟩
    · rw [c1, m1]
      simp only [zb_s, zbN_s]
      rw [if_pos (show r32 0 by decide), if_pos trivial, if_pos hV]
      have e62 : (errM (zup3 Fm 14 0 16 (t + 1)) (zup4 Bm 13 w 8 V s) s') 14 0 6 = w := by unfold errM; simp [zup3_v]; exact h6
      rw [top_bad km (bad_cg er.2 (by simp [zup3_v]))]
      simp only [zb_s]
      rw [show (zup3 (zup3 (errM (zup3 Fm 14 0 16 (t + 1)) (zup4 Bm 13 w 8 V s) s') 14 0 20 4) 14 0 21 0) 14 0 6 = w by simp [zup3_v]; exact e62, if_pos w0]
      refine zPm_s ⟨VFe (hF_e (hF_a hF_r)) (fun c i k a b => ?_) (fun c i k y a b => ?_), hGS, Or.inr ⟨rfl, ERR_cg er rfl (by simp [zup3_v]) (by simp [zup3_v])⟩⟩
      · rw [zup3_v, if_neg (fun z => b ⟨z.1, z.2.1, by have := z.2.2; omega, by have := z.2.2; omega⟩)]
        exact fG_u (fG_u (fG_e (fG_u fG_r (by decide) (by decide))) (by decide) (by decide)) (by decide) (by decide) c i k (fun z => a ⟨z.1, z.2.1, z.2.2.1, by have := z.2.2.2; omega⟩)
      · rw [zup4_v, if_neg (fun z => a ⟨z.1, z.2.1, by have := z.2.2.1; omega, by have := z.2.2.1; omega⟩), zup4_v, if_neg (fun z => b ⟨z.1, z.2.1, by have := z.2.2.1; omega, by have := z.2.2.1; omega⟩), zup4_v, if_neg (fun z => b ⟨z.1, z.2.1, by have := z.2.2.1; omega, by have := z.2.2.1; omega⟩)]
end
