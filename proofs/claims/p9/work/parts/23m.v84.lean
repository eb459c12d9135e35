section
section
/-! ===== a voice from its clef on, on both sides ===== -/
/-- what a voice from its clef on comes to -/
def V84 (K : zK) (Km : Nat) (N L V t p w x wd : Int) (F : zF) (B : zB) (Fm : zF) (Bm : zB) (r : Int) (F' : zF) (B' : zB) (K' : zK) (Fm' : zF) (Bm' : zB) : Prop := VF K p w F B Fm Bm K' F' B' Fm' Bm' ∧ GS K' B' ∧ ((r = 1 ∧ ∃ j' n s m, t + 4 ≤ j' ∧ EV K' Km N B' Bm' ∧ PS N j' F' B' Fm' Bm' ∧ (0 ≤ B' 6 p 0 V ∧ B' 6 p 0 V < K'.2 4) ∧ F' 4 (B' 6 p 0 V) 0 = wd ∧ F' 4 (B' 6 p 0 V) 1 = s ∧ F' 4 (B' 6 p 0 V) 2 = m ∧ F' 4 (B' 6 p 0 V) 3 = B 3 0 1 x ∧ F' 4 (B' 6 p 0 V) 4 = x ∧ F' 4 (B' 6 p 0 V) 6 = 0 ∧ Bm' 13 w 8 V = s ∧ Bm' 13 w 9 V = m ∧ (0 ≤ s ∧ s < 4) ∧ (0 ≤ m ∧ m ≤ 3) ∧ Bm' 14 0 29 V = t + 2 ∧ F' 6 p 1 = V + 1 ∧ Fm' 13 w 1 = V + 1 ∧ F' 3 0 18 = 0 ∧ (∀ v, 0 ≤ v → v < 4 → v ≠ V → B' 6 p 0 v = B 6 p 0 v) ∧ (∀ y k, 0 ≤ y → y < K.2 4 → y ≠ B' 6 p 0 V → F' 4 y k = F 4 y k) ∧ (∀ k, 2 ≤ k → k ≤ 6 → F' 6 p k = F 6 p k ∧ Fm' 13 w k = Fm 13 w k) ∧ F' 3 0 16 = F 3 0 16 ∧ F' 3 0 17 = F 3 0 17 ∧ (∀ k, k = 6 ∨ k = 22 ∨ k = 23 ∨ k = 24 ∨ k = 27 → Fm' 14 0 k = Fm 14 0 k) ∧ (∀ k y, ¬ (k ≤ 7 ∧ x + 1 ≤ y) → ¬ (8 ≤ k ∧ k ≤ 10 ∧ F 3 0 15 ≤ y) → ¬ (k = 4 ∧ y = x) → B' 3 0 k y = B 3 0 k y) ∧ (∀ v, v ≠ V → Bm' 13 w 8 v = Bm 13 w 8 v ∧ Bm' 13 w 9 v = Bm 13 w 9 v ∧ Bm' 14 0 29 v = Bm 14 0 29 v) ∧ (∀ k, k = 10 ∨ k = 11 → Bm' 13 w k = Bm 13 w k) ∧ (∀ k, k = 25 ∨ k = 26 ∨ k = 28 → Bm' 14 0 k = Bm 14 0 k) ∧ (∀ k y, 30 ≤ k → k ≤ 34 → y < t + 2 → Bm' 14 0 k y = Bm 14 0 k y) ∧ Bm' 14 0 30 (t + 2) = j' - 1 ∧ (x + 1 ≤ F' 3 0 14 ∧ F' 3 0 14 - (x + 1) ≤ j' - t - 4) ∧ F 3 0 15 ≤ F' 3 0 15 ∧ SLR L 7 n (B' 3 0 4 x) (t + 3) (j' - 1) (x + 1) (F' 3 0 14) (F 3 0 15) (F' 3 0 15) B' Bm') ∨ (r = 0 ∧ ERR F' Fm'))
theorem GS_new {K K' : zK} {p V q : Int} {B B' : zB} (h : GS K B) (hp : 0 ≤ p ∧ p < K.2 6) (hV : 0 ≤ V ∧ V < 4) (hK : ∀ c, K'.2 c = if c = 1 then K.2 1 + 200 else if c = 4 then K.2 4 + 1 else K.2 c) (hq : q = K.2 4) (h5 : ∀ x, 0 ≤ x → x < 200 → B' 4 q 5 x = K.2 1 + x) (hB : ∀ c y k x, y < K.2 c → ¬ (c = 6 ∧ y = p ∧ k = 0 ∧ x = V) → B' c y k x = B c y k x) (hV' : B' 6 p 0 V = q) : GS K' B' := by
  obtain ⟨a, b, c, d, e⟩ := h
  have k1 : K'.2 1 = K.2 1 + 200 := by rw [hK 1, if_pos rfl]
  have k4 : K'.2 4 = K.2 4 + 1 := by rw [hK 4, if_neg (by decide), if_pos rfl]
  have k6 : K'.2 6 = K.2 6 := by rw [hK 6, if_neg (by decide), if_neg (by decide)]
  have a1 := a 1 (by decide)
  have a4 := a 4 (by decide)
  have a6 := a 6 (by decide)
  have g6 : ∀ p' v', p' < K.2 6 → ¬ (p' = p ∧ v' = V) → B' 6 p' 0 v' = B 6 p' 0 v' := fun p' v' h1 h2 => hB 6 p' 0 v' h1 (fun z => h2 ⟨z.2.1, z.2.2.2⟩)
  have g4 : ∀ q' x', q' < K.2 4 → B' 4 q' 5 x' = B 4 q' 5 x' := fun q' x' h1 => hB 4 q' 5 x' h1 (fun z => absurd z.1 (by decide))
  refine ⟨fun c hc => ?_, fun p' v' h1 h2 h3 h4 => ?_, fun p1 v1 p2 v2 h1 h2 h3 h4 h7 h8 h9 h10 h11 h12 => ?_, fun q' x' h1 h2 h3 h4 => ?_, fun q1 x1 q2 x2 h1 h2 h3 h4 h7 h8 h9 h10 h11 => ?_⟩
  · rcases hc with rfl | rfl | rfl <;> omega
  · by_cases z : p' = p ∧ v' = V
    · rw [z.1, z.2, hV']; omega
    · rw [g6 p' v' (by first | decide | omega) z]
      have := b p' v' h1 (by first | decide | omega) h3 h4
      omega
  · by_cases z1 : p1 = p ∧ v1 = V
    · by_cases z2 : p2 = p ∧ v2 = V
      · exact ⟨z1.1.trans z2.1.symm, z1.2.trans z2.2.symm⟩
      · rw [z1.1, z1.2, hV', g6 p2 v2 (by first | decide | omega) z2] at h12
        have := b p2 v2 h7 (by first | decide | omega) h9 h10
        omega
    · by_cases z2 : p2 = p ∧ v2 = V
      · rw [z2.1, z2.2, hV', g6 p1 v1 (by first | decide | omega) z1] at h12
        have := b p1 v1 h1 (by first | decide | omega) h3 h4
        omega
      · rw [g6 p1 v1 (by first | decide | omega) z1] at h11 h12
        rw [g6 p2 v2 (by first | decide | omega) z2] at h12
        exact c p1 v1 p2 v2 h1 (by first | decide | omega) h3 h4 h7 (by first | decide | omega) h9 h10 h11 h12
  · by_cases z : q' = q
    · rw [z, h5 x' h3 h4]; omega
    · rw [g4 q' x' (by first | decide | omega)]
      have := d q' x' h1 (by first | decide | omega) h3 h4
      omega
  · by_cases z1 : q1 = q
    · by_cases z2 : q2 = q
      · rw [z1, z2, h5 x1 h3 h4, h5 x2 h9 h10] at h11
        exact ⟨z1.trans z2.symm, (by first | decide | omega)⟩
      · rw [z1, h5 x1 h3 h4, g4 q2 x2 (by first | decide | omega)] at h11
        have := d q2 x2 h7 (by first | decide | omega) h9 h10
        omega
    · by_cases z2 : q2 = q
      · rw [z2, h5 x2 h9 h10, g4 q1 x1 (by first | decide | omega)] at h11
        have := d q1 x1 h1 (by first | decide | omega) h3 h4
        omega
      · rw [g4 q1 x1 (by first | decide | omega), g4 q2 x2 (by first | decide | omega)] at h11
        exact e q1 x1 q2 x2 h1 (by first | decide | omega) h3 h4 h7 (by first | decide | omega) h9 h10 h11
theorem P_v84 {K : zK} {Km : Nat} {N L V t p w x wd s : Int} {F : zF} {B : zB} {Fm : zF} {Bm : zB} (hE : EV K Km N B Bm) (hS : PS N t F B Fm Bm) (hP : HP K p w F Fm) (hLT : LT L F B Fm Bm) (hx : 0 ≤ x ∧ x + 1 = F 3 0 14) (hit : F 3 0 14 ≤ t) (hd : F 3 0 18 = 0) (h4x : B 3 0 4 x = -1) (hGS : GS K B) (hV1 : F 6 p 1 = V) (hV2 : Fm 13 w 1 = V) (hV : 0 ≤ V ∧ V < 4) (hs : s = -1 ∨ (0 ≤ s ∧ s < 4 ∧ ¬ Bm 14 0 7 t = 0)) : zPm (f_Parser_takeVoice_84 K wd x 0 p s F B) (f_M_voiceText_187 Km V w V s Fm Bm) (fun r F' B' K' _ Fm' Bm' => V84 K Km N L V t p w x wd F B Fm Bm r F' B' K' Fm' Bm') := by
  have hX := PS_CX hE hS
  have hM := PS_MX hE hS
  have hg := hS.2.2.2.1
  have k3 := hE.2.2.2.1
  have k10 := hE.2.2.2.2.1
  have k1 := hE.2.2.2.2.2.1
  have km := hE.2.2.2.2.2.2
  have jj := hS.2.1.1
  have nn := hE.1.2.1
  obtain ⟨p0, w0, h6, hPr⟩ := hP
  have e8 : (zup4 Bm 13 w 8 V s) 13 w 8 V = s := by rw [zup4_v, if_pos ⟨rfl, rfl, rfl, rfl⟩]
  have rows8 : ∀ k, (zup4 Bm 13 w 8 V s) 14 0 k = Bm 14 0 k := fun k => by funext y; rw [zup4_v, if_neg (fun z => absurd z.1 (by decide))]
  -- the reference behind its clef in a bad state
  have bad217 : ∀ {Fx : zF} {Bx : zB}, bad Fx → Fx 14 0 6 = w → f_M_voiceText_217 Km V Fx Bx = some (0, zup3 (zup3 (zup3 Fx 14 0 20 4) 14 0 21 0) 13 w 1 (Fx 13 w 1 + 1), zup4 (zup4 Bx 13 w 9 V 0) 14 0 29 V (Fx 14 0 16)) := by
    intro Fx Bx hb h6x
    unfold f_M_voiceText_217
    rw [h6x, if_pos w0, L_numberB hb]
    simp only [zb_s]
    rw [if_pos hV, top_bad km (bad_cg hb (by simp [zup3_v]))]
    simp only [zb_s]
    rw [show (zup3 (zup3 Fx 14 0 20 4) 14 0 21 0) 14 0 6 = w by simp [zup3_v]; exact h6x, if_pos w0, show (zup3 (zup3 Fx 14 0 20 4) 14 0 21 0) 13 w 1 = Fx 13 w 1 by simp [zup3_v]]
  have VFe : ∀ {Fx Fmx : zF} {Bmx : zB}, hF p F Fx → (∀ c i k, ¬ (c = 14 ∧ i = 0 ∧ 16 ≤ k ∧ k ≤ 27) → ¬ (c = 13 ∧ i = w ∧ 1 ≤ k ∧ k ≤ 6) → Fmx c i k = Fm c i k) → (∀ c i k y, ¬ (c = 14 ∧ i = 0 ∧ 25 ≤ k ∧ k ≤ 34) → ¬ (c = 13 ∧ i = w ∧ 8 ≤ k ∧ k ≤ 11) → Bmx c i k y = Bm c i k y) → VF K p w F B Fm Bm K Fx B Fmx Bmx := fun a b c => ⟨Kle_r, fun c y k _ h1 h2 h3 _ => a c y k h1 h2 (fun z => h3 ⟨z.1, z.2.1, by have := z.2.2.1; omega, z.2.2.2⟩), fun _ _ _ _ _ _ _ => rfl, fun _ _ _ => Or.inl rfl, b, c, fun q s a b => (by first | decide | omega), ⟨fun _ _ => rfl, (by first | decide | omega), rfl⟩, Or.inl (a 6 p 1 (fun z => absurd z.1 (by decide)) (fun z => absurd z.1 (by decide)) (fun z => absurd z.2.2.1 (by decide)))⟩
  unfold f_Parser_takeVoice_84 f_M_voiceText_187
  rw [if_pos w0, if_pos hV, h6, if_pos w0, if_pos hV, e8]
  rcases hs with rfl | ⟨s0, s1, s2⟩
  · have er := PS_err2 hE hS
    have hM' : MX Fm (zup4 Bm 13 w 8 V (-1)) t := by
      unfold MX at *
      rw [rows8, rows8, rows8]; exact hM
    have e1 : errM Fm (zup4 Bm 13 w 8 V (-1)) (wr (zup4 Bm 13 w 8 V (-1)) t) = errM Fm Bm (wr Bm t) := by
      unfold errM wr
      rw [rows8, rows8]
    rw [if_pos (show r32 (-1) by decide), if_pos rfl, if_pos ⟨Int.le_refl _, k3⟩, C_refuse hX, if_pos (show r32 (-1) by decide), if_neg (show ¬ (0 : Int) ≤ -1 by decide), L_wrong hg hM', e1]
    simp only [zb_s, zbN_s]
    rw [if_pos (by decide), bad217 er.2 (by unfold errM; simp [zup3_v]; exact h6)]
    refine zPm_s ⟨VFe (hF_e hF_r) (fun c i k a b => ?_) (fun c i k y a b => ?_), hGS, Or.inr ⟨rfl, ERR_cg er rfl (by simp [zup3_v]) (by simp [zup3_v])⟩⟩
    · rw [zup3_v, if_neg (fun z => b ⟨z.1, z.2.1, by have := z.2.2; omega, by have := z.2.2; omega⟩)]
      exact fG_u (fG_u (fG_e fG_r) (by decide) (by decide)) (by decide) (by decide) c i k (fun z => a ⟨z.1, z.2.1, z.2.2.1, by have := z.2.2.2; omega⟩)
    · rw [zup4_v, if_neg (fun z => a ⟨z.1, z.2.1, by have := z.2.2.1; omega, by have := z.2.2.1; omega⟩), zup4_v, if_neg (fun z => b ⟨z.1, z.2.1, by have := z.2.2.1; omega, by have := z.2.2.1; omega⟩), zup4_v, if_neg (fun z => b ⟨z.1, z.2.1, by have := z.2.2.1; omega, by have := z.2.2.1; omega⟩)]
  · have hE8 : EV K Km N B (zup4 Bm 13 w 8 V s) := EV_B hE (fun _ => rfl) (fun k _ => rows8 k)
    have hS1 := PS_B (B' := B) (Bm' := zup4 Bm 13 w 8 V s) (PS_step hE hS s2) (fun _ => rfl) (fun k _ => rows8 k)
    have e61 : (zup3 Fm 14 0 16 (Fm 14 0 16 + 1)) 14 0 6 = w := by simp [zup3_v]; exact h6
    rw [if_pos (show r32 s by omega), if_neg (show ¬ s = -1 by omega), if_pos ⟨Int.le_refl _, k3⟩, hS.1, if_pos ⟨Int.le_refl _, k10⟩, C_adv hX, if_pos (show r32 s by omega), if_pos s0]
    simp only [zbN_s]
    unfold f_M_voiceText_217
    rw [e61, if_pos w0, hM.1]
    rcases P_num hE8 hS1 (lo := 0) (hi := 3) (by decide) (by decide) with ⟨n1, n2, n3, c1, m1, hS2⟩ | ⟨se, s', ve, c1, m1, er⟩
    · rw [rows8] at n2 n3 c1 m1 hS2
      rw [c1, m1]
      simp only [zb_s, zbN_s]
      rw [if_pos (show r32 1 by decide), if_neg (show ¬ (1 : Int) = 0 by decide), if_pos p0, if_pos hV]
      generalize hF3 : advF (zup3 (advF F B) 3 0 19 (Bm 14 0 9 (t + 1))) B = F3 at hS2 ⊢
      have gF3 : fF F F3 := by rw [← hF3]; exact fF_a (fF_u (fF_a fF_r) (by decide))
      have a19 : F3 3 0 19 = Bm 14 0 9 (t + 1) := by rw [← hF3, advF_o (by decide)]; simp [zup3_v]
      have a14 : F3 3 0 14 = F 3 0 14 := by rw [← hF3]; simp [zup3_v, advF_o]
      have a15 : F3 3 0 15 = F 3 0 15 := by rw [← hF3]; simp [zup3_v, advF_o]
      have a18 : F3 3 0 18 = 0 := by rw [← hF3]; simp [zup3_v, advF_o]; exact hd
      have v3 : F3 6 p 1 = V := by rw [gF3 6 p 1 (fun z => absurd z.1 (by decide)) (fun z => absurd z.1 (by decide))]; exact hV1
      obtain ⟨q, F4, B4, K4, b1, b2, b3, b4, b5, b6, b7, b8, b9, b10, b11, b12⟩ := C_newPart (F := F3) (B := B) k1 (hGS.1 1 (by decide)).1 (hGS.1 4 (by decide)).1 p0 v3 hV (hGS.2.1 p V p0.1 p0.2 hV.1 hV.2)
      have x3 : 0 ≤ x ∧ x < 3000 := by omega
      have k43 : 0 < K4.2 3 := Int.lt_of_lt_of_le k3 (b2.2 3)
      have c3 : ∀ k, F4 3 0 k = F3 3 0 k := fun k => b4 3 0 k k3 (fun z => absurd z.1 (by decide)) (fun z => absurd z.1 (by decide))
      have c10 : ∀ k, F4 10 0 k = F3 10 0 k := fun k => b4 10 0 k k10 (fun z => absurd z.1 (by decide)) (fun z => absurd z.1 (by decide))
      have r3 : ∀ k y, B4 3 0 k y = B 3 0 k y := fun k y => b5 3 0 k y k3 (fun z => absurd z.1 (by decide))
      have r10 : ∀ k, B4 10 0 k = B 10 0 k := fun k => by funext y; exact b5 10 0 k y k10 (fun z => absurd z.1 (by decide))
      rw [b1]
      simp only [zbM_s]
      unfold f_Parser_takeVoice_121
      rw [if_pos ⟨b7, b8⟩, if_pos ⟨Int.le_refl _, k43⟩, if_pos x3, c3, a19, r3]
      generalize hF5 : zup3 (zup3 (zup3 (zup3 (zup3 (zup3 F4 4 q 0 wd) 4 q 1 s) 4 q 2 (Bm 14 0 9 (t + 1))) 4 q 3 (B 3 0 1 x)) 4 q 4 x) 3 0 20 32 = F5
      have f5 : ∀ c y k, ¬ (c = 4 ∧ y = q) → ¬ (c = 3 ∧ y = 0 ∧ k = 20) → F5 c y k = F4 c y k := fun c y k h1 h2 => by
        rw [← hF5, zup3_v, if_neg (fun z => h2 ⟨z.1, z.2.1, z.2.2⟩), zup3_v, if_neg (fun z => h1 ⟨z.1, z.2.1⟩), zup3_v, if_neg (fun z => h1 ⟨z.1, z.2.1⟩), zup3_v, if_neg (fun z => h1 ⟨z.1, z.2.1⟩), zup3_v, if_neg (fun z => h1 ⟨z.1, z.2.1⟩), zup3_v, if_neg (fun z => h1 ⟨z.1, z.2.1⟩)]
      have f53 : ∀ k, k ≠ 20 → F5 3 0 k = F3 3 0 k := fun k hk => by rw [f5 3 0 k (fun z => absurd z.1 (by decide)) (fun z => hk z.2.2), c3]
      have f520 : F5 3 0 20 = 32 := by rw [← hF5, zup3_v, if_pos ⟨rfl, rfl, rfl⟩]
      have f510 : ∀ k, F5 10 0 k = F3 10 0 k := fun k => by rw [f5 10 0 k (fun z => absurd z.1 (by decide)) (fun z => absurd z.1 (by decide)), c10]
      have e29 : (zup3 (zup3 Fm 14 0 16 (t + 1)) 14 0 16 (t + 1 + 1)) 14 0 16 = t + 1 + 1 := by simp [zup3_v]
      rw [e29]
      generalize hBm5 : zup4 (zup4 (zup4 Bm 13 w 8 V s) 13 w 9 V (Bm 14 0 9 (t + 1))) 14 0 29 V (t + 1 + 1) = Bm5
      have m5 : ∀ k, k ≠ 29 → Bm5 14 0 k = Bm 14 0 k := fun k hk => by
        rw [← hBm5]
        funext y
        rw [zup4_v, if_neg (fun z => hk z.2.2.1), zup4_v, if_neg (fun z => absurd z.1 (by decide)), zup4_v, if_neg (fun z => absurd z.1 (by decide))]
      generalize hFm5 : zup3 (zup3 (zup3 (zup3 Fm 14 0 16 (t + 1)) 14 0 16 (t + 1 + 1)) 14 0 20 4) 14 0 21 0 = Fm5
      have gm5 : fG Fm Fm5 := by rw [← hFm5]; exact fG_u (fG_u (fG_u (fG_u fG_r (by decide) (by decide)) (by decide) (by decide)) (by decide) (by decide)) (by decide) (by decide)
      have hS5 : PS N (t + 1 + 1) F5 B4 Fm5 Bm5 := by
        have h := PS_len (v := 32) (n := 4) (p := 0) hS2 (by decide) (Or.inr (Or.inr (Or.inl rfl))) (by decide)
        have h2 := PS_cg (F' := F5) (Fm' := Fm5) h (fun k => by rw [f510 k]; simp [zup3_v]) (fun k hk => by
          by_cases e : k = 20
          · rw [e, f520]; simp [zup3_v]
          · rw [f53 k e, zup3_v, if_neg (fun z => e z.2.2)]) (fun k _ => by rw [← hFm5])
        exact PS_B h2 r10 (fun k hk => by rw [m5 k (by first | decide | omega), rows8])
      have hE5 : EV K4 Km N B4 Bm5 := EV_K (EV_B hE r10 (fun k hk => m5 k (by first | decide | omega))) b2
      have hLT5 : LT L F5 B4 Fm5 Bm5 := by
        obtain ⟨l1, l2, l3, l4⟩ := hLT
        refine ⟨?_, ?_, l3, fun y y0 y1 => ?_⟩
        · rw [f53 16 (by decide), gF3 3 0 16 (by decide) (by decide)]; exact l1
        · rw [gm5 14 0 27 (by decide)]; exact l2
        · rw [r3, r3, m5 25 (by decide)]; exact l4 y y0 y1
      refine zPm_n (top_blk (K := K4) km (x := x) (j := t + 1 + 1) hx.1 (by rw [f53 14 (by decide)]; omega) (by rw [f53 14 (by decide)]; omega) hE5 hS5 (by rw [f53 18 (by decide), a18]; decide) (by rw [f520, ← hFm5]; simp [zup3_v]; exact ⟨by decide, Or.inr (Or.inr (Or.inl rfl))⟩) hLT5 (by rw [r3]; exact h4x)) (fun r F' B' r' Fm' Bm' hh => ?_)
      have hr := BPO_r hh
      obtain ⟨g1, g2, g3, g4, g5⟩ := hh
      have d14 : F5 3 0 14 = x + 1 := by rw [f53 14 (by decide), a14]; omega
      have d15 : F5 3 0 15 = F 3 0 15 := by rw [f53 15 (by decide), a15]
      rw [d14, d15] at g3
      have h6' : Fm' 14 0 6 = w := by rw [g2 14 0 6 (by decide), gm5 14 0 6 (by decide)]; exact h6
      have h1' : Fm' 13 w 1 = V := by rw [g2 13 w 1 (fun z => absurd z.1 (by decide)), gm5 13 w 1 (fun z => absurd z.1 (by decide))]; exact hV2
      rw [if_pos hr, h6', if_pos w0, h1']
      have hB6 : ∀ y v, B' 6 y 0 v = B4 6 y 0 v := fun y v => g3 6 y 0 v (fun z => absurd z.1 (by decide)) (fun z => absurd z.1 (by decide)) (fun z => absurd z.1 (by decide))
      have hB45 : ∀ y v, B' 4 y 5 v = B4 4 y 5 v := fun y v => g3 4 y 5 v (fun z => absurd z.1 (by decide)) (fun z => absurd z.1 (by decide)) (fun z => absurd z.1 (by decide))
      have hqV : B' 6 p 0 V = q := by rw [hB6]; exact b6
      have hGS4 : GS K4 B4 := by
        rcases b3 with ⟨_, _, rfl, rfl⟩ | ⟨z1, z2, z3, z4, _⟩
        · exact hGS
        · exact GS_new hGS p0 hV z3 z2 z4 b5 b6
      have hGS' : GS K4 B' := GS_B hGS4 (fun y v _ _ => hB6 y v) (fun y v _ _ => hB45 y v)
      have qown : ∀ y, y < K.2 4 → y = q → ∃ v, 0 ≤ v ∧ v < 4 ∧ y = B 6 p 0 v := fun y h1 h2 => by
        rcases b3 with ⟨z1, _, _, _⟩ | ⟨z1, z2, _⟩
        · exact ⟨V, hV.1, hV.2, h2.trans z1⟩
        · omega
      have FF : ∀ c y k, y < K.2 c → ¬ (c = 10 ∧ y = 0) → ¬ (c = 3 ∧ y = 0 ∧ (k = 14 ∨ k = 15 ∨ 18 ≤ k)) → ¬ (c = 6 ∧ y = p ∧ k = 1) → ¬ (c = 4 ∧ y = q) → F' c y k = F c y k := fun c y k h0 h1 h2 h3 h4 => by
        rw [g1 c y k h1 h2, f5 c y k h4 (fun z => h2 ⟨z.1, z.2.1, by have := z.2.2; omega⟩), b4 c y k h0 h4 h3, gF3 c y k h1 h2]
      have BB : ∀ c y k z, y < K.2 c → ¬ (c = 3 ∧ y = 0) → ¬ (c = 6 ∧ y = p ∧ k = 0 ∧ z = V) → B' c y k z = B c y k z := fun c y k z h0 h1 h2 => by
        rw [g3 c y k z (fun q => h1 ⟨q.1, q.2.1⟩) (fun q => h1 ⟨q.1, q.2.1⟩) (fun q => h1 ⟨q.1, q.2.1⟩), b5 c y k z h0 h2]
      have MM : ∀ c i k, ¬ (c = 14 ∧ i = 0 ∧ 16 ≤ k ∧ k ≤ 21) → ¬ (c = 13 ∧ i = w ∧ k = 1) → (zup3 Fm' 13 w 1 (V + 1)) c i k = Fm c i k := fun c i k h1 h2 => by
        rw [zup3_v, if_neg (fun z => h2 ⟨z.1, z.2.1, z.2.2⟩), g2 c i k h1, gm5 c i k h1]
      have m5' : ∀ c i k y, ¬ (c = 14 ∧ i = 0 ∧ k = 29 ∧ y = V) → ¬ (c = 13 ∧ i = w ∧ (k = 8 ∨ k = 9) ∧ y = V) → Bm5 c i k y = Bm c i k y := fun c i k y h1 h2 => by
        rw [← hBm5, zup4_v, if_neg (fun z => h1 z), zup4_v, if_neg (fun z => h2 ⟨z.1, z.2.1, Or.inr z.2.2.1, z.2.2.2⟩), zup4_v, if_neg (fun z => h2 ⟨z.1, z.2.1, Or.inl z.2.2.1, z.2.2.2⟩)]
      have vf : VF K p w F B Fm Bm K4 F' B' (zup3 Fm' 13 w 1 (V + 1)) Bm' := by
        refine ⟨b2, fun c y k h0 h1 h2 h3 h4 => ?_, fun c y k z h0 h1 h2 => BB c y k z h0 h1 (fun q => h2 ⟨q.1, q.2.1, q.2.2.1⟩), fun v v0 v1 => ?_, fun c i k h1 h2 => ?_, fun c i k y h1 h2 => ?_, fun qq s h1 h2 => ?_, ?_, Or.inr ?_⟩
        · refine FF c y k h0 h1 (fun z => h2 ⟨z.1, z.2.1, by have := z.2.2; omega⟩) (fun z => h3 ⟨z.1, z.2.1, by have := z.2.2; omega, by have := z.2.2; omega⟩) (fun z => ?_)
          have z1 := z.1
          subst z1
          exact h4 ⟨rfl, qown y h0 z.2⟩
        · by_cases e : v = V
          · rw [e, hqV]
            rcases b3 with ⟨z1, _, _, _⟩ | ⟨z1, z2, _⟩
            · exact Or.inl z1
            · exact Or.inr ⟨z1, (by first | decide | omega)⟩
          · exact Or.inl (BB 6 p 0 v p0.2 (fun z => absurd z.1 (by decide)) (fun z => e z.2.2.2))
        · exact MM c i k (fun z => h1 ⟨z.1, z.2.1, z.2.2.1, by have := z.2.2.2; omega⟩) (fun z => h2 ⟨z.1, z.2.1, by have := z.2.2; omega, by have := z.2.2; omega⟩)
        · rw [g4 c i k y (fun z => h1 ⟨z.1, z.2.1, by have := z.2.2.1; omega, by have := z.2.2.2.1; omega⟩)]
          exact m5' c i k y (fun z => h1 ⟨z.1, z.2.1, by have := z.2.2.1; omega, by have := z.2.2.1; omega⟩) (fun z => h2 ⟨z.1, z.2.1, by have := z.2.2.1; omega, by have := z.2.2.1; omega⟩)
        · rcases b3 with ⟨_, _, rfl, rfl⟩ | ⟨z1, z2, z3, z4, z5, _⟩
          · omega
          · have k4 : K4.2 4 = K.2 4 + 1 := by rw [z3 4, if_neg (by decide), if_pos rfl]
            rw [g3 4 qq 12 s (fun z => absurd z.1 (by decide)) (fun z => absurd z.1 (by decide)) (fun z => absurd z.1 (by decide)), show qq = q by omega, z5 12 s (by decide)]
            decide
        · rcases b3 with ⟨_, _, rfl, rfl⟩ | ⟨z1, z2, z3, z4, z5, _⟩
          · exact ⟨fun _ _ => rfl, (by first | decide | omega), by rw [em_e (fun v => hB6 p v)]⟩
          · have k4 : K4.2 4 = K.2 4 + 1 := by rw [z3 4, if_neg (by decide), if_pos rfl]
            have k1' : K4.2 1 = K.2 1 + 200 := by rw [z3 1, if_pos rfl]
            refine ⟨fun c hc => by rw [z3 c, if_neg (fun e => hc (Or.inl e)), if_neg (fun e => hc (Or.inr e))], (by first | decide | omega), ?_⟩
            have := em_1 (B := B) (B' := B') (p := p) hV (fun v hv => BB 6 p 0 v p0.2 (fun z => absurd z.1 (by decide)) (fun z => hv z.2.2.2)) z1 (by rw [hqV]; exact b7)
            omega
        · rw [g1 6 p 1 (fun z => absurd z.1 (by decide)) (fun z => absurd z.1 (by decide)), f5 6 p 1 (fun z => absurd z.1 (by decide)) (fun z => absurd z.1 (by decide)), b9]
          omega
      refine zPm_s ⟨vf, hGS', ?_⟩
      rcases g5 with ⟨rfl, j', n, v1, v2, v3', v4, v5, v6, v7, v8⟩ | ⟨rfl, er⟩
      · left
        rw [d14] at v5 v7
        rw [d15] at v6 v7
        have q4 : ∀ k, F' 4 q k = F5 4 q k := fun k => g1 4 q k (fun z => absurd z.1 (by decide)) (fun z => absurd z.1 (by decide))
        have mk : ∀ k y, k ≤ 29 → Bm' 14 0 k y = Bm5 14 0 k y := fun k y hk => by rw [fH_k g4 k hk]
        have m13 : ∀ k y, Bm' 13 w k y = Bm5 13 w k y := fun k y => g4 13 w k y (fun z => absurd z.1 (by decide))
        refine ⟨rfl, j', n, s, Bm 14 0 9 (t + 1), (by first | decide | omega), EV_B hE5 (fK_10 g3) (fun k hk => fH_k g4 k (by first | decide | omega)), PS_cg v2 (fun _ => rfl) (fun _ _ => rfl) (fun k _ => by simp [zup3_v]), by rw [hqV]; exact ⟨b7, b8⟩, ?_, ?_, ?_, ?_, ?_, ?_, ?_, ?_, ⟨s0, s1⟩, (by first | decide | omega), ?_, ?_, ?_, ?_, fun v v0 v1 e => BB 6 p 0 v p0.2 (fun z => absurd z.1 (by decide)) (fun z => e z.2.2.2), fun y k y0 y1 e => FF 4 y k y1 (fun z => absurd z.1 (by decide)) (fun z => absurd z.1 (by decide)) (fun z => absurd z.1 (by decide)) (fun z => e (by rw [hqV]; exact z.2)), fun k k0 k1 => ⟨FF 6 p k p0.2 (fun z => absurd z.1 (by decide)) (fun z => absurd z.1 (by decide)) (fun z => by have := z.2.2; omega) (fun z => absurd z.1 (by decide)), MM 13 w k (fun z => absurd z.1 (by decide)) (fun z => by have := z.2.2; omega)⟩, FF 3 0 16 k3 (by decide) (by decide) (fun z => absurd z.1 (by decide)) (fun z => absurd z.1 (by decide)), FF 3 0 17 k3 (by decide) (by decide) (fun z => absurd z.1 (by decide)) (fun z => absurd z.1 (by decide)), fun k hk => MM 14 0 k (fun z => by have := z.2.2.2; omega) (fun z => absurd z.1 (by decide)), fun k y h1 h2 h3 => ?_, fun v e => ⟨?_, ?_, ?_⟩, fun k hk => ?_, fun k hk => ?_, fun k y h1 h2 h3 => ?_, ?_, (by first | decide | omega), (by first | decide | omega), ?_⟩
        · rw [hqV, q4, ← hF5]; simp [zup3_v]
        · rw [hqV, q4, ← hF5]; simp [zup3_v]
        · rw [hqV, q4, ← hF5]; simp [zup3_v]
        · rw [hqV, q4, ← hF5]; simp [zup3_v]
        · rw [hqV, q4, ← hF5]; simp [zup3_v]
        · rw [hqV, q4, ← hF5]; simp [zup3_v]; exact b10
        · rw [m13, ← hBm5]; simp [zup4_v]
        · rw [m13, ← hBm5]; simp [zup4_v]
        · rw [mk 29 V (by decide), ← hBm5]; simp [zup4_v]; omega
        · rw [g1 6 p 1 (fun z => absurd z.1 (by decide)) (fun z => absurd z.1 (by decide)), f5 6 p 1 (fun z => absurd z.1 (by decide)) (fun z => absurd z.1 (by decide))]; exact b9
        · simp [zup3_v]
        · rw [v4, f53 18 (by decide)]; exact a18
        · rw [g3 3 0 k y (fun z => h1 ⟨z.2.2.1, z.2.2.2⟩) (fun z => h2 ⟨z.2.2.1, z.2.2.2.1, z.2.2.2.2⟩) (fun z => h3 ⟨z.2.2.1, z.2.2.2⟩)]; exact r3 k y
        · rw [m13]; exact m5' 13 w 8 v (fun z => absurd z.1 (by decide)) (fun z => e z.2.2.2)
        · rw [m13]; exact m5' 13 w 9 v (fun z => absurd z.1 (by decide)) (fun z => e z.2.2.2)
        · rw [mk 29 v (by decide)]; exact m5' 14 0 29 v (fun z => e z.2.2.2) (fun z => absurd z.1 (by decide))
        · funext y
          rw [m13]; exact m5' 13 w k y (fun z => absurd z.1 (by decide)) (fun z => by have := z.2.2.1; omega)
        · funext y
          rw [mk k y (by first | decide | omega)]; exact m5' 14 0 k y (fun z => by have := z.2.2.1; omega) (fun z => absurd z.1 (by decide))
        · rw [g4 14 0 k y (fun z => by have := z.2.2.2.2; omega)]; exact m5' 14 0 k y (fun z => by have := z.2.2.1; omega) (fun z => absurd z.1 (by decide))
        · rw [show t + 2 = t + 1 + 1 by omega]; exact v3'
        · rw [show t + 3 = t + 1 + 1 + 1 by omega]; exact v7
      · exact Or.inr ⟨rfl, ERR_cg er rfl (by simp [zup3_v]) (by simp [zup3_v])⟩
    · rw [c1, m1]
      simp only [zb_s, zbN_s]
      rw [if_pos (show r32 0 by decide), if_pos trivial, if_pos hV]
      have e62 : (errM (zup3 Fm 14 0 16 (t + 1)) (zup4 Bm 13 w 8 V s) s') 14 0 6 = w := by unfold errM; simp [zup3_v]; exact h6
      rw [top_bad km (bad_cg er.2 (by simp [zup3_v]))]
      simp only [zb_s]
      rw [show (zup3 (zup3 (errM (zup3 Fm 14 0 16 (t + 1)) (zup4 Bm 13 w 8 V s) s') 14 0 20 4) 14 0 21 0) 14 0 6 = w by simp [zup3_v]; exact e62, if_pos w0]
      refine zPm_s ⟨VFe (hF_e (hF_a hF_r)) (fun c i k a b => ?_) (fun c i k y a b => ?_), hGS, Or.inr ⟨rfl, ERR_cg er rfl (by simp [zup3_v]) (by simp [zup3_v])⟩⟩
      · rw [zup3_v, if_neg (fun z => b ⟨z.1, z.2.1, by have := z.2.2; omega, by have := z.2.2; omega⟩)]
        exact fG_u (fG_u (fG_e (fG_u fG_r (by decide) (by decide))) (by decide) (by decide)) (by decide) (by decide) c i k (fun z => a ⟨z.1, z.2.1, z.2.2.1, by have := z.2.2.2; omega⟩)
      · rw [zup4_v, if_neg (fun z => a ⟨z.1, z.2.1, by have := z.2.2.1; omega, by have := z.2.2.1; omega⟩), zup4_v, if_neg (fun z => b ⟨z.1, z.2.1, by have := z.2.2.1; omega, by have := z.2.2.1; omega⟩), zup4_v, if_neg (fun z => b ⟨z.1, z.2.1, by have := z.2.2.1; omega, by have := z.2.2.1; omega⟩)]
end
end
section
section
/-! ===== a whole voice, on both sides ===== -/
def VPO (K : zK) (Km : Nat) (N L V j p w : Int) (F : zF) (B : zB) (Fm : zF) (Bm : zB) (r : Int) (F' : zF) (B' : zB) (K' : zK) (Fm' : zF) (Bm' : zB) : Prop := VF K p w F B Fm Bm K' F' B' Fm' Bm' ∧ GS K' B' ∧ ((r = 1 ∧ ∃ j', j < j' ∧ VI K' Km N L (V + 1) j' p w F' B' Fm' Bm') ∨ (r = 0 ∧ ERR F' Fm'))
theorem P_voice {K : zK} {Km : Nat} {N L V j p w : Int} {F : zF} {B : zB} {Fm : zF} {Bm : zB} (hI : VI K Km N L V j p w F B Fm Bm) (wd : wdAt Bm j 508675318629) (hV4 : V < 4) : zPm (f_Parser_takeVoice K 0 p F B) (f_M_voiceText Km Fm Bm) (fun r F' B' K' _ Fm' Bm' => VPO K Km N L V j p w F B Fm Bm r F' B' K' Fm' Bm') := by
  obtain ⟨⟨hE, hS, hP, hLT, hit, hi0, hdep, hSL⟩, hGS, hV1, hV2, hV3, hVv⟩ := hI
  have hX := PS_CX hE hS
  have hM := PS_MX hE hS
  have k3 := hE.2.2.2.1
  have k10 := hE.2.2.2.2.1
  have k1 := hE.2.2.2.2.2.1
  have km := hE.2.2.2.2.2.2
  have h4 := wd.1
  have jj := hS.2.1.1
  have nn := hE.1.2.1
  have ep := hS.2.1.2.2.1
  have tk0 := hE.1.2.2 j jj.1 jj.2
  have p15 := hS.2.2.2.2.2.2.2
  have hjN : j < N := by
    have : ¬ j = N := fun z => by have := tk0.2.2.2.1.mpr z; omega
    omega
  have hx14 : 0 ≤ F 3 0 14 ∧ F 3 0 14 < 3000 := by omega
  have hV : 0 ≤ V ∧ V < 4 := ⟨hV3.1, hV4⟩
  obtain ⟨p0, w0, h6, hPr⟩ := hP
  have hP0 : HP K p w F Fm := ⟨p0, w0, h6, hPr⟩
  -- the root is made, the word voice is passed
  have hK1 : fK 0 (F 3 0 14) (F 3 0 14) (F 3 0 15) B (newB B (F 3 0 14) 10 (F 10 0 1)) := newB_k fK_r (Int.le_refl _)
  have gM1 : tM Bm (zup4 Bm 14 0 28 V j) := tM_u tM_r (by decide) (by decide)
  have hE1 := EV_t (EV_k hE hK1 (fJ_H (fr := 0) (j := j) fH_r (Int.le_refl _))) tB_r gM1
  have hS0 := PS_k (PS_u (k := 14) (v := F 3 0 14 + 1) hS (by decide)) hK1 (fJ_H (fr := 0) (j := j) fH_r (Int.le_refl _))
  have hS1 := PS_t (PS_step (EV_k hE hK1 (fJ_H (fr := 0) (j := j) fH_r (Int.le_refl _))) hS0 (by first | decide | omega)) tB_r gM1
  have rowsM : ∀ k, k ≠ 28 → (zup4 Bm 14 0 28 V j) 14 0 k = Bm 14 0 k := fun k hk => by funext y; rw [zup4_v, if_neg (fun z => hk z.2.2.1)]
  have row13 : ∀ k, (zup4 Bm 14 0 28 V j) 13 w k = Bm 13 w k := fun k => by funext y; rw [zup4_v, if_neg (fun z => absurd z.1 (by decide))]
  have e28 : (zup4 Bm 14 0 28 V j) 14 0 28 V = j := by rw [zup4_v, if_pos ⟨rfl, rfl, rfl, rfl⟩]
  have n28 : ∀ v, v ≠ V → (zup4 Bm 14 0 28 V j) 14 0 28 v = Bm 14 0 28 v := fun v hv => by rw [zup4_v, if_neg (fun z => hv z.2.2.2)]
  have hX1 := PS_CX hE1 hS1
  have hM1 := PS_MX hE1 hS1
  have hg1 := hS1.2.2.2.1
  have jj1 := hS1.2.1.1
  have ev := hS1.2.1.2.2.2.1
  have tk := hE1.1.2.2 (j + 1) jj1.1 jj1.2
  have gB1 : tB B (newB B (F 3 0 14) 10 (F 10 0 1)) := tB_K hK1
  have nb := newB_at (B := B) (x := F 3 0 14) (s := 10) (p := F 10 0 1)
  generalize hBm1 : zup4 Bm 14 0 28 V j = Bm1 at *
  generalize hB1 : newB B (F 3 0 14) 10 (F 10 0 1) = B1 at *
  have gF1 : fF F (advF (zup3 F 3 0 14 (F 3 0 14 + 1)) B1) := fF_a (fF_u fF_r (by decide))
  have gG1 : fG Fm (zup3 Fm 14 0 16 (j + 1)) := fG_u fG_r (by decide) (by decide)
  have nr := nmF_r (Bm1 14 0 7 (j + 1)) (Bm1 14 0 11 (j + 1))
  have bad70 : ∀ {Fx : zF} {Bx : zB}, bad Fx → f_M_voiceText_70 Km V Fx Bx = some (0, Fx, Bx) := by
    intro Fx Bx hb
    unfold f_M_voiceText_70
    rw [L_goodB hb]
    simp only [zb_s, ir0, if_true]
  unfold f_Parser_takeVoice f_M_voiceText
  rw [if_pos ⟨Int.le_refl _, k3⟩, C_newItem hX hx14, h6, if_pos w0, hV2, if_pos hV, hM.1, hBm1, hB1, L_isName km hM1 hE1.2.1]
  simp only [zb_s, zbN_s]
  rw [show (zup3 F 3 0 14 (F 3 0 14 + 1)) 3 0 11 = 0 from hS0.1, if_pos ⟨Int.le_refl _, k10⟩, C_adv (CX_u (by rw [← hB1]; exact CX_n hX) (by decide))]
  simp only [zbN_s]
  rw [C_isName hX1, PS_nm hE1 hS1]
  simp only [zbN_s]
  rw [if_pos (show r32 (nmF (Bm1 14 0 7 (j + 1)) (Bm1 14 0 11 (j + 1))) by omega), if_pos (show r32 (nmF (Bm1 14 0 7 (j + 1)) (Bm1 14 0 11 (j + 1))) by omega)]
  by_cases z : nmF (Bm1 14 0 7 (j + 1)) (Bm1 14 0 11 (j + 1)) = 0
  · have er := PS_err2 hE1 hS1
    rw [if_pos z, if_pos z, C_refuse hX1, L_wrong hg1 hM1]
    simp only [zb_s, zbN_s]
    rw [if_pos (by decide), bad70 er.2]
    exact zPm_s ⟨VF_h (hF_f (fF_e gF1)) (hG_f (fG_e gG1)) gB1 gM1, GS_t hGS gB1, Or.inr ⟨rfl, er⟩⟩
  · have k4 : Bm1 14 0 7 (j + 1) = 4 := by
      by_cases q : Bm1 14 0 7 (j + 1) = 4 ∧ nmC (Bm1 14 0 11 (j + 1))
      · exact q.1
      · exact absurd (nmF_0 q) z
    have w4 := hM1.2.2.2.2 k4
    have nzw : NZb (Bm1 14 0 11 (j + 1)) := by have t7 := tk.2.2.2.2.2.2.1 k4; rw [← t7.1]; exact t7.2.2
    have e2 : (advF (zup3 F 3 0 14 (F 3 0 14 + 1)) B1) 10 0 2 = Bm1 14 0 11 (j + 1) := by rw [ev]; exact (tk.2.2.2.2.2.2.1 k4).1
    have F64 : ∀ c y k, c = 4 ∨ c = 6 → (advF (zup3 F 3 0 14 (F 3 0 14 + 1)) B1) c y k = F c y k := fun c y k hc => gF1 c y k (fun z => by have := z.1; omega) (fun z => by have := z.1; omega)
    have B60 : ∀ y k x, B1 6 y k x = B 6 y k x := fun y k x => gB1 6 y k x (fun z => absurd z.1 (by decide))
    have hp := C_hasPart (K := K) (p := p) (w := Bm1 14 0 11 (j + 1)) (V := V) (F := advF (zup3 F 3 0 14 (F 3 0 14 + 1)) B1) (B := B1) k1 p0 (by rw [F64 6 p 1 (by decide)]; exact hV1) hV3 (fun v v0 v1 => by
      have q := (hVv v v0 v1).1
      rw [B60, F64 4 _ 0 (by decide)]
      exact ⟨q.1, by have := q.2.2.1; omega⟩) (by first | decide | omega)
    have ef : fdR (fun v => (advF (zup3 F 3 0 14 (F 3 0 14 + 1)) B1) 4 (B1 6 p 0 v) 0) V (Bm1 14 0 11 (j + 1)) 22 0 = fdR (Bm1 13 w 10) V (Bm1 14 0 11 (j + 1)) 22 0 := fdR_c (fun v v0 v1 => by
      have q := (hVv v v0 v1).1
      show (advF (zup3 F 3 0 14 (F 3 0 14 + 1)) B1) 4 (B1 6 p 0 v) 0 = _
      rw [B60, F64 4 _ 0 (by decide), row13]
      exact q.2.1)
    rw [ef] at hp
    have mn := L_find (K := Km) (c := 13) (i := w) (k := 10) (m := V) (w := Bm1 14 0 11 (j + 1)) (F := zup3 Fm 14 0 16 (j + 1)) (B := Bm1) km (by rw [show nM 13 = 3 by decide]; exact w0) (by rw [show (lnM 13 w 10 : Int) = 4 from rfl]; omega) (by rw [show lnM 13 w 10 = 4 from rfl]; decide) (by decide) (by first | decide | omega) (fun v v0 v1 => by
      have q := (hVv v v0 v1).1
      rw [row13, ← q.2.1]
      have := q.2.2.1
      omega) (by first | decide | omega)
    have e6 : (zup3 Fm 14 0 16 (j + 1)) 14 0 6 = w := by simp [zup3_v]; exact h6
    have e16 : (zup3 Fm 14 0 16 (j + 1)) 14 0 16 = j + 1 := by simp [zup3_v]
    rw [if_neg z, if_neg z, hS1.1, if_pos ⟨Int.le_refl _, k10⟩, if_pos p0, e2, e6, if_pos w0, e16, if_pos (show 0 ≤ j + 1 ∧ j + 1 < 3001 by omega), mn]
    rcases fdR_r (row := Bm1 13 w 10) (m := V) (w := Bm1 14 0 11 (j + 1)) (f := 22) (k := 0) (by first | decide | omega) with n1 | ⟨n1, n2, n3⟩
    · rw [n1, if_pos (show (-1 : Int) < 0 by decide)] at hp
      rw [hp, n1]
      simp only [zb_s, zbN_s]
      have hS2' := PS_step hE1 hS1 (by first | decide | omega)
      rw [if_pos (show r32 0 by decide), if_pos trivial, hS1.1, if_pos ⟨Int.le_refl _, k10⟩, C_adv hX1, if_pos (show r32 (-1) by decide), if_pos (show (-1 : Int) < 0 by decide)]
      simp only [zbN_s]
      unfold f_M_voiceText_70
      rw [L_good hg1]
      simp only [zb_s, ir1, i10]
      rw [e6, if_pos w0, e16, if_pos (show 0 ≤ j + 1 ∧ j + 1 < 3001 by omega), if_pos hV]
      have ew : (zup4 Bm1 13 w 10 V (Bm1 14 0 11 (j + 1))) 14 0 11 (j + 1) = Bm1 14 0 11 (j + 1) := by rw [zup4_v, if_neg (fun z => absurd z.1 (by decide))]
      rw [ew, L_108 (m := 9) (by omega) (by omega) (by have : (256 : Int) ^ 9 = 4722366482869645213696 := by decide
                                                       omega) (by first | decide | omega)]
      rw [f_M_voiceText_108]
      rw [if_pos (show r64 0 by decide), if_pos (zcmp_le.mpr (Int.le_refl _)), e6, if_pos w0, if_pos hV, e16, if_pos (show 0 ≤ j + 1 + 1 ∧ j + 1 + 1 < 3001 by have := hS2'.2.1.1; omega), show (0 : Int) + ltr 9 (Bm1 14 0 11 (j + 1)) = ltr 9 (Bm1 14 0 11 (j + 1)) by omega]
      generalize hBm3 : zup4 (zup4 Bm1 13 w 10 V (Bm1 14 0 11 (j + 1))) 13 w 11 V (ltr 9 (Bm1 14 0 11 (j + 1))) = Bm3
      have m14 : ∀ k, Bm3 14 0 k = Bm1 14 0 k := fun k => by
        rw [← hBm3]; funext y; rw [zup4_v, if_neg (fun z => absurd z.1 (by decide)), zup4_v, if_neg (fun z => absurd z.1 (by decide))]
      have m13 : ∀ k v, (k = 10 ∨ k = 11 → v ≠ V) → Bm3 13 w k v = Bm1 13 w k v := fun k v h => by
        rw [← hBm3, zup4_v, if_neg (fun z => h (Or.inr z.2.2.1) z.2.2.2), zup4_v, if_neg (fun z => h (Or.inl z.2.2.1) z.2.2.2)]
      have m10 : Bm3 13 w 10 V = Bm1 14 0 11 (j + 1) := by rw [← hBm3]; simp [zup4_v]
      have m11 : Bm3 13 w 11 V = ltr 9 (Bm1 14 0 11 (j + 1)) := by rw [← hBm3]; simp [zup4_v]
      have hE3 := EV_B (B' := B1) (Bm' := Bm3) hE1 (fun _ => rfl) (fun k _ => m14 k)
      have hS2 := PS_B (B' := B1) (Bm' := Bm3) hS2' (fun _ => rfl) (fun k _ => m14 k)
      rw [m14, m14]
      generalize hF3 : advF (advF (zup3 F 3 0 14 (F 3 0 14 + 1)) B1) B1 = F3 at *
      generalize hFm2 : zup3 (zup3 Fm 14 0 16 (j + 1)) 14 0 16 (j + 1 + 1) = Fm2 at *
      have hX3 := PS_CX hE3 hS2
      have gF3 : fF F F3 := by rw [← hF3]; exact fF_a gF1
      have gG3 : fG Fm Fm2 := by rw [← hFm2]; exact fG_u gG1 (by decide) (by decide)
      have a14 : F3 3 0 14 = F 3 0 14 + 1 := by rw [← hF3]; simp [zup3_v, advF_o]
      have a15 : F3 3 0 15 = F 3 0 15 := by rw [← hF3]; simp [zup3_v, advF_o]
      have a18 : F3 3 0 18 = 0 := by rw [← hF3]; simp [zup3_v, advF_o]; exact hdep
      have kk := hS2.2.1.2.1
      have vv := hS2.2.1.2.2.2.1
      have tk2 := hE3.1.2.2 (j + 1 + 1) hS2.2.1.1.1 hS2.2.1.1.2
      have hP3 : HP K p w F3 Fm2 := HP_f hP0 gF3 gG3
      have hLT3 : LT L F3 B1 Fm2 Bm3 := by
        have h := LT_k (Bm' := Bm) hLT gF3 gG3 hK1 (by decide) (fJ_H (fr := 0) (j := 0) fH_r (Int.le_refl _))
        obtain ⟨l1, l2, l3, l4⟩ := h
        exact ⟨l1, l2, l3, fun q q0 q1 => by rw [m14 25, rowsM 25 (by decide)]; exact l4 q q0 q1⟩
      rw [hS2.1, if_pos ⟨Int.le_refl _, k10⟩, if_pos (show r32 (F3 10 0 0) by have := hX3.2.2.2.1; omega), if_pos (show r32 (Bm1 14 0 7 (j + 1 + 1)) by have := tk2.2.2.1; rw [m14] at this; omega)]
      -- from the clef on
      have main : ∀ s, (s = -1 ∨ (0 ≤ s ∧ s < 4 ∧ ¬ Bm3 14 0 7 (j + 1 + 1) = 0)) → zPm (f_Parser_takeVoice_84 K (Bm1 14 0 11 (j + 1)) (F 3 0 14) 0 p s F3 B1) (f_M_voiceText_187 Km V w V s Fm2 Bm3) (fun r F' B' K' _ Fm' Bm' => VPO K Km N L V j p w F B Fm Bm r F' B' K' Fm' Bm') := by
        intro s hs
        refine zPm_m (P_v84 (N := N) (t := j + 1 + 1) (x := F 3 0 14) (wd := Bm1 14 0 11 (j + 1)) hE3 hS2 hP3 hLT3 ⟨hx14.1, (by first | decide | omega)⟩ (by first | decide | omega) a18 nb.2.2.2.2.1 (GS_t hGS gB1) (by rw [gF3 6 p 1 (fun z => absurd z.1 (by decide)) (fun z => absurd z.1 (by decide))]; exact hV1) (by rw [gG3 13 w 1 (fun z => absurd z.1 (by decide))]; exact hV2) hV hs) (fun r F' B' K' r' Fm' Bm' hh => ?_)
        obtain ⟨vf, gs, res⟩ := hh
        have vf0 : VF K p w F B Fm Bm K F3 B1 Fm2 Bm3 := ⟨Kle_r, fun c y k _ h1 h2 h3 _ => hF_f (p := p) gF3 c y k h1 h2 (fun z => h3 ⟨z.1, z.2.1, by have := z.2.2.1; omega, z.2.2.2⟩), fun c y k x _ h1 _ => gB1 c y k x h1, fun v _ _ => Or.inl (B60 p 0 v), fun c i k h1 _ => gG3 c i k (fun z => h1 ⟨z.1, z.2.1, z.2.2.1, by have := z.2.2.2; omega⟩), fun c i k y h1 h2 => by
          rw [← hBm3, zup4_v, if_neg (fun z => h2 ⟨z.1, z.2.1, by have := z.2.2.1; omega, by have := z.2.2.1; omega⟩), zup4_v, if_neg (fun z => h2 ⟨z.1, z.2.1, by have := z.2.2.1; omega, by have := z.2.2.1; omega⟩)]
          exact gM1 c i k y h1, fun q s a b => (by first | decide | omega), ⟨fun _ _ => rfl, (by first | decide | omega), by rw [em_e (fun v => B60 p 0 v)]⟩, Or.inl (hF_f (p := p) gF3 6 p 1 (fun z => absurd z.1 (by decide)) (fun z => absurd z.1 (by decide)) (fun z => absurd z.2.2.1 (by decide)))⟩
        refine ⟨VF_t vf0 vf, gs, ?_⟩
        rcases res with ⟨rfl, j', n, s', m', u1, u2, u3, u4, u5, u6, u7, u8, u9, u10, u11, u12, u13, u14, u15, u16, u17, u18, u19, u20, u21, u22, u23, u24, u25, u26, u27, u28, u29, u30, u31, u32, u33⟩ | er
        · left
          rw [a15] at u25 u32 u33
          have kle := vf.1
          have ju := u3.2.1.1
          rw [show j + 1 + 1 + 3 = j + 1 + 1 + 2 + 1 by omega] at u33
          have aB0 : agB L 0 (F 3 0 14) 0 (F 3 0 15) (-1) B B' := by
            refine ⟨fun k y h1 h2 h3 _ => ?_, fun k y h1 h2 h3 h4 => ?_, fun q h1 h2 => ?_⟩
            · rw [u25 k y (by first | decide | omega) (by first | decide | omega) (by first | decide | omega)]
              exact hK1 3 0 k y (fun z => by have := z.2.2.2; omega) (fun z => by have := z.2.2.1; omega) (fun z => by have := z.2.2.2; omega)
            · rw [u25 k y (by first | decide | omega) (by first | decide | omega) (by first | decide | omega)]
              exact hK1 3 0 k y (fun z => by have := z.2.2.1; omega) (fun z => by have := z.2.2.2.2; omega) (fun z => by have := z.2.2.1; omega)
            · rw [u25 13 q (by first | decide | omega) (by first | decide | omega) (by first | decide | omega)]
              exact hK1 3 0 13 q (fun z => absurd z.2.2.1 (by decide)) (fun z => absurd z.2.2.2.1 (by decide)) (fun z => absurd z.2.2.1 (by decide))
          have bm7 : ∀ k, k ≤ 15 → Bm' 14 0 k = Bm 14 0 k := fun k hk => by
            funext y
            rw [vf.2.2.2.2.2.1 14 0 k y (fun z => by have := z.2.2.1; omega) (fun z => absurd z.1 (by decide)), m14, rowsM k (by first | decide | omega)]
          have b25 : Bm' 14 0 25 = Bm 14 0 25 := by rw [u28 25 (by decide), m14, rowsM 25 (by decide)]
          have b26 : Bm' 14 0 26 = Bm 14 0 26 := by rw [u28 26 (by decide), m14, rowsM 26 (by decide)]
          have aM0 : agM L 0 j Bm Bm' := by
            refine ⟨fun k y h1 h2 h3 h4 => ?_, fun k h1 h2 => bm7 k (by first | decide | omega), fun q h1 h2 => by rw [b25]⟩
            rw [u29 k y h1 h2 (by first | decide | omega), m14, rowsM k (by first | decide | omega)]
          have own : ∀ v, 0 ≤ v → v < V → B' 6 p 0 v = B 6 p 0 v := fun v v0 v1 => by rw [u19 v v0 (by first | decide | omega) (by first | decide | omega), B60]
          have neq : ∀ v, 0 ≤ v → v < V → B 6 p 0 v ≠ B' 6 p 0 V := fun v v0 v1 e => by
            have q := (hVv v v0 v1).1
            have k6 := kle.2 6
            have := (gs.2.2.1 p v p V p0.1 (by first | decide | omega) v0 (by first | decide | omega) p0.1 (by first | decide | omega) hV.1 hV.2 (by rw [own v v0 v1]; exact q.1.1) (by rw [own v v0 v1]; exact e)).2
            omega
          have F4v : ∀ v k, 0 ≤ v → v < V → F' 4 (B' 6 p 0 v) k = F 4 (B 6 p 0 v) k := fun v k v0 v1 => by
            have q := (hVv v v0 v1).1
            rw [own v v0 v1, u20 _ k q.1.1 q.1.2 (neq v v0 v1), gF3 4 _ k (fun z => absurd z.1 (by decide)) (fun z => absurd z.1 (by decide))]
          refine ⟨rfl, j', (by first | decide | omega), ⟨u2, u3, ?_, ?_, (by first | decide | omega), (by first | decide | omega), u18, ?_⟩, gs, u16, u17, (by first | decide | omega), fun v v0 v1 => ?_⟩
          · refine HP_cg (K := K') (F := F3) (Fm := Fm2) ?_ (fun k k0 k1 => (u21 k k0 k1).1) u23 (fun k k0 k1 => (u21 k k0 k1).2) (fun k hk => u24 k (by first | decide | omega))
            · obtain ⟨t1, t2⟩ := hP3
              have := kle.2 6
              exact ⟨⟨t1.1, (by first | decide | omega)⟩, t2⟩
          · refine ⟨?_, ?_, hLT3.2.2.1, fun q q0 q1 => ?_⟩
            · rw [u22]; exact hLT3.1
            · rw [u24 27 (by decide)]; exact hLT3.2.1
            · rw [u25 12 q (by first | decide | omega) (by first | decide | omega) (by first | decide | omega), u25 13 q (by first | decide | omega) (by first | decide | omega) (by first | decide | omega), u28 25 (by decide)]
              exact hLT3.2.2.2 q q0 q1
          · exact SLT_t hSL aB0 aM0 (fun r _ _ => by rw [b26]) (by first | decide | omega) (by first | decide | omega) (by first | decide | omega)
          · by_cases e : v = V
            · subst e
              refine ⟨⟨u4, ?_, ?_, ?_, ?_, ?_, ?_, ?_, ?_, u10, ?_, ?_⟩, ?_⟩
              · rw [u5, u27 10 (by decide)]; exact m10.symm
              · rw [u5]; omega
              · rw [u6, u11]; omega
              · rw [u7, u12]; omega
              · have e6 : F' 4 (B' 6 p 0 v) 3 = Bm' 14 0 8 (Bm' 14 0 28 v) := by
                  rw [u8, u28 28 (by decide), m14, e28, bm7 8 (by decide)]
                  exact nb.2.1.trans ep
                have e8 : 0 ≤ Bm' 14 0 8 (Bm' 14 0 28 v) ∧ Bm' 14 0 8 (Bm' 14 0 28 v) ≤ 3000 := by
                  rw [u28 28 (by decide), m14, e28, bm7 8 (by decide)]
                  exact (hE.1.2.2 j (by first | decide | omega) (by first | decide | omega)).2.2.2.2.2.2.2.2.2.1
                exact ⟨e6, by rw [e6]; exact e8.1, by rw [e6]; exact e8.2⟩
              · rw [u28 28 (by decide), m14, e28]; omega
              · rw [u9]; exact hx14
              · rw [u15]; omega
              · rw [u27 11 (by decide), u27 10 (by decide), m10, m11]
              · rw [u27 10 (by decide), m10]; exact nzw
              · rw [u9, u15]
                intro Bx By ab am
                exact BK_of (agB_m ab (by first | decide | omega) (Int.le_refl _) (Int.le_refl _) (Int.le_refl _) (Or.inr (Or.inl (by first | decide | omega)))) am u33 u30 (by first | decide | omega) (Int.le_refl _) (by first | decide | omega) (Int.le_refl _) (by first | decide | omega) (Int.le_refl _) (by first | decide | omega) (by first | decide | omega) (by first | decide | omega)
            · have q := hVv v v0 (by first | decide | omega)
              obtain ⟨⟨r1, r2, r3, r4, r5, r6, r7, r8, r9, r10, r11, r12⟩, sv⟩ := q
              have ov := own v v0 (by first | decide | omega)
              have fv : ∀ k, F' 4 (B' 6 p 0 v) k = F 4 (B 6 p 0 v) k := fun k => F4v v k v0 (by first | decide | omega)
              have k4 := kle.2 4
              obtain ⟨s8, s9, s29⟩ := u26 v e
              refine ⟨⟨by rw [ov]; omega, ?_, ?_, ?_, ?_, ?_, ?_, ?_, ?_, ?_, ?_, ?_⟩, ?_⟩
              · rw [fv, u27 10 (by decide), m13 10 v (fun _ => e), row13]; exact r2
              · rw [fv]; exact r3
              · rw [fv, s8, m13 8 v (fun h => (by first | decide | omega)), row13]; exact r4
              · rw [fv, s9, m13 9 v (fun h => (by first | decide | omega)), row13]; exact r5
              · rw [fv, u28 28 (by decide), m14, n28 v e, bm7 8 (by decide)]; exact r6
              · rw [u28 28 (by decide), m14, n28 v e]; exact r7
              · rw [fv]; exact r8
              · rw [s29, m14, rowsM 29 (by decide)]; exact r9
              · rw [fv]; exact r10
              · rw [u27 11 (by decide), u27 10 (by decide), m13 11 v (fun _ => e), m13 10 v (fun _ => e), row13, row13]; exact r11
              · rw [u27 10 (by decide), m13 10 v (fun _ => e), row13]; exact r12
              · rw [fv, s29, m14, rowsM 29 (by decide)]
                exact SVC_t sv aB0 aM0 (by first | decide | omega) (by first | decide | omega) (by first | decide | omega)
        · exact Or.inr er
      by_cases c4 : Bm1 14 0 7 (j + 1 + 1) = 4
      · have w5 := hM1
        have vw : F3 10 0 2 = Bm1 14 0 11 (j + 1 + 1) := by rw [vv, (tk2.2.2.2.2.2.2.1 (by rw [m14]; exact c4)).1, m14]
        have wb := tk2.2.2.2.2.2.2.2.2.1
        rw [if_pos (show F3 10 0 0 = 4 by rw [kk, m14]; exact c4), if_pos c4, C_ixC k1 (by have := hX3.2.2.2.2.1; omega), vw, L_fC km hE3.2.1 (by have := hX3.2.2.2.2.1; omega)]
        simp only [zb_s, zbN_s]
        have fb := fiL_c (w := Bm1 14 0 11 (j + 1 + 1)) (L := wC)
        have fl : wC.length = 4 := rfl
        refine main _ ?_
        rcases fb.2 with q | q
        · exact Or.inl q
        · by_cases e : fiL wC (Bm1 14 0 11 (j + 1 + 1)) 0 = -1
          · exact Or.inl e
          · exact Or.inr ⟨(by first | decide | omega), (by first | decide | omega), by rw [m14]; omega⟩
      · rw [if_neg (show ¬ F3 10 0 0 = 4 by rw [kk, m14]; exact c4), if_neg c4]
        exact main (-1) (Or.inl rfl)
    · have er := PS_err (s := 4) (s' := 4) hE1 hS1 (by rw [if_neg (by first | decide | omega)]) (by decide)
      rw [if_neg (show ¬ fdR (Bm1 13 w 10) V (Bm1 14 0 11 (j + 1)) 22 0 < 0 by omega)] at hp
      rw [hp]
      simp only [zb_s, zbN_s]
      rw [if_pos (show r32 1 by decide), if_neg (show ¬ (1 : Int) = 0 by decide), if_pos (show r32 (fdR (Bm1 13 w 10) V (Bm1 14 0 11 (j + 1)) 22 0) by omega), if_neg (show ¬ fdR (Bm1 13 w 10) V (Bm1 14 0 11 (j + 1)) 22 0 < 0 by omega), C_refuse hX1, L_fail hg1 (by rw [e16]; omega)]
      simp only [zb_s, zbN_s]
      rw [if_pos (by decide), bad70 er.2]
      exact zPm_s ⟨VF_h (hF_f (fF_e gF1)) (hG_f (fG_e gG1)) gB1 gM1, GS_t hGS gB1, Or.inr ⟨rfl, er⟩⟩
end
end
section
section
/-! ===== the voices of a text, on both sides ===== -/
def TPO (K : zK) (Km : Nat) (N p w : Int) (F : zF) (B : zB) (Fm : zF) (Bm : zB) (r : Int) (F' : zF) (B' : zB) (K' : zK) (Fm' : zF) (Bm' : zB) : Prop := VF K p w F B Fm Bm K' F' B' Fm' Bm' ∧ GS K' B' ∧ ((r = 0 ∧ ∃ L V, 1 ≤ V ∧ VI K' Km N L V N p w F' B' Fm' Bm') ∨ ((r = Fm' 14 0 17 + 16 * Fm' 14 0 18 ∧ 0 ≤ Fm' 14 0 18 ∧ Fm' 14 0 18 ≤ 3000) ∧ bad Fm'))
theorem C_154e {K : zK} {F : zF} {B : zB} (k3 : 0 < K.2 3) : f_Parser_parse_154 K 0 0 F B = some (F 3 0 21, F, B, K) := by
  unfold f_Parser_parse_154 f_Parser_parse_174
  rw [if_pos (by decide), if_pos rfl, if_pos ⟨Int.le_refl _, k3⟩]
theorem C_119e {K : zK} {n : Nat} {l p : Int} {F : zF} {B : zB} (k3 : 0 < K.2 3) (hl : r32 l) (hn : 0 < n) : f_Parser_parse_119 n K l 0 0 p F B = some (F 3 0 21, F, B, K) := by
  obtain ⟨n, rfl⟩ : ∃ y, n = y + 1 := ⟨n - 1, (by first | decide | omega)⟩
  rw [f_Parser_parse_119]
  rw [if_pos hl, C_154e k3]
  by_cases a : 4 ≤ l
  · rw [if_pos a]
  · rw [if_neg a, if_pos (by decide), if_pos rfl]
theorem L_140B {Km n : Nat} {l : Int} {Fm : zF} {Bm : zB} (hb : bad Fm) (hn : 0 < n) : f_M_text_140 Km n l Fm Bm = some (0, Fm, Bm) := by
  obtain ⟨n, rfl⟩ : ∃ y, n = y + 1 := ⟨n - 1, (by first | decide | omega)⟩
  unfold f_M_text_140 f_M_text_211
  rw [L_goodB hb]
  simp only [zb_s, ir0, if_true]
theorem L_1400 {Km n : Nat} {Fm : zF} {Bm : zB} (hg : Fm 14 0 17 = 0) (hn : 0 < n) : f_M_text_140 Km n 0 Fm Bm = some (0, Fm, Bm) := by
  obtain ⟨n, rfl⟩ : ∃ y, n = y + 1 := ⟨n - 1, (by first | decide | omega)⟩
  unfold f_M_text_140 f_M_text_211
  rw [L_good hg]
  simp only [zb_s, ir1, ir0, if_true, if_false, Int.reduceEq]
theorem P_vloop {K0 : zK} {Km : Nat} {N L p w : Int} {F0 : zF} {B0 : zB} {Fm0 : zF} {Bm0 : zB} : ∀ {q n m : Nat} {K : zK} {V j : Int} {F : zF} {B : zB} {Fm : zF} {Bm : zB}, V = 4 - q → q + 1 < n → q + 2 < m → VI K Km N L V j p w F B Fm Bm → VF K0 p w F0 B0 Fm0 Bm0 K F B Fm Bm → (1 ≤ V ∨ wdAt Bm j 508675318629) → zPm (f_Parser_parse_119 n K V 1 0 p F B) (f_M_text_140 Km m (if Bm 14 0 7 j = 0 then 0 else 1) Fm Bm) (fun r F' B' K' _ Fm' Bm' => TPO K0 Km N p w F0 B0 Fm0 Bm0 r F' B' K' Fm' Bm') := by
  intro q
  -- no voice here
  have out : ∀ {n m : Nat} {K : zK} {V j : Int} {F : zF} {B : zB} {Fm : zF} {Bm : zB}, 0 < n → 1 < m → VI K Km N L V j p w F B Fm Bm → VF K0 p w F0 B0 Fm0 Bm0 K F B Fm Bm → 1 ≤ V → (4 ≤ V ∨ wdm Bm j 508675318629 = 0) → zPm (f_Parser_parse_119 n K V 1 0 p F B) (f_M_text_140 Km m (if Bm 14 0 7 j = 0 then 0 else 1) Fm Bm) (fun r F' B' K' _ Fm' Bm' => TPO K0 Km N p w F0 B0 Fm0 Bm0 r F' B' K' Fm' Bm') := by
    intro n m K V j F B Fm Bm hn hm hI hVF hV1 hno
    have hI0 := hI
    obtain ⟨⟨hE, hS, hP, hLT, hit, hi0, hdep, hSL⟩, hGS, f1, fm1, hV3, hVv⟩ := hI
    have hX := PS_CX hE hS
    have hM := PS_MX hE hS
    have k3 := hE.2.2.2.1
    have k10 := hE.2.2.2.2.1
    have jj := hS.2.1.1
    have tk := hE.1.2.2 j jj.1 jj.2
    have ek := hS.2.1.2.1
    have wr0 := wdm_r Bm j 508675318629
    obtain ⟨n, rfl⟩ : ∃ y, n = y + 1 := ⟨n - 1, (by first | decide | omega)⟩
    obtain ⟨m, rfl⟩ : ∃ y, m = y + 1 := ⟨m - 1, (by first | decide | omega)⟩
    have wv := PS_wn (c := 508675318629) hE hS (by decide)
    have cls : f_Parser_parse_119 (n + 1) K V 1 0 p F B = f_Parser_parse_154 K 1 0 F B := by
      rw [f_Parser_parse_119]
      rw [if_pos (show r32 V by omega)]
      by_cases a : 4 ≤ V
      · rw [if_pos a]
      · rw [if_neg a, if_pos (by decide), if_neg (by decide), if_pos ⟨Int.le_refl _, k3⟩, hS.1, if_pos ⟨Int.le_refl _, k10⟩, wv.1]
        simp only [zbN_s]
        have z : wdm Bm j 508675318629 = 0 := by rcases hno with z | z <;> omega
        rw [z, if_pos (by decide), if_pos rfl]
    rw [cls]
    unfold f_Parser_parse_154 f_Parser_parse_174
    rw [if_pos (by decide), if_neg (by decide), if_pos ⟨Int.le_refl _, k3⟩, hS.1, if_pos ⟨Int.le_refl _, k10⟩, if_pos (show r32 (F 10 0 0) by have := hX.2.2.2.1; omega), ek]
    by_cases e : Bm 14 0 7 j = 0
    · have jN : j = N := tk.2.2.2.1.mp e
      rw [if_pos e, if_pos e, if_pos ⟨Int.le_refl _, k3⟩, hS.2.2.2.2.1, L_1400 hS.2.2.2.1 (by first | decide | omega)]
      subst jN
      exact zPm_s ⟨hVF, hGS, Or.inl ⟨rfl, L, V, hV1, hI0⟩⟩
    · have er := PS_err2 hE hS
      rw [if_neg e, if_neg e, C_refuse hX]
      simp only [zbN_s]
      rw [if_pos ⟨Int.le_refl _, k3⟩]
      have vf' : VF K0 p w F0 B0 Fm0 Bm0 K (refF F 2) B (errM Fm Bm (wr Bm j)) Bm := VF_t hVF (VF_h (hF_e hF_r) (hG_e hG_r) tB_r tM_r)
      have fin : f_M_text_179 (f_M_text_140 Km m) Km Fm Bm = some (0, errM Fm Bm (wr Bm j), Bm) := by
        unfold f_M_text_179 f_M_text_183 f_M_text_206 f_M_text_207
        rw [L_wrong hS.2.2.2.1 hM]
        simp only [zb_s]
        rw [L_goodB er.2]
        simp only [zb_s, ir0, if_true]
        exact L_140B er.2 (by first | decide | omega)
      have ref : f_M_text_140 Km (m + 1) 1 Fm Bm = some (0, errM Fm Bm (wr Bm j), Bm) := by
        rw [f_M_text_140]
        rw [L_good hS.2.2.2.1]
        simp only [zb_s, ir1, i10]
        rw [wv.2]
        simp only [zb_s]
        rw [if_pos (show r32 (wdm Bm j 508675318629) by omega)]
        by_cases a : wdm Bm j 508675318629 = 0
        · rw [if_pos a]; exact fin
        · have v4 : 4 ≤ V := by rcases hno with z | z <;> omega
          rw [if_neg a, hP.2.2.1, if_pos hP.2.1, fm1, if_pos (by first | decide | omega), if_pos v4]; exact fin
      rw [ref]
      exact zPm_s ⟨vf', hGS, Or.inr ⟨er.1, er.2⟩⟩
  induction q with
  | zero =>
    intro n m K V j F B Fm Bm hV hn hm hI hVF hfirst
    exact out (by first | decide | omega) (by first | decide | omega) hI hVF (by first | decide | omega) (Or.inl (by first | decide | omega))
  | succ q ih =>
    intro n m K V j F B Fm Bm hV hn hm hI hVF hfirst
    by_cases a : wdm Bm j 508675318629 = 0
    · rcases hfirst with z | z
      · exact out (by first | decide | omega) (by first | decide | omega) hI hVF z (Or.inr a)
      · exact absurd z (wdm_0.mp a)
    · have wd := Decidable.not_not.mp (mt wdm_0.mpr a)
      have hI0 := hI
      obtain ⟨⟨hE, hS, hP, hLT, hit, hi0, hdep, hSL⟩, hGS, f1, fm1, hV3, hVv⟩ := hI
      have k3 := hE.2.2.2.1
      have k10 := hE.2.2.2.2.1
      have wr0 := wdm_r Bm j 508675318629
      have wv := PS_wn (c := 508675318629) hE hS (by decide)
      obtain ⟨n, rfl⟩ : ∃ y, n = y + 1 := ⟨n - 1, (by first | decide | omega)⟩
      obtain ⟨m, rfl⟩ : ∃ y, m = y + 1 := ⟨m - 1, (by first | decide | omega)⟩
      rw [if_neg (show ¬ Bm 14 0 7 j = 0 by have := wd.1; omega)]
      rw [f_Parser_parse_119, f_M_text_140]
      rw [if_pos (show r32 V by omega), if_neg (show ¬ 4 ≤ V by omega), if_pos (by decide), if_neg (by decide), if_pos ⟨Int.le_refl _, k3⟩, hS.1, if_pos ⟨Int.le_refl _, k10⟩, wv.1, L_good hS.2.2.2.1]
      simp only [zb_s, zbN_s, ir1, i10]
      rw [wv.2]
      simp only [zb_s]
      rw [if_pos (show r32 (wdm Bm j 508675318629) by omega), if_neg a, if_pos hP.1, if_pos (show r32 (wdm Bm j 508675318629) by omega), if_neg a, hP.2.2.1, if_pos hP.2.1, fm1, if_pos (show r32 V by omega), if_neg (show ¬ 4 ≤ V by omega)]
      refine zPm_c (P_voice hI0 wd (by first | decide | omega)) (fun r F' B' K' r' Fm' Bm' hh => ?_)
      obtain ⟨vf, gs, res⟩ := hh
      have vf' := VF_t hVF vf
      unfold f_Parser_parse_147 f_M_text_183 f_M_text_206 f_M_text_207
      rcases res with ⟨rfl, j', hj, hI'⟩ | ⟨rfl, er⟩
      · have hS' := hI'.1.2.1
        have hE' := hI'.1.1
        have hM' := PS_MX hE' hS'
        have k' := hM'.2.2.1
        have j0' := hM'.2.1
        rw [L_good hS'.2.2.2.1]
        simp only [zb_s, ir1, i10]
        rw [hM'.1, if_pos (show 0 ≤ j' ∧ j' < 3001 by omega), if_pos (show r32 (Bm' 14 0 7 j') by omega)]
        have key := ih (n := n) (m := m) (K := K') (V := V + 1) (j := j') (by first | decide | omega) (by first | decide | omega) (by first | decide | omega) hI' vf' (Or.inl (by first | decide | omega))
        by_cases e : Bm' 14 0 7 j' = 0
        · rw [if_pos e] at key ⊢; exact key
        · rw [if_neg e] at key ⊢; exact key
      · have k3' : 0 < K'.2 3 := Int.lt_of_lt_of_le k3 (vf.1.2 3)
        rw [L_goodB er.2]
        simp only [zb_s, ir0, if_true]
        rw [C_119e k3' (by first | decide | omega) (by first | decide | omega), L_140B er.2 (by first | decide | omega)]
        exact zPm_s ⟨vf', gs, Or.inr ⟨er.1, er.2⟩⟩
end
end
section
section
/-! ===== the heads of a text, on both sides ===== -/
def bgn (F : zF) : Int := if F 10 0 0 = 4 ∧ F 10 0 2 = 7103860 then (if 6 ≤ F 3 0 16 then 0 else 1) else if hds (F 10 0 0) (F 10 0 2) = 0 then 0 else if zand (F 3 0 17) (hds (F 10 0 0) (F 10 0 2)) = 0 then 1 else 0
theorem hds_r (k v : Int) : 0 ≤ hds k v ∧ hds k v ≤ 4 := by
  unfold hds
  split
  · split
    · omega
    · split
      · omega
      · split <;> omega
  · omega
theorem C_begins {K : zK} {F : zF} {B : zB} (h : CX K F B) (hl : r32 (F 3 0 16)) : f_Parser_beginsHead K 0 F B = some (bgn F, F, B) := by
  have w1 := C_isWord (c := 7103860) h (by decide)
  have hs := C_headSort h
  have r1 := wdn_r F 7103860
  have hr := hds_r (F 10 0 0) (F 10 0 2)
  obtain ⟨k3, k10, e11, hk, hv, hx, h5, hK⟩ := h
  unfold f_Parser_beginsHead f_Parser_beginsHead_27 f_Parser_beginsHead_51 f_Parser_beginsHead_52 bgn
  rw [if_pos ⟨(by first | decide | omega), k3⟩, e11, if_pos ⟨(by first | decide | omega), k10⟩, w1]
  simp only [zb_s]
  rw [if_pos (by first | decide | omega)]
  by_cases a : F 10 0 0 = 4 ∧ F 10 0 2 = 7103860
  · rw [if_neg (by rw [wdn_0]; exact fun z => z a), if_pos hl, if_pos a]
    by_cases l : 6 ≤ F 3 0 16
    · rw [if_pos l, if_pos (by decide), if_pos l]
    · rw [if_neg l, if_pos (by decide), if_neg l]
  · rw [if_pos (wdn_0.mpr a), hs, if_neg a]
    simp only [zb_s]
    rw [if_pos (by first | decide | omega)]
    by_cases d : hds (F 10 0 0) (F 10 0 2) = 0
    · rw [if_pos d, if_pos (by decide), if_pos d]
    · rw [if_neg d, hs, if_neg d]
      simp only [zb_s]
      rw [if_pos (zand_r32 _ _)]
      by_cases t : zand (F 3 0 17) (hds (F 10 0 0) (F 10 0 2)) = 0
      · rw [if_pos t, if_pos (by decide), if_pos t]
      · rw [if_neg t, if_pos (by decide), if_neg t]
/-- a head that is told already: the reference says so -/
def TLD (w : Int) (Fm Fm' : zF) (Bm : zB) (j : Int) : Prop := hG w Fm Fm' ∧ Fm' 14 0 17 = 2 ∧ Fm' 14 0 18 = Bm 14 0 8 j
theorem TLD_b {w : Int} {Fm Fm' : zF} {Bm : zB} {j : Int} (h : TLD w Fm Fm' Bm j) : bad Fm' := ⟨by have := h.2.1; omega, by have := h.2.1; omega⟩
theorem L_told {K : zK} {Km : Nat} {N j p w c : Int} {F : zF} {B : zB} {Fm : zF} {Bm : zB} (hE : EV K Km N B Bm) (hS : PS N j F B Fm Bm) (hP : HP K p w F Fm) (wd : wdAt Bm j c) (hc : (c = 7038329 ∧ Fm 14 0 22 = 1) ∨ (c = 1953066341 ∧ Fm 14 0 23 = 1) ∨ (c = 499917877359 ∧ Fm 14 0 24 = 1) ∨ (c = 7103860 ∧ Fm 14 0 27 = 6)) : ∃ Fm', f_M_head Km Fm Bm = some (0, Fm', Bm) ∧ TLD w Fm Fm' Bm j := by
  have hM := PS_MX hE hS
  have h4 := wd.1
  have hg := hS.2.2.2.1
  have wn : wr Bm j = 2 := by unfold wr; rw [if_neg (by first | decide | omega)]
  have wrg := L_wrong (K := Km) hg hM
  rw [wn] at wrg
  obtain ⟨p0, w0, h6, _⟩ := hP
  have b2 : bad (errM Fm Bm 2) := by unfold bad errM; simp [zup3_v]
  have e6 : (errM Fm Bm 2) 14 0 6 = w := by unfold errM; simp [zup3_v]; exact h6
  have e18 : (errM Fm Bm 2) 14 0 18 = Bm 14 0 8 j := by unfold errM; simp [zup3_v]; rw [hM.1]
  have e17 : (errM Fm Bm 2) 14 0 17 = 2 := by unfold errM; simp [zup3_v]
  have t : ∀ c', r64 c' → f_M_isWord Km c' Fm Bm = some (if c = c' then 1 else 0, Fm, Bm) := fun c' hc' => L_wd hM wd hc'
  rcases hc with ⟨rfl, ht⟩ | ⟨rfl, ht⟩ | ⟨rfl, ht⟩ | ⟨rfl, ht⟩
  · refine ⟨zup3 (zup3 (errM Fm Bm 2) 14 0 22 1) 14 0 16 ((errM Fm Bm 2) 14 0 16 + 1), ?_, hG_u (hG_u (hG_e hG_r) (by decide) (by decide)) (by decide) (by decide), ?_, ?_⟩
    · unfold f_M_head f_M_headKey f_M_headKey_11 f_M_head_152
      simp only [t 7038329 (by decide), zb_s, ir0, ir1, if_true, if_false, Int.reduceEq, ht, wrg]
      rw [L_goodB (bad_cg b2 (by simp [zup3_v]))]
      simp only [zb_s, ir0, if_true]
    · simp [zup3_v]; exact e17
    · simp [zup3_v]; exact e18
  · refine ⟨zup3 (zup3 (zup3 (zup3 (errM Fm Bm 2) 14 0 23 1) 14 0 16 ((errM Fm Bm 2) 14 0 16 + 1)) 13 w 4 0) 13 w 5 0, ?_, hG_3 (hG_3 (hG_u (hG_u (hG_e hG_r) (by decide) (by decide)) (by decide) (by decide)) (by decide) (by decide)) (by decide) (by decide), ?_, ?_⟩
    · unfold f_M_head f_M_head_38 f_M_head_152
      simp only [t 7038329 (by decide), t 1953066341 (by decide), zb_s, ir0, ir1, if_true, if_false, Int.reduceEq, ht, wrg]
      rw [e6, if_pos w0, L_numberB (bad_cg b2 (by simp [zup3_v]))]
      simp only [zb_s]
      rw [L_needB (bad_cg b2 (by simp [zup3_v]))]
      simp only [zb_s]
      rw [show (zup3 (zup3 (zup3 (errM Fm Bm 2) 14 0 23 1) 14 0 16 ((errM Fm Bm 2) 14 0 16 + 1)) 13 w 4 0) 14 0 6 = w by simp [zup3_v]; exact e6, if_pos w0, L_numberB (bad_cg b2 (by simp [zup3_v]))]
      rfl
    · simp [zup3_v]; exact e17
    · simp [zup3_v]; exact e18
  · refine ⟨zup3 (zup3 (zup3 (errM Fm Bm 2) 14 0 24 1) 14 0 16 ((errM Fm Bm 2) 14 0 16 + 1)) 13 w 6 0, ?_, hG_3 (hG_u (hG_u (hG_e hG_r) (by decide) (by decide)) (by decide) (by decide)) (by decide) (by decide), ?_, ?_⟩
    · unfold f_M_head f_M_head_113 f_M_head_152
      simp only [t 7038329 (by decide), t 1953066341 (by decide), t 499917877359 (by decide), zb_s, ir0, ir1, if_true, if_false, Int.reduceEq, ht, wrg]
      rw [e6, if_pos w0, L_numberB (bad_cg b2 (by simp [zup3_v]))]
      rfl
    · simp [zup3_v]; exact e17
    · simp [zup3_v]; exact e18
  · refine ⟨errM Fm Bm 2, ?_, hG_e hG_r, e17, e18⟩
    unfold f_M_head f_M_headLet f_M_head_152
    simp only [t 7038329 (by decide), t 1953066341 (by decide), t 499917877359 (by decide), zb_s, ir0, ir1, if_true, if_false, Int.reduceEq, ht, wrg]
    rw [if_pos (show r32 6 by decide)]
    rfl
/-- the class where no voice is: it refuses -/
theorem C_93n {K : zK} {Km : Nat} {N j p : Int} {F : zF} {B : zB} {Fm : zF} {Bm : zB} (hE : EV K Km N B Bm) (hS : PS N j F B Fm Bm) (hn : wdm Bm j 508675318629 = 0) : f_Parser_parse_93 K 1 0 p F B = some ((refF F 2) 3 0 21, refF F 2, B, K) := by
  have k3 := hE.2.2.2.1
  have k10 := hE.2.2.2.2.1
  have k1 := hE.2.2.2.2.2.1
  have wv := PS_wn (c := 508675318629) hE hS (by decide)
  unfold f_Parser_parse_93 f_Parser_parse_116
  rw [if_pos (by decide), if_neg (by decide), if_pos ⟨Int.le_refl _, k3⟩, hS.1, if_pos ⟨Int.le_refl _, k10⟩, wv.1]
  simp only [zbN_s]
  rw [hn, if_pos (by decide), if_pos rfl, C_refuse (PS_CX hE hS)]
  simp only [zbN_s]
  rw [C_119e k3 (by decide) (by first | decide | omega)]
theorem C_93e {K : zK} {p : Int} {F : zF} {B : zB} (k3 : 0 < K.2 3) (k1 : 3002 ≤ K.1) : f_Parser_parse_93 K 0 0 p F B = some (F 3 0 21, F, B, K) := by
  unfold f_Parser_parse_93 f_Parser_parse_116
  rw [if_pos (by decide), if_pos rfl, C_119e k3 (by decide) (by first | decide | omega)]
theorem C_43e {K : zK} {n : Nat} {l p : Int} {F : zF} {B : zB} (k3 : 0 < K.2 3) (k1 : 3002 ≤ K.1) (hl : r32 l) (hn : 0 < n) : f_Parser_parse_43 n K l 0 0 p F B = some (F 3 0 21, F, B, K) := by
  obtain ⟨n, rfl⟩ : ∃ y, n = y + 1 := ⟨n - 1, (by first | decide | omega)⟩
  rw [f_Parser_parse_43]
  rw [if_pos hl, C_93e k3 k1]
  by_cases a : 9 ≤ l
  · rw [if_pos a]
  · rw [if_neg a, if_pos (by decide), if_pos rfl]
theorem L_84B {Km n : Nat} {Fm : zF} {Bm : zB} (hb : bad Fm) (hn : 0 < n) (hK : 3002 ≤ Km) : f_M_text_84 Km n Fm Bm = some (0, Fm, Bm) := by
  obtain ⟨n, rfl⟩ : ∃ y, n = y + 1 := ⟨n - 1, (by first | decide | omega)⟩
  unfold f_M_text_84 f_M_text_138
  rw [L_goodB hb]
  simp only [zb_s, ir0, if_true]
  exact L_140B hb (by first | decide | omega)
theorem P_hstep {K : zK} {Km : Nat} {N p w : Int} {F0 : zF} {B0 : zB} {Fm0 : zF} {Bm0 : zB} {q n m : Nat} {L l j : Int} {F : zF} {B : zB} {Fm : zF} {Bm : zB} (hl : l = 9 - q) (hn : q + 1 < n) (hm : q + 2 < m) (hI : VI K Km N L 0 j p w F B Fm Bm) (hcnt : l = L + Fm 14 0 22 + Fm 14 0 23 + Fm 14 0 24) (hVF : VF K p w F0 B0 Fm0 Bm0 K F B Fm Bm) (ih : 0 < q → ∀ {n m : Nat} {L l j : Int} {F : zF} {B : zB} {Fm : zF} {Bm : zB}, l = 9 - (q - 1 : Nat) → q < n → q + 1 < m → VI K Km N L 0 j p w F B Fm Bm → l = L + Fm 14 0 22 + Fm 14 0 23 + Fm 14 0 24 → VF K p w F0 B0 Fm0 Bm0 K F B Fm Bm → zPm (f_Parser_parse_43 n K l 1 0 p F B) (f_M_text_84 Km m Fm Bm) (fun r F' B' K' _ Fm' Bm' => TPO K Km N p w F0 B0 Fm0 Bm0 r F' B' K' Fm' Bm')) : zPm (f_Parser_parse_43 n K l 1 0 p F B) (f_M_text_84 Km m Fm Bm) (fun r F' B' K' _ Fm' Bm' => TPO K Km N p w F0 B0 Fm0 Bm0 r F' B' K' Fm' Bm') := by
  have hI0 := hI
  obtain ⟨⟨hE, hS, hP, hLT, hit, hi0, hdep, hSL⟩, hGS, f1, fm1, hV3, hVv⟩ := hI
  have hX := PS_CX hE hS
  have hM := PS_MX hE hS
  have hg := hS.2.2.2.1
  have k3 := hE.2.2.2.1
  have k10 := hE.2.2.2.2.1
  have k1 := hE.2.2.2.2.2.1
  have km := hE.2.2.2.2.2.2
  have jj := hS.2.1.1
  have ek := hS.2.1.2.1
  have l1 := hLT.1
  have l2 := hLT.2.1
  have l3 := hLT.2.2.1
  obtain ⟨p0, w0, h6, q2, q3, q4, q5, q6, q17, q22, q23, q24⟩ := hP
  have hP0 : HP K p w F Fm := ⟨p0, w0, h6, q2, q3, q4, q5, q6, q17, q22, q23, q24⟩
  have z8 := zor8i q22 q23 q24
  rw [← q17] at z8
  have b22 : 0 ≤ Fm 14 0 22 ∧ Fm 14 0 22 ≤ 1 := by rcases q22 with t | t <;> rw [t] <;> decide
  have b23 : 0 ≤ Fm 14 0 23 ∧ Fm 14 0 23 ≤ 1 := by rcases q23 with t | t <;> rw [t] <;> decide
  have b24 : 0 ≤ Fm 14 0 24 ∧ Fm 14 0 24 ≤ 1 := by rcases q24 with t | t <;> rw [t] <;> decide
  have u22 := fun _ : Unit => q22
  have u23 := fun _ : Unit => q23
  have u24 := fun _ : Unit => q24
  clear q22 q23 q24
  have hl0 : 0 ≤ l := by omega
  obtain ⟨n, rfl⟩ : ∃ y, n = y + 1 := ⟨n - 1, (by first | decide | omega)⟩
  obtain ⟨m, rfl⟩ : ∃ y, m = y + 1 := ⟨m - 1, (by first | decide | omega)⟩
  have cb := C_begins hX (by first | decide | omega)
  have cstep : ∀ {u}, bgn F = u → f_Parser_parse_43 (n + 1) K l 1 0 p F B = if 9 ≤ l then f_Parser_parse_93 K 1 0 p F B else if u = 0 then f_Parser_parse_93 K 1 0 p F B else zbindN (f_Tokens_isWord K 0 7103860 F B) (fun r19 F19 B19 => if r32 r19 then (if r19 = 0 then zbindN (f_Parser_takeHead K 0 p F19 B19) (fun r22 F22 B22 => f_Parser_parse_43 n K (l + 1) r22 0 p F22 B22) else zbindN (f_Parser_takeLet K 0 F19 B19) (fun r23 F23 B23 => f_Parser_parse_43 n K (l + 1) r23 0 p F23 B23)) else none) := by
    intro u hu
    have ub : u = 0 ∨ u = 1 := by
      rw [← hu]
      unfold bgn
      split
      · split <;> omega
      · split
        · omega
        · split <;> omega
    rw [f_Parser_parse_43]
    unfold f_Parser_parse_86
    rw [if_pos (by first | decide | omega)]
    by_cases a : 9 ≤ l
    · rw [if_pos a, if_pos a]
    · rw [if_neg a, if_neg a, if_pos (by decide), if_neg (by decide), if_pos ⟨Int.le_refl _, k3⟩, cb, hu]
      simp only [zbN_s]
      rcases ub with rfl | rfl
      · rw [if_pos (by decide), if_pos rfl, if_pos rfl]
      · rw [if_pos (show r32 1 by decide), if_neg (show ¬ (1 : Int) = 0 by decide), hS.1, if_pos ⟨Int.le_refl _, k10⟩, if_neg (show ¬ (1 : Int) = 0 by decide)]
  -- a head word that may not come here
  have refuse : ∀ {c}, wdAt Bm j c → ((c = 7038329 ∧ Fm 14 0 22 = 1) ∨ (c = 1953066341 ∧ Fm 14 0 23 = 1) ∨ (c = 499917877359 ∧ Fm 14 0 24 = 1) ∨ (c = 7103860 ∧ Fm 14 0 27 = 6)) → bgn F = 0 → zPm (f_Parser_parse_43 (n + 1) K l 1 0 p F B) (f_M_text_131 (f_M_text_84 Km m) Km Fm Bm) (fun r F' B' K' _ Fm' Bm' => TPO K Km N p w F0 B0 Fm0 Bm0 r F' B' K' Fm' Bm') := by
    intro c wd hc hb
    have wn : wdm Bm j 508675318629 = 0 := wdm_0.mpr (fun z => by have := z.2; have := wd.2; omega)
    obtain ⟨Fm', e1, e2⟩ := L_told hE hS hP0 wd hc
    have r21 : (refF F 2) 3 0 21 = 2 + 16 * Bm 14 0 8 j := by
      unfold refF
      rw [zup3_v, if_pos ⟨rfl, rfl, rfl⟩, ek, if_neg (by have := wd.1; omega), hS.2.1.2.2.1]
    rw [cstep hb]
    have cl : (if 9 ≤ l then f_Parser_parse_93 K 1 0 p F B else if (0 : Int) = 0 then f_Parser_parse_93 K 1 0 p F B else zbindN (f_Tokens_isWord K 0 7103860 F B) (fun r19 F19 B19 => if r32 r19 then (if r19 = 0 then zbindN (f_Parser_takeHead K 0 p F19 B19) (fun r22 F22 B22 => f_Parser_parse_43 n K (l + 1) r22 0 p F22 B22) else zbindN (f_Parser_takeLet K 0 F19 B19) (fun r23 F23 B23 => f_Parser_parse_43 n K (l + 1) r23 0 p F23 B23)) else none)) = f_Parser_parse_93 K 1 0 p F B := by
      by_cases a : 9 ≤ l
      · rw [if_pos a]
      · rw [if_neg a, if_pos rfl]
    rw [cl, C_93n hE hS wn]
    unfold f_M_text_131
    rw [e1]
    simp only [zb_s]
    rw [L_84B (TLD_b e2) (by first | decide | omega) km]
    refine zPm_s ⟨VF_t hVF (VF_h (hF_e hF_r) e2.1 tB_r tM_r), hGS, Or.inr ⟨?_, TLD_b e2⟩⟩
    rw [r21, e2.2.1, e2.2.2]
    exact ⟨rfl, (hE.1.2.2 j hS.2.1.1.1 hS.2.1.1.2).2.2.2.2.2.2.2.2.2.1⟩
  -- a head that is taken
  have take : ∀ {c}, wdAt Bm j c → (c = 7038329 ∨ c = 1953066341 ∨ c = 499917877359) → bgn F = 1 → l < 9 → zP (f_Parser_takeHead K 0 p F B) (f_M_head Km Fm Bm) (fun r F' B' _ Fm' Bm' => HPO K N j p w 1 F B Fm Bm r F' B' Fm' Bm') → zPm (f_Parser_parse_43 (n + 1) K l 1 0 p F B) (f_M_text_131 (f_M_text_84 Km m) Km Fm Bm) (fun r F' B' K' _ Fm' Bm' => TPO K Km N p w F0 B0 Fm0 Bm0 r F' B' K' Fm' Bm') := by
    intro c wd hc hb hl9 hh
    have wl : f_Tokens_isWord K 0 7103860 F B = some (0, F, B) := by
      rw [C_isWord hX (by decide), PS_wd hE hS, show wdm Bm j 7103860 = 0 from wdm_0.mpr (fun z => by have := z.2; have := wd.2; omega)]
    rw [cstep hb, if_neg (by first | decide | omega), if_neg (by decide), wl]
    simp only [zbN_s, ir0, if_true]
    rw [if_pos (by decide)]
    unfold f_M_text_131
    refine zPm_n hh (fun r F' B' r' Fm' Bm' hr => ?_)
    obtain ⟨g1, g2, g3, g4, g5⟩ := hr
    subst g1
    subst g2
    have vf' : VF K p w F0 B0 Fm0 Bm0 K F' B' Fm' Bm' := VF_t hVF (VF_h g3 g4 tB_r tM_r)
    rcases g5 with ⟨rfl, j', a1, a2, a3, a4, a5, a6, a7, a8, a9⟩ | ⟨rfl, er⟩
    · refine ih (by first | decide | omega) (L := L) (l := l + 1) (j := j') (by first | decide | omega) (by first | decide | omega) (by first | decide | omega) ⟨⟨hE, a2, a3, ⟨(by first | decide | omega), (by first | decide | omega), l3, fun y y0 y1 => hLT.2.2.2 y y0 y1⟩, (by first | decide | omega), (by first | decide | omega), (by first | decide | omega), ?_⟩, hGS, ?_, ?_, (by first | decide | omega), fun v v0 v1 => (by first | decide | omega)⟩ (by first | decide | omega) vf'
      · rw [a4, a8]
        exact SLT_t hSL agB_r agM_r (fun _ _ _ => rfl) (Int.le_refl _) (Int.le_refl _) (by first | decide | omega)
      · rw [g3 6 p 1 (fun z => absurd z.1 (by decide)) (fun z => absurd z.1 (by decide)) (fun z => absurd z.2.2.1 (by decide))]; exact f1
      · rw [g4 13 w 1 (fun z => absurd z.1 (by decide)) (fun z => absurd z.2.2.1 (by decide))]; exact fm1
    · rw [C_43e k3 k1 (by first | decide | omega) (by first | decide | omega), L_84B er.2 (by first | decide | omega) km]
      exact zPm_s ⟨vf', hGS, Or.inr ⟨er.1, er.2⟩⟩
  rw [f_M_text_84]
  rw [L_good hg]
  simp only [zb_s, ir1, i10]
  have tw : ∀ c, r64 c → f_M_isWord Km c Fm Bm = some (wdm Bm j c, Fm, Bm) := fun c hc => L_isWord hM hc
  have wr1 : ∀ c, r32 (wdm Bm j c) := fun c => by have := wdm_r Bm j c; omega
  simp only [tw 7038329 (by decide), tw 1953066341 (by decide), tw 499917877359 (by decide), tw 7103860 (by decide), zb_s]
  rw [if_pos (wr1 _)]
  have vk : Bm 14 0 7 j = 4 → F 10 0 2 = Bm 14 0 11 j := fun k4 => by rw [hS.2.1.2.2.2.1]; exact ((hE.1.2.2 j jj.1 jj.2).2.2.2.2.2.2.1 k4).1
  by_cases c1 : wdm Bm j 7038329 = 0
  · rw [if_pos c1, if_pos (wr1 _)]
    by_cases c2 : wdm Bm j 1953066341 = 0
    · rw [if_pos c2, if_pos (wr1 _)]
      by_cases c3 : wdm Bm j 499917877359 = 0
      · rw [if_pos c3, if_pos (wr1 _)]
        by_cases c4 : wdm Bm j 7103860 = 0
        · -- no head here
          rw [if_pos c4]
          have nb : bgn F = 0 := by
            unfold bgn
            rw [ek]
            by_cases k4 : Bm 14 0 7 j = 4
            · rw [vk k4]
              rw [if_neg (wdm_0.mp c4)]
              have hz : hds (Bm 14 0 7 j) (Bm 14 0 11 j) = 0 := by
                unfold hds
                rw [if_pos k4, if_neg (fun z => wdm_0.mp c1 ⟨k4, z⟩), if_neg (fun z => wdm_0.mp c2 ⟨k4, z⟩), if_neg (fun z => wdm_0.mp c3 ⟨k4, z⟩)]
              rw [if_pos hz]
            · rw [if_neg (fun z => k4 z.1), if_pos (by unfold hds; rw [if_neg k4])]
          have cl : f_Parser_parse_43 (n + 1) K l 1 0 p F B = f_Parser_parse_93 K 1 0 p F B := by
            rw [cstep nb]
            by_cases a : 9 ≤ l
            · rw [if_pos a]
            · rw [if_neg a, if_pos rfl]
          rw [cl]
          unfold f_M_text_138
          by_cases v : wdm Bm j 508675318629 = 0
          · have er := PS_err2 hE hS
            have ref : f_M_text_140 Km Km 1 Fm Bm = some (0, errM Fm Bm (wr Bm j), Bm) := by
              obtain ⟨kk, hkk⟩ : ∃ y, Km = y + 1 + 1 := ⟨Km - 2, (by first | decide | omega)⟩
              have fin : f_M_text_179 (f_M_text_140 Km (kk + 1)) Km Fm Bm = some (0, errM Fm Bm (wr Bm j), Bm) := by
                unfold f_M_text_179 f_M_text_183 f_M_text_206 f_M_text_207
                rw [L_wrong hg hM]
                simp only [zb_s]
                rw [L_goodB er.2]
                simp only [zb_s, ir0, if_true]
                exact L_140B er.2 (by first | decide | omega)
              rw [show f_M_text_140 Km Km 1 Fm Bm = f_M_text_140 Km (kk + 1 + 1) 1 Fm Bm by rw [← hkk]]
              rw [f_M_text_140]
              rw [L_good hg]
              simp only [zb_s, ir1, i10]
              rw [tw 508675318629 (by decide)]
              simp only [zb_s]
              rw [if_pos (wr1 _), if_pos v]; exact fin
            rw [C_93n hE hS v, ref]
            exact zPm_s ⟨VF_t hVF (VF_h (hF_e hF_r) (hG_e hG_r) tB_r tM_r), hGS, Or.inr ⟨er.1, er.2⟩⟩
          · have wd := Decidable.not_not.mp (mt wdm_0.mpr v)
            have wv := PS_wn (c := 508675318629) hE hS (by decide)
            unfold f_Parser_parse_93 f_Parser_parse_116
            rw [if_pos (by decide), if_neg (by decide), if_pos ⟨Int.le_refl _, k3⟩, hS.1, if_pos ⟨Int.le_refl _, k10⟩, wv.1]
            simp only [zbN_s]
            rw [if_pos (wr1 _), if_neg v]
            have key := P_vloop (K0 := K) (q := 4) (n := K.1) (m := Km) (V := 0) (j := j) (by first | decide | omega) (by first | decide | omega) (by first | decide | omega) hI0 hVF (Or.inr wd)
            rw [if_neg (show ¬ Bm 14 0 7 j = 0 by have := wd.1; omega)] at key
            exact key
        · have wd := Decidable.not_not.mp (mt wdm_0.mpr c4)
          rw [if_neg c4]
          have bg : bgn F = if 6 ≤ F 3 0 16 then 0 else 1 := by
            unfold bgn
            rw [if_pos ⟨ek.trans wd.1, (vk wd.1).trans wd.2⟩]
          by_cases L6 : L = 6
          · rw [if_pos (by first | decide | omega)] at bg
            exact refuse wd (Or.inr (Or.inr (Or.inr ⟨rfl, (by first | decide | omega)⟩))) bg
          · rw [if_neg (by first | decide | omega)] at bg
            have wl : f_Tokens_isWord K 0 7103860 F B = some (1, F, B) := by
              rw [C_isWord hX (by decide), PS_wd hE hS]
              have := wdm_r Bm j 7103860
              rw [show wdm Bm j 7103860 = 1 by omega]
            have hd3 : f_M_head Km Fm Bm = zbind (f_M_headLet Km Fm Bm) (fun _ F10 B10 => some (0, F10, B10)) := by
              unfold f_M_head f_M_head_152
              simp only [tw 7038329 (by decide), tw 1953066341 (by decide), tw 499917877359 (by decide), zb_s, c1, c2, c3, ir0, if_true]
            rw [cstep bg, if_neg (by first | decide | omega), if_neg (by decide), wl]
            simp only [zbN_s, ir1, i10]
            rw [if_pos (by decide), if_neg (by decide)]
            unfold f_M_text_131
            rw [hd3, zb_a]
            simp only [zb_s]
            refine zPm_n (P_let hI0.1 wd (by first | decide | omega)) (fun r F' B' r' Fm' Bm' hr => ?_)
            obtain ⟨g1, g2, g3, g4, g5⟩ := hr
            have vf' : VF K p w F0 B0 Fm0 Bm0 K F' B' Fm' Bm' := VF_t hVF (VF_h g1 g2 g3 g4)
            rcases g5 with ⟨rfl, ⟨j', hj', hH'⟩, fl⟩ | ⟨rfl, er⟩
            · have hp' := hH'.2.2.1
              refine ih (by first | decide | omega) (L := L + 1) (l := l + 1) (j := j') (by first | decide | omega) (by first | decide | omega) (by first | decide | omega) ⟨hH', GS_t hGS g3, ?_, ?_, (by first | decide | omega), fun v v0 v1 => (by first | decide | omega)⟩ (by first | decide | omega) vf'
              · rw [g1 6 p 1 (fun z => absurd z.1 (by decide)) (fun z => absurd z.1 (by decide)) (fun z => absurd z.2.2.1 (by decide))]; exact f1
              · rw [g2 13 w 1 (fun z => absurd z.1 (by decide)) (fun z => absurd z.2.2.1 (by decide))]; exact fm1
            · rw [C_43e k3 k1 (by first | decide | omega) (by first | decide | omega), L_84B er.2 (by first | decide | omega) km]
              exact zPm_s ⟨vf', GS_t hGS g3, Or.inr ⟨er.1, er.2⟩⟩
      · have wd := Decidable.not_not.mp (mt wdm_0.mpr c3)
        rw [if_neg c3]
        have hz : hds (F 10 0 0) (F 10 0 2) = 4 := by rw [ek, vk wd.1, wd.1, wd.2]; decide
        have bg : bgn F = if 4 * Fm 14 0 24 = 0 then 1 else 0 := by
          unfold bgn
          rw [if_neg (fun z => by have := z.2; rw [vk wd.1, wd.2] at this; omega), hz, if_neg (by decide), z8.2.2.2.2.2]
        rcases u24 () with t | t
        · rw [if_pos (by first | decide | omega)] at bg
          exact take wd (Or.inr (Or.inr rfl)) bg (by first | decide | omega) (P_tempo hE hS hP0 wd t)
        · rw [if_neg (by first | decide | omega)] at bg
          exact refuse wd (Or.inr (Or.inr (Or.inl ⟨rfl, t⟩))) bg
    · have wd := Decidable.not_not.mp (mt wdm_0.mpr c2)
      rw [if_neg c2]
      have hz : hds (F 10 0 0) (F 10 0 2) = 2 := by rw [ek, vk wd.1, wd.1, wd.2]; decide
      have bg : bgn F = if 2 * Fm 14 0 23 = 0 then 1 else 0 := by
        unfold bgn
        rw [if_neg (fun z => by have := z.2; rw [vk wd.1, wd.2] at this; omega), hz, if_neg (by decide), z8.2.2.2.2.1]
      rcases u23 () with t | t
      · rw [if_pos (by first | decide | omega)] at bg
        exact take wd (Or.inr (Or.inl rfl)) bg (by first | decide | omega) (P_time hE hS hP0 wd t)
      · rw [if_neg (by first | decide | omega)] at bg
        exact refuse wd (Or.inr (Or.inl ⟨rfl, t⟩)) bg
  · have wd := Decidable.not_not.mp (mt wdm_0.mpr c1)
    rw [if_neg c1]
    have hz : hds (F 10 0 0) (F 10 0 2) = 1 := by rw [ek, vk wd.1, wd.1, wd.2]; decide
    have bg : bgn F = if Fm 14 0 22 = 0 then 1 else 0 := by
      unfold bgn
      rw [if_neg (fun z => by have := z.2; rw [vk wd.1, wd.2] at this; omega), hz, if_neg (by decide), z8.2.2.2.1]
    rcases u22 () with t | t
    · rw [if_pos t] at bg
      exact take wd (Or.inl rfl) bg (by first | decide | omega) (P_key hE hS hP0 wd t)
    · rw [if_neg (by first | decide | omega)] at bg
      exact refuse wd (Or.inl ⟨rfl, t⟩) bg
theorem P_hloop {K : zK} {Km : Nat} {N p w : Int} {F0 : zF} {B0 : zB} {Fm0 : zF} {Bm0 : zB} : ∀ {q n m : Nat} {L l j : Int} {F : zF} {B : zB} {Fm : zF} {Bm : zB}, l = 9 - q → q + 1 < n → q + 2 < m → VI K Km N L 0 j p w F B Fm Bm → l = L + Fm 14 0 22 + Fm 14 0 23 + Fm 14 0 24 → VF K p w F0 B0 Fm0 Bm0 K F B Fm Bm → zPm (f_Parser_parse_43 n K l 1 0 p F B) (f_M_text_84 Km m Fm Bm) (fun r F' B' K' _ Fm' Bm' => TPO K Km N p w F0 B0 Fm0 Bm0 r F' B' K' Fm' Bm') := by
  intro q
  induction q with
  | zero =>
    intro n m L l j F B Fm Bm hl hn hm hI hcnt hVF
    exact P_hstep (q := 0) (l := l) (by first | decide | omega) (by first | decide | omega) (by first | decide | omega) hI hcnt hVF (fun h => absurd h (by first | decide | omega))
  | succ q ih =>
    intro n m L l j F B Fm Bm hl hn hm hI hcnt hVF
    exact P_hstep (q := q + 1) (l := l) (by first | decide | omega) (by first | decide | omega) (by first | decide | omega) hI hcnt hVF (fun _ {n m L l j F B Fm Bm} a b c d e f => ih (by first | decide | omega) (by first | decide | omega) (by first | decide | omega) d e f)
end
end
section
section
/-! ===== a text is parsed, on both sides ===== -/
theorem CUR_0 {F : zF} {B Bm : zB} {N : Int} (hT : TK B Bm N) (hx : F 10 0 8 = 0) : CUR (advF F B) B Bm N 0 := by
  obtain ⟨n0, n1, hT⟩ := hT
  obtain ⟨a1, a2, a3, a4, a5, a6, a7, a8, a9, a10, a11⟩ := hT 0 (by first | decide | omega) (by first | decide | omega)
  unfold CUR advF
  rw [hx]
  by_cases e : B 10 0 5 0 = 2
  · have e' : Bm 14 0 7 0 = 2 := by omega
    obtain ⟨b1, b2, b3, b4, b5⟩ := a5 e'
    have n : ¬ (0 : Int) = N := fun z => by have := a4.mpr z; omega
    rw [if_pos e, if_neg n]
    simp only [zup3_v]
    have d1 : zdv (B 10 0 7 0) 8 = Bm 14 0 9 0 := by rw [zdv_e (by first | decide | omega) (by first | decide | omega) (by decide) (by decide)]; omega
    have d2 : zrm (B 10 0 7 0) 8 - 2 = Bm 14 0 10 0 := by rw [zrm_e (by first | decide | omega) (by first | decide | omega) (by decide) (by decide)]; omega
    refine ⟨(by first | decide | omega), ?_, ?_, ?_, fun _ => ⟨?_, ?_⟩, ?_⟩
    · simpa using a1
    · simpa using a2
    · simp
    · simpa using d1
    · simpa using d2
    · simp
  · have e' : ¬ Bm 14 0 7 0 = 2 := by omega
    rw [if_neg e]
    simp only [zup3_v]
    refine ⟨(by first | decide | omega), ?_, ?_, ?_, fun z => absurd z e', ?_⟩
    · simpa using a1
    · simpa using a2
    · simp
    · simp
      by_cases q : (0 : Int) = N
      · rw [if_pos q, if_pos (by have := a4.mpr q; omega)]; exact q
      · rw [if_neg q, if_neg]
        intro z
        exact q (a4.mp (by first | decide | omega))
/-- the frames of parsing -/
def PF (K : zK) (p w : Int) (F : zF) (B : zB) (Fm : zF) (Bm : zB) (K' : zK) (F' : zF) (B' : zB) (Fm' : zF) (Bm' : zB) : Prop := Kle K K' ∧ (∀ c y k, y < K.2 c → ¬ (c = 10 ∧ y = 0) → ¬ (c = 3 ∧ y = 0 ∧ k ≠ 11) → ¬ (c = 6 ∧ y = p ∧ 1 ≤ k ∧ k ≤ 6) → ¬ (c = 4 ∧ ∃ v, 0 ≤ v ∧ v < 4 ∧ y = B 6 p 0 v) → F' c y k = F c y k) ∧ (∀ c y k x, y < K.2 c → ¬ (c = 3 ∧ y = 0) → ¬ (c = 10 ∧ y = 0) → ¬ (c = 6 ∧ y = p ∧ k = 0) → B' c y k x = B c y k x) ∧ (∀ v, 0 ≤ v → v < 4 → B' 6 p 0 v = B 6 p 0 v ∨ (B 6 p 0 v < 0 ∧ K.2 4 ≤ B' 6 p 0 v)) ∧ (∀ c i k, ¬ (c = 14 ∧ i = 0 ∧ (k = 3 ∨ 12 ≤ k ∧ k ≤ 27)) → ¬ (c = 13 ∧ i = w ∧ 1 ≤ k ∧ k ≤ 6) → Fm' c i k = Fm c i k) ∧ (∀ c i k x, ¬ (c = 14 ∧ i = 0 ∧ (7 ≤ k ∧ k ≤ 11 ∨ 25 ≤ k ∧ k ≤ 34)) → ¬ (c = 13 ∧ i = w ∧ 8 ≤ k ∧ k ≤ 11) → Bm' c i k x = Bm c i k x) ∧ (∀ j, r32 (B' 10 0 5 j)) ∧ (∀ q s, K.2 4 ≤ q → q < K'.2 4 → r32 (B' 4 q 12 s)) ∧ ((∀ c, ¬ (c = 1 ∨ c = 4) → K'.2 c = K.2 c) ∧ K'.2 1 = K.2 1 + 200 * (K'.2 4 - K.2 4) ∧ K'.2 4 + em B' p = K.2 4 + em B p) ∧ Fm' 14 0 3 = 0 ∧ (0 ≤ F' 6 p 1 ∧ F' 6 p 1 ≤ 4)
/-- what a text comes to: read, or the same fault -/
def RPO (K : zK) (Km : Nat) (p w : Int) (F : zF) (B : zB) (Fm : zF) (Bm : zB) (r : Int) (F' : zF) (B' : zB) (K' : zK) (Fm' : zF) (Bm' : zB) : Prop := PF K p w F B Fm Bm K' F' B' Fm' Bm' ∧ GS K' B' ∧ ((r = 0 ∧ ∃ N L V, 1 ≤ V ∧ VI K' Km N L V N p w F' B' Fm' Bm') ∨ ((r = Fm' 14 0 17 + 16 * Fm' 14 0 18 ∧ 0 ≤ Fm' 14 0 18 ∧ Fm' 14 0 18 ≤ 3000) ∧ bad Fm'))
theorem P_parse {K : zK} {Km : Nat} {n p w : Int} {t : Int → Int} {F : zF} {B : zB} {Fm : zF} {Bm : zB} (hK : 3002 ≤ K.1) (hKm : 3002 ≤ Km) (hK0 : 0 < K.2 0) (hK3 : 0 < K.2 3) (hK10 : 0 < K.2 10) (e11 : F 3 0 11 = 0) (hn : F 0 0 1 = n) (n0 : 0 ≤ n) (n2 : n ≤ 3000) (hb : ∀ y, 0 ≤ t y ∧ t y < 256) (ht : B 0 0 0 = t) (h5 : ∀ j, r32 (B 10 0 5 j)) (hn' : Fm 14 0 3 = n) (ht' : tmB Bm = t) (hW : MW Bm) (hGS : GS K B) (hp : 0 ≤ p ∧ p < K.2 6) (hw : 0 ≤ w ∧ w < 3) (h6 : Fm 14 0 6 = w) (d1 : F 6 p 1 = 0) (d2 : F 6 p 2 = 0) (d3 : F 6 p 3 = 0) (d4 : F 6 p 4 = 4) (d5 : F 6 p 5 = 4) (d6 : F 6 p 6 = 120) : zPm (f_Parser_parse K 0 0 p F B) (zbind (f_M_cut Km Fm Bm) (fun _ F1 B1 => f_M_text Km (zup3 F1 14 0 3 0) B1)) (fun r F' B' K' _ Fm' Bm' => RPO K Km p w F B Fm Bm r F' B' K' Fm' Bm') := by
  unfold f_Parser_parse f_M_text
  rw [if_pos ⟨Int.le_refl _, hK3⟩, e11, if_pos ⟨Int.le_refl _, hK10⟩]
  generalize hF1 : zup3 (zup3 (zup3 (zup3 (zup3 (zup3 F 3 0 14 0) 3 0 15 0) 3 0 16 0) 3 0 17 0) 3 0 18 0) 3 0 21 0 = F1
  have g1 : ∀ c y k, ¬ (c = 3 ∧ y = 0 ∧ k ≠ 11) → F1 c y k = F c y k := fun c y k h => by
    rw [← hF1]
    simp only [zup3_v]
    rw [if_neg (fun z => h ⟨z.1, z.2.1, by have := z.2.2; omega⟩), if_neg (fun z => h ⟨z.1, z.2.1, by have := z.2.2; omega⟩), if_neg (fun z => h ⟨z.1, z.2.1, by have := z.2.2; omega⟩), if_neg (fun z => h ⟨z.1, z.2.1, by have := z.2.2; omega⟩), if_neg (fun z => h ⟨z.1, z.2.1, by have := z.2.2; omega⟩), if_neg (fun z => h ⟨z.1, z.2.1, by have := z.2.2; omega⟩)]
  have c14 : F1 3 0 14 = 0 := by rw [← hF1]; simp [zup3_v]
  have c15 : F1 3 0 15 = 0 := by rw [← hF1]; simp [zup3_v]
  have c16 : F1 3 0 16 = 0 := by rw [← hF1]; simp [zup3_v]
  have c17 : F1 3 0 17 = 0 := by rw [← hF1]; simp [zup3_v]
  have c18 : F1 3 0 18 = 0 := by rw [← hF1]; simp [zup3_v]
  have c21 : F1 3 0 21 = 0 := by rw [← hF1]; simp [zup3_v]
  obtain ⟨r2, F2, B2, s1, s2, s3, s4, s5⟩ := C_start (K := K) (F := F1) (B := B) (t := t) (n := n) hK hK0 hK10 (by rw [g1 0 0 1 (fun z => absurd z.1 (by decide))]; exact hn) n0 n2 hb ht h5
  obtain ⟨r3, Fm1, Bm1, u1, u2, u3, u4⟩ := L_cut (K := Km) (F := Fm) (B := Bm) (t := t) (n := n) hKm hn' n0 n2 ht'
  rw [s1, u1]
  simp only [zbN_s, zb_s]
  have hT := TK_of hb n0 n2 s3 u3
  generalize hN : ((lexF t n 0).length : Int) = N at *
  have e6 : (zup3 Fm1 14 0 3 0) 14 0 6 = w := by rw [u2]; simp [zup3_v]; exact h6
  rw [e6, if_pos hw]
  generalize hFm2 : zup3 (zup3 (zup3 (zup3 (zup3 (zup3 (zup3 (zup3 (zup3 (zup3 (zup3 (zup3 (zup3 (zup3 Fm1 14 0 3 0) 14 0 16 0) 14 0 17 0) 14 0 19 0) 14 0 27 0) 14 0 22 0) 14 0 23 0) 14 0 24 0) 13 w 1 0) 13 w 2 0) 13 w 3 0) 13 w 4 4) 13 w 5 4) 13 w 6 120 = Fm2
  have m2 : ∀ c i k, ¬ (c = 14 ∧ i = 0 ∧ (k = 3 ∨ 12 ≤ k ∧ k ≤ 27)) → ¬ (c = 13 ∧ i = w ∧ 1 ≤ k ∧ k ≤ 6) → Fm2 c i k = Fm c i k := fun c i k h1 h2 => by
    rw [← hFm2]
    simp only [zup3_v]
    have n13 : ∀ x, 1 ≤ x → x ≤ 6 → ¬ (c = 13 ∧ i = w ∧ k = x) := fun x a b z => h2 ⟨z.1, z.2.1, (by first | decide | omega), (by first | decide | omega)⟩
    have n14 : ∀ x, (x = 3 ∨ 12 ≤ x ∧ x ≤ 27) → ¬ (c = 14 ∧ i = 0 ∧ k = x) := fun x a z => h1 ⟨z.1, z.2.1, (by first | decide | omega)⟩
    rw [if_neg (n13 6 (by decide) (by decide)), if_neg (n13 5 (by decide) (by decide)), if_neg (n13 4 (by decide) (by decide)), if_neg (n13 3 (by decide) (by decide)), if_neg (n13 2 (by decide) (by decide)), if_neg (n13 1 (by decide) (by decide)), if_neg (n14 24 (by decide)), if_neg (n14 23 (by decide)), if_neg (n14 22 (by decide)), if_neg (n14 27 (by decide)), if_neg (n14 19 (by decide)), if_neg (n14 17 (by decide)), if_neg (n14 16 (by decide)), if_neg (n14 3 (by decide)), u2, zup3_v, if_neg (n14 12 (by decide))]
  have v6 : Fm2 14 0 6 = w := by rw [m2 14 0 6 (by decide) (fun z => absurd z.1 (by decide))]; exact h6
  have v16 : Fm2 14 0 16 = 0 := by rw [← hFm2]; simp [zup3_v]
  have v17 : Fm2 14 0 17 = 0 := by rw [← hFm2]; simp [zup3_v]
  have v19 : Fm2 14 0 19 = 0 := by rw [← hFm2]; simp [zup3_v]
  have v27 : Fm2 14 0 27 = 0 := by rw [← hFm2]; simp [zup3_v]
  have v22 : Fm2 14 0 22 = 0 := by rw [← hFm2]; simp [zup3_v]
  have v23 : Fm2 14 0 23 = 0 := by rw [← hFm2]; simp [zup3_v]
  have v24 : Fm2 14 0 24 = 0 := by rw [← hFm2]; simp [zup3_v]
  have x1 : Fm2 13 w 1 = 0 := by rw [← hFm2]; simp [zup3_v]
  have x2 : Fm2 13 w 2 = 0 := by rw [← hFm2]; simp [zup3_v]
  have x3 : Fm2 13 w 3 = 0 := by rw [← hFm2]; simp [zup3_v]
  have x4 : Fm2 13 w 4 = 4 := by rw [← hFm2]; simp [zup3_v]
  have x5 : Fm2 13 w 5 = 4 := by rw [← hFm2]; simp [zup3_v]
  have x6 : Fm2 13 w 6 = 120 := by rw [← hFm2]; simp [zup3_v]
  -- the class's world behind its tokens
  have gC : ∀ c y k, ¬ (c = 10 ∧ y = 0) → F2 c y k = F1 c y k := fun c y k h => by
    rw [s2, advF_o h, zup3_v, if_neg (fun z => h ⟨z.1, z.2.1⟩)]
  have F3k : ∀ k, F2 3 0 k = F1 3 0 k := fun k => gC 3 0 k (fun z => absurd z.1 (by decide))
  have F6k : ∀ k, F2 6 p k = F 6 p k := fun k => by rw [gC 6 p k (fun z => absurd z.1 (by decide)), g1 6 p k (fun z => absurd z.1 (by decide))]
  have bC : ∀ c y k x, ¬ (c = 10 ∧ y = 0) → B2 c y k x = B c y k x := fun c y k x h => s4 c y k x (fun z => h ⟨z.1, z.2.1⟩)
  have bM : ∀ c i k x, ¬ (c = 14 ∧ i = 0 ∧ 7 ≤ k ∧ k ≤ 11) → Bm1 c i k x = Bm c i k x := fun c i k x h => u4 c i k x (fun z => h ⟨z.1, z.2.1, by have := z.2.2.1; simp at this; omega, by have := z.2.2.1; simp at this; omega⟩)
  have hW' : MW Bm1 := by
    unfold MW at *
    have r : ∀ k, 12 ≤ k → Bm1 14 0 k = Bm 14 0 k := fun k hk => by funext y; exact bM 14 0 k y (fun z => by have := z.2.2.2; omega)
    rw [r 13 (by decide), r 14 (by decide), r 15 (by decide)]; exact hW
  have hE : EV K Km N B2 Bm1 := ⟨hT, hW', s5, hK3, hK10, hK, hKm⟩
  have t0 := hT.2.2 0 (by first | decide | omega) hT.1
  have hS : PS N 0 F2 B2 Fm2 Bm1 := by
    refine ⟨?_, ?_, v16, v17, ?_, ?_, Or.inl ?_, ?_⟩
    · rw [F3k, g1 3 0 11 (fun z => z.2.2 rfl)]; exact e11
    · rw [s2]; exact CUR_0 hT (by simp [zup3_v])
    · rw [F3k]; exact c21
    · rw [F3k, c18, v19]; decide
    · rw [F3k]; exact c18
    · rw [F3k, c15]; have := t0.2.2.2.2.2.2.2.2.2.1; omega
  have hHP : HP K p w F2 Fm2 := by
    unfold HP
    rw [F6k, F6k, F6k, F6k, F6k, F3k, d2, d3, d4, d5, d6, c17, v6, v22, v23, v24, x2, x3, x4, x5, x6]
    refine ⟨hp, hw, rfl, by decide, by decide, by decide, by decide, by decide, by decide, by decide, by decide, by decide⟩
  have hGS2 : GS K B2 := GS_B hGS (fun y v _ _ => bC 6 y 0 v (fun z => absurd z.1 (by decide))) (fun y v _ _ => bC 4 y 5 v (fun z => absurd z.1 (by decide)))
  have hVI : VI K Km N 0 0 0 p w F2 B2 Fm2 Bm1 := by
    refine ⟨⟨hE, hS, hHP, ⟨by rw [F3k]; exact c16, v27, by decide, fun q q0 q1 => (by first | decide | omega)⟩, by rw [F3k, c14]; decide, by rw [F3k, c14]; decide, by rw [F3k]; exact c18, fun q q0 q1 => (by first | decide | omega)⟩, hGS2, by rw [F6k]; exact d1, x1, by decide, fun v v0 v1 => (by first | decide | omega)⟩
  refine zPm_m (P_hloop (q := 9) (n := K.1) (m := Km) (L := 0) (l := 0) (j := 0) (by first | decide | omega) (by first | decide | omega) (by first | decide | omega) hVI (by first | decide | omega) VF_r) (fun r F' B' K' r' Fm' Bm' hh => ?_)
  obtain ⟨⟨f1, f2, f3, f4, f5, f6, f7, f8, f9⟩, gs, res⟩ := hh
  refine ⟨⟨f1, fun c y k h0 h1 h2 h3 h4 => ?_, fun c y k x h0 h1 h2 h3 => ?_, fun v v0 v1 => ?_, fun c i k h1 h2 => ?_, fun c i k x h1 h2 => ?_, fun jx => ?_, f7, ?_, ?_, ?_⟩, gs, ?_⟩
  · rw [f2 c y k h0 h1 h2 h3 (fun z => h4 ⟨z.1, by obtain ⟨v, a, b, e⟩ := z.2; exact ⟨v, a, b, by rw [e]; exact bC 6 p 0 v (fun z => absurd z.1 (by decide))⟩⟩), gC c y k h1]
    exact g1 c y k h2
  · rw [f3 c y k x h0 h1 h3]; exact bC c y k x h2
  · have := f4 v v0 v1
    rw [bC 6 p 0 v (fun z => absurd z.1 (by decide))] at this
    exact this
  · rw [f5 c i k (fun z => h1 ⟨z.1, z.2.1, Or.inr ⟨by have := z.2.2.1; omega, z.2.2.2⟩⟩) h2]
    exact m2 c i k h1 h2
  · rw [f6 c i k x (fun z => h1 ⟨z.1, z.2.1, Or.inr z.2.2⟩) h2]
    exact bM c i k x (fun z => h1 ⟨z.1, z.2.1, Or.inl z.2.2⟩)
  · rw [f3 10 0 5 jx hK10 (fun z => absurd z.1 (by decide)) (fun z => absurd z.1 (by decide))]; exact s5 jx
  · rw [← em_e (B := B) (B' := B2) (fun v => bC 6 p 0 v (fun z => absurd z.1 (by decide)))]; exact f8
  · rw [f5 14 0 3 (by first | decide | omega) (fun z => absurd z.1 (by decide)), ← hFm2]; simp [zup3_v]
  · rcases f9 with z | z
    · rw [z, F6k 1, d1]; decide
    · exact z
  · rcases res with ⟨r0, L, V, a, b⟩ | res
    · exact Or.inl ⟨r0, N, L, V, a, b⟩
    · exact Or.inr res
end
end
section
section
/-! ===== the reference's fractions are the class's places ===== -/
theorem lI_n0 {b : Int} (hb : 0 < b) (h : r64 b) : ¬ lI b = 0 := by
  intro z
  have e : (lI b).toInt = b := lI_to h
  rw [z] at e
  have : (0 : Int64).toInt = 0 := by decide
  omega
theorem zldv_e {a b : Int} (h0 : 0 ≤ a) (ha : a < 9223372036854775808) (hb : 0 < b) (hb2 : b < 9223372036854775808) : zldv a b = a / b := by
  have ra : r64 a := ⟨(by first | decide | omega), ha⟩
  have rb : r64 b := ⟨(by first | decide | omega), hb2⟩
  have hq : a / b ≤ a := Int.ediv_le_self b h0
  have hq0 : 0 ≤ a / b := Int.ediv_nonneg h0 (by first | decide | omega)
  unfold zldv
  rw [Int64.toInt_div, lI_to ra, lI_to rb, Int.tdiv_eq_ediv_of_nonneg h0]
  rw [Int.bmod_eq_of_le] <;> omega
theorem zlrm_e {a b : Int} (h0 : 0 ≤ a) (ha : a < 9223372036854775808) (hb : 0 < b) (hb2 : b < 9223372036854775808) : zlrm a b = a % b := by
  have ra : r64 a := ⟨(by first | decide | omega), ha⟩
  have rb : r64 b := ⟨(by first | decide | omega), hb2⟩
  have hm0 : 0 ≤ a % b := Int.emod_nonneg a (by first | decide | omega)
  have hm1 : a % b < b := Int.emod_lt_of_pos a hb
  have hd : lI a / lI b = lI (a / b) := by
    have e := zldv_e h0 ha hb hb2
    unfold zldv at e
    rw [← e, lI_of]
  unfold zlrm
  rw [hd, lI_mul, lI_sub, show a - a / b * b = a % b by rw [Int.emod_def, Int.mul_comm]]
  exact lI_to ⟨(by first | decide | omega), (by first | decide | omega)⟩
def gc (a b : Int) : Int := (Nat.gcd a.toNat b.toNat : Int)
theorem gc_pos {a b : Int} (hb : 0 < b) : 0 < gc a b := by
  unfold gc
  have := Nat.gcd_pos_of_pos_right a.toNat (show 0 < b.toNat by omega)
  omega
theorem gc_dl {a b : Int} (ha : 0 ≤ a) : ∃ x, a = gc a b * x := by
  obtain ⟨x, hx⟩ := Nat.gcd_dvd_left a.toNat b.toNat
  exact ⟨x, by unfold gc; omega⟩
theorem gc_dr {a b : Int} (hb : 0 ≤ b) : ∃ x, b = gc a b * x := by
  obtain ⟨x, hx⟩ := Nat.gcd_dvd_right a.toNat b.toNat
  exact ⟨x, by unfold gc; omega⟩
theorem gc_le {a b : Int} (hb : 0 < b) : gc a b ≤ b := by
  unfold gc
  have := Nat.gcd_le_right a.toNat (show 0 < b.toNat by omega)
  omega
theorem L_gcd6 {K : Nat} {F : zF} {B : zB} : ∀ {n : Nat} {x y : Int}, 0 ≤ x → x < 9223372036854775808 → 0 ≤ y → y < 9223372036854775808 → y < n → f_M_gcd_6 K n y x F B = some (gc x y, F, B) := by
  intro n
  induction n with
  | zero => intro x y _ _ _ _ h; omega
  | succ n ih =>
    intro x y x0 x1 y0 y1 h
    unfold f_M_gcd_6
    rw [if_pos (by first | decide | omega)]
    by_cases e : y = 0
    · rw [if_pos (zcmp_0.mpr e), e]
      unfold gc
      rw [show (0 : Int).toNat = 0 from rfl, Nat.gcd_zero_right]
      rw [show ((x.toNat : Nat) : Int) = x by omega]
    · rw [if_neg (fun z => e (zcmp_0.mp z)), if_pos (lI_n0 (by first | decide | omega) (by first | decide | omega)), zlrm_e x0 x1 (by first | decide | omega) y1]
      have m0 : 0 ≤ x % y := Int.emod_nonneg x e
      have m1 : x % y < y := Int.emod_lt_of_pos x (by first | decide | omega)
      rw [ih (by first | decide | omega) (by first | decide | omega) m0 (by first | decide | omega) (by first | decide | omega)]
      have g : gc y (x % y) = gc x y := by
        unfold gc
        have e2 : (x % y).toNat = x.toNat % y.toNat := by
          apply Int.ofNat_inj.mp
          rw [Int.natCast_emod, show ((x.toNat : Nat) : Int) = x by omega, show ((y.toNat : Nat) : Int) = y by omega]
          omega
        rw [e2, Nat.gcd_comm y.toNat, ← Nat.gcd_rec, Nat.gcd_comm]
      rw [g]
theorem L_gcd {K : Nat} {F : zF} {B : zB} {x y : Int} (x0 : 0 ≤ x) (x1 : x < 9223372036854775808) (y0 : 0 ≤ y) (y1 : y < 9223372036854775808) (h : y < K) : f_M_gcd K x y F B = some (gc x y, F, B) := L_gcd6 x0 x1 y0 y1 h
theorem L_is {K : Nat} {F : zF} {B : zB} {u d : Int} (u0 : 0 ≤ u) (u1 : u < 9223372036854775808) (d0 : 0 < d) (d1 : d < 9223372036854775808) (h : d < K) : f_M_is K u d F B = some (0, zup3 (zup3 F 14 0 0 (u / gc u d)) 14 0 1 (d / gc u d), B) := by
  have g := gc_pos (a := u) d0
  have gl := gc_le (a := u) d0
  unfold f_M_is
  rw [L_gcd u0 u1 (by first | decide | omega) d1 h]
  simp only [zb_s]
  rw [if_pos (lI_n0 g (by first | decide | omega)), zldv_e u0 u1 g (by first | decide | omega), zldv_e (by first | decide | omega) d1 g (by first | decide | omega)]
/-- a fraction u/d that is the place p of W: reduced it is p's -/
theorem red_u {W p u d : Int} (hW : 0 < W) (p0 : 0 ≤ p) (u0 : 0 ≤ u) (d0 : 0 < d) (h : u * W = p * d) : u / gc u d = p / gc p W ∧ d / gc u d = W / gc p W := by
  have g1 := gc_pos (a := u) d0
  have g2 := gc_pos (a := p) hW
  have key : W * gc u d = d * gc p W := by
    have n : Nat.gcd (W.toNat * u.toNat) (W.toNat * d.toNat) = Nat.gcd (d.toNat * p.toNat) (d.toNat * W.toNat) := by
      have e1 : W.toNat * u.toNat = d.toNat * p.toNat := by
        apply Int.ofNat_inj.mp
        rw [Int.natCast_mul, Int.natCast_mul, show ((W.toNat : Nat) : Int) = W by omega, show ((u.toNat : Nat) : Int) = u by omega, show ((d.toNat : Nat) : Int) = d by omega, show ((p.toNat : Nat) : Int) = p by omega, Int.mul_comm W u, h, Int.mul_comm]
      rw [e1, Nat.mul_comm W.toNat d.toNat]
    rw [Nat.gcd_mul_left, Nat.gcd_mul_left] at n
    have n' : ((W.toNat * Nat.gcd u.toNat d.toNat : Nat) : Int) = ((d.toNat * Nat.gcd p.toNat W.toNat : Nat) : Int) := by rw [n]
    rw [Int.natCast_mul, Int.natCast_mul, show ((W.toNat : Nat) : Int) = W by omega, show ((d.toNat : Nat) : Int) = d by omega] at n'
    exact n'
  obtain ⟨u', hu⟩ := gc_dl (a := u) (b := d) u0
  obtain ⟨d', hd⟩ := gc_dr (a := u) (b := d) (Int.le_of_lt d0)
  obtain ⟨p', hp⟩ := gc_dl (a := p) (b := W) p0
  obtain ⟨W', hw⟩ := gc_dr (a := p) (b := W) (Int.le_of_lt hW)
  generalize gc u d = a at *
  generalize gc p W = b at *
  have ab : 0 < a * b := Int.mul_pos g1 g2
  have e1 : d' = W' := by
    apply Int.eq_of_mul_eq_mul_left (Int.ne_of_gt ab)
    calc a * b * d' = (a * d') * b := by rw [Int.mul_assoc, Int.mul_comm b d', ← Int.mul_assoc]
      _ = d * b := by rw [← hd]
      _ = W * a := key.symm
      _ = (b * W') * a := by rw [← hw]
      _ = a * b * W' := by rw [Int.mul_comm, ← Int.mul_assoc]
  have Wp : 0 < W' := by
    rcases Int.lt_or_le 0 W' with z | z
    · exact z
    · have := Int.mul_nonpos_of_nonneg_of_nonpos (Int.le_of_lt g2) z
      omega
  have e2 : u' = p' := by
    have h2 : (a * u') * (b * W') = (b * p') * (a * d') := by rw [← hu, ← hw, ← hp, ← hd]; exact h
    rw [e1] at h2
    apply Int.eq_of_mul_eq_mul_left (Int.ne_of_gt (Int.mul_pos ab Wp))
    calc a * b * W' * u' = (a * u') * (b * W') := by ac_rfl
      _ = (b * p') * (a * W') := h2
      _ = a * b * W' * p' := by ac_rfl
  refine ⟨?_, ?_⟩
  · rw [hu, hp, Int.mul_ediv_cancel_left _ (Int.ne_of_gt g1), Int.mul_ediv_cancel_left _ (Int.ne_of_gt g2), e2]
  · rw [hd, hw, Int.mul_ediv_cancel_left _ (Int.ne_of_gt g1), Int.mul_ediv_cancel_left _ (Int.ne_of_gt g2), e1]
end
end
section
section
/-! ===== sums, differences, comparisons of fractions as places ===== -/
def WW : Int := 812851200
def nu (p : Int) : Int := p / gc p WW
def de (p : Int) : Int := WW / gc p WW
/-- a/b is the place p; b goes into a whole -/
def FR (a b p : Int) : Prop := 0 < b ∧ (∃ x, WW = b * x) ∧ 0 ≤ a ∧ a * WW = p * b
theorem FR_r {p : Int} (h : 0 ≤ p) : FR (nu p) (de p) p := by
  have hW : (0 : Int) < WW := by decide
  have g := gc_pos (a := p) hW
  obtain ⟨p', hp⟩ := gc_dl (a := p) (b := WW) h
  obtain ⟨W', hw⟩ := gc_dr (a := p) (b := WW) (Int.le_of_lt hW)
  have e1 : nu p = p' := by unfold nu; rw [show p / gc p WW = gc p WW * p' / gc p WW by rw [← hp], Int.mul_ediv_cancel_left _ (Int.ne_of_gt g)]
  have e2 : de p = W' := by unfold de; rw [show WW / gc p WW = gc p WW * W' / gc p WW by rw [← hw], Int.mul_ediv_cancel_left _ (Int.ne_of_gt g)]
  have Wp : 0 < W' := by
    rcases Int.lt_or_le 0 W' with z | z
    · exact z
    · have := Int.mul_nonpos_of_nonneg_of_nonpos (Int.le_of_lt g) z
      omega
  have pp : 0 ≤ p' := by
    rcases Int.lt_or_le p' 0 with z | z
    · have := Int.mul_neg_of_pos_of_neg g z
      omega
    · exact z
  refine ⟨by rw [e2]; exact Wp, ⟨gc p WW, by rw [e2, Int.mul_comm]; exact hw⟩, by rw [e1]; exact pp, ?_⟩
  rw [e1, e2]
  calc p' * WW = p' * (gc p WW * W') := by rw [← hw]
    _ = (gc p WW * p') * W' := by ac_rfl
    _ = p * W' := by rw [← hp]
theorem FR_b {a b p : Int} (h : FR a b p) : b ≤ WW ∧ 0 ≤ p ∧ a ≤ p := by
  obtain ⟨b0, ⟨x, hx⟩, a0, e⟩ := h
  have hW : (0 : Int) < WW := by decide
  have x0 : 0 < x := by
    rcases Int.lt_or_le 0 x with z | z
    · exact z
    · have := Int.mul_nonpos_of_nonneg_of_nonpos (Int.le_of_lt b0) z
      omega
  have bW : b ≤ WW := by
    have := Int.mul_le_mul_of_nonneg_left (show (1 : Int) ≤ x by omega) (Int.le_of_lt b0)
    omega
  have p0 : 0 ≤ p := by
    rcases Int.lt_or_le p 0 with z | z
    · have h1 := Int.mul_neg_of_neg_of_pos z b0
      have h2 := Int.mul_nonneg a0 (Int.le_of_lt hW)
      omega
    · exact z
  refine ⟨bW, p0, ?_⟩
  have h1 : a * WW ≤ p * WW := by rw [e]; exact Int.mul_le_mul_of_nonneg_left bW p0
  exact Int.le_of_mul_le_mul_right h1 hW
/-- the common denominator of two such fractions -/
theorem lc_of {b d : Int} (hb : 0 < b) (hd : 0 < d) (xb : ∃ x, WW = b * x) (xd : ∃ x, WW = d * x) : 0 < gc b d ∧ gc b d ≤ d ∧ 0 ≤ d / gc b d ∧ 0 < b / gc b d ∧ b / gc b d * d = b * (d / gc b d) ∧ 0 < b / gc b d * d ∧ (∃ x, WW = b / gc b d * d * x) ∧ b / gc b d ≤ b ∧ d / gc b d ≤ d := by
  have hW : (0 : Int) < WW := by decide
  have g := gc_pos (a := b) hd
  have gl := gc_le (a := b) hd
  obtain ⟨b', eb⟩ := gc_dl (a := b) (b := d) (Int.le_of_lt hb)
  obtain ⟨d', ed⟩ := gc_dr (a := b) (b := d) (Int.le_of_lt hd)
  have q1 : b / gc b d = b' := by rw [show b / gc b d = gc b d * b' / gc b d by rw [← eb], Int.mul_ediv_cancel_left _ (Int.ne_of_gt g)]
  have q2 : d / gc b d = d' := by rw [show d / gc b d = gc b d * d' / gc b d by rw [← ed], Int.mul_ediv_cancel_left _ (Int.ne_of_gt g)]
  have b0 : 0 < b' := by
    rcases Int.lt_or_le 0 b' with z | z
    · exact z
    · have := Int.mul_nonpos_of_nonneg_of_nonpos (Int.le_of_lt g) z
      omega
  have d0 : 0 < d' := by
    rcases Int.lt_or_le 0 d' with z | z
    · exact z
    · have := Int.mul_nonpos_of_nonneg_of_nonpos (Int.le_of_lt g) z
      omega
  have l1 : b' ≤ b := by
    have := Int.mul_le_mul_of_nonneg_right (show (1 : Int) ≤ gc b d by omega) (Int.le_of_lt b0)
    omega
  have l2 : d' ≤ d := by
    have := Int.mul_le_mul_of_nonneg_right (show (1 : Int) ≤ gc b d by omega) (Int.le_of_lt d0)
    omega
  have lcm : ∃ x, WW = b' * d * x := by
    obtain ⟨x, hx⟩ := xb
    obtain ⟨y, hy⟩ := xd
    have hx0 : 0 < x := by
      rcases Int.lt_or_le 0 x with z | z
      · exact z
      · have := Int.mul_nonpos_of_nonneg_of_nonpos (Int.le_of_lt hb) z
        omega
    have hy0 : 0 < y := by
      rcases Int.lt_or_le 0 y with z | z
      · exact z
      · have := Int.mul_nonpos_of_nonneg_of_nonpos (Int.le_of_lt hd) z
        omega
    have n1 : b.toNat ∣ WW.toNat := ⟨x.toNat, by
      apply Int.ofNat_inj.mp
      rw [Int.natCast_mul, show ((b.toNat : Nat) : Int) = b by omega, show ((x.toNat : Nat) : Int) = x by omega, ← hx]; rfl⟩
    have n2 : d.toNat ∣ WW.toNat := ⟨y.toNat, by
      apply Int.ofNat_inj.mp
      rw [Int.natCast_mul, show ((d.toNat : Nat) : Int) = d by omega, show ((y.toNat : Nat) : Int) = y by omega, ← hy]; rfl⟩
    obtain ⟨z, hz⟩ := Nat.lcm_dvd n1 n2
    refine ⟨z, ?_⟩
    have e : ((Nat.lcm b.toNat d.toNat : Nat) : Int) = b' * d := by
      have gn : Nat.gcd b.toNat d.toNat * b'.toNat = b.toNat := by
        apply Int.ofNat_inj.mp
        rw [Int.natCast_mul, show ((b'.toNat : Nat) : Int) = b' by omega]
        show gc b d * b' = _
        omega
      have gp : 0 < Nat.gcd b.toNat d.toNat := Nat.gcd_pos_of_pos_right _ (by first | decide | omega)
      have l : Nat.lcm b.toNat d.toNat = b'.toNat * d.toNat := by
        show b.toNat * d.toNat / Nat.gcd b.toNat d.toNat = _
        rw [show b.toNat * d.toNat = Nat.gcd b.toNat d.toNat * (b'.toNat * d.toNat) by rw [← Nat.mul_assoc, gn]]
        exact Nat.mul_div_cancel_left _ gp
      rw [l, Int.natCast_mul, show ((b'.toNat : Nat) : Int) = b' by omega, show ((d.toNat : Nat) : Int) = d by omega]
    rw [← e, ← Int.natCast_mul, ← hz]
    rfl
  rw [q1, q2]
  refine ⟨g, gl, Int.le_of_lt d0, b0, ?_, Int.mul_pos b0 hd, lcm, l1, l2⟩
  calc b' * d = b' * (gc b d * d') := by rw [← ed]
    _ = (gc b d * b') * d' := by ac_rfl
    _ = b * d' := by rw [← eb]
def fr (F : zF) (p : Int) : zF := zup3 (zup3 F 14 0 0 (nu p)) 14 0 1 (de p)
theorem dv_le {l x : Int} (hl : 0 < l) (h : WW = l * x) : l ≤ WW := by
  have hW : (0 : Int) < WW := by decide
  have x0 : 0 < x := by
    rcases Int.lt_or_le 0 x with z | z
    · exact z
    · have := Int.mul_nonpos_of_nonneg_of_nonpos (Int.le_of_lt hl) z
      omega
  have := Int.mul_le_mul_of_nonneg_left (show (1 : Int) ≤ x by omega) (Int.le_of_lt hl)
  omega
theorem L_isR {K : Nat} {F : zF} {B : zB} {u d p : Int} (hK : 812851200 < K) (h : FR u d p) (hp : p < 4611686018427387904) : f_M_is K u d F B = some (0, fr F p, B) := by
  have b := FR_b h
  obtain ⟨d0, x, u0, e⟩ := h
  have hw : WW = 812851200 := rfl
  rw [L_is u0 (by first | decide | omega) d0 (by first | decide | omega) (by first | decide | omega)]
  obtain ⟨r1, r2⟩ := red_u (W := WW) (by decide) b.2.1 u0 d0 e
  rw [r1, r2]
  rfl
theorem L_plusR {K : Nat} {F : zF} {B : zB} {a b c d p q : Int} (hK : 812851200 < K) (h : FR a b p) (h' : FR c d q) (hp : p + q < 4611686018427387904) : f_M_plus K a b c d F B = some (0, fr F (p + q), B) := by
  have hb := FR_b h
  have hd := FR_b h'
  obtain ⟨b0, xb, a0, e⟩ := h
  obtain ⟨d0, xd, c0, e'⟩ := h'
  obtain ⟨g0, gl, i1, i2, i3, i4, i5, i6, i7⟩ := lc_of b0 d0 xb xd
  have hw : WW = 812851200 := rfl
  unfold f_M_plus
  rw [L_gcd (by first | decide | omega) (by first | decide | omega) (by first | decide | omega) (by first | decide | omega) (by first | decide | omega)]
  simp only [zb_s]
  rw [if_pos (lI_n0 g0 (by first | decide | omega)), zldv_e (by first | decide | omega) (by first | decide | omega) g0 (by first | decide | omega), zldv_e (by first | decide | omega) (by first | decide | omega) g0 (by first | decide | omega)]
  have f : FR (a * (d / gc b d) + c * (b / gc b d)) (b / gc b d * d) (p + q) := by
    refine ⟨i4, i5, ?_, ?_⟩
    · have := Int.mul_nonneg a0 i1
      have := Int.mul_nonneg c0 (Int.le_of_lt i2)
      omega
    · rw [Int.add_mul, Int.add_mul]
      have s1 : a * (d / gc b d) * WW = p * (b / gc b d * d) := by
        calc a * (d / gc b d) * WW = (a * WW) * (d / gc b d) := by ac_rfl
          _ = p * b * (d / gc b d) := by rw [e]
          _ = p * (b * (d / gc b d)) := by ac_rfl
          _ = p * (b / gc b d * d) := by rw [i3]
      have s2 : c * (b / gc b d) * WW = q * (b / gc b d * d) := by
        calc c * (b / gc b d) * WW = (c * WW) * (b / gc b d) := by ac_rfl
          _ = q * d * (b / gc b d) := by rw [e']
          _ = q * (b / gc b d * d) := by ac_rfl
      rw [s1, s2]
  rw [L_isR hK f hp]
  rfl
theorem L_minusR {K : Nat} {F : zF} {B : zB} {a b c d p q : Int} (hK : 812851200 < K) (h : FR a b p) (h' : FR c d q) (hq : q ≤ p) (hp : p < 4611686018427387904) : f_M_minus K a b c d F B = some (0, fr F (p - q), B) := by
  have hb := FR_b h
  have hd := FR_b h'
  obtain ⟨b0, xb, a0, e⟩ := h
  obtain ⟨d0, xd, c0, e'⟩ := h'
  obtain ⟨g0, gl, i1, i2, i3, i4, i5, i6, i7⟩ := lc_of b0 d0 xb xd
  have hw : WW = 812851200 := rfl
  have hW : (0 : Int) < WW := by decide
  unfold f_M_minus
  rw [L_gcd (by first | decide | omega) (by first | decide | omega) (by first | decide | omega) (by first | decide | omega) (by first | decide | omega)]
  simp only [zb_s]
  rw [if_pos (lI_n0 g0 (by first | decide | omega)), zldv_e (by first | decide | omega) (by first | decide | omega) g0 (by first | decide | omega), zldv_e (by first | decide | omega) (by first | decide | omega) g0 (by first | decide | omega)]
  have s1 : a * (d / gc b d) * WW = p * (b / gc b d * d) := by
    calc a * (d / gc b d) * WW = (a * WW) * (d / gc b d) := by ac_rfl
      _ = p * b * (d / gc b d) := by rw [e]
      _ = p * (b * (d / gc b d)) := by ac_rfl
      _ = p * (b / gc b d * d) := by rw [i3]
  have s2 : c * (b / gc b d) * WW = q * (b / gc b d * d) := by
    calc c * (b / gc b d) * WW = (c * WW) * (b / gc b d) := by ac_rfl
      _ = q * d * (b / gc b d) := by rw [e']
      _ = q * (b / gc b d * d) := by ac_rfl
  have f : FR (a * (d / gc b d) - c * (b / gc b d)) (b / gc b d * d) (p - q) := by
    refine ⟨i4, i5, ?_, ?_⟩
    · have le : c * (b / gc b d) * WW ≤ a * (d / gc b d) * WW := by
        rw [s1, s2]; exact Int.mul_le_mul_of_nonneg_right hq (Int.le_of_lt i4)
      have := Int.le_of_mul_le_mul_right le hW
      omega
    · rw [Int.sub_mul, Int.sub_mul, s1, s2]
  rw [L_isR hK f (by first | decide | omega)]
  rfl
theorem L_cmpR {K : Nat} {F : zF} {B : zB} {a b c d p q : Int} (hK : 812851200 < K) (h : FR a b p) (h' : FR c d q) (hp : p < 4611686018427387904) (hq : q < 4611686018427387904) : f_M_compare K a b c d F B = some (if p < q then -1 else if p = q then 0 else 1, F, B) := by
  have hb := FR_b h
  have hd := FR_b h'
  obtain ⟨b0, xb, a0, e⟩ := h
  obtain ⟨d0, xd, c0, e'⟩ := h'
  obtain ⟨g0, gl, i1, i2, i3, i4, ⟨lx, hlx⟩, i6, i7⟩ := lc_of b0 d0 xb xd
  have hw : WW = 812851200 := rfl
  have hW : (0 : Int) < WW := by decide
  have ll := dv_le i4 hlx
  have s1 : a * (d / gc b d) * WW = p * (b / gc b d * d) := by
    calc a * (d / gc b d) * WW = (a * WW) * (d / gc b d) := by ac_rfl
      _ = p * b * (d / gc b d) := by rw [e]
      _ = p * (b * (d / gc b d)) := by ac_rfl
      _ = p * (b / gc b d * d) := by rw [i3]
  have s2 : c * (b / gc b d) * WW = q * (b / gc b d * d) := by
    calc c * (b / gc b d) * WW = (c * WW) * (b / gc b d) := by ac_rfl
      _ = q * d * (b / gc b d) := by rw [e']
      _ = q * (b / gc b d * d) := by ac_rfl
  have x0 := Int.mul_nonneg a0 i1
  have y0 := Int.mul_nonneg c0 (Int.le_of_lt i2)
  have xp : a * (d / gc b d) ≤ p := by
    refine Int.le_of_mul_le_mul_right ?_ hW
    rw [s1]; exact Int.mul_le_mul_of_nonneg_left ll hb.2.1
  have yq : c * (b / gc b d) ≤ q := by
    refine Int.le_of_mul_le_mul_right ?_ hW
    rw [s2]; exact Int.mul_le_mul_of_nonneg_left ll hd.2.1
  unfold f_M_compare f_M_compare_51
  rw [L_gcd (by first | decide | omega) (by first | decide | omega) (by first | decide | omega) (by first | decide | omega) (by first | decide | omega)]
  simp only [zb_s]
  rw [if_pos (lI_n0 g0 (by first | decide | omega)), zldv_e (by first | decide | omega) (by first | decide | omega) g0 (by first | decide | omega), zldv_e (by first | decide | omega) (by first | decide | omega) g0 (by first | decide | omega)]
  generalize hl : b / gc b d * d = l at *
  generalize hX : a * (d / gc b d) = X at *
  generalize hY : c * (b / gc b d) = Y at *
  rw [if_pos (by first | decide | omega), if_pos (by first | decide | omega)]
  rcases Int.lt_trichotomy p q with z | z | z
  · have : X < Y := by
      refine Int.lt_of_mul_lt_mul_right (a := WW) ?_ (Int.le_of_lt hW)
      rw [s1, s2]; exact Int.mul_lt_mul_of_pos_right z i4
    rw [if_neg (by have := zcmp_lt.mpr this; omega), if_pos z]
  · have : X = Y := by
      apply Int.eq_of_mul_eq_mul_right (Int.ne_of_gt hW)
      rw [s1, s2, z]
    have zc := zcmp_0.mpr this
    rw [if_pos (by first | decide | omega), if_pos (by first | decide | omega), if_neg (by first | decide | omega), if_pos z]
  · have : Y < X := by
      refine Int.lt_of_mul_lt_mul_right (a := WW) ?_ (Int.le_of_lt hW)
      rw [s1, s2]; exact Int.mul_lt_mul_of_pos_right z i4
    have zc := zcmp_g.mpr this
    rw [if_pos (by first | decide | omega), if_neg (by first | decide | omega), if_neg (by first | decide | omega), if_neg (by first | decide | omega)]
end
end
section
section
/-! ===== how often a fraction goes into a place ===== -/
theorem div_FR {a b c d p q : Int} (h : a * WW = p * b) (h' : c * WW = q * d) (b0 : 0 < b) (c0 : 0 < c) (d0 : 0 < d) (q0 : 0 < q) : a * d / (b * c) = p / q ∧ (a * d % (b * c) = 0 ↔ p % q = 0) := by
  have hW : (0 : Int) < WW := by decide
  have bd : 0 < b * d := Int.mul_pos b0 d0
  have e1 : a * d * WW = p * (b * d) := by
    calc a * d * WW = (a * WW) * d := by ac_rfl
      _ = p * b * d := by rw [h]
      _ = p * (b * d) := by ac_rfl
  have e2 : b * c * WW = q * (b * d) := by
    calc b * c * WW = (c * WW) * b := by ac_rfl
      _ = q * d * b := by rw [h']
      _ = q * (b * d) := by ac_rfl
  refine ⟨?_, ?_⟩
  · rw [← Int.mul_ediv_mul_of_pos_left (a * d) (b * c) hW, e1, e2, Int.mul_ediv_mul_of_pos_left p q bd]
  · have m : a * d % (b * c) * WW = p % q * (b * d) := by
      rw [Int.mul_comm _ WW, ← Int.mul_emod_mul_of_pos _ _ hW, Int.mul_comm WW, Int.mul_comm WW, e1, e2, Int.mul_comm p, Int.mul_comm q, Int.mul_emod_mul_of_pos _ _ bd, Int.mul_comm]
    constructor
    · intro z
      rw [z, Int.zero_mul] at m
      rcases Int.mul_eq_zero.mp m.symm with w | w
      · exact w
      · omega
    · intro z
      rw [z, Int.zero_mul] at m
      rcases Int.mul_eq_zero.mp m with w | w
      · exact w
      · omega
theorem L_oftR {K : Nat} {F : zF} {B : zB} {a b c d p q : Int} (h : FR a b p) (h' : c * WW = q * d) (c0 : 0 < c) (c1 : c ≤ 100000) (d0 : 0 < d) (d1 : d ≤ 100000) (q0 : 0 < q) (hp : p < 70368744177664) : f_M_often K a b c d F B = some (p / q, F, B) := by
  have hb := FR_b h
  have hw : WW = 812851200 := rfl
  have bc : 0 < b * c := Int.mul_pos h.1 c0
  have bc2 : b * c ≤ 812851200 * 100000 := Int.mul_le_mul (by first | decide | omega) c1 (by first | decide | omega) (by first | decide | omega)
  have ad : 0 ≤ a * d := Int.mul_nonneg h.2.2.1 (by first | decide | omega)
  have ad2 : a * d ≤ 70368744177664 * 100000 := Int.mul_le_mul (by first | decide | omega) d1 (by first | decide | omega) (by first | decide | omega)
  unfold f_M_often
  rw [if_pos (lI_n0 bc (by first | decide | omega)), zldv_e ad (by first | decide | omega) bc (by first | decide | omega), (div_FR h.2.2.2 h' h.1 c0 d0 q0).1]
theorem L_multR {K : Nat} {F : zF} {B : zB} {a b c d p q : Int} (h : FR a b p) (h' : c * WW = q * d) (c0 : 0 < c) (c1 : c ≤ 100000) (d0 : 0 < d) (d1 : d ≤ 100000) (q0 : 0 < q) (hp : p < 70368744177664) : f_M_isMultiple K a b c d F B = some (if p % q = 0 then 1 else 0, F, B) := by
  have hb := FR_b h
  have hw : WW = 812851200 := rfl
  have bc : 0 < b * c := Int.mul_pos h.1 c0
  have bc2 : b * c ≤ 812851200 * 100000 := Int.mul_le_mul (by first | decide | omega) c1 (by first | decide | omega) (by first | decide | omega)
  have ad : 0 ≤ a * d := Int.mul_nonneg h.2.2.1 (by first | decide | omega)
  have ad2 : a * d ≤ 70368744177664 * 100000 := Int.mul_le_mul (by first | decide | omega) d1 (by first | decide | omega) (by first | decide | omega)
  have m0 : 0 ≤ a * d % (b * c) := Int.emod_nonneg _ (by first | decide | omega)
  have m1 : a * d % (b * c) < b * c := Int.emod_lt_of_pos _ bc
  have k := (div_FR h.2.2.2 h' h.1 c0 d0 q0).2
  unfold f_M_isMultiple f_M_isMultiple_19
  rw [if_pos (lI_n0 bc (by first | decide | omega)), zlrm_e ad (by first | decide | omega) bc (by first | decide | omega), if_pos (by first | decide | omega)]
  by_cases z : a * d % (b * c) = 0
  · rw [if_pos (zcmp_0.mpr z), if_pos (by decide), if_pos (k.mp z)]
  · rw [if_neg (fun w => z (zcmp_0.mp w)), if_pos (by decide), if_neg (fun w => z (k.mpr w))]
end
end
section
section
/-! ===== a value times the slows around: both sides ===== -/
def cap (x : Int) : Int := if x ≤ 1024 then x else -1
theorem cap_big {x m : Int} (h : 1024 < x) (hm : 1 ≤ m) : cap (x * m) = -1 := by
  have : x * 1 ≤ x * m := Int.mul_le_mul_of_nonneg_left hm (by first | decide | omega)
  unfold cap
  rw [if_neg (by first | decide | omega)]
theorem pw_1 {P : Int} (h : 1 ≤ P) (j : Nat) : 1 ≤ P ^ j := by
  induction j with
  | zero => rw [Int.pow_zero]; decide
  | succ j ih =>
    rw [Int.pow_succ]
    have : 1 * 1 ≤ P ^ j * P := Int.mul_le_mul ih h (by decide) (by first | decide | omega)
    omega
theorem ml_1 {a b : Int} (h : 1 ≤ a) (h' : 1 ≤ b) : 1 ≤ a * b := by
  have : 1 * 1 ≤ a * b := Int.mul_le_mul h h' (by decide) (by first | decide | omega)
  omega
theorem V265 {K : Nat} {F : zF} {B : zB} {u : Int} (h : r32 u) : f_M_valueOf_265 K u F B = some (cap u, F, B) := by
  unfold f_M_valueOf_265 f_M_valueOf_279 cap
  rw [if_pos h]
  split <;> rfl
theorem V237 {K : Nat} {F : zF} {B : zB} {e : Int} (he : r32 e) : ∀ (j n : Nat) {l u : Int}, 0 ≤ l → l ≤ e → (e - l).toNat = j → j < n → 1 ≤ u → u ≤ 10000 → f_M_valueOf_237 K n l u e F B = some (cap (u * 7 ^ j), F, B) := by
  unfold r32 at he
  intro j
  induction j with
  | zero =>
    intro n l u h0 h1 hj hn u0 u1
    obtain ⟨n, rfl⟩ : ∃ m, n = m + 1 := ⟨n - 1, (by first | decide | omega)⟩
    unfold f_M_valueOf_237
    rw [if_pos (by unfold r32; omega), if_pos he, if_pos (by first | decide | omega), V265 (by unfold r32; omega), Int.pow_zero, Int.mul_one]
  | succ j ih =>
    intro n l u h0 h1 hj hn u0 u1
    obtain ⟨n, rfl⟩ : ∃ m, n = m + 1 := ⟨n - 1, (by first | decide | omega)⟩
    unfold f_M_valueOf_237
    rw [if_pos (by unfold r32; omega), if_pos he, if_neg (by first | decide | omega), if_pos (by unfold r32; omega)]
    by_cases b : 1024 < u
    · rw [if_pos b, V265 (by unfold r32; omega), cap_big b (pw_1 (by decide) _)]
      unfold cap
      rw [if_neg (by first | decide | omega)]
    · rw [if_neg b, ih n (by first | decide | omega) (by first | decide | omega) (by first | decide | omega) (by first | decide | omega) (by first | decide | omega) (by first | decide | omega), Int.pow_succ, Int.mul_comm (7 ^ j), Int.mul_assoc]
theorem V203 {K : Nat} {F : zF} {B : zB} {e s : Int} (hb : B 14 0 51 5 = e) (he : r32 e) (hs : r32 s) (s0 : 0 ≤ s) (hK : s < K) : ∀ (j n : Nat) {l u : Int}, 0 ≤ l → l ≤ e → (e - l).toNat = j → j < n → 1 ≤ u → u ≤ 10000 → f_M_valueOf_203 K n l u s F B = some (cap (u * 5 ^ j * 7 ^ s.toNat), F, B) := by
  have z7 : ∀ {u : Int}, 1 ≤ u → u ≤ 10000 → f_M_valueOf_234 K u s F B = some (cap (u * 7 ^ s.toNat), F, B) := fun {u} a b => by
    unfold f_M_valueOf_234
    exact V237 hs s.toNat K (Int.le_refl _) s0 (by first | decide | omega) (by first | decide | omega) a b
  unfold r32 at he
  intro j
  induction j with
  | zero =>
    intro n l u h0 h1 hj hn u0 u1
    obtain ⟨n, rfl⟩ : ∃ m, n = m + 1 := ⟨n - 1, (by first | decide | omega)⟩
    unfold f_M_valueOf_203
    rw [hb, if_pos (by unfold r32; omega), if_pos he, if_pos (by first | decide | omega), z7 u0 u1, Int.pow_zero, Int.mul_one]
  | succ j ih =>
    intro n l u h0 h1 hj hn u0 u1
    obtain ⟨n, rfl⟩ : ∃ m, n = m + 1 := ⟨n - 1, (by first | decide | omega)⟩
    unfold f_M_valueOf_203
    rw [hb, if_pos (by unfold r32; omega), if_pos he, if_neg (by first | decide | omega), if_pos (by unfold r32; omega)]
    by_cases b : 1024 < u
    · rw [if_pos b, z7 u0 u1, cap_big b (pw_1 (by decide) _), Int.mul_assoc, cap_big b (ml_1 (pw_1 (by decide) _) (pw_1 (by decide) _))]
    · rw [if_neg b, ih n (by first | decide | omega) (by first | decide | omega) (by first | decide | omega) (by first | decide | omega) (by first | decide | omega) (by first | decide | omega), Int.pow_succ, Int.mul_comm (5 ^ j), Int.mul_assoc u 5]
theorem V173 {K : Nat} {F : zF} {B : zB} {e s f : Int} (hb : B 14 0 51 5 = f) (hf : r32 f) (f0 : 0 ≤ f) (fK : f < K) (he : r32 e) (hs : r32 s) (s0 : 0 ≤ s) (hK : s < K) : ∀ (j n : Nat) {l u : Int}, 0 ≤ l → l ≤ e → (e - l).toNat = j → j < n → 1 ≤ u → u ≤ 10000 → f_M_valueOf_173 K n l u s e F B = some (cap (u * 3 ^ j * (5 ^ f.toNat * 7 ^ s.toNat)), F, B) := by
  have z7 : ∀ {u : Int}, 1 ≤ u → u ≤ 10000 → f_M_valueOf_200 K u s F B = some (cap (u * (5 ^ f.toNat * 7 ^ s.toNat)), F, B) := fun {u} a b => by
    unfold f_M_valueOf_200
    rw [V203 hb hf hs s0 hK f.toNat K (Int.le_refl _) f0 (by first | decide | omega) (by first | decide | omega) a b, Int.mul_assoc]
  unfold r32 at he
  intro j
  induction j with
  | zero =>
    intro n l u h0 h1 hj hn u0 u1
    obtain ⟨n, rfl⟩ : ∃ m, n = m + 1 := ⟨n - 1, (by first | decide | omega)⟩
    unfold f_M_valueOf_173
    rw [if_pos (by unfold r32; omega), if_pos he, if_pos (by first | decide | omega), z7 u0 u1, Int.pow_zero, Int.mul_one]
  | succ j ih =>
    intro n l u h0 h1 hj hn u0 u1
    obtain ⟨n, rfl⟩ : ∃ m, n = m + 1 := ⟨n - 1, (by first | decide | omega)⟩
    unfold f_M_valueOf_173
    rw [if_pos (by unfold r32; omega), if_pos he, if_neg (by first | decide | omega), if_pos (by unfold r32; omega)]
    by_cases b : 1024 < u
    · rw [if_pos b, z7 u0 u1, cap_big b (ml_1 (pw_1 (by decide) _) (pw_1 (by decide) _)), Int.mul_assoc, cap_big b (ml_1 (pw_1 (by decide) _) (ml_1 (pw_1 (by decide) _) (pw_1 (by decide) _)))]
    · rw [if_neg b, ih n (by first | decide | omega) (by first | decide | omega) (by first | decide | omega) (by first | decide | omega) (by first | decide | omega) (by first | decide | omega), Int.pow_succ, Int.mul_comm (3 ^ j), Int.mul_assoc u 3]
theorem V144 {K : Nat} {F : zF} {B : zB} {e s f t : Int} (hb : B 14 0 51 5 = f) (hf : r32 f) (f0 : 0 ≤ f) (fK : f < K) (ht : r32 t) (t0 : 0 ≤ t) (tK : t < K) (he : r32 e) (hs : r32 s) (s0 : 0 ≤ s) (hK : s < K) : ∀ (j n : Nat) {l u : Int}, 0 ≤ l → l ≤ e → (e - l).toNat = j → j < n → 1 ≤ u → u ≤ 10000 → f_M_valueOf_144 K n l u s t e F B = some (cap (u * 2 ^ j * (3 ^ t.toNat * (5 ^ f.toNat * 7 ^ s.toNat))), F, B) := by
  have z7 : ∀ {u : Int}, 1 ≤ u → u ≤ 10000 → f_M_valueOf_170 K u s t F B = some (cap (u * (3 ^ t.toNat * (5 ^ f.toNat * 7 ^ s.toNat))), F, B) := fun {u} a b => by
    unfold f_M_valueOf_170
    rw [V173 hb hf f0 fK ht hs s0 hK t.toNat K (Int.le_refl _) t0 (by first | decide | omega) (by first | decide | omega) a b, Int.mul_assoc]
  unfold r32 at he
  intro j
  induction j with
  | zero =>
    intro n l u h0 h1 hj hn u0 u1
    obtain ⟨n, rfl⟩ : ∃ m, n = m + 1 := ⟨n - 1, (by first | decide | omega)⟩
    unfold f_M_valueOf_144
    rw [if_pos (by unfold r32; omega), if_pos he, if_pos (by first | decide | omega), z7 u0 u1, Int.pow_zero, Int.mul_one]
  | succ j ih =>
    intro n l u h0 h1 hj hn u0 u1
    obtain ⟨n, rfl⟩ : ∃ m, n = m + 1 := ⟨n - 1, (by first | decide | omega)⟩
    unfold f_M_valueOf_144
    rw [if_pos (by unfold r32; omega), if_pos he, if_neg (by first | decide | omega), if_pos (by unfold r32; omega)]
    have h35 : ∀ (a b c : Nat), (1 : Int) ≤ 3 ^ a * (5 ^ b * 7 ^ c) := fun a b c => ml_1 (pw_1 (by decide) _) (ml_1 (pw_1 (by decide) _) (pw_1 (by decide) _))
    by_cases b : 1024 < u
    · rw [if_pos b, z7 u0 u1, cap_big b (h35 _ _ _), Int.mul_assoc, cap_big b (ml_1 (pw_1 (by decide) _) (h35 _ _ _))]
    · rw [if_neg b, ih n (by first | decide | omega) (by first | decide | omega) (by first | decide | omega) (by first | decide | omega) (by first | decide | omega) (by first | decide | omega), Int.pow_succ, Int.mul_comm (2 ^ j), Int.mul_assoc u 2]
/-- what both answer -/
def slV (a b c d : Int) : Int := if 0 ≤ a ∧ 0 ≤ b ∧ 0 ≤ c ∧ 0 ≤ d then cap (2 ^ a.toNat * (3 ^ b.toNat * (5 ^ c.toNat * 7 ^ d.toNat))) else -1
theorem V110 {K : Nat} {F : zF} {B : zB} {a b c s0 s1 : Int} (hb : B 14 0 51 5 = c) (ha : -2000 ≤ a ∧ a ≤ 2000) (hb' : -2000 ≤ b ∧ b ≤ 2000) (hc : -2000 ≤ c ∧ c ≤ 2000) (hs : -2000 ≤ s0 + s1 ∧ s0 + s1 ≤ 2000) (hK : 2000 < K) : f_M_valueOf_110 K b a s0 s1 F B = some (slV a b c (s0 + s1), F, B) := by
  unfold f_M_valueOf_110 f_M_valueOf_136 slV
  rw [hb, if_pos (by unfold r32; omega)]
  by_cases h1 : a < 0
  · rw [if_pos h1, if_neg (by first | decide | omega)]
  rw [if_neg h1, if_pos (by unfold r32; omega)]
  by_cases h2 : b < 0
  · rw [if_pos h2, if_neg (by first | decide | omega)]
  rw [if_neg h2, if_pos (by unfold r32; omega)]
  by_cases h3 : c < 0
  · rw [if_pos h3, if_neg (by first | decide | omega)]
  rw [if_neg h3, if_pos (by unfold r32; omega)]
  by_cases h4 : 0 ≤ s0 + s1
  · rw [if_pos h4, if_pos (by first | decide | omega), V144 hb (by unfold r32; omega) (by first | decide | omega) (by first | decide | omega) (by unfold r32; omega) (by first | decide | omega) (by first | decide | omega) (by unfold r32; omega) (by unfold r32; omega) h4 (by first | decide | omega) a.toNat K (Int.le_refl _) (by first | decide | omega) (by first | decide | omega) (by first | decide | omega) (by decide) (by decide), Int.one_mul]
  · rw [if_neg h4, if_neg (by first | decide | omega)]
/-- the twos of a length -/
def lg2 (n : Int) : Int := if n = 1 then 0 else if n = 2 then 1 else if n = 4 then 2 else if n = 8 then 3 else if n = 16 then 4 else 5
theorem V55 {K n : Nat} {F : zF} {B : zB} {a q : Int} (h : pw2 q) (hn : 6 ≤ n) : ∃ m, f_M_valueOf_55 K n q a 1 F B = f_M_valueOf_55 K (m + 1) 1 (a - lg2 q) 1 F B ∧ f_M_valueOf_55 K n q a 3 F B = f_M_valueOf_55 K (m + 1) 1 (a - lg2 q) 3 F B ∧ f_M_valueOf_55 K n q a 7 F B = f_M_valueOf_55 K (m + 1) 1 (a - lg2 q) 7 F B := by
  have st : ∀ (m : Nat) (q a t : Int), r32 q → 1 < q → f_M_valueOf_55 K (m + 1) q a t F B = f_M_valueOf_55 K m (zdv q 2) (a - 1) t F B := fun m q a t h1 h2 => by
    rw [f_M_valueOf_55, if_pos h1, if_neg (by first | decide | omega)]
  obtain ⟨n, rfl⟩ : ∃ m, n = m + 6 := ⟨n - 6, (by first | decide | omega)⟩
  have e2 : zdv 2 2 = 1 := by decide
  have e4 : zdv 4 2 = 2 := by decide
  have e8 : zdv 8 2 = 4 := by decide
  have e16 : zdv 16 2 = 8 := by decide
  have e32 : zdv 32 2 = 16 := by decide
  have g : ∀ t, ∃ m, m ≤ n + 5 ∧ m = n + 5 - (lg2 q).toNat ∧ f_M_valueOf_55 K (n + 6) q a t F B = f_M_valueOf_55 K (m + 1) 1 (a - lg2 q) t F B := by
    intro t
    rcases h with rfl | rfl | rfl | rfl | rfl | rfl
    · exact ⟨n + 5, (by first | decide | omega), rfl, by rw [show lg2 1 = 0 by decide, Int.sub_zero]⟩
    · exact ⟨n + 4, (by first | decide | omega), rfl, by rw [show lg2 2 = 1 by decide, st _ _ _ _ (by decide) (by decide), e2]⟩
    · exact ⟨n + 3, (by first | decide | omega), rfl, by rw [show lg2 4 = 2 by decide, st _ _ _ _ (by decide) (by decide), e4, st _ _ _ _ (by decide) (by decide), e2, Int.sub_sub]; rfl⟩
    · exact ⟨n + 2, (by first | decide | omega), rfl, by rw [show lg2 8 = 3 by decide, st _ _ _ _ (by decide) (by decide), e8, st _ _ _ _ (by decide) (by decide), e4, st _ _ _ _ (by decide) (by decide), e2, Int.sub_sub, Int.sub_sub]; rfl⟩
    · exact ⟨n + 1, (by first | decide | omega), rfl, by rw [show lg2 16 = 4 by decide, st _ _ _ _ (by decide) (by decide), e16, st _ _ _ _ (by decide) (by decide), e8, st _ _ _ _ (by decide) (by decide), e4, st _ _ _ _ (by decide) (by decide), e2, Int.sub_sub, Int.sub_sub, Int.sub_sub]; rfl⟩
    · exact ⟨n, (by first | decide | omega), rfl, by rw [show lg2 32 = 5 by decide, st _ _ _ _ (by decide) (by decide), e32, st _ _ _ _ (by decide) (by decide), e16, st _ _ _ _ (by decide) (by decide), e8, st _ _ _ _ (by decide) (by decide), e4, st _ _ _ _ (by decide) (by decide), e2, Int.sub_sub, Int.sub_sub, Int.sub_sub, Int.sub_sub]; rfl⟩
  obtain ⟨m1, _, e1, g1⟩ := g 1
  obtain ⟨m2, _, e3, g2⟩ := g 3
  obtain ⟨m3, _, e5, g3⟩ := g 7
  have k1 : m2 = m1 := by omega
  have k2 : m3 = m1 := by omega
  rw [k1] at g2
  rw [k2] at g3
  exact ⟨m1, g1, g2, g3⟩
theorem L_valueOf {K : Nat} {F : zF} {B : zB} {i n p : Int} (hi : 0 ≤ i ∧ i < 3001) (h32 : B 14 0 32 i = n) (h33 : B 14 0 33 i = p) (hn : pw2 n) (hp : 0 ≤ p ∧ p ≤ 2) (hpw : ∀ k, k = 2 ∨ k = 3 ∨ k = 5 ∨ k = 7 → -1000 ≤ B 14 0 51 k ∧ B 14 0 51 k ≤ 1000) (hK : 3000 < K) : f_M_valueOf K i F B = some (slV (B 14 0 51 2 + 7 - p - lg2 n) (B 14 0 51 3 + (if p = 1 then 1 else 0)) (B 14 0 51 5) (B 14 0 51 7 + (if p = 2 then 1 else 0)), F, B) := by
  have b2 := hpw 2 (by decide)
  have b3 := hpw 3 (by decide)
  have b5 := hpw 5 (by decide)
  have b7 := hpw 7 (by decide)
  have hl : 0 ≤ lg2 n ∧ lg2 n ≤ 5 := by
    rcases hn with rfl | rfl | rfl | rfl | rfl | rfl <;> decide
  obtain ⟨m, g1, g3, g7⟩ := V55 (K := K) (n := K) (F := F) (B := B) (a := B 14 0 51 2 + 7 - p) hn (by first | decide | omega)
  unfold f_M_valueOf f_M_valueOf_29
  rw [if_pos hi, h33, h32, if_pos (by unfold r32; omega)]
  simp only [if_pos hi]
  by_cases p0 : p = 0
  · rw [if_pos p0, g1, f_M_valueOf_55, if_pos (by decide), if_pos (by decide), if_pos (by decide), if_neg (by decide), f_M_valueOf_89, if_pos (by decide), if_neg (by decide), V110 rfl (by first | decide | omega) (by first | decide | omega) (by first | decide | omega) (by first | decide | omega) (by first | decide | omega), if_neg (by first | decide | omega), if_neg (by first | decide | omega)]
  rw [if_neg p0]
  by_cases p1 : p = 1
  · rw [if_pos p1, g3, f_M_valueOf_55, if_pos (by decide), if_pos (by decide), if_pos (by decide), if_pos rfl, f_M_valueOf_89, if_pos (by decide), if_neg (by decide), V110 rfl (by first | decide | omega) (by first | decide | omega) (by first | decide | omega) (by first | decide | omega) (by first | decide | omega), if_pos p1, if_neg (by first | decide | omega)]
  · rw [if_neg p1, g7, f_M_valueOf_55, if_pos (by decide), if_pos (by decide), if_pos (by decide), if_neg (by decide), f_M_valueOf_89, if_pos (by decide), if_pos rfl, V110 rfl (by first | decide | omega) (by first | decide | omega) (by first | decide | omega) (by first | decide | omega) (by first | decide | omega), if_neg p1, if_pos (by first | decide | omega)]
end
end
section
section
/-! ===== the class's value times the slows around ===== -/
theorem zt6l : ztl 6 = 4 := by decide
theorem zt6_0 : ztv 6 0 = 2 := by decide
theorem zt6_1 : ztv 6 1 = 3 := by decide
theorem zt6_2 : ztv 6 2 = 5 := by decide
theorem zt6_3 : ztv 6 3 = 7 := by decide
theorem zdm_e : ∀ x : Fin 1025, ∀ p ∈ [2, 3, 5, 7], zrm (x.val : Int) p = (x.val : Int) % p ∧ zdv (x.val : Int) p = (x.val : Int) / p := by decide +kernel
theorem zdm {x p : Int} (h0 : 0 ≤ x) (h1 : x ≤ 1024) (hp : p = 2 ∨ p = 3 ∨ p = 5 ∨ p = 7) : zrm x p = x % p ∧ zdv x p = x / p := by
  have h := zdm_e ⟨x.toNat, (by first | decide | omega)⟩ p (by rcases hp with rfl | rfl | rfl | rfl <;> decide)
  rw [show (((⟨x.toNat, (by first | decide | omega)⟩ : Fin 1025).val : Nat) : Int) = x by show ((x.toNat : Nat) : Int) = x; omega] at h
  exact h
/-- multiplied up -/
theorem S70 {rec : Int → Int → Int → zF → zB → zO} {K : zK} {F : zF} {B : zB} {P m q e : Int} (h11 : 0 < K.2 11) (hq : 0 ≤ q ∧ q < 4) (hP : ztv 6 q = P) (P2 : 2 ≤ P ∧ P ≤ 7) (he : B 11 0 14 q = e) (hm : 1 ≤ m) (e1 : -2000 ≤ e ∧ e ≤ 2000) (hr : ∀ x, 1 ≤ x → x ≤ 1024 → rec (q + 1) x 0 F B = some (cap (x * m), F, B)) : ∀ (j n : Nat) {l x : Int}, 0 ≤ l → l ≤ 2000 → (e - l).toNat = j → j < n → 1 ≤ x → x ≤ 1024 → f_Walker_slowed_70 rec K n l q x 0 F B = some (cap (x * P ^ j * m), F, B) := by
  intro j
  induction j with
  | zero =>
    intro n l x h0 h1 hj hn x0 x1
    obtain ⟨n, rfl⟩ : ∃ m, n = m + 1 := ⟨n - 1, (by first | decide | omega)⟩
    unfold f_Walker_slowed_70
    rw [if_pos ⟨Int.le_refl _, h11⟩, if_pos hq, he, if_pos (by unfold r32; omega), if_pos (by unfold r32; omega), if_pos (by first | decide | omega), hr x x0 x1, Int.pow_zero, Int.mul_one]
  | succ j ih =>
    intro n l x h0 h1 hj hn x0 x1
    obtain ⟨n, rfl⟩ : ∃ m, n = m + 1 := ⟨n - 1, (by first | decide | omega)⟩
    have xP : 1 ≤ x * P := ml_1 x0 (by first | decide | omega)
    have xP2 : x * P ≤ 1024 * 7 := Int.mul_le_mul x1 P2.2 (by first | decide | omega) (by decide)
    unfold f_Walker_slowed_70
    rw [if_pos ⟨Int.le_refl _, h11⟩, if_pos hq, he, if_pos (by unfold r32; omega), if_pos (by unfold r32; omega), if_neg (by first | decide | omega), if_pos (by rw [zt6l]; omega), hP, if_pos (by unfold r32; omega)]
    have ee : x * P ^ (j + 1) * m = x * P * (P ^ j * m) := by
      rw [Int.pow_succ]
      ac_rfl
    by_cases b : x * P ≤ 1024
    · rw [if_pos b, ih n (by first | decide | omega) (by first | decide | omega) (by first | decide | omega) (by first | decide | omega) xP b, ee]
      congr 3
      ac_rfl
    · rw [if_neg b, ee, cap_big (by first | decide | omega) (ml_1 (pw_1 (by first | decide | omega) _) hm)]
/-- divided down -/
theorem S20 {rec : Int → Int → Int → zF → zB → zO} {K : zK} {F : zF} {B : zB} {P q r : Int} (hq : 0 ≤ q ∧ q < 4) (hP : ztv 6 q = P) (hP7 : P = 2 ∨ P = 3 ∨ P = 5 ∨ P = 7) (hr0 : 1 ≤ r) (hr : ¬ r % P = 0) : ∀ (j n k : Nat) {l : Int}, -2000 ≤ l → l ≤ 2000 → (-l).toNat = j → j < n → P ^ k * r ≤ 1024 → f_Walker_slowed_20 rec K n l q (P ^ k * r) 0 F B = if j ≤ k then rec (q + 1) (P ^ (k - j) * r) 0 F B else some (-1, F, B) := by
  have P2 : 2 ≤ P ∧ P ≤ 7 := by omega
  intro j
  induction j with
  | zero =>
    intro n k l h0 h1 hj hn hx
    obtain ⟨n, rfl⟩ : ∃ m, n = m + 1 := ⟨n - 1, (by first | decide | omega)⟩
    unfold f_Walker_slowed_20
    rw [if_pos (by unfold r32; omega), if_pos (by first | decide | omega), if_pos (by first | decide | omega), Nat.sub_zero]
  | succ j ih =>
    intro n k l h0 h1 hj hn hx
    obtain ⟨n, rfl⟩ : ∃ m, n = m + 1 := ⟨n - 1, (by first | decide | omega)⟩
    have x0 : 1 ≤ P ^ k * r := ml_1 (pw_1 (by first | decide | omega) _) hr0
    obtain ⟨z1, z2⟩ := zdm (x := P ^ k * r) (by first | decide | omega) hx hP7
    have m0 : 0 ≤ (P ^ k * r) % P := Int.emod_nonneg _ (by first | decide | omega)
    have m1 : (P ^ k * r) % P < P := Int.emod_lt_of_pos _ (by first | decide | omega)
    unfold f_Walker_slowed_20
    rw [if_pos (by unfold r32; omega), if_neg (by first | decide | omega), if_pos (by rw [zt6l]; omega), hP, if_pos (iI_n0 (by first | decide | omega) (by first | decide | omega)), z1, z2, if_pos (by unfold r32; omega)]
    cases k with
    | zero =>
      rw [Int.pow_zero, Int.one_mul, if_neg hr, if_neg (by first | decide | omega)]
    | succ k =>
      have ee : P ^ (k + 1) * r = P * (P ^ k * r) := by
        rw [Int.pow_succ]
        ac_rfl
      have e0 : P ^ (k + 1) * r % P = 0 := by rw [ee]; exact Int.mul_emod_right _ _
      have e1 : P ^ (k + 1) * r / P = P ^ k * r := by rw [ee]; exact Int.mul_ediv_cancel_left _ (by first | decide | omega)
      have e2 : P ^ k * r ≤ 1024 := by
        have : 1 ≤ P ^ k * r := ml_1 (pw_1 (by first | decide | omega) _) hr0
        have : 1 * (P ^ k * r) ≤ P * (P ^ k * r) := Int.mul_le_mul_of_nonneg_right (by first | decide | omega) (by first | decide | omega)
        omega
      rw [if_pos e0, e1, ih n k (by first | decide | omega) (by first | decide | omega) (by first | decide | omega) (by first | decide | omega) e2]
      by_cases c : j ≤ k
      · rw [if_pos c, if_pos (by first | decide | omega), Nat.add_sub_add_right]
      · rw [if_neg c, if_neg (by first | decide | omega)]
/-- all four multiplied -/
theorem S59 {K : zK} {F : zF} {B : zB} {e0 e1 e2 e3 : Int} {n : Nat} (h11 : 0 < K.2 11) (hK : 2000 < K.1) (hn : 5 ≤ n) (h0 : B 11 0 14 0 = e0) (h1 : B 11 0 14 1 = e1) (h2 : B 11 0 14 2 = e2) (h3 : B 11 0 14 3 = e3) (b0 : -2000 ≤ e0 ∧ e0 ≤ 2000) (b1 : -2000 ≤ e1 ∧ e1 ≤ 2000) (b2 : -2000 ≤ e2 ∧ e2 ≤ 2000) (b3 : -2000 ≤ e3 ∧ e3 ≤ 2000) {x : Int} (x0 : 1 ≤ x) (x1 : x ≤ 1024) : f_Walker_slowed_59 K n 0 x 0 F B = some (cap (x * (2 ^ e0.toNat * (3 ^ e1.toNat * (5 ^ e2.toNat * 7 ^ e3.toNat)))), F, B) := by
  obtain ⟨n, rfl⟩ : ∃ m, n = m + 5 := ⟨n - 5, (by first | decide | omega)⟩
  have i4 : ∀ x, 1 ≤ x → x ≤ 1024 → f_Walker_slowed_59 K (n + 1) (3 + 1) x 0 F B = some (cap (x * 1), F, B) := fun x a b => by
    unfold f_Walker_slowed_59 f_Walker_slowed_122 cap
    rw [zt6l, if_pos (by decide), if_pos (by decide), if_pos (by decide), if_pos (by unfold r32; omega), Int.mul_one]
    split <;> rfl
  have i3 : ∀ x, 1 ≤ x → x ≤ 1024 → f_Walker_slowed_59 K (n + 2) (2 + 1) x 0 F B = some (cap (x * 7 ^ e3.toNat), F, B) := fun x a b => by
    unfold f_Walker_slowed_59
    rw [zt6l, if_pos (by decide), if_pos (by decide), if_neg (by decide), show (2 : Int) + 1 = 3 by decide, S70 (P := 7) (m := 1) h11 (by decide) zt6_3 (by decide) h3 (by decide) b3 i4 e3.toNat K.1 (by decide) (by decide) (by first | decide | omega) (by first | decide | omega) a b, Int.mul_one]
  have i2 : ∀ x, 1 ≤ x → x ≤ 1024 → f_Walker_slowed_59 K (n + 3) (1 + 1) x 0 F B = some (cap (x * (5 ^ e2.toNat * 7 ^ e3.toNat)), F, B) := fun x a b => by
    unfold f_Walker_slowed_59
    rw [zt6l, if_pos (by decide), if_pos (by decide), if_neg (by decide), show (1 : Int) + 1 = 2 by decide, S70 (P := 5) h11 (by decide) zt6_2 (by decide) h2 (pw_1 (by decide) _) b2 i3 e2.toNat K.1 (by decide) (by decide) (by first | decide | omega) (by first | decide | omega) a b, Int.mul_assoc]
  have i1 : ∀ x, 1 ≤ x → x ≤ 1024 → f_Walker_slowed_59 K (n + 4) (0 + 1) x 0 F B = some (cap (x * (3 ^ e1.toNat * (5 ^ e2.toNat * 7 ^ e3.toNat))), F, B) := fun x a b => by
    unfold f_Walker_slowed_59
    rw [zt6l, if_pos (by decide), if_pos (by decide), if_neg (by decide), show (0 : Int) + 1 = 1 by decide, S70 (P := 3) h11 (by decide) zt6_1 (by decide) h1 (ml_1 (pw_1 (by decide) _) (pw_1 (by decide) _)) b1 i2 e1.toNat K.1 (by decide) (by decide) (by first | decide | omega) (by first | decide | omega) a b, Int.mul_assoc]
  unfold f_Walker_slowed_59
  rw [zt6l, if_pos (by decide), if_pos (by decide), if_neg (by decide), S70 (P := 2) h11 (by decide) zt6_0 (by decide) h0 (ml_1 (pw_1 (by decide) _) (ml_1 (pw_1 (by decide) _) (pw_1 (by decide) _))) b0 i1 e0.toNat K.1 (by decide) (by decide) (by first | decide | omega) (by first | decide | omega) x0 x1, Int.mul_assoc]
theorem nd2 : ∀ b c : Fin 2, ¬ ((3 : Int) ^ b.val * 7 ^ c.val) % 2 = 0 := by decide +kernel
theorem nd3 : ∀ a : Fin 8, ∀ c : Fin 2, ¬ ((2 : Int) ^ a.val * 7 ^ c.val) % 3 = 0 := by decide +kernel
theorem nd5 : ∀ a : Fin 8, ∀ b c : Fin 2, ¬ ((2 : Int) ^ a.val * 3 ^ b.val * 7 ^ c.val) % 5 = 0 := by decide +kernel
theorem nd7 : ∀ a : Fin 8, ∀ b : Fin 2, ¬ ((2 : Int) ^ a.val * 3 ^ b.val) % 7 = 0 := by decide +kernel
theorem ndb : ∀ a : Fin 8, ∀ b c : Fin 2, b.val + c.val ≤ 1 → (2 : Int) ^ a.val * 3 ^ b.val * 7 ^ c.val ≤ 1024 := by decide +kernel
theorem nsub (e : Int) (k : Nat) (h : (-e).toNat ≤ k) : ((k : Int) + e).toNat = k - (-e).toNat + e.toNat := by omega
theorem C_slow {K : zK} {F : zF} {B : zB} {e0 e1 e2 e3 : Int} {a b c : Nat} (ha : a ≤ 7) (hbc : b + c ≤ 1) (h11 : 0 < K.2 11) (hK : 2000 < K.1) (h0 : B 11 0 14 0 = e0) (h1 : B 11 0 14 1 = e1) (h2 : B 11 0 14 2 = e2) (h3 : B 11 0 14 3 = e3) (b0 : -2000 ≤ e0 ∧ e0 ≤ 2000) (b1 : -2000 ≤ e1 ∧ e1 ≤ 2000) (b2 : -2000 ≤ e2 ∧ e2 ≤ 2000) (b3 : -2000 ≤ e3 ∧ e3 ≤ 2000) : f_Walker_slowed K 0 (2 ^ a * 3 ^ b * 7 ^ c) F B = some (slV (a + e0) (b + e1) e2 (c + e3), F, B) := by
  obtain ⟨n, hn⟩ : ∃ m, K.1 = m + 5 := ⟨K.1 - 5, (by first | decide | omega)⟩
  have st : ∀ (m : Nat) (q x : Int), 0 ≤ q → q < 4 → f_Walker_slowed_4 K (m + 1) q x 0 F B = f_Walker_slowed_20 (f_Walker_slowed_4 K m) K K.1 (B 11 0 14 q) q x 0 F B := fun m q x u v => by
    rw [f_Walker_slowed_4, zt6l, if_pos (by unfold r32; omega), if_pos (by decide), if_neg (by first | decide | omega), if_pos ⟨Int.le_refl _, h11⟩, if_pos ⟨u, v⟩]
  have en : ∀ (m : Nat) (x : Int), f_Walker_slowed_4 K (m + 1) 4 x 0 F B = f_Walker_slowed_59 K K.1 0 x 0 F B := fun m x => by
    rw [f_Walker_slowed_4, zt6l, if_pos (by decide), if_pos (by decide), if_pos (by decide)]
  have bd : ∀ (a' b' c' : Nat), a' ≤ 7 → b' ≤ 1 → c' ≤ 1 → b' + c' ≤ 1 → (2 : Int) ^ a' * 3 ^ b' * 7 ^ c' ≤ 1024 := fun a' b' c' u v w s => ndb ⟨a', (by first | decide | omega)⟩ ⟨b', (by first | decide | omega)⟩ ⟨c', (by first | decide | omega)⟩ s
  have lo : ∀ (a' b' c' : Nat), (1 : Int) ≤ 2 ^ a' * 3 ^ b' * 7 ^ c' := fun a' b' c' => ml_1 (ml_1 (pw_1 (by decide) _) (pw_1 (by decide) _)) (pw_1 (by decide) _)
  unfold f_Walker_slowed slV
  rw [hn, st _ _ _ (by decide) (by decide), h0, show (2 : Int) ^ a * 3 ^ b * 7 ^ c = 2 ^ a * (3 ^ b * 7 ^ c) by rw [Int.mul_assoc], S20 (P := 2) (by decide) zt6_0 (by decide) (ml_1 (pw_1 (by decide) _) (pw_1 (by decide) _)) (nd2 ⟨b, (by first | decide | omega)⟩ ⟨c, (by first | decide | omega)⟩) (-e0).toNat K.1 a (by first | decide | omega) (by first | decide | omega) rfl (by first | decide | omega) (by rw [← Int.mul_assoc]; exact bd a b c ha (by first | decide | omega) (by first | decide | omega) (by first | decide | omega))]
  by_cases k0 : (-e0).toNat ≤ a
  case neg => rw [if_neg k0, if_neg (by first | decide | omega)]
  rw [if_pos k0, show (0 : Int) + 1 = 1 by decide, st _ _ _ (by decide) (by decide), h1]
  generalize hA : a - (-e0).toNat = a'
  rw [show (2 : Int) ^ a' * (3 ^ b * 7 ^ c) = 3 ^ b * (2 ^ a' * 7 ^ c) by ac_rfl, S20 (P := 3) (by decide) zt6_1 (by decide) (ml_1 (pw_1 (by decide) _) (pw_1 (by decide) _)) (nd3 ⟨a', (by first | decide | omega)⟩ ⟨c, (by first | decide | omega)⟩) (-e1).toNat K.1 b (by first | decide | omega) (by first | decide | omega) rfl (by first | decide | omega) (by rw [show (3 : Int) ^ b * (2 ^ a' * 7 ^ c) = 2 ^ a' * 3 ^ b * 7 ^ c by ac_rfl]; exact bd a' b c (by first | decide | omega) (by first | decide | omega) (by first | decide | omega) (by first | decide | omega))]
  by_cases k1 : (-e1).toNat ≤ b
  case neg => rw [if_neg k1, if_neg (by first | decide | omega)]
  rw [if_pos k1, show (1 : Int) + 1 = 2 by decide, st _ _ _ (by decide) (by decide), h2]
  generalize hB : b - (-e1).toNat = b'
  rw [show (3 : Int) ^ b' * (2 ^ a' * 7 ^ c) = 5 ^ 0 * (2 ^ a' * 3 ^ b' * 7 ^ c) by rw [Int.pow_zero, Int.one_mul]; ac_rfl, S20 (P := 5) (by decide) zt6_2 (by decide) (lo _ _ _) (nd5 ⟨a', (by first | decide | omega)⟩ ⟨b', (by first | decide | omega)⟩ ⟨c, (by first | decide | omega)⟩) (-e2).toNat K.1 0 (by first | decide | omega) (by first | decide | omega) rfl (by first | decide | omega) (by rw [Int.pow_zero, Int.one_mul]; exact bd a' b' c (by first | decide | omega) (by first | decide | omega) (by first | decide | omega) (by first | decide | omega))]
  by_cases k2 : (-e2).toNat ≤ 0
  case neg => rw [if_neg k2, if_neg (by first | decide | omega)]
  rw [if_pos k2, show (2 : Int) + 1 = 3 by decide, st _ _ _ (by decide) (by decide), h3, Nat.zero_sub, Int.pow_zero, Int.one_mul, show (2 : Int) ^ a' * 3 ^ b' * 7 ^ c = 7 ^ c * (2 ^ a' * 3 ^ b') by ac_rfl, S20 (P := 7) (by decide) zt6_3 (by decide) (ml_1 (pw_1 (by decide) _) (pw_1 (by decide) _)) (nd7 ⟨a', (by first | decide | omega)⟩ ⟨b', (by first | decide | omega)⟩) (-e3).toNat K.1 c (by first | decide | omega) (by first | decide | omega) rfl (by first | decide | omega) (by rw [show (7 : Int) ^ c * (2 ^ a' * 3 ^ b') = 2 ^ a' * 3 ^ b' * 7 ^ c by ac_rfl]; exact bd a' b' c (by first | decide | omega) (by first | decide | omega) (by first | decide | omega) (by first | decide | omega))]
  by_cases k3 : (-e3).toNat ≤ c
  case neg => rw [if_neg k3, if_neg (by first | decide | omega)]
  rw [if_pos k3, if_pos (by first | decide | omega)]
  generalize hC : c - (-e3).toNat = c'
  rw [show (3 : Int) + 1 = 4 by decide, en, show (7 : Int) ^ c' * (2 ^ a' * 3 ^ b') = 2 ^ a' * 3 ^ b' * 7 ^ c' by ac_rfl, S59 h11 hK (by first | decide | omega) h0 h1 h2 h3 b0 b1 b2 b3 (lo _ _ _) (bd a' b' c' (by first | decide | omega) (by first | decide | omega) (by first | decide | omega) (by first | decide | omega)), nsub e0 a k0, nsub e1 b k1, nsub e3 c k3, hA, hB, hC]
  congr 3
  rw [Int.pow_add, Int.pow_add, Int.pow_add]
  ac_rfl
end
end
section
section
/-! ===== lengths as powers; the powers of slows ===== -/
theorem lenV_e {n p : Int} (hn : pw2 n) (hp : 0 ≤ p ∧ p ≤ 2) : lenV n p = 2 ^ (7 - p - lg2 n).toNat * 3 ^ (if p = 1 then 1 else 0) * 7 ^ (if p = 2 then 1 else 0) ∧ 0 ≤ 7 - p - lg2 n ∧ 7 - p - lg2 n ≤ 7 := by
  have h : p = 0 ∨ p = 1 ∨ p = 2 := by omega
  rcases h with rfl | rfl | rfl <;> rcases hn with rfl | rfl | rfl | rfl | rfl | rfl <;> decide +kernel
theorem C_slowed {K : zK} {F : zF} {B : zB} {n p v : Int} (hv : v = lenV n p) (hn : pw2 n) (hp : 0 ≤ p ∧ p ≤ 2) (h11 : 0 < K.2 11) (hK : 2000 < K.1) (hb : ∀ q, 0 ≤ q → q < 4 → -1000 ≤ B 11 0 14 q ∧ B 11 0 14 q ≤ 1000) : f_Walker_slowed K 0 v F B = some (slV (B 11 0 14 0 + 7 - p - lg2 n) (B 11 0 14 1 + (if p = 1 then 1 else 0)) (B 11 0 14 2) (B 11 0 14 3 + (if p = 2 then 1 else 0)), F, B) := by
  obtain ⟨e, l0, l1⟩ := lenV_e hn hp
  have b0 := hb 0 (by decide) (by decide)
  have b1 := hb 1 (by decide) (by decide)
  have b2 := hb 2 (by decide) (by decide)
  have b3 := hb 3 (by decide) (by decide)
  have hc := C_slow (K := K) (F := F) (B := B) (a := (7 - p - lg2 n).toNat) (b := if p = 1 then 1 else 0) (c := if p = 2 then 1 else 0) (by first | decide | omega) (by split <;> split <;> omega) h11 hK rfl rfl rfl rfl (by first | decide | omega) (by first | decide | omega) (by first | decide | omega) (by first | decide | omega)
  rw [hv, e, hc]
  congr 3
  · omega
  · split <;> omega
  · split <;> omega
def exN (p x : Int) : Nat := if x % p = 0 then (if x / p % p = 0 then (if x / p / p % p = 0 then 3 else 2) else 1) else 0
def rmN (p x : Int) : Int := x / p ^ exN p x
theorem exN_f : ∀ x : Fin 9, 1 ≤ x.val → ∀ p ∈ [(2 : Int), 3, 5, 7], (exN p x.val ≤ 3 ∧ (x.val : Int) = p ^ exN p x.val * rmN p x.val ∧ ¬ rmN p x.val % p = 0 ∧ 1 ≤ rmN p x.val ∧ rmN p x.val ≤ 8) := by decide +kernel
theorem exN_g : ∀ x : Fin 9, 1 ≤ x.val → (exN 3 (rmN 2 x.val) = exN 3 x.val ∧ exN 5 (rmN 3 (rmN 2 x.val)) = exN 5 x.val ∧ exN 7 (rmN 5 (rmN 3 (rmN 2 x.val))) = exN 7 x.val ∧ ¬ rmN 3 (rmN 2 x.val) % 4 = 0 ∧ ¬ rmN 5 (rmN 3 (rmN 2 x.val)) % 6 = 0) := by decide +kernel
theorem exN_e {x p : Int} (h0 : 1 ≤ x) (h1 : x ≤ 8) (hp : p = 2 ∨ p = 3 ∨ p = 5 ∨ p = 7) : exN p x ≤ 3 ∧ x = p ^ exN p x * rmN p x ∧ ¬ rmN p x % p = 0 ∧ 1 ≤ rmN p x ∧ rmN p x ≤ 8 := by
  have h := exN_f ⟨x.toNat, (by first | decide | omega)⟩ (by show 1 ≤ x.toNat; omega) p (by rcases hp with rfl | rfl | rfl | rfl <;> decide)
  rw [show (((⟨x.toNat, (by first | decide | omega)⟩ : Fin 9).val : Nat) : Int) = x by show ((x.toNat : Nat) : Int) = x; omega] at h
  exact h
theorem exN_h {x : Int} (h0 : 1 ≤ x) (h1 : x ≤ 8) : exN 3 (rmN 2 x) = exN 3 x ∧ exN 5 (rmN 3 (rmN 2 x)) = exN 5 x ∧ exN 7 (rmN 5 (rmN 3 (rmN 2 x))) = exN 7 x ∧ ¬ rmN 3 (rmN 2 x) % 4 = 0 ∧ ¬ rmN 5 (rmN 3 (rmN 2 x)) % 6 = 0 := by
  have h := exN_g ⟨x.toNat, (by first | decide | omega)⟩ (by show 1 ≤ x.toNat; omega)
  rw [show (((⟨x.toNat, (by first | decide | omega)⟩ : Fin 9).val : Nat) : Int) = x by show ((x.toNat : Nat) : Int) = x; omega] at h
  exact h
theorem zd8_e : ∀ x : Fin 9, ∀ p : Fin 8, 2 ≤ p.val → zrm (x.val : Int) (p.val : Int) = (x.val : Int) % (p.val : Int) ∧ zdv (x.val : Int) (p.val : Int) = (x.val : Int) / (p.val : Int) := by decide +kernel
theorem zd8 {x p : Int} (h0 : 0 ≤ x) (h1 : x ≤ 8) (p0 : 2 ≤ p) (p1 : p ≤ 7) : zrm x p = x % p ∧ zdv x p = x / p := by
  have h := zd8_e ⟨x.toNat, (by first | decide | omega)⟩ ⟨p.toNat, (by first | decide | omega)⟩ (by show 2 ≤ p.toNat; omega)
  rw [show (((⟨x.toNat, (by first | decide | omega)⟩ : Fin 9).val : Nat) : Int) = x by show ((x.toNat : Nat) : Int) = x; omega, show (((⟨p.toNat, (by first | decide | omega)⟩ : Fin 8).val : Nat) : Int) = p by show ((p.toNat : Nat) : Int) = p; omega] at h
  exact h
/-- cell x of row (c, 0, k) grew by v -/
def grew (c k : Nat) (x v : Int) (B B' : zB) : Prop := B' c 0 k x = B c 0 k x + v ∧ ∀ c' i' k' x', ¬ (c' = c ∧ i' = 0 ∧ k' = k ∧ x' = x) → B' c' i' k' x' = B c' i' k' x'
theorem grew_0 {c k : Nat} {x : Int} {B : zB} : grew c k x 0 B B := ⟨(by first | decide | omega), fun _ _ _ _ _ => rfl⟩
theorem grew_s {c k : Nat} {x v w : Int} {B B' : zB} (h : grew c k x v (zup4 B c 0 k x (B c 0 k x + w)) B') : grew c k x (v + w) B B' := ⟨by rw [h.1, zup4_v, if_pos ⟨rfl, rfl, rfl, rfl⟩]; omega, fun c' i' k' x' n => by rw [h.2 c' i' k' x' n, zup4_v, if_neg n]⟩
theorem M17 {rec : Int → Int → Int → Int → zF → zB → zO} {K : zK} {F : zF} {P q s r : Int} (h11 : 0 < K.2 11) (hq : 0 ≤ q ∧ q < 4) (hP : ztv 6 q = P) (hP7 : P = 2 ∨ P = 3 ∨ P = 5 ∨ P = 7) (hr0 : 1 ≤ r) (hr : ¬ r % P = 0) : ∀ (k n : Nat) {l : Int} {B : zB}, 0 ≤ l → l + k ≤ 3 → k < n → P ^ k * r ≤ 8 → ∃ B', f_Walker_multiplySlow_17 rec K n l q (P ^ k * r) 0 s F B = rec (q + 1) r 0 s F B' ∧ grew 11 14 q (k * s) B B' := by
  intro k
  induction k with
  | zero =>
    intro n l B h0 h1 hn hx
    obtain ⟨n, rfl⟩ : ∃ m, n = m + 1 := ⟨n - 1, (by first | decide | omega)⟩
    rw [Int.pow_zero, Int.one_mul] at hx ⊢
    have m0 : 0 ≤ r % P := Int.emod_nonneg _ (by first | decide | omega)
    have m1 : r % P < P := Int.emod_lt_of_pos _ (by first | decide | omega)
    refine ⟨B, ?_, by simpa using grew_0⟩
    unfold f_Walker_multiplySlow_17 f_Walker_multiplySlow_60
    rw [if_pos (by unfold r32; omega), if_neg (by first | decide | omega), if_pos (by rw [zt6l]; omega), hP, if_pos (iI_n0 (by first | decide | omega) (by first | decide | omega)), (zd8 (by first | decide | omega) hx (by first | decide | omega) (by first | decide | omega)).1, if_pos (by unfold r32; omega), if_neg hr]
  | succ k ih =>
    intro n l B h0 h1 hn hx
    obtain ⟨n, rfl⟩ : ∃ m, n = m + 1 := ⟨n - 1, (by first | decide | omega)⟩
    have x0 : 1 ≤ P ^ k * r := ml_1 (pw_1 (by first | decide | omega) _) hr0
    have ee : P ^ (k + 1) * r = P * (P ^ k * r) := by
      rw [Int.pow_succ]
      ac_rfl
    rw [ee] at hx ⊢
    have e0 : P * (P ^ k * r) % P = 0 := Int.mul_emod_right _ _
    have e1 : P * (P ^ k * r) / P = P ^ k * r := Int.mul_ediv_cancel_left _ (by first | decide | omega)
    have e2 : 1 * (P ^ k * r) ≤ P * (P ^ k * r) := Int.mul_le_mul_of_nonneg_right (by first | decide | omega) (by first | decide | omega)
    obtain ⟨z1, z2⟩ := zd8 (x := P * (P ^ k * r)) (p := P) (by first | decide | omega) hx (by first | decide | omega) (by first | decide | omega)
    obtain ⟨B', h, g⟩ := ih n (l := l + 1) (B := zup4 B 11 0 14 q (B 11 0 14 q + s)) (by first | decide | omega) (by first | decide | omega) (by first | decide | omega) (by first | decide | omega)
    refine ⟨B', ?_, ?_⟩
    · unfold f_Walker_multiplySlow_17
      rw [if_pos (by unfold r32; omega), if_neg (by first | decide | omega), if_pos (by rw [zt6l]; omega), hP, if_pos (iI_n0 (by first | decide | omega) (by first | decide | omega)), z1, z2, e0, e1, if_pos (by decide), if_pos rfl, if_pos ⟨Int.le_refl _, h11⟩, if_pos hq, h]
    · have := grew_s g
      rwa [show ((k + 1 : Nat) : Int) * s = k * s + s by rw [Int.natCast_add, Int.add_mul]; simp]
theorem M12 {rec : Int → Int → Int → zF → zB → zO} {K : Nat} {F : zF} {P s r : Int} (hP7 : P = 2 ∨ P = 3 ∨ P = 5 ∨ P = 7) (hr0 : 1 ≤ r) (hr : ¬ r % P = 0) : ∀ (k n : Nat) {B : zB}, k < n → P ^ k * r ≤ 8 → ∃ B', f_M_power_12 rec K n P (P ^ k * r) s F B = rec (P + 1) r s F B' ∧ grew 14 51 P (k * s) B B' := by
  intro k
  induction k with
  | zero =>
    intro n B hn hx
    obtain ⟨n, rfl⟩ : ∃ m, n = m + 1 := ⟨n - 1, (by first | decide | omega)⟩
    rw [Int.pow_zero, Int.one_mul] at hx ⊢
    have m0 : 0 ≤ r % P := Int.emod_nonneg _ (by first | decide | omega)
    have m1 : r % P < P := Int.emod_lt_of_pos _ (by first | decide | omega)
    refine ⟨B, ?_, by simpa using grew_0⟩
    unfold f_M_power_12
    rw [if_pos (iI_n0 (by first | decide | omega) (by first | decide | omega)), (zd8 (by first | decide | omega) hx (by first | decide | omega) (by first | decide | omega)).1, if_pos (by unfold r32; omega), if_neg hr]
  | succ k ih =>
    intro n B hn hx
    obtain ⟨n, rfl⟩ : ∃ m, n = m + 1 := ⟨n - 1, (by first | decide | omega)⟩
    have x0 : 1 ≤ P ^ k * r := ml_1 (pw_1 (by first | decide | omega) _) hr0
    have ee : P ^ (k + 1) * r = P * (P ^ k * r) := by
      rw [Int.pow_succ]
      ac_rfl
    rw [ee] at hx ⊢
    have e0 : P * (P ^ k * r) % P = 0 := Int.mul_emod_right _ _
    have e1 : P * (P ^ k * r) / P = P ^ k * r := Int.mul_ediv_cancel_left _ (by first | decide | omega)
    have e2 : 1 * (P ^ k * r) ≤ P * (P ^ k * r) := Int.mul_le_mul_of_nonneg_right (by first | decide | omega) (by first | decide | omega)
    obtain ⟨z1, z2⟩ := zd8 (x := P * (P ^ k * r)) (p := P) (by first | decide | omega) hx (by first | decide | omega) (by first | decide | omega)
    obtain ⟨B', h, g⟩ := ih n (B := zup4 B 14 0 51 P (B 14 0 51 P + s)) (by first | decide | omega) (by first | decide | omega)
    refine ⟨B', ?_, ?_⟩
    · unfold f_M_power_12
      rw [if_pos (iI_n0 (by first | decide | omega) (by first | decide | omega)), z1, z2, e0, e1, if_pos (by decide), if_pos rfl, if_pos (by first | decide | omega), h]
    · have := grew_s g
      rwa [show ((k + 1 : Nat) : Int) * s = k * s + s by rw [Int.natCast_add, Int.add_mul]; simp]
theorem M12n {rec : Int → Int → Int → zF → zB → zO} {K n : Nat} {F : zF} {B : zB} {P s r : Int} (p0 : 2 ≤ P) (p1 : P ≤ 7) (r0 : 1 ≤ r) (r1 : r ≤ 8) (hr : ¬ r % P = 0) : f_M_power_12 rec K (n + 1) P r s F B = rec (P + 1) r s F B := by
  have m0 : 0 ≤ r % P := Int.emod_nonneg _ (by first | decide | omega)
  have m1 : r % P < P := Int.emod_lt_of_pos _ (by first | decide | omega)
  unfold f_M_power_12
  rw [if_pos (iI_n0 (by first | decide | omega) (by first | decide | omega)), (zd8 (by first | decide | omega) r1 p0 p1).1, if_pos (by unfold r32; omega), if_neg hr]
def prN (q : Int) : Int := if q = 0 then 2 else if q = 1 then 3 else if q = 2 then 5 else 7
theorem C_mul {K : zK} {F : zF} {B : zB} {x s : Int} (h11 : 0 < K.2 11) (hK : 10 < K.1) (h0 : 1 ≤ x) (h1 : x ≤ 8) : ∃ B', f_Walker_multiplySlow K 0 x s F B = some (0, F, B') ∧ (∀ q, 0 ≤ q → q < 4 → B' 11 0 14 q = B 11 0 14 q + exN (prN q) x * s) ∧ ∀ c i k y, ¬ (c = 11 ∧ i = 0 ∧ k = 14) → B' c i k y = B c i k y := by
  obtain ⟨n, hn⟩ : ∃ m, K.1 = m + 5 := ⟨K.1 - 5, (by first | decide | omega)⟩
  obtain ⟨g3, g5, g7, g4, g6⟩ := exN_h h0 h1
  obtain ⟨a1, a2, a3, a4, a5⟩ := exN_e h0 h1 (p := 2) (by decide)
  obtain ⟨b1, b2, b3, b4, b5⟩ := exN_e a4 a5 (p := 3) (by decide)
  obtain ⟨c1, c2, c3, c4, c5⟩ := exN_e b4 b5 (p := 5) (by decide)
  obtain ⟨d1, d2, d3, d4, d5⟩ := exN_e c4 c5 (p := 7) (by decide)
  have st : ∀ (m : Nat) (q y : Int) (B : zB), 0 ≤ q → q < 4 → f_Walker_multiplySlow_5 K (m + 1) q y 0 s F B = f_Walker_multiplySlow_17 (f_Walker_multiplySlow_5 K m) K K.1 0 q y 0 s F B := fun m q y B u v => by
    rw [f_Walker_multiplySlow_5, zt6l, if_pos (by unfold r32; omega), if_pos (by decide), if_neg (by first | decide | omega)]
  have en : ∀ (m : Nat) (y : Int) (B : zB), f_Walker_multiplySlow_5 K (m + 1) 4 y 0 s F B = some (0, F, B) := fun m y B => by
    rw [f_Walker_multiplySlow_5, zt6l, if_pos (by decide), if_pos (by decide), if_pos (by decide)]
  obtain ⟨B1, e1, w1⟩ := M17 (rec := f_Walker_multiplySlow_5 K (n + 4)) (F := F) (s := s) h11 (q := 0) (by decide) zt6_0 (by decide) a4 a3 (exN 2 x) K.1 (l := 0) (B := B) (by decide) (by first | decide | omega) (by first | decide | omega) (by first | decide | omega)
  obtain ⟨B2, e2, w2⟩ := M17 (rec := f_Walker_multiplySlow_5 K (n + 3)) (F := F) (s := s) h11 (q := 1) (by decide) zt6_1 (by decide) b4 b3 (exN 3 (rmN 2 x)) K.1 (l := 0) (B := B1) (by decide) (by first | decide | omega) (by first | decide | omega) (by first | decide | omega)
  obtain ⟨B3, e3, w3⟩ := M17 (rec := f_Walker_multiplySlow_5 K (n + 2)) (F := F) (s := s) h11 (q := 2) (by decide) zt6_2 (by decide) c4 c3 (exN 5 (rmN 3 (rmN 2 x))) K.1 (l := 0) (B := B2) (by decide) (by first | decide | omega) (by first | decide | omega) (by first | decide | omega)
  obtain ⟨B4, e4, w4⟩ := M17 (rec := f_Walker_multiplySlow_5 K (n + 1)) (F := F) (s := s) h11 (q := 3) (by decide) zt6_3 (by decide) d4 d3 (exN 7 (rmN 5 (rmN 3 (rmN 2 x)))) K.1 (l := 0) (B := B3) (by decide) (by first | decide | omega) (by first | decide | omega) (by first | decide | omega)
  rw [← a2] at e1
  rw [← b2] at e2
  rw [← c2] at e3
  rw [← d2] at e4
  refine ⟨B4, ?_, ?_, ?_⟩
  · unfold f_Walker_multiplySlow
    rw [show f_Walker_multiplySlow_5 K K.1 0 x 0 s F B = f_Walker_multiplySlow_5 K (n + 4 + 1) 0 x 0 s F B by rw [← hn], st _ _ _ _ (by decide) (by decide), e1, show (0 : Int) + 1 = 1 by decide, st _ _ _ _ (by decide) (by decide), e2, show (1 : Int) + 1 = 2 by decide, st _ _ _ _ (by decide) (by decide), e3, show (2 : Int) + 1 = 3 by decide, st _ _ _ _ (by decide) (by decide), e4, show (3 : Int) + 1 = 4 by decide, en]
  · intro q q0 q1
    have hq : q = 0 ∨ q = 1 ∨ q = 2 ∨ q = 3 := by omega
    rcases hq with rfl | rfl | rfl | rfl
    · rw [w4.2 _ _ _ _ (by decide), w3.2 _ _ _ _ (by decide), w2.2 _ _ _ _ (by decide), w1.1]; rfl
    · rw [w4.2 _ _ _ _ (by decide), w3.2 _ _ _ _ (by decide), w2.1, w1.2 _ _ _ _ (by decide), g3]; rfl
    · rw [w4.2 _ _ _ _ (by decide), w3.1, w2.2 _ _ _ _ (by decide), w1.2 _ _ _ _ (by decide), g5]; rfl
    · rw [w4.1, w3.2 _ _ _ _ (by decide), w2.2 _ _ _ _ (by decide), w1.2 _ _ _ _ (by decide), g7]; rfl
  · intro c i k y h
    rw [w4.2 _ _ _ _ (by first | decide | omega), w3.2 _ _ _ _ (by first | decide | omega), w2.2 _ _ _ _ (by first | decide | omega), w1.2 _ _ _ _ (by first | decide | omega)]
theorem L_pow {K : Nat} {F : zF} {B : zB} {x s : Int} (hK : 10 < K) (h0 : 1 ≤ x) (h1 : x ≤ 8) : ∃ B', f_M_power K x s F B = some (0, F, B') ∧ (∀ q, 0 ≤ q → q < 4 → B' 14 0 51 (prN q) = B 14 0 51 (prN q) + exN (prN q) x * s) ∧ ∀ c i k y, ¬ (c = 14 ∧ i = 0 ∧ k = 51 ∧ (y = 2 ∨ y = 3 ∨ y = 5 ∨ y = 7)) → B' c i k y = B c i k y := by
  obtain ⟨n, hn⟩ : ∃ m, K = m + 7 := ⟨K - 7, (by first | decide | omega)⟩
  obtain ⟨g3, g5, g7, g4, g6⟩ := exN_h h0 h1
  obtain ⟨a1, a2, a3, a4, a5⟩ := exN_e h0 h1 (p := 2) (by decide)
  obtain ⟨b1, b2, b3, b4, b5⟩ := exN_e a4 a5 (p := 3) (by decide)
  obtain ⟨c1, c2, c3, c4, c5⟩ := exN_e b4 b5 (p := 5) (by decide)
  obtain ⟨d1, d2, d3, d4, d5⟩ := exN_e c4 c5 (p := 7) (by decide)
  have st : ∀ (m : Nat) (q y : Int) (B : zB), 0 ≤ q → q < 8 → f_M_power_5 K (m + 1) q y s F B = f_M_power_12 (f_M_power_5 K m) K K q y s F B := fun m q y B u v => by
    rw [f_M_power_5, if_pos (by unfold r32; omega), if_neg (by first | decide | omega)]
  have en : ∀ (m : Nat) (y : Int) (B : zB), f_M_power_5 K (m + 1) 8 y s F B = some (0, F, B) := fun m y B => by
    rw [f_M_power_5, if_pos (by decide), if_pos (by decide)]
  obtain ⟨B1, e1, w1⟩ := M12 (rec := f_M_power_5 K (n + 6)) (K := K) (F := F) (s := s) (P := 2) (by decide) a4 a3 (exN 2 x) K (B := B) (by first | decide | omega) (by first | decide | omega)
  obtain ⟨B2, e2, w2⟩ := M12 (rec := f_M_power_5 K (n + 5)) (K := K) (F := F) (s := s) (P := 3) (by decide) b4 b3 (exN 3 (rmN 2 x)) K (B := B1) (by first | decide | omega) (by first | decide | omega)
  obtain ⟨B3, e3, w3⟩ := M12 (rec := f_M_power_5 K (n + 3)) (K := K) (F := F) (s := s) (P := 5) (by decide) c4 c3 (exN 5 (rmN 3 (rmN 2 x))) K (B := B2) (by first | decide | omega) (by first | decide | omega)
  obtain ⟨B4, e4, w4⟩ := M12 (rec := f_M_power_5 K (n + 1)) (K := K) (F := F) (s := s) (P := 7) (by decide) d4 d3 (exN 7 (rmN 5 (rmN 3 (rmN 2 x)))) K (B := B3) (by first | decide | omega) (by first | decide | omega)
  rw [← a2] at e1
  rw [← b2] at e2
  rw [← c2] at e3
  rw [← d2] at e4
  have m4 : ∀ {rec : Int → Int → Int → zF → zB → zO} {B : zB}, f_M_power_12 rec K K 4 (rmN 3 (rmN 2 x)) s F B = rec (4 + 1) (rmN 3 (rmN 2 x)) s F B := fun {rec B} => by
    have := M12n (rec := rec) (K := K) (n := n + 6) (F := F) (B := B) (s := s) (P := 4) (by decide) (by decide) b4 b5 g4
    rwa [← hn] at this
  have m6 : ∀ {rec : Int → Int → Int → zF → zB → zO} {B : zB}, f_M_power_12 rec K K 6 (rmN 5 (rmN 3 (rmN 2 x))) s F B = rec (6 + 1) (rmN 5 (rmN 3 (rmN 2 x))) s F B := fun {rec B} => by
    have := M12n (rec := rec) (K := K) (n := n + 6) (F := F) (B := B) (s := s) (P := 6) (by decide) (by decide) c4 c5 g6
    rwa [← hn] at this
  refine ⟨B4, ?_, ?_, ?_⟩
  · unfold f_M_power
    rw [show f_M_power_5 K K 2 x s F B = f_M_power_5 K (n + 6 + 1) 2 x s F B by rw [← hn], st _ _ _ _ (by decide) (by decide), e1, show (2 : Int) + 1 = 3 by decide, st _ _ _ _ (by decide) (by decide), e2, show (3 : Int) + 1 = 4 by decide, st _ _ _ _ (by decide) (by decide), m4, show (4 : Int) + 1 = 5 by decide, st _ _ _ _ (by decide) (by decide), e3, show (5 : Int) + 1 = 6 by decide, st _ _ _ _ (by decide) (by decide), m6, show (6 : Int) + 1 = 7 by decide, st _ _ _ _ (by decide) (by decide), e4, show (7 : Int) + 1 = 8 by decide, en]
  · intro q q0 q1
    have hq : q = 0 ∨ q = 1 ∨ q = 2 ∨ q = 3 := by omega
    rcases hq with rfl | rfl | rfl | rfl
    · show B4 14 0 51 2 = _
      rw [w4.2 _ _ _ _ (by decide), w3.2 _ _ _ _ (by decide), w2.2 _ _ _ _ (by decide), w1.1]; rfl
    · show B4 14 0 51 3 = _
      rw [w4.2 _ _ _ _ (by decide), w3.2 _ _ _ _ (by decide), w2.1, w1.2 _ _ _ _ (by decide), g3]; rfl
    · show B4 14 0 51 5 = _
      rw [w4.2 _ _ _ _ (by decide), w3.1, w2.2 _ _ _ _ (by decide), w1.2 _ _ _ _ (by decide), g5]; rfl
    · show B4 14 0 51 7 = _
      rw [w4.1, w3.2 _ _ _ _ (by decide), w2.2 _ _ _ _ (by decide), w1.2 _ _ _ _ (by decide), g7]; rfl
  · intro c i k y h
    rw [w4.2 _ _ _ _ (by first | decide | omega), w3.2 _ _ _ _ (by first | decide | omega), w2.2 _ _ _ _ (by first | decide | omega), w1.2 _ _ _ _ (by first | decide | omega)]
end
end
