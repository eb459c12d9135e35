section
/-! ===== the strokes of one voice ===== -/
/-- a voice's track, ended -/
def WE2 (q : zF × zB × zF × zB) (n0 M : Int) : Int → zF → zB → Int → zF → zB → Prop := fun _ F B _ Fm Bm => ∃ n', n0 ≤ n' ∧ 16384 * n' ≤ M ∧ WB q n' F B Fm Bm
theorem P_st {K : zK} {Km : Nat} {q : zF × zB × zF × zB} {s w c v x n0 : Int} (h0 : 2 ≤ K.2 0) (hK : 10 ≤ K.1) (hKm : 10 ≤ Km) (hs : 0 ≤ s ∧ s < K.2 5) (hw : 0 ≤ w ∧ w < 3) (hv : 0 ≤ v ∧ v < 4) (hP : PFD s w c q.1 q.2.1 q.2.2.1 q.2.2.2) (hr : rwS s q.1) (hx : 4 ≤ x ∧ x ≤ n0) (hB : 16384 * n0 + 65536 * ce (q.2.2.2 13 w 62) v (2 * c).toNat ≤ 330000000) : ∀ (d t m1 m2 : Nat) (n l4 l3 L : Int) (F : zF) (B : zB) (Fm : zF) (Bm : zB), (t : Int) + d = 2 * c → d < m1 → d < m2 → (0 ≤ l3 ∧ l3 ≤ 500000) → ((l4 = 0 ∧ l3 = 0 ∧ L = -1) ∨ (l4 = 1 ∧ L = l3)) → (∀ y : Int, t ≤ y → y < 2 * c → l3 ≤ q.2.2.2 13 w 61 y) → n0 ≤ n → 16384 * n ≤ 16384 * n0 + 65536 * ce (q.2.2.2 13 w 62) v t + l3 + 16384 * l4 → WB q n F B Fm Bm → zP (zbind (f_Performance_writeStrokes_8 K m1 t l4 l3 s v 1 F B) (fun _ F B => zbind (f_Performance_endTrack K 1 x F B) (fun _ F B => some (0, F, B)))) (f_M_voiceTrack_72 Km m2 t L x w v Fm Bm) (WE2 q n0 (16384 * n0 + 65536 * ce (q.2.2.2 13 w 62) v (2 * c).toNat + 581920)) := by
  have hc := hP.1
  have hm := hP.2.1
  intro d
  induction d with
  | zero =>
    intro t m1 m2 n l4 l3 L F B Fm Bm et l1 l2 q3 q4 qy n1 nb h
    obtain ⟨a, rfl⟩ : ∃ a, m1 = a + 1 := ⟨m1 - 1, by omega⟩
    obtain ⟨b, rfl⟩ : ∃ b, m2 = b + 1 := ⟨m2 - 1, by omega⟩
    have f0 : F 5 s 0 = c := by rw [h.2.2.1 5 s 0 (by omega)]; exact hc.2.1
    have g6 : Fm 13 w 60 = 2 * c := by rw [h.2.2.2.2.1 13 w 60 (by omega)]; exact hm.2.2
    have tt : (2 * c).toNat = t := by omega
    have l4b : 0 ≤ l4 ∧ l4 ≤ 1 := by omega
    rw [tt] at hB ⊢
    rw [f_Performance_writeStrokes_8, f_M_voiceTrack_72, f0, g6, if_pos hs, if_pos (by unfold r32; omega), if_pos (by unfold r32; omega), if_pos (by omega), if_pos hw, if_pos (by unfold r32; omega), if_pos (by unfold r32; omega), if_pos (by omega), zb_s]
    refine P_bind (P_end (Km := Km) (q := q) (n := n) h0 hK hKm (by omega) (by omega) h) (fun r F1 B1 r' G1 D1 w1 => P_some ⟨n + 4, by omega, by omega, w1⟩)
  | succ d ih =>
    intro t m1 m2 n l4 l3 L F B Fm Bm et l1 l2 q3 q4 qy n1 nb h
    obtain ⟨a, rfl⟩ : ∃ a, m1 = a + 1 := ⟨m1 - 1, by omega⟩
    obtain ⟨b, rfl⟩ : ∃ b, m2 = b + 1 := ⟨m2 - 1, by omega⟩
    have f0 : F 5 s 0 = c := by rw [h.2.2.1 5 s 0 (by omega)]; exact hc.2.1
    have g6 : Fm 13 w 60 = 2 * c := by rw [h.2.2.2.2.1 13 w 60 (by omega)]; exact hm.2.2
    have l4b : 0 ≤ l4 ∧ l4 ≤ 1 := by omega
    obtain ⟨c1, c2, c3, c4⟩ := C_told (K := K) (t := (t : Int)) hs hP hr h (by omega) (by omega)
    obtain ⟨on, ev, j, e, hT, _, hV, h2, _, _, _, h4⟩ := PFD_s hP (t := (t : Int)) (by omega) (by omega)
    have bm : ∀ k y, Bm 13 w k y = q.2.2.2 13 w k y := fun k y => h.2.2.2.2.2 13 w k y (by omega)
    have cs : ce (q.2.2.2 13 w 62) v (t + 1) = ce (q.2.2.2 13 w 62) v t + (if q.2.2.2 13 w 62 t = v then 1 else 0) := rfl
    have cm := ce_m (q.2.2.2 13 w 62) v ((2 * c).toNat - (t + 1)) (t + 1)
    rw [show t + 1 + ((2 * c).toNat - (t + 1)) = (2 * c).toNat by omega] at cm
    have nt : ((t + 1 : Nat) : Int) = (t : Int) + 1 := by omega
    rw [f_Performance_writeStrokes_8, f_M_voiceTrack_72, f0, g6, if_pos hs, if_pos (show r32 (t : Int) by unfold r32; omega), if_pos (show r32 (2 * c) by unfold r32; omega), if_neg (show ¬ 2 * c ≤ (t : Int) by omega), c2, zb_s, if_pos (show r32 (q.2.2.2 13 w 62 t) by unfold r32; omega), if_pos (show r32 v by unfold r32; omega), if_pos hw, if_pos (show r32 (t : Int) by unfold r32; omega), if_pos (show r32 (2 * c) by unfold r32; omega), if_neg (show ¬ 2 * c ≤ (t : Int) by omega), if_pos (show 0 ≤ (t : Int) ∧ (t : Int) < 4000 by omega), bm 62 t, bm 61 t, if_pos (show r32 (q.2.2.2 13 w 62 t) by unfold r32; omega), if_pos (show r32 v by unfold r32; omega)]
    by_cases z : q.2.2.2 13 w 62 t = v
    · rw [if_pos z] at cs
      rw [if_pos z, if_pos z, c1, zb_s, if_pos (by omega), if_pos (show r32 L by unfold r32; omega)]
      have ty := qy t (by omega) (by omega)
      have eL : (if 0 ≤ L then f_M_voiceTrack_114 (f_M_voiceTrack_72 Km b) Km t L x w v (q.2.2.2 13 w 61 t) L Fm Bm else f_M_voiceTrack_114 (f_M_voiceTrack_72 Km b) Km t L x w v (q.2.2.2 13 w 61 t) 0 Fm Bm) = f_M_voiceTrack_114 (f_M_voiceTrack_72 Km b) Km t L x w v (q.2.2.2 13 w 61 t) l3 Fm Bm := by
        rcases q4 with ⟨p1, p2, p3⟩ | ⟨p1, p2⟩
        · rw [p3, if_neg (by decide), p2]
        · rw [p2, if_pos q3.1]
      rw [eL]
      unfold f_M_voiceTrack_114
      simp only [zb_a2]
      refine P_bind (P_delta (Km := Km) (q := q) (n := n) (d := q.2.2.2 13 w 61 t - l3) h0 hK hKm (by omega) (by omega) h) (fun r F1 B1 r' G1 D1 w1 => ?_)
      obtain ⟨u, u1, u2, w1⟩ := w1
      obtain ⟨d1, d2, d3, d4⟩ := C_told (K := K) (t := (t : Int)) hs hP hr w1 (by omega) (by omega)
      rw [d1, zb_s, if_pos (show r32 l4 by unfold r32; omega), if_pos (show r32 L by unfold r32; omega)]
      -- what follows in both cases
      have tail : ∀ (n' : Int) (F2 : zF) (B2 : zB) (G2 : zF) (D2 : zB), n' ≤ n + u + 1 - l4 → n0 ≤ n' → WB q n' F2 B2 G2 D2 → zP (zbind (f_Performance_writeStrokes_65 (f_Performance_writeStrokes_8 K a) K (q.2.2.2 13 w 61 t) t s v 1 F2 B2) (fun _ F B => zbind (f_Performance_endTrack K 1 x F B) (fun _ F B => some (0, F, B)))) (f_M_voiceTrack_132 (f_M_voiceTrack_72 Km b) Km t x w v G2 D2) (WE2 q n0 (16384 * n0 + 65536 * ce (q.2.2.2 13 w 62) v (2 * c).toNat + 581920)) := fun n' F2 B2 G2 D2 k1 k2 w2 => by
        obtain ⟨i1, i2, i3, i4⟩ := C_told (K := K) (t := (t : Int)) hs hP hr w2 (by omega) (by omega)
        unfold f_Performance_writeStrokes_65 f_M_voiceTrack_132 f_Performance_writeStrokes_90 f_M_voiceTrack_163
        rw [if_pos hs, i3, zb_s, if_pos (by omega), if_pos hw, if_pos (by omega), w2.2.2.2.2.2 13 w 63 t (by omega)]
        simp only [zb_a2]
        refine P_put h0 w2 (by omega) rfl (fun F3 B3 G3 D3 w3 => ?_)
        obtain ⟨j1, j2, j3, j4⟩ := C_told (K := K) (t := (t : Int)) hs hP hr w3 (by omega) (by omega)
        rw [j4, zb_s, w3.2.2.2.2.2 13 w 64 t (by omega)]
        refine P_put h0 w3 (by omega) rfl (fun F4 B4 G4 D4 w4 => ?_)
        rw [w4.2.2.2.2.2 13 w 61 t (by omega), ← nt]
        refine ih (t + 1) a b (n' + 1 + 1) 1 (q.2.2.2 13 w 61 t) (q.2.2.2 13 w 61 t) F4 B4 G4 D4 (by omega) (by omega) (by omega) hT (Or.inr ⟨rfl, rfl⟩) (fun y y0 y1 => ?_) (by omega) (by omega) w4
        have := PFD_m hP (y - t).toNat t (by omega) (by omega)
        rw [show (t : Int) + ((y - t).toNat : Int) = y by omega] at this
        exact this
      rcases q4 with ⟨p1, p2, p3⟩ | ⟨p1, p2⟩
      · rw [if_pos p1, p3, if_neg (by decide)]
        simp only [zb_a2]
        refine P_put h0 w1 (by omega) rfl (fun F2 B2 G2 D2 w2 => ?_)
        exact tail (n + u + 1) F2 B2 G2 D2 (by omega) (by omega) w2
      · rw [if_neg (by omega), if_pos (by omega)]
        exact tail (n + u) F1 B1 G1 D1 (by omega) (by omega) w1
    · rw [if_neg z] at cs
      rw [if_neg z, if_neg z]
      unfold f_Performance_writeStrokes_90 f_M_voiceTrack_163
      rw [← nt]
      exact ih (t + 1) a b n l4 l3 L F B Fm Bm (by omega) (by omega) (by omega) q3 q4 (fun y y0 y1 => qy y (by omega) y1) n1 (by omega) h
end
