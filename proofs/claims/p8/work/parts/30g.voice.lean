section
section
/-! ===== a voice's track, and all of them ===== -/
theorem P_vt {K : zK} {Km : Nat} {q : zF × zB × zF × zB} {s p w c v n : Int} {F : zF} {B : zB} {Fm : zF} {Bm : zB} (h0 : 2 ≤ K.2 0) (hK : 4100 ≤ K.1) (hKm : 4100 ≤ Km) (hs : 0 ≤ s ∧ s < K.2 5) (hw : 0 ≤ w ∧ w < 3) (hv : 0 ≤ v ∧ v < 4) (hp : 0 ≤ p ∧ p < K.2 4) (hP : PFD s w c q.1 q.2.1 q.2.2.1 q.2.2.2) (hr : rwS s q.1) (hN : NZ (q.1 4 p 0)) (e10 : q.2.2.2 13 w 10 v = q.1 4 p 0) (e11 : q.2.2.2 13 w 11 v = ltr 9 (q.1 4 p 0)) (e9 : q.1 4 p 2 = q.2.2.2 13 w 9 v) (hB : 16384 * n + 376832 + 65536 * ce (q.2.2.2 13 w 62) v (2 * c).toNat ≤ 330000000) (hce : 0 ≤ ce (q.2.2.2 13 w 62) v (2 * c).toNat) (h : WB q n F B Fm Bm) : zP (f_Performance_writeVoice K s p v 1 F B) (f_M_voiceTrack Km w v Fm Bm) (WE2 q n (16384 * n + 65536 * ce (q.2.2.2 13 w 62) v (2 * c).toNat + 958752)) := by
  have hc := hP.1
  have n0 := h.1.2.2
  have l8 := ltr_8 hN.1
  unfold f_Performance_writeVoice f_M_voiceTrack
  refine P_bind (P_trk (Km := Km) (q := q) (n := n) h0 (by first | decide | omega) (by first | decide | omega) (by first | decide | omega) h) (fun r F1 B1 r' G1 D1 w1 => ?_)
  obtain ⟨⟨e1, e2⟩, w1⟩ := w1
  rw [e1, e2]
  have fw : F1 4 p 0 = q.1 4 p 0 := w1.2.2.1 4 p 0 (by first | decide | omega)
  have ec : f_Performance_writeVoice_12 K K.1 0 0 (n + 8) s p v 1 F1 B1 = f_Performance_writeVoice_43 K (ltr 9 (q.1 4 p 0)) (n + 8) s p v 1 F1 B1 := C_cnt hp fw hN.1 (ltr 9 (q.1 4 p 0)).toNat 0 K.1 (by first | decide | omega) (by first | decide | omega)
  rw [ec]
  unfold f_Performance_writeVoice_43 f_Performance_putMeta
  rw [if_pos (by first | decide | omega)]
  simp only [zb_a2]
  refine P_put h0 w1 (by first | decide | omega) rfl (fun F2 B2 G2 D2 w2 => ?_)
  refine P_put h0 w2 (by first | decide | omega) rfl (fun F3 B3 G3 D3 w3 => ?_)
  refine P_put h0 w3 (by first | decide | omega) rfl (fun F4 B4 G4 D4 w4 => ?_)
  rw [if_pos hw, if_pos hv]
  refine P_put h0 w4 (by first | decide | omega) (by rw [w4.2.2.2.2.2 13 w 11 v (by first | decide | omega), e11]) (fun F5 B5 G5 D5 w5 => ?_)
  rw [zb_s, w5.2.2.2.2.2 13 w 10 v (by first | decide | omega), e10]
  have ew : f_M_word Km (q.1 4 p 0) G5 D5 = f_M_word_3 Km (Km - (8 - ltr 9 (q.1 4 p 0)).toNat) (8 * ltr 9 (q.1 4 p 0) - 8) (q.1 4 p 0) G5 D5 := L_wsk hN.1 (8 - ltr 9 (q.1 4 p 0)).toNat 8 Km (by first | decide | omega) (by decide) (by first | decide | omega)
  rw [ew]
  obtain ⟨k, ek⟩ : ∃ k : Nat, ltr 9 (q.1 4 p 0) = k := ⟨(ltr 9 (q.1 4 p 0)).toNat, (by first | decide | omega)⟩
  rw [ek] at l8 ⊢
  refine P_let2 h0 hp rfl hN k _ _ _ F5 B5 G5 D5 (by first | decide | omega) (by first | decide | omega) (by first | decide | omega) (by first | decide | omega) w5 (fun m F6 B6 G6 D6 hm w6 => ?_)
  obtain ⟨a, rfl⟩ : ∃ a, m = a + 1 := ⟨m - 1, (by first | decide | omega)⟩
  rw [f_Performance_writeVoice_56, if_pos (by decide), if_pos (by decide), if_pos (by first | decide | omega)]
  refine P_put h0 w6 (by first | decide | omega) rfl (fun F7 B7 G7 D7 w7 => ?_)
  refine P_put h0 w7 (by first | decide | omega) rfl (fun F8 B8 G8 D8 w8 => ?_)
  rw [if_pos hp]
  refine P_put h0 w8 (by first | decide | omega) (by rw [w8.2.2.1 4 p 2 (by first | decide | omega), w8.2.2.2.2.2 13 w 9 v (by first | decide | omega), e9]) (fun F9 B9 G9 D9 w9 => ?_)
  rw [if_pos hs]
  unfold f_Performance_writeStrokes
  have st := P_st (K := K) (Km := Km) (q := q) (s := s) (w := w) (c := c) (v := v) (x := n + 8) (n0 := n + 8 + 1 + 1 + 1 + 1 + (k : Int) + 1 + 1 + 1) h0 (by first | decide | omega) (by first | decide | omega) hs hw hv hP hr (by first | decide | omega) (by first | decide | omega) (2 * c).toNat 0 K.1 Km _ 0 0 (-1) F9 B9 G9 D9 (by first | decide | omega) (by first | decide | omega) (by first | decide | omega) (by first | decide | omega) (Or.inl ⟨rfl, rfl, rfl⟩) (fun y y0 y1 => (PFD_s hP (t := y) (by first | decide | omega) y1).elim fun _ t => t.elim fun _ t => t.elim fun _ t => t.2.1.1) (Int.le_refl _) (by show _ ≤ _ + 65536 * 0 + 0 + 16384 * 0; omega) w9
  obtain ⟨r, F10, B10, r', G10, D10, x1, x2, n', x3, x4, x5⟩ := st
  refine ⟨r, F10, B10, r', G10, D10, x1, x2, n', (by first | decide | omega), (by first | decide | omega), x5⟩
/-- what the voices' tracks stand on -/
def VN (p V : Int) (F : zF) (B : zB) (w : Int) (Bm : zB) : Prop := ∀ u, 0 ≤ u → u < V → NZ (F 4 (B 6 p 0 u) 0) ∧ Bm 13 w 11 u = ltr 9 (F 4 (B 6 p 0 u) 0)
theorem ce_0 (g : Int → Int) (v : Int) (m : Nat) : 0 ≤ ce g v m := by
  have := ce_m g v m 0
  rw [Nat.zero_add] at this
  exact this
/-- all written -/
def WF (q : zF × zB × zF × zB) : Int → zF → zB → Int → zF → zB → Prop := fun _ F B r' Fm Bm => ∃ n, n ≤ 20480 ∧ r' = n ∧ WB q n F B Fm Bm
theorem P_vts {K : zK} {Km : Nat} {q : zF × zB × zF × zB} {s p w c V : Int} (h0 : 2 ≤ K.2 0) (hK : 4100 ≤ K.1) (hKm : 4100 ≤ Km) (hs : 0 ≤ s ∧ s < K.2 5) (hk : PK K V p w q.1 q.2.1 q.2.2.1 q.2.2.2) (hP : PFD s w c q.1 q.2.1 q.2.2.1 q.2.2.2) (hr : rwS s q.1) (hN : VN p V q.1 q.2.1 w q.2.2.2) : ∀ (d u m1 m2 : Nat) (n : Int) (F : zF) (B : zB) (Fm : zF) (Bm : zB), (u : Int) + d = V → d < m1 → d < m2 → 16384 * n ≤ 1638400 + 65536 * cu (q.2.2.2 13 w 62) u (2 * c).toNat + 958752 * u → WB q n F B Fm Bm → zP (f_Performance_write_44 K m1 u s p 1 F B) (f_M_file_291 Km m2 u w Fm Bm) (WF q) := by
  have hc := hP.1
  obtain ⟨⟨hp, hw, hV, eV, eVm⟩, _, hv⟩ := hk
  intro d
  induction d with
  | zero =>
    intro u m1 m2 n F B Fm Bm eu l1 l2 nb h
    obtain ⟨a, rfl⟩ : ∃ a, m1 = a + 1 := ⟨m1 - 1, (by first | decide | omega)⟩
    obtain ⟨b, rfl⟩ : ∃ b, m2 = b + 1 := ⟨m2 - 1, (by first | decide | omega)⟩
    have f1 : F 6 p 1 = V := by rw [h.2.2.1 6 p 1 (by first | decide | omega)]; exact eV
    have g1 : Fm 13 w 1 = V := by rw [h.2.2.2.2.1 13 w 1 (by first | decide | omega)]; exact eVm
    have cb := cu_b (q.2.2.2 13 w 62) u (2 * c).toNat
    rw [f_Performance_write_44, f_M_file_291, f1, g1, if_pos hp, if_pos (by unfold r32; omega), if_pos (by unfold r32; omega), if_pos (by first | decide | omega), if_pos hw, if_pos (by unfold r32; omega), if_pos (by unfold r32; omega), if_pos (by first | decide | omega)]
    exact P_some ⟨n, (by first | decide | omega), h.1.2.1, h⟩
  | succ d ih =>
    intro u m1 m2 n F B Fm Bm eu l1 l2 nb h
    obtain ⟨a, rfl⟩ : ∃ a, m1 = a + 1 := ⟨m1 - 1, (by first | decide | omega)⟩
    obtain ⟨b, rfl⟩ : ∃ b, m2 = b + 1 := ⟨m2 - 1, (by first | decide | omega)⟩
    have f1 : F 6 p 1 = V := by rw [h.2.2.1 6 p 1 (by first | decide | omega)]; exact eV
    have g1 : Fm 13 w 1 = V := by rw [h.2.2.2.2.1 13 w 1 (by first | decide | omega)]; exact eVm
    have b6 : B 6 p 0 u = q.2.1 6 p 0 u := h.2.2.2.1 6 p 0 u (by first | decide | omega)
    have cb := cu_b (q.2.2.2 13 w 62) ((u : Int) + 1) (2 * c).toNat
    have cs := cu_s (q.2.2.2 13 w 62) u (2 * c).toNat
    obtain ⟨⟨v1, v2, v3, v4⟩, _⟩ := hv u (by first | decide | omega) (by first | decide | omega)
    obtain ⟨nz, e11⟩ := hN u (by first | decide | omega) (by first | decide | omega)
    rw [f_Performance_write_44, f_M_file_291, f1, g1, b6, if_pos hp, if_pos (show r32 (u : Int) by unfold r32; omega), if_pos (show r32 V by unfold r32; omega), if_neg (show ¬ V ≤ (u : Int) by omega), if_pos (show 0 ≤ (u : Int) ∧ (u : Int) < 4 by omega), if_pos v1, if_pos hs, if_pos hw, if_pos (show r32 (u : Int) by unfold r32; omega), if_pos (show r32 V by unfold r32; omega), if_neg (show ¬ V ≤ (u : Int) by omega)]
    refine P_bind (P_vt (Km := Km) (q := q) (n := n) h0 hK hKm hs hw (by first | decide | omega) v1 hP hr nz v2.symm e11 v4.1.1 (by first | decide | omega) (ce_0 _ _ _) h) (fun r F1 B1 r' G1 D1 w1 => ?_)
    obtain ⟨n', x1, x2, x3⟩ := w1
    rw [show (u : Int) + 1 = ((u + 1 : Nat) : Int) by omega] at cs ⊢
    exact ih (u + 1) a b n' F1 B1 G1 D1 (by first | decide | omega) (by first | decide | omega) (by first | decide | omega) (by first | decide | omega) x3
end
end
section
section
/-! ===== a file written, both sides ===== -/
theorem iI_nf {a : Int} (h0 : 0 < a) (h1 : a < 2147483648) : ¬ iI a = 0 := fun z => by
  have e : (iI a).toInt = a := Int32.toInt_ofInt_of_le (by first | decide | omega) (by first | decide | omega)
  rw [z] at e
  have : (0 : Int32).toInt = 0 := rfl
  omega
theorem P_ret {x y : zO} {f : Int → zF → zB → zO} {R Q : Int → zF → zB → Int → zF → zB → Prop} (h : zP x y R) (k : ∀ r F B r' Fm Bm, R r F B r' Fm Bm → zP (f r F B) (some (r', Fm, Bm)) Q) : zP (zbind x f) y Q := by
  obtain ⟨r, F, B, r', Fm, Bm, h1, h2, h3⟩ := h
  rw [h1, h2]
  exact k _ _ _ _ _ _ h3
theorem bc_1 {K : zK} {F : zF} {B : zB} : f_Integer_bitCount K (2 - 1) F B = some (1, F, B) := congrArg (fun z : Int => some (z, F, B)) (by decide)
theorem bc_2 {K : zK} {F : zF} {B : zB} : f_Integer_bitCount K (4 - 1) F B = some (2, F, B) := congrArg (fun z : Int => some (z, F, B)) (by decide)
theorem bc_3 {K : zK} {F : zF} {B : zB} : f_Integer_bitCount K (8 - 1) F B = some (3, F, B) := congrArg (fun z : Int => some (z, F, B)) (by decide)
theorem bc_4 {K : zK} {F : zF} {B : zB} : f_Integer_bitCount K (16 - 1) F B = some (4, F, B) := congrArg (fun z : Int => some (z, F, B)) (by decide)
def lgB (d : Int) : Int := if d = 2 then 1 else if d = 4 then 2 else if d = 8 then 3 else 4
theorem bc_l {K : zK} {d : Int} {F : zF} {B : zB} (h : d = 2 ∨ d = 4 ∨ d = 8 ∨ d = 16) : f_Integer_bitCount K (d - 1) F B = some (lgB d, F, B) := by
  rcases h with rfl | rfl | rfl | rfl
  · exact bc_1
  · exact bc_2
  · exact bc_3
  · exact bc_4
theorem L_148 {Km : Nat} {d x w : Int} {F : zF} {B : zB} : (if d = 2 then f_M_file_148 Km x w 1 F B else (if d = 4 then f_M_file_148 Km x w 2 F B else (if d = 8 then f_M_file_148 Km x w 3 F B else f_M_file_148 Km x w 4 F B))) = f_M_file_148 Km x w (lgB d) F B := by
  unfold lgB
  split
  · rfl
  · split
    · rfl
    · split <;> rfl
theorem L_211 {Km : Nat} {d x w : Int} {F : zF} {B : zB} (h : d = 0 ∨ d = 1) : (if d = 0 then f_M_file_211 Km x w 0 F B else f_M_file_211 Km x w 1 F B) = f_M_file_211 Km x w d F B := by
  rcases h with rfl | rfl <;> rfl
theorem P_file {K : zK} {Km : Nat} {l s p w c V : Int} {F : zF} {B : zB} {Fm : zF} {Bm : zB} (h0 : 2 ≤ K.2 0) (hK : 4100 ≤ K.1) (hKm : 4100 ≤ Km) (h12 : 0 < K.2 12) (f2 : F 12 0 2 = 1) (hs : 0 ≤ s ∧ s < K.2 5) (hk : PK K V p w F B Fm Bm) (hP : PFD s w c F B Fm Bm) (hr : rwS s F) (hN : VN p V F B w Bm) (x1 : f_S_pieceAt K 0 l F B = some (p, F, B)) (x2 : f_S_performanceOf K 0 l F B = some (s, F, B)) (x3 : f_M_piece Km l Fm Bm = some (w, Fm, Bm)) : zP (f_S_file K 0 l F B) (f_M_file Km l Fm Bm) (fun r F' B' r' Fm' Bm' => r = r' ∧ (0 ≤ r ∧ r ≤ 20480) ∧ WB (F, B, Fm, Bm) r F' B' Fm' Bm') := by
  have g53 := hP.2.1.1
  have hk' := hk
  obtain ⟨⟨hp, hw, hV, eV, eVm⟩, ⟨k2, k3, k4, k5, k6, k7⟩, _⟩ := hk'
  unfold f_S_file f_M_file
  rw [if_pos (by first | decide | omega), x1, x3]
  simp only [zb_s]
  rw [x2, zb_s, if_neg (by first | decide | omega), if_neg (by first | decide | omega), f2, if_pos (by first | decide | omega), if_neg (by first | decide | omega), if_pos hw, g53, if_pos (by decide), if_neg (by decide)]
  unfold f_ByteRow_clear
  rw [if_pos (by first | decide | omega), zb_s, if_pos hs, if_pos hp]
  have e2 : (zup3 (zup3 F 0 1 1 0) 0 1 2 0) 12 0 2 = 1 := by rw [zup3_v, if_neg (by first | decide | omega), zup3_v, if_neg (by first | decide | omega)]; exact f2
  rw [e2, if_pos (by first | decide | omega)]
  have wb : WB (F, B, Fm, Bm) 0 (zup3 (zup3 F 0 1 1 0) 0 1 2 0) B (zup3 Fm 14 0 71 0) Bm := by
    refine ⟨⟨by rw [zup3_v, if_neg (by first | decide | omega), zup3_v, if_pos (by first | decide | omega)], by rw [zup3_v, if_pos (by first | decide | omega)], (by first | decide | omega)⟩, fun j j0 j1 => (by first | decide | omega), fun c y k z => by rw [zup3_v, if_neg (by first | decide | omega), zup3_v, if_neg (by first | decide | omega)], fun _ _ _ _ _ => rfl, fun c y k z => by rw [zup3_v, if_neg (by first | decide | omega)], fun _ _ _ _ _ => rfl⟩
  generalize zup3 (zup3 F 0 1 1 0) 0 1 2 0 = F0 at wb ⊢
  generalize zup3 Fm 14 0 71 0 = G0 at wb ⊢
  refine P_ret (R := WF (F, B, Fm, Bm)) ?_ (fun r F9 B9 r' G9 D9 hq => ?_)
  · have fF : ∀ {n F1 B1 G1 D1}, WB (F, B, Fm, Bm) n F1 B1 G1 D1 → ∀ k, F1 6 p k = F 6 p k := fun w k => w.2.2.1 6 p k (by first | decide | omega)
    have fG : ∀ {n F1 B1 G1 D1}, WB (F, B, Fm, Bm) n F1 B1 G1 D1 → ∀ k, G1 13 w k = Fm 13 w k := fun u k => u.2.2.2.2.1 13 w k (by first | decide | omega)
    unfold f_Performance_write
    rw [if_pos (by first | decide | omega)]
    refine P_bind (P_head (Km := Km) h0 (by first | decide | omega) (by first | decide | omega) (by first | decide | omega) wb) (fun r F1 B1 r' G1 D1 w1 => ?_)
    refine P_four h0 (by first | decide | omega) (by first | decide | omega) (by decide) w1 (by first | decide | omega) (fun F2 B2 G2 D2 w2 => ?_)
    refine P_two h0 (by first | decide | omega) (by first | decide | omega) w2 (by first | decide | omega) (fun F3 B3 G3 D3 w3 => ?_)
    rw [if_pos hp, fF w3, C_w2 h0 (by first | decide | omega)]
    simp only [zb_a2, zb_s]
    refine P_put h0 w3 (by first | decide | omega) (by rw [ush_m (by first | decide | omega)]; show (F 6 p 1 + 1) / 256 % 256 = 0 % 256; omega) (fun F4 B4 G4 D4 w4 => ?_)
    refine P_put h0 w4 (by first | decide | omega) (by rw [ush_m (by first | decide | omega), fG w4]; show (F 6 p 1 + 1) / 1 % 256 = (Fm 13 w 1 + 1) % 256; omega) (fun F5 B5 G5 D5 w5 => ?_)
    refine P_two h0 (by first | decide | omega) (by first | decide | omega) w5 (by first | decide | omega) (fun F6 B6 G6 D6 w6 => ?_)
    unfold f_Performance_writeHead
    simp only [zb_a2]
    refine P_bind (P_trk (Km := Km) h0 (by first | decide | omega) (by first | decide | omega) (by first | decide | omega) w6) (fun r F7 B7 r' G7 D7 w7 => ?_)
    obtain ⟨⟨e1, e2⟩, w7⟩ := w7
    rw [e1, e2]
    refine P_meta h0 w7 (by first | decide | omega) (fun F8 B8 G8 D8 w8 => ?_)
    rw [if_pos hp, if_pos (by first | decide | omega), fF w8, fG w8]
    simp only [zb_a2]
    refine P_put h0 w8 (by first | decide | omega) (by rw [k4.1]) (fun F9 B9 G9 D9 w9 => ?_)
    rw [fF w9, fG w9, bc_l k5.2, zb_s, if_pos (by unfold r32; omega), L_148, ← k5.1]
    unfold f_M_file_148
    refine P_put h0 w9 (by first | decide | omega) rfl (fun F10 B10 G10 D10 w10 => ?_)
    refine P_put h0 w10 (by first | decide | omega) rfl (fun F11 B11 G11 D11 w11 => ?_)
    refine P_put h0 w11 (by first | decide | omega) rfl (fun F12 B12 G12 D12 w12 => ?_)
    refine P_meta h0 w12 (by first | decide | omega) (fun F13 B13 G13 D13 w13 => ?_)
    rw [if_pos hw, fF w13, fG w13]
    refine P_put h0 w13 (by first | decide | omega) (by rw [zand255, k2.1]; omega) (fun F14 B14 G14 D14 w14 => ?_)
    rw [fF w14, fG w14, if_pos (by unfold r32; omega), ← k3.1, L_211 k3.2]
    unfold f_M_file_211
    refine P_put h0 w14 (by first | decide | omega) rfl (fun F15 B15 G15 D15 w15 => ?_)
    refine P_meta h0 w15 (by first | decide | omega) (fun F16 B16 G16 D16 w16 => ?_)
    have zm : zmax (F 6 p 6) 1 = F 6 p 6 := by unfold zmax; rw [if_neg (by first | decide | omega)]
    rw [fF w16, fG w16, zm, if_pos (by unfold r32; omega), if_pos (iI_nf (by first | decide | omega) (by first | decide | omega)), if_pos hw, ← k6.1, if_pos (iI_nf (by first | decide | omega) (by first | decide | omega)), C_w3 h0 (by first | decide | omega)]
    simp only [zb_a2]
    have zr : r32 (zdv 60000000 (F 6 p 6)) := zdv_R _ _
    refine P_put h0 w16 (by first | decide | omega) (by_sh zr (by first | decide | omega)) (fun F17 B17 G17 D17 w17 => ?_)
    refine P_put h0 w17 (by first | decide | omega) (by_sh zr (by first | decide | omega)) (fun F18 B18 G18 D18 w18 => ?_)
    refine P_put h0 w18 (by first | decide | omega) (by rw [ush_m (by first | decide | omega), zand255]; show zdv 60000000 (F 6 p 6) / 1 % 256 = _; omega) (fun F19 B19 G19 D19 w19 => ?_)
    rw [zb_s]
    refine P_bind (P_end (Km := Km) h0 (by first | decide | omega) (by first | decide | omega) (by first | decide | omega) (by first | decide | omega) w19) (fun r F20 B20 r' G20 D20 w20 => ?_)
    rw [zb_s]
    have cb := cu_b (Bm 13 w 62) 0 (2 * c).toNat
    have w20' : WB (F, B, Fm, Bm) _ F20 B20 G20 D20 := w20
    exact P_vts (q := (F, B, Fm, Bm)) h0 hK hKm hs hk hP hr hN V.toNat 0 K.1 Km _ F20 B20 G20 D20 (by first | decide | omega) (by first | decide | omega) (by first | decide | omega) (by show 16384 * _ ≤ 1638400 + 65536 * cu (Bm 13 w 62) 0 (2 * c).toNat + 958752 * 0; omega) w20'
  · obtain ⟨n, n1, e, wn⟩ := hq
    have e2 : F9 12 0 2 = 1 := by rw [wn.2.2.1 12 0 2 (by first | decide | omega)]; exact f2
    rw [e2, if_pos (by first | decide | omega), wn.1.1, e]
    exact P_some ⟨rfl, ⟨wn.1.2.2, n1⟩, wn⟩
end
end
