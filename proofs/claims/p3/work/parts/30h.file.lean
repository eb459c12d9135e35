section
/-! ===== a file written, both sides ===== -/
theorem iI_nf {a : Int} (h0 : 0 < a) (h1 : a < 2147483648) : ¬ iI a = 0 := fun z => by
  have e : (iI a).toInt = a := Int32.toInt_ofInt_of_le (by omega) (by omega)
  rw [z] at e
  have : (0 : Int32).toInt = 0 := rfl
  omega
theorem P_ret {x y : zO} {f : Int → zF → zB → zO} {R Q : Int → zF → zB → Int → zF → zB → Prop} (h : zP x y R) (k : ∀ r F B r' Fm Bm, R r F B r' Fm Bm → zP (f r F B) (some (r', Fm, Bm)) Q) : zP (zbind x f) y Q := by
  obtain ⟨r, F, B, r', Fm, Bm, h1, h2, h3⟩ := h
  rw [h1, h2]
  exact k _ _ _ _ _ _ h3
theorem bc_1 {K : zK} {F : zF} {B : zB} : f_Integer_bitCount K (2 - 1) F B = some (1, F, B) := congrArg (fun z : Int => some (z, F, B)) (by decide)
theorem bc_2 {K : zK} {F : zF} {B : zB} : f_Integer_bitCount K (4 - 1) F B = some (2, F, B) := congrArg (fun z : Int => some (z, F, B)) (by decide)
theorem bc_3 {K : zK} {F : zF} {B : zB} : f_Integer_bitCount K (8 - 1) F B = some (3, F, B) := congrArg (fun z : Int => some (z, F, B)) (by decide)
theorem bc_4 {K : zK} {F : zF} {B : zB} : f_Integer_bitCount K (16 - 1) F B = some (4, F, B) := congrArg (fun z : Int => some (z, F, B)) (by decide)
def lgB (d : Int) : Int := if d = 2 then 1 else if d = 4 then 2 else if d = 8 then 3 else 4
theorem bc_l {K : zK} {d : Int} {F : zF} {B : zB} (h : d = 2 ∨ d = 4 ∨ d = 8 ∨ d = 16) : f_Integer_bitCount K (d - 1) F B = some (lgB d, F, B) := by
  rcases h with rfl | rfl | rfl | rfl
  · exact bc_1
  · exact bc_2
  · exact bc_3
  · exact bc_4
theorem L_148 {Km : Nat} {d x w : Int} {F : zF} {B : zB} : (if d = 2 then f_M_file_148 Km x w 1 F B else (if d = 4 then f_M_file_148 Km x w 2 F B else (if d = 8 then f_M_file_148 Km x w 3 F B else f_M_file_148 Km x w 4 F B))) = f_M_file_148 Km x w (lgB d) F B := by
  unfold lgB
  split
  · rfl
  · split
    · rfl
    · split <;> rfl
theorem L_211 {Km : Nat} {d x w : Int} {F : zF} {B : zB} (h : d = 0 ∨ d = 1) : (if d = 0 then f_M_file_211 Km x w 0 F B else f_M_file_211 Km x w 1 F B) = f_M_file_211 Km x w d F B := by
  rcases h with rfl | rfl <;> rfl
theorem P_file {K : zK} {Km : Nat} {l s p w c V : Int} {F : zF} {B : zB} {Fm : zF} {Bm : zB} (h0 : 2 ≤ K.2 0) (hK : 4100 ≤ K.1) (hKm : 4100 ≤ Km) (h12 : 0 < K.2 12) (f2 : F 12 0 2 = 1) (hs : 0 ≤ s ∧ s < K.2 5) (hk : PK K V p w F B Fm Bm) (hP : PFD s w c F B Fm Bm) (hr : rwS s F) (hN : VN p V F B w Bm) (x1 : f_S_pieceAt K 0 l F B = some (p, F, B)) (x2 : f_S_performanceOf K 0 l F B = some (s, F, B)) (x3 : f_M_piece Km l Fm Bm = some (w, Fm, Bm)) : zP (f_S_file K 0 l F B) (f_M_file Km l Fm Bm) (fun r F' B' r' Fm' Bm' => r = r' ∧ (0 ≤ r ∧ r ≤ 20480) ∧ WB (F, B, Fm, Bm) r F' B' Fm' Bm') := by
  have g53 := hP.2.1.1
  have hk' := hk
  obtain ⟨⟨hp, hw, hV, eV, eVm⟩, ⟨k2, k3, k4, k5, k6, k7⟩, _⟩ := hk'
  unfold f_S_file f_M_file
  rw [if_pos (by omega), x1, x3]
  simp only [zb_s]
  rw [x2, zb_s, if_neg (by omega), if_neg (by omega), f2, if_pos (by omega), if_neg (by omega), if_pos hw, g53, if_pos (by decide), if_neg (by decide)]
  unfold f_ByteRow_clear
  rw [if_pos (by omega), zb_s, if_pos hs, if_pos hp]
  have e2 : (zup3 (zup3 F 0 1 1 0) 0 1 2 0) 12 0 2 = 1 := by rw [zup3_v, if_neg (by omega), zup3_v, if_neg (by omega)]; exact f2
  rw [e2, if_pos (by omega)]
  have wb : WB (F, B, Fm, Bm) 0 (zup3 (zup3 F 0 1 1 0) 0 1 2 0) B (zup3 Fm 14 0 71 0) Bm := by
    refine ⟨⟨by rw [zup3_v, if_neg (by omega), zup3_v, if_pos (by omega)], by rw [zup3_v, if_pos (by omega)], by omega⟩, fun j j0 j1 => by omega, fun c y k z => by rw [zup3_v, if_neg (by omega), zup3_v, if_neg (by omega)], fun _ _ _ _ _ => rfl, fun c y k z => by rw [zup3_v, if_neg (by omega)], fun _ _ _ _ _ => rfl⟩
  generalize zup3 (zup3 F 0 1 1 0) 0 1 2 0 = F0 at wb ⊢
  generalize zup3 Fm 14 0 71 0 = G0 at wb ⊢
  refine P_ret (R := WF (F, B, Fm, Bm)) ?_ (fun r F9 B9 r' G9 D9 hq => ?_)
  · have fF : ∀ {n F1 B1 G1 D1}, WB (F, B, Fm, Bm) n F1 B1 G1 D1 → ∀ k, F1 6 p k = F 6 p k := fun w k => w.2.2.1 6 p k (by omega)
    have fG : ∀ {n F1 B1 G1 D1}, WB (F, B, Fm, Bm) n F1 B1 G1 D1 → ∀ k, G1 13 w k = Fm 13 w k := fun u k => u.2.2.2.2.1 13 w k (by omega)
    unfold f_Performance_write
    rw [if_pos (by omega)]
    refine P_bind (P_head (Km := Km) h0 (by omega) (by omega) (by omega) wb) (fun r F1 B1 r' G1 D1 w1 => ?_)
    refine P_four h0 (by omega) (by omega) (by decide) w1 (by omega) (fun F2 B2 G2 D2 w2 => ?_)
    refine P_two h0 (by omega) (by omega) w2 (by omega) (fun F3 B3 G3 D3 w3 => ?_)
    rw [if_pos hp, fF w3, C_w2 h0 (by omega)]
    simp only [zb_a2, zb_s]
    refine P_put h0 w3 (by omega) (by rw [ush_m (by omega)]; show (F 6 p 1 + 1) / 256 % 256 = 0 % 256; omega) (fun F4 B4 G4 D4 w4 => ?_)
    refine P_put h0 w4 (by omega) (by rw [ush_m (by omega), fG w4]; show (F 6 p 1 + 1) / 1 % 256 = (Fm 13 w 1 + 1) % 256; omega) (fun F5 B5 G5 D5 w5 => ?_)
    refine P_two h0 (by omega) (by omega) w5 (by omega) (fun F6 B6 G6 D6 w6 => ?_)
    unfold f_Performance_writeHead
    simp only [zb_a2]
    refine P_bind (P_trk (Km := Km) h0 (by omega) (by omega) (by omega) w6) (fun r F7 B7 r' G7 D7 w7 => ?_)
    obtain ⟨⟨e1, e2⟩, w7⟩ := w7
    rw [e1, e2]
    refine P_meta h0 w7 (by omega) (fun F8 B8 G8 D8 w8 => ?_)
    rw [if_pos hp, if_pos (by omega), fF w8, fG w8]
    simp only [zb_a2]
    refine P_put h0 w8 (by omega) (by rw [k4.1]) (fun F9 B9 G9 D9 w9 => ?_)
    rw [fF w9, fG w9, bc_l k5.2, zb_s, if_pos (by unfold r32; omega), L_148, ← k5.1]
    unfold f_M_file_148
    refine P_put h0 w9 (by omega) rfl (fun F10 B10 G10 D10 w10 => ?_)
    refine P_put h0 w10 (by omega) rfl (fun F11 B11 G11 D11 w11 => ?_)
    refine P_put h0 w11 (by omega) rfl (fun F12 B12 G12 D12 w12 => ?_)
    refine P_meta h0 w12 (by omega) (fun F13 B13 G13 D13 w13 => ?_)
    rw [if_pos hw, fF w13, fG w13]
    refine P_put h0 w13 (by omega) (by rw [zand255, k2.1]; omega) (fun F14 B14 G14 D14 w14 => ?_)
    rw [fF w14, fG w14, if_pos (by unfold r32; omega), ← k3.1, L_211 k3.2]
    unfold f_M_file_211
    refine P_put h0 w14 (by omega) rfl (fun F15 B15 G15 D15 w15 => ?_)
    refine P_meta h0 w15 (by omega) (fun F16 B16 G16 D16 w16 => ?_)
    have zm : zmax (F 6 p 6) 1 = F 6 p 6 := by unfold zmax; rw [if_neg (by omega)]
    rw [fF w16, fG w16, zm, if_pos (by unfold r32; omega), if_pos (iI_nf (by omega) (by omega)), if_pos hw, ← k6.1, if_pos (iI_nf (by omega) (by omega)), C_w3 h0 (by omega)]
    simp only [zb_a2]
    have zr : r32 (zdv 60000000 (F 6 p 6)) := zdv_R _ _
    refine P_put h0 w16 (by omega) (by_sh zr (by omega)) (fun F17 B17 G17 D17 w17 => ?_)
    refine P_put h0 w17 (by omega) (by_sh zr (by omega)) (fun F18 B18 G18 D18 w18 => ?_)
    refine P_put h0 w18 (by omega) (by rw [ush_m (by omega), zand255]; show zdv 60000000 (F 6 p 6) / 1 % 256 = _; omega) (fun F19 B19 G19 D19 w19 => ?_)
    rw [zb_s]
    refine P_bind (P_end (Km := Km) h0 (by omega) (by omega) (by omega) (by omega) w19) (fun r F20 B20 r' G20 D20 w20 => ?_)
    rw [zb_s]
    have cb := cu_b (Bm 13 w 62) 0 (2 * c).toNat
    have w20' : WB (F, B, Fm, Bm) _ F20 B20 G20 D20 := w20
    exact P_vts (q := (F, B, Fm, Bm)) h0 hK hKm hs hk hP hr hN V.toNat 0 K.1 Km _ F20 B20 G20 D20 (by omega) (by omega) (by omega) (by show 16384 * _ ≤ 1638400 + 65536 * cu (Bm 13 w 62) 0 (2 * c).toNat + 958752 * 0; omega) w20'
  · obtain ⟨n, n1, e, wn⟩ := hq
    have e2 : F9 12 0 2 = 1 := by rw [wn.2.2.1 12 0 2 (by omega)]; exact f2
    rw [e2, if_pos (by omega), wn.1.1, e]
    exact P_some ⟨rfl, ⟨wn.1.2.2, n1⟩, wn⟩
end
