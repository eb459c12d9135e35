section
section
/-! ===== the call of file, both sides ===== -/
theorem PK_VN {K : zK} {V p w : Int} {F : zF} {B : zB} {Fm : zF} {Bm : zB} (h : PK K V p w F B Fm Bm) : VN p V F B w Bm := by
  intro u u0 u1
  obtain ⟨⟨v1, v2, v3, v4, v5, v6, v7⟩, _⟩ := h.2.2 u u0 u1
  rw [v2]
  rw [v2] at v5
  exact ⟨⟨v5, v7⟩, v6⟩
/-- a place: empty on both sides, or a kept piece with what was made of its sounds -/
def SLD (K : zK) (p w : Int) (F : zF) (B : zB) (Fm : zF) (Bm : zB) : Prop := (p < 0 ∧ Fm 13 w 0 = 0) ∨ (0 ≤ p ∧ Fm 13 w 0 = 1 ∧ ∃ V, PK K V p w F B Fm Bm ∧ MK V w Fm Bm ∧ PD K V p w F B Fm Bm)
theorem C_at {K : zK} {p l : Int} {F : zF} {B : zB} (h12 : 0 < K.2 12) (hl : 0 ≤ l ∧ l < 2) (ep : B 12 0 3 l = p) : f_S_pieceAt K 0 l F B = some (p, F, B) := by
  unfold f_S_pieceAt f_S_pieceAt_19
  rw [if_pos (by unfold r32; omega), if_neg (by first | decide | omega), if_pos hl.2, if_pos ⟨(by first | decide | omega), h12⟩, if_pos hl, ep]
theorem L_at {Km : Nat} {w l : Int} {F : zF} {B : zB} (hl : 0 ≤ l ∧ l < 2) (ew : B 14 0 5 l = w) (hw : 0 ≤ w ∧ w < 3) (h0 : F 13 w 0 = 0 ∨ F 13 w 0 = 1) : f_M_piece Km l F B = some (if F 13 w 0 = 0 then -1 else w, F, B) := by
  unfold f_M_piece f_M_piece_30 f_M_piece_31
  rw [if_pos (by unfold r32; omega), if_neg (by first | decide | omega), if_neg (by first | decide | omega), if_pos hl, ew, if_pos hw, if_pos (by unfold r32; omega)]
  by_cases z : F 13 w 0 = 0
  · rw [if_pos z, if_pos z]
  · rw [if_neg z, if_neg z]
theorem P_fl {K : zK} {Km : Nat} {p w l : Int} {F : zF} {B : zB} {Fm : zF} {Bm : zB} (h0 : 2 ≤ K.2 0) (hK : 4100 ≤ K.1) (hKm : 4100 ≤ Km) (h12 : 0 < K.2 12) (f2 : F 12 0 2 = 1) (hl : 0 ≤ l ∧ l < 2) (ep : B 12 0 3 l = p) (ew : Bm 14 0 5 l = w) (hw : 0 ≤ w ∧ w < 3) (h : SLD K p w F B Fm Bm) : zP (f_S_file K 0 l F B) (f_M_file Km l Fm Bm) (fun r F' B' r' Fm' Bm' => r = r' ∧ ((r = -1 ∧ F' = F ∧ B' = B ∧ Fm' = Fm ∧ Bm' = Bm) ∨ ((0 ≤ r ∧ r ≤ 20480) ∧ WB (F, B, Fm, Bm) r F' B' Fm' Bm'))) := by
  have x1 := C_at (F := F) h12 hl ep
  rcases h with ⟨p0, m0⟩ | ⟨p0, m0, V, hk, hm, hd⟩
  · have x3 := L_at (Km := Km) (F := Fm) hl ew hw (Or.inl m0)
    rw [if_pos m0] at x3
    have x2 : f_S_performanceOf K 0 l F B = some (-1, F, B) := by
      unfold f_S_performanceOf f_S_performanceOf_17 f_S_performanceOf_25
      rw [if_pos ⟨(by first | decide | omega), h12⟩, x1, zb_s, if_pos p0]
    unfold f_S_file f_M_file f_S_file_20 f_M_file_17
    rw [if_pos ⟨(by first | decide | omega), h12⟩, x1, zb_s, x2, zb_s, if_pos p0, x3, zb_s, if_pos (by decide)]
    exact P_some ⟨rfl, Or.inl ⟨rfl, rfl, rfl, rfl, rfl⟩⟩
  · have x3 := L_at (Km := Km) (F := Fm) hl ew hw (Or.inr m0)
    rw [if_neg (by first | decide | omega)] at x3
    obtain ⟨d10, d11, d9, dr, ds, dp, dz⟩ := hd
    have hp := hk.1.1
    rcases d10 with z | z
    · have x2 : f_S_performanceOf K 0 l F B = some (-1, F, B) := by
        unfold f_S_performanceOf f_S_performanceOf_17 f_S_performanceOf_25
        rw [if_pos ⟨(by first | decide | omega), h12⟩, x1, zb_s, if_neg (by first | decide | omega), if_pos hp, z, if_pos (by decide), if_pos rfl]
      have g := dz z
      unfold f_S_file f_M_file f_S_file_20 f_M_file_17
      rw [if_pos ⟨(by first | decide | omega), h12⟩, x1, zb_s, x2, zb_s, if_neg (by first | decide | omega), if_pos (by decide), x3, zb_s, if_neg (by first | decide | omega), if_pos hw, g, if_pos (by decide), if_pos rfl]
      exact P_some ⟨rfl, Or.inl ⟨rfl, rfl, rfl, rfl, rfl⟩⟩
    · have x2 : f_S_performanceOf K 0 l F B = some (F 6 p 9, F, B) := by
        unfold f_S_performanceOf f_S_performanceOf_17 f_S_performanceOf_25
        rw [if_pos ⟨(by first | decide | omega), h12⟩, x1, zb_s, if_neg (by first | decide | omega), if_pos hp, z, if_pos (by decide), if_neg (by decide)]
      obtain ⟨z11, c, pfd⟩ := dp z
      have s0 := (ds z11).1
      obtain ⟨r, F', B', r', Fm', Bm', y1, y2, y3, y4, y5⟩ := P_file (c := c) h0 hK hKm h12 f2 ⟨s0, d9⟩ hk pfd (dr s0) (PK_VN hk) x1 x2 x3
      exact ⟨r, F', B', r', Fm', Bm', y1, y2, y3, Or.inr ⟨y4, y5⟩⟩
end
end
section
section
/-! ===== a file opened: one byte taken, both sides ===== -/
/-- what stands fast while bytes are taken -/
def RO (o : Int) (F : zF) (B : zB) (Fm : zF) (Bm : zB) : Prop := F 8 o 4 = 0 ∧ (F 0 0 1 = Fm 14 0 3 ∧ 0 ≤ F 0 0 1 ∧ F 0 0 1 ≤ 3000) ∧ (∀ y, 0 ≤ B 0 0 0 y ∧ B 0 0 0 y < 256) ∧ tmB Bm = B 0 0 0
/-- no fault yet, both at byte a; the class's end is the nearer of the reference's two -/
def RG (o a : Int) (F : zF) (Fm : zF) : Prop := F 8 o 7 = 0 ∧ Fm 14 0 17 = 0 ∧ (F 8 o 5 = a ∧ Fm 14 0 89 = a ∧ 0 ≤ a ∧ a ≤ 3000) ∧ (0 ≤ Fm 14 0 90 ∧ Fm 14 0 90 ≤ 1099511627776) ∧ (F 8 o 6 ≤ Fm 14 0 90 ∧ F 8 o 6 ≤ Fm 14 0 3 ∧ (F 8 o 6 = Fm 14 0 90 ∨ F 8 o 6 = Fm 14 0 3) ∧ a ≤ F 8 o 6)
theorem C_ref {K : zK} {o c z : Int} {F : zF} {B : zB} (ho : 0 ≤ o ∧ o < K.2 8) (h7 : F 8 o 7 = 0) : f_SoundFile_refuse K o c z F B = some (0, zup3 F 8 o 7 (c + 16 * z), B) := by
  unfold f_SoundFile_refuse f_SoundFile_refuse_17
  rw [if_pos ho, h7, if_pos (by decide), if_pos rfl]
theorem L_fb {Km : Nat} {c z : Int} {F : zF} {B : zB} (h7 : F 14 0 17 = 0) : f_M_failByte Km c z F B = some (0, zup3 (zup3 F 14 0 17 c) 14 0 18 z, B) := by
  unfold f_M_failByte
  rw [h7, if_pos (by decide), if_pos (by decide)]
theorem zcmp_o {a b : Int} : 0 ≤ zcmp a b ↔ b ≤ a := by
  unfold zcmp
  split
  · exact ⟨fun z => (by first | decide | omega), fun z => (by first | decide | omega)⟩
  · split
    · exact ⟨fun z => (by first | decide | omega), fun z => (by first | decide | omega)⟩
    · exact ⟨fun z => (by first | decide | omega), fun z => (by first | decide | omega)⟩
theorem P_take {K : zK} {Km : Nat} {o a : Int} {F : zF} {B : zB} {Fm : zF} {Bm : zB} (h0 : 2 ≤ K.2 0) (ho : 0 ≤ o ∧ o < K.2 8) (hO : RO o F B Fm Bm) (hG : RG o a F Fm) : zP (f_SoundFile_take K o F B) (f_M_next Km Fm Bm) (fun r F' B' r' Fm' Bm' => B' = B ∧ Bm' = Bm ∧ r' = r ∧ ((r = B 0 0 0 a ∧ a < F 8 o 6 ∧ F' = zup3 F 8 o 5 (a + 1) ∧ Fm' = zup3 Fm 14 0 89 (a + 1)) ∨ (r = 0 ∧ F 8 o 6 ≤ a ∧ F' = zup3 F 8 o 7 (2 + 16 * F 8 o 6) ∧ Fm' = zup3 (zup3 Fm 14 0 17 2) 14 0 18 (F 8 o 6)))) := by
  obtain ⟨o4, ⟨n1, n2, n3⟩, o5, o6⟩ := hO
  obtain ⟨g7, g17, ⟨a1, a2, a3, a4⟩, ⟨l1, l2⟩, ⟨m1, m2, m3⟩⟩ := hG
  unfold f_SoundFile_take f_M_next
  rw [if_pos ho, a1, if_pos (by unfold r32; omega), if_pos (by unfold r32; omega), L_good g17, zb_s, if_pos (show r32 1 by decide), if_neg (show ¬ (1 : Int) = 0 by decide), a2, if_pos (show r32 a by unfold r32; omega), if_pos (show r64 a by unfold r64; omega), if_pos (show r64 (Fm 14 0 90) by unfold r64; omega)]
  by_cases z : F 8 o 6 ≤ a
  · rw [if_pos z]
    unfold f_SoundFile_take_18
    rw [if_pos ho, C_ref ho g7, zb_s]
    have e : f_M_next_33 Km Fm Bm = some (0, zup3 (zup3 Fm 14 0 17 2) 14 0 18 (F 8 o 6), Bm) := by
      unfold f_M_next_33 f_M_next_60
      rw [if_pos (by unfold r32; omega), if_pos (by unfold r64; omega), if_pos (by unfold r64; omega)]
      by_cases y : Fm 14 0 3 ≤ Fm 14 0 90
      · rw [if_pos (zcmp_o.mpr y), if_pos (by unfold r32; omega), L_fb g17, zb_s, show Fm 14 0 3 = F 8 o 6 by omega]
      · rw [if_neg (fun x => y (zcmp_o.mp x)), if_pos (by unfold r32; omega), L_fb g17, zb_s, show Fm 14 0 90 = F 8 o 6 by omega]
    by_cases y : Fm 14 0 90 ≤ a
    · rw [if_pos (zcmp_o.mpr y), e]
      exact P_some ⟨rfl, rfl, rfl, Or.inr ⟨rfl, z, rfl, rfl⟩⟩
    · rw [if_neg (fun x => y (zcmp_o.mp x)), if_pos (by unfold r32; omega), if_neg (by first | decide | omega), e]
      exact P_some ⟨rfl, rfl, rfl, Or.inr ⟨rfl, z, rfl, rfl⟩⟩
  · rw [if_neg z, o4, if_neg (by decide), if_pos (by first | decide | omega), if_neg (fun x => by have := zcmp_o.mp x; omega), if_pos (show r32 (Fm 14 0 3) by unfold r32; omega), if_pos (show a < Fm 14 0 3 by omega), show a + 1 - 1 = a by omega, L_byteA a3 (by first | decide | omega), zb_s, o6]
    rw [C_at0 (by first | decide | omega) a3 (by rw [zup3_v, if_neg (by first | decide | omega)]; omega) (by rw [zup3_v, if_neg (by first | decide | omega)]; omega), zb_s]
    exact P_some ⟨rfl, rfl, rfl, Or.inl ⟨rfl, (by first | decide | omega), rfl, rfl⟩⟩
end
end
section
section
/-! ===== bytes taken, with or without a fault ===== -/
/-- a fault told alike; the class may go on taking bytes -/
def RX (o : Int) (F : zF) (Fm : zF) : Prop := F 8 o 7 = Fm 14 0 17 + 16 * Fm 14 0 18 ∧ (1 ≤ Fm 14 0 17 ∧ Fm 14 0 17 ≤ 3) ∧ (0 ≤ Fm 14 0 18 ∧ Fm 14 0 18 ≤ 3000) ∧ (0 ≤ F 8 o 5 ∧ F 8 o 5 ≤ 3000) ∧ F 8 o 6 ≤ 3000 ∧ -1 ≤ F 8 o 6 ∧ (0 ≤ Fm 14 0 89 ∧ Fm 14 0 89 ≤ 3000)
/-- what taking a byte may change -/
def tkF (o : Int) (F F' : zF) : Prop := ∀ c y k, ¬ (c = 8 ∧ y = o ∧ (k = 5 ∨ k = 7)) → F' c y k = F c y k
def tkG (F F' : zF) : Prop := ∀ c y k, ¬ (c = 14 ∧ y = 0 ∧ (k = 17 ∨ k = 18 ∨ k = 89)) → F' c y k = F c y k
theorem tkF_t {o : Int} {F F1 F2 : zF} (h : tkF o F F1) (h' : tkF o F1 F2) : tkF o F F2 := fun c y k n => by rw [h' c y k n, h c y k n]
theorem tkG_t {F F1 F2 : zF} (h : tkG F F1) (h' : tkG F1 F2) : tkG F F2 := fun c y k n => by rw [h' c y k n, h c y k n]
theorem RO_t {o : Int} {F F' : zF} {B : zB} {Fm Fm' : zF} {Bm : zB} (h : RO o F B Fm Bm) (f : tkF o F F') (g : tkG Fm Fm') : RO o F' B Fm' Bm := by
  unfold RO at *
  rw [f 8 o 4 (by first | decide | omega), f 0 0 1 (by first | decide | omega), g 14 0 3 (by first | decide | omega)]
  exact h
/-- a byte taken: further on and alike, or a fault -/
def TO (o a : Int) (F : zF) (B : zB) (Fm : zF) (Bm : zB) : Int → zF → zB → Int → zF → zB → Prop := fun r F' B' r' Fm' Bm' => B' = B ∧ Bm' = Bm ∧ tkF o F F' ∧ tkG Fm Fm' ∧ (0 ≤ r ∧ r < 256) ∧ (0 ≤ r' ∧ r' < 256) ∧ ((r' = r ∧ a + 1 ≤ F 8 o 6 ∧ RG o (a + 1) F' Fm' ∧ F 8 o 7 = 0) ∨ RX o F' Fm')
theorem P_take1 {K : zK} {Km : Nat} {o a : Int} {F : zF} {B : zB} {Fm : zF} {Bm : zB} (h0 : 2 ≤ K.2 0) (ho : 0 ≤ o ∧ o < K.2 8) (hO : RO o F B Fm Bm) (hG : RG o a F Fm) (h6 : 0 ≤ F 8 o 6) : zP (f_SoundFile_take K o F B) (f_M_next Km Fm Bm) (TO o a F B Fm Bm) := by
  obtain ⟨r, F', B', r', Fm', Bm', x1, x2, rfl, rfl, rfl, x3⟩ := P_take (Km := Km) h0 ho hO hG
  obtain ⟨o4, ⟨n1, n2, n3⟩, o5, o6⟩ := hO
  obtain ⟨g7, g17, ⟨a1, a2, a3, a4⟩, ⟨l1, l2⟩, ⟨m1, m2, m3⟩⟩ := hG
  rcases x3 with ⟨e, e6, rfl, rfl⟩ | ⟨e, e6, rfl, rfl⟩
  · have b := o5 a
    refine ⟨_, _, _, _, _, _, x1, x2, rfl, rfl, fun c y k n => by rw [zup3_v, if_neg (by first | decide | omega)], fun c y k n => by rw [zup3_v, if_neg (by first | decide | omega)], (by first | decide | omega), (by first | decide | omega), Or.inl ⟨rfl, (by first | decide | omega), ?_, g7⟩⟩
    unfold RG
    simp only [zup3_v]
    simp
    omega
  · refine ⟨_, _, _, _, _, _, x1, x2, rfl, rfl, fun c y k n => by rw [zup3_v, if_neg (by first | decide | omega)], fun c y k n => by rw [zup3_v, if_neg (by first | decide | omega), zup3_v, if_neg (by first | decide | omega)], (by first | decide | omega), (by first | decide | omega), Or.inr ?_⟩
    unfold RX
    simp only [zup3_v]
    simp
    omega
theorem P_takeX {K : zK} {Km : Nat} {o : Int} {F : zF} {B : zB} {Fm : zF} {Bm : zB} (h0 : 2 ≤ K.2 0) (ho : 0 ≤ o ∧ o < K.2 8) (hO : RO o F B Fm Bm) (hX : RX o F Fm) (h6 : F 8 o 6 ≤ F 0 0 1) (a : Int) : zP (f_SoundFile_take K o F B) (f_M_next Km Fm Bm) (TO o a F B Fm Bm) := by
  obtain ⟨o4, ⟨n1, n2, n3⟩, o5, o6⟩ := hO
  have hX' := hX
  obtain ⟨x7, x17, x18, x5, x6, x6'⟩ := hX
  have e : f_M_next Km Fm Bm = some (0, Fm, Bm) := by
    unfold f_M_next f_M_good f_M_good_12
    rw [if_pos (by unfold r32; omega), if_neg (by first | decide | omega), if_pos (by decide), zb_s, if_pos (by decide), if_pos rfl]
  rw [e]
  unfold f_SoundFile_take
  rw [if_pos ho, if_pos (by unfold r32; omega), if_pos (by unfold r32; omega)]
  by_cases z : F 8 o 6 ≤ F 8 o 5
  · rw [if_pos z]
    unfold f_SoundFile_take_18 f_SoundFile_refuse f_SoundFile_refuse_17
    rw [if_pos ho, if_pos ho, if_pos (by unfold r32; omega), if_neg (by first | decide | omega), zb_s]
    exact P_some ⟨rfl, rfl, fun _ _ _ _ => rfl, fun _ _ _ _ => rfl, (by first | decide | omega), (by first | decide | omega), Or.inr hX'⟩
  · rw [if_neg z, o4, if_neg (by decide), if_pos (by first | decide | omega), show F 8 o 5 + 1 - 1 = F 8 o 5 by omega]
    rw [C_at0 (by first | decide | omega) x5.1 (by rw [zup3_v, if_neg (by first | decide | omega)]; omega) (by rw [zup3_v, if_neg (by first | decide | omega)]; omega), zb_s]
    have b := o5 (F 8 o 5)
    refine P_some ⟨rfl, rfl, fun c y k n => by rw [zup3_v, if_neg (by first | decide | omega)], fun _ _ _ _ => rfl, b, (by first | decide | omega), Or.inr ?_⟩
    unfold RX
    simp only [zup3_v]
    simp
    omega
end
end
