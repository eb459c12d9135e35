section
/-! ===== the call of file, both sides ===== -/
theorem PK_VN {K : zK} {V p w : Int} {F : zF} {B : zB} {Fm : zF} {Bm : zB} (h : PK K V p w F B Fm Bm) : VN p V F B w Bm := by
  intro u u0 u1
  obtain ⟨⟨v1, v2, v3, v4, v5, v6, v7⟩, _⟩ := h.2.2 u u0 u1
  rw [v2]
  rw [v2] at v5
  exact ⟨⟨v5, v7⟩, v6⟩
/-- a place: empty on both sides, or a kept piece with what was made of its sounds -/
def SLD (K : zK) (p w : Int) (F : zF) (B : zB) (Fm : zF) (Bm : zB) : Prop := (p < 0 ∧ Fm 13 w 0 = 0) ∨ (0 ≤ p ∧ Fm 13 w 0 = 1 ∧ ∃ V, PK K V p w F B Fm Bm ∧ MK V w Fm Bm ∧ PD K V p w F B Fm Bm)
theorem C_at {K : zK} {p l : Int} {F : zF} {B : zB} (h12 : 0 < K.2 12) (hl : 0 ≤ l ∧ l < 2) (ep : B 12 0 3 l = p) : f_S_pieceAt K 0 l F B = some (p, F, B) := by
  unfold f_S_pieceAt f_S_pieceAt_19
  rw [if_pos (by unfold r32; omega), if_neg (by omega), if_pos hl.2, if_pos ⟨by omega, h12⟩, if_pos hl, ep]
theorem L_at {Km : Nat} {w l : Int} {F : zF} {B : zB} (hl : 0 ≤ l ∧ l < 2) (ew : B 14 0 5 l = w) (hw : 0 ≤ w ∧ w < 3) (h0 : F 13 w 0 = 0 ∨ F 13 w 0 = 1) : f_M_piece Km l F B = some (if F 13 w 0 = 0 then -1 else w, F, B) := by
  unfold f_M_piece f_M_piece_30 f_M_piece_31
  rw [if_pos (by unfold r32; omega), if_neg (by omega), if_neg (by omega), if_pos hl, ew, if_pos hw, if_pos (by unfold r32; omega)]
  by_cases z : F 13 w 0 = 0
  · rw [if_pos z, if_pos z]
  · rw [if_neg z, if_neg z]
theorem P_fl {K : zK} {Km : Nat} {p w l : Int} {F : zF} {B : zB} {Fm : zF} {Bm : zB} (h0 : 2 ≤ K.2 0) (hK : 4100 ≤ K.1) (hKm : 4100 ≤ Km) (h12 : 0 < K.2 12) (f2 : F 12 0 2 = 1) (hl : 0 ≤ l ∧ l < 2) (ep : B 12 0 3 l = p) (ew : Bm 14 0 5 l = w) (hw : 0 ≤ w ∧ w < 3) (h : SLD K p w F B Fm Bm) : zP (f_S_file K 0 l F B) (f_M_file Km l Fm Bm) (fun r F' B' r' Fm' Bm' => r = r' ∧ ((r = -1 ∧ F' = F ∧ B' = B ∧ Fm' = Fm ∧ Bm' = Bm) ∨ ((0 ≤ r ∧ r ≤ 20480) ∧ WB (F, B, Fm, Bm) r F' B' Fm' Bm'))) := by
  have x1 := C_at (F := F) h12 hl ep
  rcases h with ⟨p0, m0⟩ | ⟨p0, m0, V, hk, hm, hd⟩
  · have x3 := L_at (Km := Km) (F := Fm) hl ew hw (Or.inl m0)
    rw [if_pos m0] at x3
    have x2 : f_S_performanceOf K 0 l F B = some (-1, F, B) := by
      unfold f_S_performanceOf f_S_performanceOf_17 f_S_performanceOf_25
      rw [if_pos ⟨by omega, h12⟩, x1, zb_s, if_pos p0]
    unfold f_S_file f_M_file f_S_file_20 f_M_file_17
    rw [if_pos ⟨by omega, h12⟩, x1, zb_s, x2, zb_s, if_pos p0, x3, zb_s, if_pos (by decide)]
    exact P_some ⟨rfl, Or.inl ⟨rfl, rfl, rfl, rfl, rfl⟩⟩
  · have x3 := L_at (Km := Km) (F := Fm) hl ew hw (Or.inr m0)
    rw [if_neg (by omega)] at x3
    obtain ⟨d10, d11, d9, dr, ds, dp, dz⟩ := hd
    have hp := hk.1.1
    rcases d10 with z | z
    · have x2 : f_S_performanceOf K 0 l F B = some (-1, F, B) := by
        unfold f_S_performanceOf f_S_performanceOf_17 f_S_performanceOf_25
        rw [if_pos ⟨by omega, h12⟩, x1, zb_s, if_neg (by omega), if_pos hp, z, if_pos (by decide), if_pos rfl]
      have g := dz z
      unfold f_S_file f_M_file f_S_file_20 f_M_file_17
      rw [if_pos ⟨by omega, h12⟩, x1, zb_s, x2, zb_s, if_neg (by omega), if_pos (by decide), x3, zb_s, if_neg (by omega), if_pos hw, g, if_pos (by decide), if_pos rfl]
      exact P_some ⟨rfl, Or.inl ⟨rfl, rfl, rfl, rfl, rfl⟩⟩
    · have x2 : f_S_performanceOf K 0 l F B = some (F 6 p 9, F, B) := by
        unfold f_S_performanceOf f_S_performanceOf_17 f_S_performanceOf_25
        rw [if_pos ⟨by omega, h12⟩, x1, zb_s, if_neg (by omega), if_pos hp, z, if_pos (by decide), if_neg (by decide)]
      obtain ⟨z11, c, pfd⟩ := dp z
      have s0 := (ds z11).1
      obtain ⟨r, F', B', r', Fm', Bm', y1, y2, y3, y4, y5⟩ := P_file (c := c) h0 hK hKm h12 f2 ⟨s0, d9⟩ hk pfd (dr s0) (PK_VN hk) x1 x2 x3
      exact ⟨r, F', B', r', Fm', Bm', y1, y2, y3, Or.inr ⟨y4, y5⟩⟩
end
