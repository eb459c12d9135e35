section
variable {cc : Int}
/-! ===== the calls of file and perform ===== -/
theorem C_atx {K : zK} {l : Int} {F : zF} {B : zB} (hl : r32 l) (h : l < 0 ∨ 2 ≤ l) : f_S_pieceAt K 0 l F B = some (-1, F, B) := by
  unfold f_S_pieceAt f_S_pieceAt_9 f_S_pieceAt_19
  rw [if_pos hl]
  by_cases a : l < 0
  · rw [if_pos a]
  · rw [if_neg a, if_neg (by first | decide | omega)]
theorem L_atx {Km : Nat} {l : Int} {F : zF} {B : zB} (hl : r32 l) (h : l < 0 ∨ 2 ≤ l) : f_M_piece Km l F B = some (-1, F, B) := by
  unfold f_M_piece f_M_piece_30 f_M_piece_31
  rw [if_pos hl]
  by_cases a : l < 0
  · rw [if_pos a]
  · rw [if_neg a, if_pos (by first | decide | omega)]
theorem p_file {Km : Nat} (a1 : Int) (h1 : r32 a1) {K : zK} {F Fm : zF} {B Bm : zB} (h : IV cc Km K F B Fm Bm) : ∃ r1 F1 B1 r2 F2 B2, f_S_file K 0 a1 F B = some (r1, F1, B1) ∧ f_M_file Km a1 Fm Bm = some (r2, F2, B2) ∧ IV cc Km K F1 B1 F2 B2 := by
  have hI := h
  obtain ⟨p, p0, p1, w, w0, w1, hE, hW, hO, h7, hX, hK⟩ := h
  have hA := hE.1.1
  have hB := hE.1.2.1
  obtain ⟨t1, t2, t3, t4, t5⟩ := hE.1.2.2.2.1
  obtain ⟨n1, n2, n3, n4, n5, n6⟩ := hE.1.2.2.2.2.1
  have hWw := hE.1.2.2.2.2.2.1
  have s0 := hE.1.2.2.2.2.2.2.2.2.2.1
  have s1 := hE.1.2.2.2.2.2.2.2.2.2.2
  have h12 : 0 < K.2 12 := by have := hA.2.2; omega
  by_cases z : a1 < 0 ∨ 2 ≤ a1
  · refine ⟨-1, F, B, -1, Fm, Bm, ?_, ?_, hI⟩
    · have x1 := C_atx (K := K) (F := F) (B := B) h1 z
      unfold f_S_file f_S_performanceOf f_S_performanceOf_17 f_S_performanceOf_25 f_S_file_20
      rw [if_pos ⟨(by first | decide | omega), h12⟩, x1, zb_s, if_pos ⟨(by first | decide | omega), h12⟩, x1, zb_s, if_pos (by decide), zb_s, if_pos (by decide)]
    · have x1 := L_atx (Km := Km) (F := Fm) (B := Bm) h1 z
      unfold f_M_file f_M_file_17
      rw [x1, zb_s, if_pos (by decide)]
  · have go : ∀ q v, B 12 0 3 a1 = q → Bm 14 0 5 a1 = v → 0 ≤ v ∧ v < 3 → SLD K q v F B Fm Bm → ∃ r1 F1 B1 r2 F2 B2, f_S_file K 0 a1 F B = some (r1, F1, B1) ∧ f_M_file Km a1 Fm Bm = some (r2, F2, B2) ∧ IV cc Km K F1 B1 F2 B2 := fun q v eq ev hv hs => by
      obtain ⟨r, F', B', r', Fm', Bm', x1, x2, _, x4⟩ := P_fl (K := K) (Km := Km) (by have := hA.2.2; omega) (by first | decide | omega) (by have := hA.2.1; omega) h12 hB.2.1 (show 0 ≤ a1 ∧ a1 < 2 by omega) eq ev hv hs
      rcases x4 with ⟨_, rfl, rfl, rfl, rfl⟩ | ⟨rb, ⟨y1, y2, y3⟩, y4, f, b, g, m⟩
      · exact ⟨_, _, _, _, _, _, x1, x2, hI⟩
      · have f : ∀ c y k, ¬ (c = 0 ∧ y = 1 ∧ 1 ≤ k ∧ k ≤ 2) → F' c y k = F c y k := f
        have b : ∀ c y k x, ¬ (c = 0 ∧ y = 1 ∧ k = 0) → B' c y k x = B c y k x := b
        have g : ∀ c y k, ¬ (c = 14 ∧ y = 0 ∧ k = 71) → Fm' c y k = Fm c y k := g
        have m : ∀ c y k x, ¬ (c = 14 ∧ y = 0 ∧ k = 70) → Bm' c y k x = Bm c y k x := m
        have hT' : IT F' B' Fm' Bm' := ⟨by rw [f 0 0 1 (by first | decide | omega), g 14 0 3 (by first | decide | omega)]; exact t1, by rw [f 0 0 1 (by first | decide | omega)]; exact t2, by rw [f 0 0 1 (by first | decide | omega)]; exact t3, fun y => by rw [b 0 0 0 y (by first | decide | omega)]; exact t4 y, by funext y; rw [b 0 0 0 y (by first | decide | omega), ← t5]; show Bm' 14 0 2 y % 256 = Bm 14 0 2 y % 256; rw [m 14 0 2 y (by first | decide | omega)]⟩
        refine ⟨_, _, _, _, _, _, x1, x2, p, p0, p1, w, w0, w1, IE_f hE rfl (fun _ _ => rfl) (Int.le_refl _) (fun c y k n _ _ _ _ => f c y k (by first | decide | omega)) (fun c y k x n _ _ _ _ => b c y k x (by first | decide | omega)) (fun i k => ⟨fun _ => g 13 i k (by first | decide | omega), g 14 0 6 (by first | decide | omega)⟩) ⟨fun i k x _ => m 13 i k x (by first | decide | omega), fun k x hk => m 14 0 k x (by first | decide | omega)⟩ hT', ?_, ?_, by rw [f 7 0 4 (by first | decide | omega)]; exact h7, ?_, hK⟩
        · exact ⟨(by first | decide | omega), (by first | decide | omega), fun j j0 j1 => y4 j j0 (by first | decide | omega)⟩
        · exact IOp_f hO (f 12 0 8 (by first | decide | omega)) (f 12 0 9 (by first | decide | omega)) (fun o k => f 8 o k (by first | decide | omega)) (fun o k x => b 8 o k x (by first | decide | omega)) (g 14 0 72 (by first | decide | omega)) (fun k x hk => m 14 0 k x (by first | decide | omega))
        · intro y y0 y1
          rw [b 12 0 1 y (by first | decide | omega), m 14 0 4 y (by first | decide | omega)]; exact hX y y0 y1
    rcases (show a1 = 0 ∨ a1 = 1 by omega) with e | e
    · exact go p0 w0 (by rw [e]; exact n2) (by rw [e]; exact n5) hWw.2.1 (SLD_of s0 hE.2.2.2.1)
    · exact go p1 w1 (by rw [e]; exact n3) (by rw [e]; exact n6) hWw.2.2.1 (SLD_of s1 hE.2.2.2.2.1)
end
