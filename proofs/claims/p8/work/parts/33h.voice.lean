section
section
variable {cc : Int}
/-! ===== calls that only read a kept piece: its place, its voice ===== -/
theorem slot {Km : Nat} {K : zK} {F Fm : zF} {B Bm : zB} (h : IV cc Km K F B Fm Bm) {a1 : Int} (h1 : r32 a1) : ∃ x y, f_S_pieceAt K 0 a1 F B = some (x, F, B) ∧ f_M_piece Km a1 Fm Bm = some (y, Fm, Bm) ∧ ((x < 0 ∧ y = -1) ∨ ((0 ≤ x ∧ x < K.2 6) ∧ (0 ≤ y ∧ y < 3) ∧ ∃ V, PK K V x y F B Fm Bm ∧ MK V y Fm Bm ∧ PD K V x y F B Fm Bm)) := by
  obtain ⟨p, p0, p1, w, w0, w1, hE, hZ⟩ := h
  have hA := hE.1.1
  obtain ⟨n1, n2, n3, n4, n5, n6⟩ := hE.1.2.2.2.2.1
  have hWw := hE.1.2.2.2.2.2.1
  have s0 := hE.1.2.2.2.2.2.2.2.2.2.1
  have s1 := hE.1.2.2.2.2.2.2.2.2.2.2
  have h12 : 0 < K.2 12 := by have := hA.2.2; omega
  by_cases z : a1 < 0 ∨ 2 ≤ a1
  · exact ⟨-1, -1, C_atx h1 z, L_atx h1 z, Or.inl ⟨(by first | decide | omega), rfl⟩⟩
  · have hl : 0 ≤ a1 ∧ a1 < 2 := by omega
    have go : ∀ q v, B 12 0 3 a1 = q → Bm 14 0 5 a1 = v → 0 ≤ v ∧ v < 3 → SLD K q v F B Fm Bm → ∃ x y, f_S_pieceAt K 0 a1 F B = some (x, F, B) ∧ f_M_piece Km a1 Fm Bm = some (y, Fm, Bm) ∧ ((x < 0 ∧ y = -1) ∨ ((0 ≤ x ∧ x < K.2 6) ∧ (0 ≤ y ∧ y < 3) ∧ ∃ V, PK K V x y F B Fm Bm ∧ MK V y Fm Bm ∧ PD K V x y F B Fm Bm)) := fun q v eq ev hv hs => by
      have x1 := C_at (K := K) (F := F) h12 hl eq
      rcases hs with ⟨q0, m0⟩ | ⟨q0, m0, V, hP, hM, hD⟩
      · have x3 := L_at (Km := Km) (F := Fm) hl ev hv (Or.inl m0)
        rw [if_pos m0] at x3
        exact ⟨q, -1, x1, x3, Or.inl ⟨q0, rfl⟩⟩
      · have x3 := L_at (Km := Km) (F := Fm) hl ev hv (Or.inr m0)
        rw [if_neg (by first | decide | omega)] at x3
        exact ⟨q, v, x1, x3, Or.inr ⟨hP.1.1, hv, V, hP, hM, hD⟩⟩
    rcases (show a1 = 0 ∨ a1 = 1 by omega) with e | e
    · exact go p0 w0 (by rw [e]; exact n2) (by rw [e]; exact n5) hWw.2.1 (SLD_of s0 hE.2.2.2.1)
    · exact go p1 w1 (by rw [e]; exact n3) (by rw [e]; exact n6) hWw.2.2.1 (SLD_of s1 hE.2.2.2.2.1)
theorem IV_12 {Km : Nat} {K : zK} {F Fm : zF} {B Bm : zB} (h : IV cc Km K F B Fm Bm) : 0 ≤ (0 : Int) ∧ (0 : Int) < K.2 12 := by
  obtain ⟨p, p0, p1, w, w0, w1, hE, hZ⟩ := h
  have := hE.1.1.2.2
  omega
theorem prt {Km : Nat} {K : zK} {F Fm : zF} {B Bm : zB} (h : IV cc Km K F B Fm Bm) {a1 a2 : Int} (h1 : r32 a1) (h2 : r32 a2) : ∃ x y e, f_S_partAt K 0 a1 a2 F B = some (x, F, B) ∧ f_M_piece Km a1 Fm Bm = some (y, Fm, Bm) ∧ f_M_isVoice Km y a2 Fm Bm = some (e, Fm, Bm) ∧ ((x < 0 ∧ e = 0) ∨ (e = 1 ∧ (0 ≤ x ∧ x < K.2 4) ∧ (0 ≤ y ∧ y < 3) ∧ (0 ≤ a2 ∧ a2 < 4) ∧ ∃ q V, a2 < V ∧ x = B 6 q 0 a2 ∧ PK K V q y F B Fm Bm ∧ MK V y Fm Bm ∧ PD K V q y F B Fm Bm)) := by
  have h12 := IV_12 h
  obtain ⟨x, y, e1, e2, e3⟩ := slot h h1
  unfold f_S_partAt f_S_partAt_22 f_S_partAt_32 f_M_isVoice f_M_isVoice_20 f_M_isVoice_21
  rw [if_pos h12, e1, zb_s]
  rcases e3 with ⟨x0, y0⟩ | ⟨x0, y0, V, hP, hM, hD⟩
  · rw [if_pos x0]
    exact ⟨-1, y, 0, rfl, e2, by rw [if_pos (by first | decide | omega), if_pos (Or.inl rfl)], Or.inl ⟨(by first | decide | omega), rfl⟩⟩
  · have hV := hP.1.2.2
    rw [if_neg (by first | decide | omega), if_pos h2]
    by_cases z : a2 < 0
    · rw [if_pos z]
      exact ⟨-1, y, 0, rfl, e2, by rw [if_neg (by first | decide | omega), if_pos h2, if_pos z, if_pos (Or.inl rfl)], Or.inl ⟨(by first | decide | omega), rfl⟩⟩
    · rw [if_neg z, if_pos x0, hV.2.1, if_pos (by unfold r32; omega)]
      by_cases c : a2 < V
      · rw [if_pos c, if_pos (by first | decide | omega)]
        refine ⟨_, y, 1, rfl, e2, by rw [if_neg (by first | decide | omega), if_pos h2, if_neg z, if_pos y0, hV.2.2, if_pos (by unfold r32; omega), if_neg (by first | decide | omega), if_pos (Or.inr rfl)], Or.inr ⟨rfl, (hP.2.2 a2 (by first | decide | omega) c).1.1, y0, (by first | decide | omega), x, V, c, rfl, hP, hM, hD⟩⟩
      · rw [if_neg c]
        exact ⟨-1, y, 0, rfl, e2, by rw [if_neg (by first | decide | omega), if_pos h2, if_neg z, if_pos y0, hV.2.2, if_pos (by unfold r32; omega), if_pos (by first | decide | omega), if_pos (Or.inl rfl)], Or.inl ⟨(by first | decide | omega), rfl⟩⟩
theorem rd2 {Km : Nat} {K : zK} {F Fm : zF} {B Bm : zB} {x y : zO} (h : IV cc Km K F B Fm Bm) (a : zR x F B) (b : zR y Fm Bm) : ∃ r1 F1 B1 r2 F2 B2, x = some (r1, F1, B1) ∧ y = some (r2, F2, B2) ∧ IV cc Km K F1 B1 F2 B2 := by
  obtain ⟨r, e⟩ := a
  obtain ⟨r', e'⟩ := b
  exact ⟨r, F, B, r', Fm, Bm, e, e', h⟩
theorem p_voice {Km : Nat} (a1 a2 a3 : Int) (h1 : r32 a1) (h2 : r32 a2) (h3 : r32 a3) {K : zK} {F Fm : zF} {B Bm : zB} (h : IV cc Km K F B Fm Bm) : ∃ r1 F1 B1 r2 F2 B2, f_S_voice K 0 a1 a2 a3 F B = some (r1, F1, B1) ∧ f_M_voice Km a1 a2 a3 Fm Bm = some (r2, F2, B2) ∧ IV cc Km K F1 B1 F2 B2 := by
  obtain ⟨x, y, e, e1, e2, e3, e4⟩ := prt h h1 h2
  refine rd2 h ?_ ?_
  · unfold f_S_voice
    rw [if_pos (IV_12 h), e1, zb_s]
    rcases e4 with ⟨x0, _⟩ | ⟨_, x0, _⟩
    · exact zR_i (fun _ => zR_s) (fun a => absurd x0 a)
    · exact zR_i (fun _ => zR_s) (fun _ => zR_g h3 (zR_i (fun _ => zR_g x0 zR_s) (fun _ => zR_i (fun _ => zR_g x0 zR_s) (fun _ => zR_i (fun _ => zR_g x0 zR_s) (fun _ => zR_i (fun _ => zR_g x0 zR_s) (fun _ => zR_s))))))
  · unfold f_M_voice f_M_voice_72
    rw [e2, zb_s, e3, zb_s]
    rcases e4 with ⟨_, e0⟩ | ⟨e0, _, y0, z0, _⟩
    · rw [e0]
      exact zR_g (by decide) (zR_i (fun _ => zR_s) (fun a => absurd rfl a))
    · rw [e0]
      exact zR_g (by decide) (zR_i (fun _ => zR_s) (fun _ => zR_g h3 (zR_i (fun _ => zR_g y0 (zR_g z0 zR_s)) (fun _ => zR_i (fun _ => zR_g y0 (zR_g z0 zR_s)) (fun _ => zR_i (fun _ => zR_g y0 (zR_g z0 zR_s)) (fun _ => zR_i (fun _ => zR_g y0 (zR_g z0 zR_s)) (fun _ => zR_s)))))))
theorem p_name {Km : Nat} (a1 a2 : Int) (h1 : r32 a1) (h2 : r32 a2) {K : zK} {F Fm : zF} {B Bm : zB} (h : IV cc Km K F B Fm Bm) : ∃ r1 F1 B1 r2 F2 B2, f_S_name K 0 a1 a2 F B = some (r1, F1, B1) ∧ f_M_name Km a1 a2 Fm Bm = some (r2, F2, B2) ∧ IV cc Km K F1 B1 F2 B2 := by
  obtain ⟨x, y, e, e1, e2, e3, e4⟩ := prt h h1 h2
  refine rd2 h ?_ ?_
  · unfold f_S_name f_S_name_19
    rw [if_pos (IV_12 h), e1, zb_s]
    rcases e4 with ⟨x0, _⟩ | ⟨_, x0, _⟩
    · exact zR_i (fun _ => zR_s) (fun a => absurd x0 a)
    · exact zR_i (fun _ => zR_s) (fun _ => zR_g x0 zR_s)
  · unfold f_M_name f_M_name_24
    rw [e2, zb_s, e3, zb_s]
    rcases e4 with ⟨_, e0⟩ | ⟨e0, _, y0, z0, _⟩
    · rw [e0]
      exact zR_g (by decide) (zR_i (fun _ => zR_s) (fun a => absurd rfl a))
    · rw [e0]
      exact zR_g (by decide) (zR_i (fun _ => zR_s) (fun _ => zR_g y0 (zR_g z0 zR_s)))
end
end
section
section
variable {cc : Int}
/-! ===== track, sound: they only read the opened file ===== -/
theorem p_track {Km : Nat} (a1 : Int) (h1 : r32 a1) {K : zK} {F Fm : zF} {B Bm : zB} (h : IV cc Km K F B Fm Bm) : ∃ r1 F1 B1 r2 F2 B2, f_S_track K 0 a1 F B = some (r1, F1, B1) ∧ f_M_track Km a1 Fm Bm = some (r2, F2, B2) ∧ IV cc Km K F1 B1 F2 B2 := by
  have h12 := IV_12 h
  have hO : IOp K F B Fm Bm := by obtain ⟨_, _, _, _, _, _, _, _, hO, _⟩ := h; exact hO
  obtain ⟨⟨_, i2⟩, _, _, i5⟩ := hO
  have g72 : r32 (Fm 14 0 72) := by
    rcases i5 with ⟨_, z⟩ | ⟨_, z, _⟩ <;> rw [z] <;> decide
  refine rd2 h ?_ ?_
  · unfold f_S_track f_S_track_17 f_S_track_45
    exact zR_g h12 (zR_i (fun _ => zR_s) (fun a => zR_g h1 (zR_i (fun _ => zR_s) (fun b => zR_i (fun c => zR_i (fun _ => zR_g ⟨(by first | decide | omega), i2⟩ zR_s) (fun d => zR_g ⟨(by first | decide | omega), i2⟩ (zR_g (by first | decide | omega) zR_s))) (fun _ => zR_s)))))
  · unfold f_M_track f_M_track_26 f_M_track_29
    exact zR_g g72 (zR_i (fun _ => zR_s) (fun _ => zR_g h1 (zR_i (fun _ => zR_s) (fun b => zR_i (fun _ => zR_s) (fun c => zR_g (by first | decide | omega) zR_s)))))
theorem p_sound {Km : Nat} (a1 a2 : Int) (h1 : r32 a1) (h2 : r32 a2) {K : zK} {F Fm : zF} {B Bm : zB} (h : IV cc Km K F B Fm Bm) : ∃ r1 F1 B1 r2 F2 B2, f_S_sound K 0 a1 a2 F B = some (r1, F1, B1) ∧ f_M_sound_0 Km a1 a2 Fm Bm = some (r2, F2, B2) ∧ IV cc Km K F1 B1 F2 B2 := by
  have h12 := IV_12 h
  have hO : IOp K F B Fm Bm := by obtain ⟨_, _, _, _, _, _, _, _, hO, _⟩ := h; exact hO
  obtain ⟨⟨_, i2⟩, _, _, i5⟩ := hO
  refine rd2 h ?_ ?_
  · unfold f_S_sound f_S_sound_32
    rcases i5 with ⟨z, _⟩ | ⟨z, _, hP⟩
    · exact zR_g h12 (zR_i (fun _ => zR_s) (fun a => absurd z a))
    · have l := hP.2.1
      exact zR_g h12 (zR_i (fun _ => zR_s) (fun a => zR_g h1 (zR_i (fun _ => zR_s) (fun b => zR_g ⟨z, i2⟩ (zR_g (by unfold r32; omega) (zR_i (fun _ => zR_s) (fun c => zR_g h2 (zR_i (fun _ => zR_s) (fun d => zR_i (fun e => zR_g (by first | decide | omega) (zR_g (by first | decide | omega) zR_s)) (fun _ => zR_s))))))))))
  · unfold f_M_sound_0 f_M_sound_0_22 f_M_sound_0_106
    rcases i5 with ⟨_, z⟩ | ⟨_, z, hP⟩
    · exact zR_g (by rw [z]; decide) (zR_i (fun _ => zR_s) (fun a => absurd z a))
    · have l := hP.2.1
      have q := hP.2.2.2.1
      have q0 := hP.1.1
      exact zR_g (by rw [z]; decide) (zR_i (fun _ => zR_s) (fun a => zR_g h1 (zR_i (fun _ => zR_s) (fun b => zR_g (by unfold r32; omega) (zR_i (fun c => by
        have q1 := q a1 (by first | decide | omega) (by first | decide | omega)
        exact zR_g h2 (zR_i (fun _ => zR_g (by first | decide | omega) (zR_g (by unfold r32; omega) zR_s)) (fun _ => zR_i (fun _ => zR_g (by first | decide | omega) (zR_g (by unfold r32; omega) zR_s)) (fun _ => zR_i (fun _ => zR_g (by first | decide | omega) (zR_g (by unfold r32; omega) zR_s)) (fun _ => zR_i (fun _ => zR_g (by first | decide | omega) (zR_g (by unfold r32; omega) zR_s)) (fun _ => zR_i (fun _ => zR_g (by first | decide | omega) zR_s) (fun _ => zR_i (fun _ => zR_g (by first | decide | omega) zR_s) (fun _ => zR_s)))))))) (fun _ => zR_s))))))
end
end
