section
variable {cc : Int}
/-! ===== track, sound: they only read the opened file ===== -/
theorem p_track {Km : Nat} (a1 : Int) (h1 : r32 a1) {K : zK} {F Fm : zF} {B Bm : zB} (h : IV cc Km K F B Fm Bm) : ∃ r1 F1 B1 r2 F2 B2, f_S_track K 0 a1 F B = some (r1, F1, B1) ∧ f_M_track Km a1 Fm Bm = some (r2, F2, B2) ∧ IV cc Km K F1 B1 F2 B2 := by
  have h12 := IV_12 h
  have hO : IOp K F B Fm Bm := by obtain ⟨_, _, _, _, _, _, _, _, hO, _⟩ := h; exact hO
  obtain ⟨⟨_, i2⟩, _, _, i5⟩ := hO
  have g72 : r32 (Fm 14 0 72) := by
    rcases i5 with ⟨_, z⟩ | ⟨_, z, _⟩ <;> rw [z] <;> decide
  refine rd2 h ?_ ?_
  · unfold f_S_track f_S_track_17 f_S_track_45
    exact zR_g h12 (zR_i (fun _ => zR_s) (fun a => zR_g h1 (zR_i (fun _ => zR_s) (fun b => zR_i (fun c => zR_i (fun _ => zR_g ⟨by omega, i2⟩ zR_s) (fun d => zR_g ⟨by omega, i2⟩ (zR_g (by omega) zR_s))) (fun _ => zR_s)))))
  · unfold f_M_track f_M_track_26 f_M_track_29
    exact zR_g g72 (zR_i (fun _ => zR_s) (fun _ => zR_g h1 (zR_i (fun _ => zR_s) (fun b => zR_i (fun _ => zR_s) (fun c => zR_g (by omega) zR_s)))))
theorem p_sound {Km : Nat} (a1 a2 : Int) (h1 : r32 a1) (h2 : r32 a2) {K : zK} {F Fm : zF} {B Bm : zB} (h : IV cc Km K F B Fm Bm) : ∃ r1 F1 B1 r2 F2 B2, f_S_sound K 0 a1 a2 F B = some (r1, F1, B1) ∧ f_M_sound_0 Km a1 a2 Fm Bm = some (r2, F2, B2) ∧ IV cc Km K F1 B1 F2 B2 := by
  have h12 := IV_12 h
  have hO : IOp K F B Fm Bm := by obtain ⟨_, _, _, _, _, _, _, _, hO, _⟩ := h; exact hO
  obtain ⟨⟨_, i2⟩, _, _, i5⟩ := hO
  refine rd2 h ?_ ?_
  · unfold f_S_sound f_S_sound_32
    rcases i5 with ⟨z, _⟩ | ⟨z, _, hP⟩
    · exact zR_g h12 (zR_i (fun _ => zR_s) (fun a => absurd z a))
    · have l := hP.2.1
      exact zR_g h12 (zR_i (fun _ => zR_s) (fun a => zR_g h1 (zR_i (fun _ => zR_s) (fun b => zR_g ⟨z, i2⟩ (zR_g (by unfold r32; omega) (zR_i (fun _ => zR_s) (fun c => zR_g h2 (zR_i (fun _ => zR_s) (fun d => zR_i (fun e => zR_g (by omega) (zR_g (by omega) zR_s)) (fun _ => zR_s))))))))))
  · unfold f_M_sound_0 f_M_sound_0_22 f_M_sound_0_106
    rcases i5 with ⟨_, z⟩ | ⟨_, z, hP⟩
    · exact zR_g (by rw [z]; decide) (zR_i (fun _ => zR_s) (fun a => absurd z a))
    · have l := hP.2.1
      have q := hP.2.2.2.1
      have q0 := hP.1.1
      exact zR_g (by rw [z]; decide) (zR_i (fun _ => zR_s) (fun a => zR_g h1 (zR_i (fun _ => zR_s) (fun b => zR_g (by unfold r32; omega) (zR_i (fun c => by
        have q1 := q a1 (by omega) (by omega)
        exact zR_g h2 (zR_i (fun _ => zR_g (by omega) (zR_g (by unfold r32; omega) zR_s)) (fun _ => zR_i (fun _ => zR_g (by omega) (zR_g (by unfold r32; omega) zR_s)) (fun _ => zR_i (fun _ => zR_g (by omega) (zR_g (by unfold r32; omega) zR_s)) (fun _ => zR_i (fun _ => zR_g (by omega) (zR_g (by unfold r32; omega) zR_s)) (fun _ => zR_i (fun _ => zR_g (by omega) zR_s) (fun _ => zR_i (fun _ => zR_g (by omega) zR_s) (fun _ => zR_s)))))))) (fun _ => zR_s))))))
end
