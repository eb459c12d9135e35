section
/-! ===== the call of note ===== -/
variable {cc : Int}
theorem p_note {Km : Nat} (a1 a2 a3 a4 : Int) (h1 : r32 a1) (h2 : r32 a2) (h3 : r32 a3) (h4 : r32 a4) {K : zK} {F Fm : zF} {B Bm : zB} (h : IV cc Km K F B Fm Bm) : ∃ r1 F1 B1 r2 F2 B2, f_S_note K 0 a1 a2 a3 a4 F B = some (r1, F1, B1) ∧ f_M_note_0 Km a1 a2 a3 a4 Fm Bm = some (r2, F2, B2) ∧ IV cc Km K F1 B1 F2 B2 := by
  refine rd2 h ?_ (L_noteR h1 h2 h3 h4 h)
  have hK := (IV_k h).1
  obtain ⟨x, y, e, e1, e2, e3, e4⟩ := prt h h1 h2
  unfold f_S_note f_S_note_38 f_S_note_89
  rw [if_pos (IV_12 h), e1, zb_s]
  rcases e4 with ⟨x0, _⟩ | ⟨_, x0, y0, z0, q, V, vV, ex, hP, _⟩
  · exact zR_i (fun _ => zR_s) (fun a => absurd x0 a)
  obtain ⟨_, m, g, hV, _⟩ := hP.2.2 a2 z0.1 vV
  rw [← ex] at hV
  obtain ⟨_, _, _, _, _, _, _, _, c, nw, qn, gb⟩ := hV
  have c0 := nw.1
  have n10 := nw.2.1
  refine zR_i (fun _ => zR_s) (fun _ => zR_g h3 (zR_i (fun _ => zR_s) (fun n3 => zR_g x0 (zR_g (by rw [n10]; unfold r32; omega) (zR_i (fun _ => zR_s) (fun l3 => zR_g h4 (zR_i (fun _ => zR_s) (fun n4 => zR_i (fun l4 => ?_) (fun _ => zR_s)))))))))
  rw [n10] at l3
  obtain ⟨k0, k1, k9, k4, k5, _⟩ := nw.2.2.2.2 a3 (by first | decide | omega) (by first | decide | omega)
  obtain ⟨g9, g10, g6, g7, g8, g11⟩ := gb a3 (by first | decide | omega) (by first | decide | omega)
  refine zR_i (fun _ => zR_g (by first | decide | omega) (zR_b (C_above (by first | decide | omega) ⟨k9.1, k9.2.1⟩) (fun _ => zR_s))) (fun n2 => zR_i (fun _ => zR_g (by first | decide | omega) (zR_b (C_below (by first | decide | omega) ⟨k9.1, k9.2.1⟩) (fun _ => zR_s))) (fun n3' => zR_g (by first | decide | omega) (zR_g (by first | decide | omega) (zR_g ?_ zR_s))))
  have o : a4 = 0 ∨ a4 = 1 ∨ a4 = 4 ∨ a4 = 5 ∨ a4 = 6 ∨ a4 = 7 ∨ a4 = 8 ∨ a4 = 9 ∨ a4 = 10 ∨ a4 = 11 := by omega
  rcases o with rfl | rfl | rfl | rfl | rfl | rfl | rfl | rfl | rfl | rfl
  · show r32 (B 4 x 360 a3); unfold r32; omega
  · show r32 (B 4 x 361 a3); unfold r32; omega
  · show r32 (B 4 x 364 a3); unfold r32; omega
  · show r32 (B 4 x 365 a3); unfold r32; omega
  · exact g6
  · exact g7
  · exact g8
  · show r32 (B 4 x 369 a3); unfold r32; omega
  · exact g10
  · exact g11
end
