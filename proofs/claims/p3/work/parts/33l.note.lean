section
variable {cc : Int}
/-! ===== note: the reference's side ===== -/
theorem L_noteR {Km : Nat} {a1 a2 a3 a4 : Int} (h1 : r32 a1) (h2 : r32 a2) (h3 : r32 a3) (h4 : r32 a4) {K : zK} {F Fm : zF} {B Bm : zB} (h : IV cc Km K F B Fm Bm) : zR (f_M_note_0 Km a1 a2 a3 a4 Fm Bm) Fm Bm := by
  obtain ⟨x, y, e, e1, e2, e3, e4⟩ := prt h h1 h2
  unfold f_M_note_0 f_M_note_0_31
  rw [e2, zb_s, e3, zb_s]
  rcases e4 with ⟨_, e0⟩ | ⟨e0, x0, y0, z0, q, V, vV, ex, hP, _⟩
  · rw [e0]
    exact zR_g (by decide) (zR_i (fun _ => zR_s) (fun a => absurd rfl a))
  · obtain ⟨_, m, g, hV, _⟩ := hP.2.2 a2 z0.1 vV
    obtain ⟨v1, v2, v3, v4, v5, v6, v7, v8, c, nw, _⟩ := hV
    obtain ⟨n1, n2, n3, n4, n5⟩ := nw
    rw [e0]
    refine zR_g (by decide) (zR_i (fun _ => zR_s) (fun _ => zR_g h3 (zR_i (fun _ => zR_s) (fun a => zR_g y0 (zR_g z0 (zR_g (by rw [n4]; unfold r32; omega) (zR_i (fun b => ?_) (fun _ => zR_s))))))))
    rw [n4] at b
    obtain ⟨k0, k1, _, k4, k5, _⟩ := n5 a3 (by omega) b
    have xs := (IV_k h).2.2.2.2 y (800 * a2 + a3)
    have r0 : r32 (Bm 13 y 30 (800 * a2 + a3)) := by rw [← k0.1]; unfold r32; omega
    have r1 : r32 (Bm 13 y 31 (800 * a2 + a3)) := by rw [← k1.1]; unfold r32; omega
    have r4 : r32 (Bm 13 y 34 (800 * a2 + a3)) := by rw [← k4.1]; unfold r32; omega
    have r5 : r32 (Bm 13 y 35 (800 * a2 + a3)) := by rw [← k5.1]; unfold r32; omega
    obtain ⟨r6, r7, r8, r9, r10, r11⟩ := xs
    exact zR_g h4 (zR_i (fun _ => zR_g (by omega) (zR_g r0 zR_s)) (fun _ => zR_i (fun _ => zR_g (by omega) (zR_g r1 zR_s)) (fun _ => zR_i (fun _ => zR_g (by omega) zR_s) (fun _ => zR_i (fun _ => zR_g (by omega) zR_s) (fun _ => zR_i (fun _ => zR_g (by omega) (zR_g r4 zR_s)) (fun _ => zR_i (fun _ => zR_g (by omega) (zR_g r5 zR_s)) (fun _ => zR_i (fun _ => zR_g (by omega) (zR_g r6 zR_s)) (fun _ => zR_i (fun _ => zR_g (by omega) (zR_g r7 zR_s)) (fun _ => zR_i (fun _ => zR_g (by omega) (zR_g r8 zR_s)) (fun _ => zR_i (fun _ => zR_g (by omega) (zR_g r9 zR_s)) (fun _ => zR_i (fun _ => zR_g (by omega) (zR_g r10 zR_s)) (fun _ => zR_i (fun _ => zR_g (by omega) (zR_g r11 zR_s)) (fun _ => zR_s)))))))))))))
end
