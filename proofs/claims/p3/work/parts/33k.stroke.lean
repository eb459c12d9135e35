section
variable {cc : Int}
/-! ===== stroke ===== -/
theorem C_toldR {K : zK} {s w c l1 l2 : Int} {F : zF} {B : zB} {Fm : zF} {Bm : zB} (hs : 0 ≤ s ∧ s < K.2 5) (hP : PFD s w c F B Fm Bm) (hr : rwS s F) (h1 : r32 l1) (h2 : r32 l2) : zR (f_Performance_strokeTold K s l1 l2 F B) F B := by
  have hc := hP.1.2
  by_cases r : 0 ≤ l1 ∧ l1 < 2 * c
  · obtain ⟨on, ev, j, e, y1, y2, y3, y4, y5, y6, _⟩ := PFD_s hP r.1 r.2
    obtain ⟨t0, t1, t2, t3⟩ := C_toldK (K := K) hs ⟨hc.1, hc.2⟩ hr r.1 r.2 y1 y2 y3 y4 y5 y6 e
    by_cases c0 : l2 = 0
    · rw [c0]; exact ⟨_, t0⟩
    · by_cases c1 : l2 = 1
      · rw [c1]; exact ⟨_, t1⟩
      · by_cases c2 : l2 = 2
        · rw [c2]; exact ⟨_, t2⟩
        · by_cases c3 : l2 = 3
          · rw [c3]; exact ⟨_, t3⟩
          · obtain ⟨g1, g2⟩ : ((lnC 5 s (F 5 s 8).toNat : Nat) : Int) = 4000 ∧ zk 5 (F 5 s 8).toNat = (3, 1) := by
              rcases hr with ⟨e8, _⟩ | ⟨e8, _⟩
              · rw [e8]; exact ⟨rfl, by decide⟩
              · rw [e8]; exact ⟨rfl, by decide⟩
            have g3 : lnC 5 s (F 5 s 8).toNat ≤ 2147483647 := by omega
            unfold f_Performance_strokeTold
            rw [if_pos h1, if_neg (by omega), if_pos hs, hc.1, if_pos (by unfold r32; omega), if_pos r.2, if_pos (by omega), if_pos g2, if_pos g3, if_pos h2, if_neg c0, if_neg c1, if_neg c2, if_neg c3]
            exact zR_s
  · unfold f_Performance_strokeTold f_Performance_strokeTold_14
    rw [if_pos h1]
    by_cases z : l1 < 0
    · rw [if_pos z]; exact zR_s
    · rw [if_neg z, if_pos hs, hc.1, if_pos (by unfold r32; omega), if_neg (by omega)]; exact zR_s
theorem prf {Km : Nat} {K : zK} {F Fm : zF} {B Bm : zB} (h : IV cc Km K F B Fm Bm) {a1 : Int} (h1 : r32 a1) : ∃ x y, f_S_performanceOf K 0 a1 F B = some (x, F, B) ∧ f_M_piece Km a1 Fm Bm = some (y, Fm, Bm) ∧ ((x < 0 ∧ (y < 0 ∨ ((0 ≤ y ∧ y < 3) ∧ Fm 13 y 53 = 0))) ∨ ((0 ≤ x ∧ x < K.2 5) ∧ (0 ≤ y ∧ y < 3) ∧ Fm 13 y 53 = 1 ∧ ∃ c, PFD x y c F B Fm Bm ∧ rwS x F)) := by
  obtain ⟨x, y, e1, e2, e3⟩ := slot h h1
  unfold f_S_performanceOf f_S_performanceOf_17 f_S_performanceOf_25
  rw [if_pos (IV_12 h), e1, zb_s]
  rcases e3 with ⟨x0, y0⟩ | ⟨x0, y0, V, _, _, d10, d11, d9, dr, ds, dp, dz⟩
  · rw [if_pos x0]
    exact ⟨-1, y, rfl, e2, Or.inl ⟨by omega, Or.inl (by omega)⟩⟩
  · rw [if_neg (by omega), if_pos x0]
    rcases d10 with z | z
    · rw [z, if_pos (by decide), if_pos rfl]
      exact ⟨-1, y, rfl, e2, Or.inl ⟨by omega, Or.inr ⟨y0, dz z⟩⟩⟩
    · rw [z, if_pos (by decide), if_neg (by decide)]
      obtain ⟨z11, c, pfd⟩ := dp z
      have s0 := (ds z11).1
      exact ⟨_, y, rfl, e2, Or.inr ⟨⟨s0, d9⟩, y0, pfd.2.1.1, c, pfd, dr s0⟩⟩
theorem p_stroke {Km : Nat} (a1 a2 a3 : Int) (h1 : r32 a1) (h2 : r32 a2) (h3 : r32 a3) {K : zK} {F Fm : zF} {B Bm : zB} (h : IV cc Km K F B Fm Bm) : ∃ r1 F1 B1 r2 F2 B2, f_S_stroke K 0 a1 a2 a3 F B = some (r1, F1, B1) ∧ f_M_stroke Km a1 a2 a3 Fm Bm = some (r2, F2, B2) ∧ IV cc Km K F1 B1 F2 B2 := by
  obtain ⟨x, y, e1, e2, e3⟩ := prf h h1
  refine rd2 h ?_ ?_
  · unfold f_S_stroke f_S_stroke_23
    rw [if_pos (IV_12 h), e1, zb_s]
    rcases e3 with ⟨x0, _⟩ | ⟨x0, _, _, c, pfd, hr⟩
    · exact zR_i (fun _ => zR_s) (fun a => absurd x0 a)
    · exact zR_i (fun _ => zR_s) (fun _ => zR_g x0 (zR_b (C_toldR x0 pfd hr h2 h3) (fun _ => zR_s)))
  · unfold f_M_stroke f_M_stroke_33 f_M_stroke_89
    rw [e2, zb_s]
    rcases e3 with ⟨_, y0 | ⟨y0, z⟩⟩ | ⟨_, y0, z, c, pfd, _⟩
    · exact zR_i (fun _ => zR_s) (fun a => absurd y0 a)
    · exact zR_i (fun _ => zR_s) (fun _ => zR_g y0 (zR_g (by rw [z]; decide) (zR_i (fun _ => zR_s) (fun a => absurd z a))))
    · have hc := pfd.1
      have h60 := pfd.2.1.2.2
      exact zR_i (fun _ => zR_s) (fun _ => zR_g y0 (zR_g (by rw [z]; decide) (zR_i (fun _ => zR_s) (fun _ => zR_g h2 (zR_i (fun _ => zR_s) (fun a => zR_g (by rw [h60]; unfold r32; omega) (zR_i (fun b => zR_g h3 (zR_i (fun _ => zR_g (by omega) zR_s) (fun _ => zR_i (fun _ => zR_g (by omega) zR_s) (fun _ => zR_i (fun _ => zR_g (by omega) zR_s) (fun _ => zR_i (fun _ => zR_g (by omega) zR_s) (fun _ => zR_s)))))) (fun _ => zR_s))))))))
end
