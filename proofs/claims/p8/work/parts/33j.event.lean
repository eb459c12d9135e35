section
section
variable {cc : Int}
/-! ===== event, pitch ===== -/
theorem C_gcdR {K : zK} {F : zF} {B : zB} : ∀ (d n : Nat) (k x y : Int), k + d = 200 → 0 ≤ k → d < n → 0 ≤ x → x < 9223372036854775808 → 0 ≤ y → y < 9223372036854775808 → ∃ r, f_S_gcd_9 K n k y x F B = some (r, F, B) ∧ 0 ≤ r ∧ r < 9223372036854775808 := by
  intro d
  induction d with
  | zero =>
    intro n k x y hk k0 hn x0 x1 y0 y1
    obtain ⟨p, rfl⟩ : ∃ p, n = p + 1 := ⟨n - 1, (by first | decide | omega)⟩
    rw [f_S_gcd_9, if_pos (by unfold r32; omega), if_pos (by first | decide | omega), f_S_gcd_45]
    exact ⟨x, rfl, x0, x1⟩
  | succ d ih =>
    intro n k x y hk k0 hn x0 x1 y0 y1
    obtain ⟨p, rfl⟩ : ∃ p, n = p + 1 := ⟨n - 1, (by first | decide | omega)⟩
    rw [f_S_gcd_9, if_pos (by unfold r32; omega), if_neg (by first | decide | omega), if_pos (by unfold r64; omega)]
    by_cases e : y = 0
    · rw [if_pos (zcmp_0.mpr e), f_S_gcd_45]
      exact ⟨x, rfl, x0, x1⟩
    · rw [if_neg (fun z => e (zcmp_0.mp z)), if_pos (lI_n0 (by first | decide | omega) (by unfold r64; omega)), zlrm_e x0 x1 (by first | decide | omega) y1]
      have m0 : 0 ≤ x % y := Int.emod_nonneg x e
      have m1 : x % y < y := Int.emod_lt_of_pos x (by first | decide | omega)
      exact ih p (k + 1) y (x % y) (by first | decide | omega) (by first | decide | omega) (by first | decide | omega) y0 y1 m0 (by first | decide | omega)
theorem C_above {K : zK} {x : Int} {F : zF} {B : zB} (hK : 300 ≤ K.1) (hx : 0 ≤ x ∧ x ≤ 1000000000000) : zR (f_S_above K x F B) F B := by
  obtain ⟨r, e, r0, r1⟩ := C_gcdR (K := K) (F := F) (B := B) 200 K.1 0 x 812851200 (by first | decide | omega) (by first | decide | omega) (by first | decide | omega) (by first | decide | omega) (by first | decide | omega) (by first | decide | omega) (by first | decide | omega)
  unfold f_S_above f_S_above_21 f_S_gcd
  rw [e, zb_s]
  exact zR_g (by unfold r64; omega) (zR_i (fun _ => zR_s) (fun z => zR_g (lI_n0 (by have : ¬ r = 0 := fun q => z (zcmp_0.mpr q); omega) (by unfold r64; omega)) zR_s))
theorem C_below {K : zK} {x : Int} {F : zF} {B : zB} (hK : 300 ≤ K.1) (hx : 0 ≤ x ∧ x ≤ 1000000000000) : zR (f_S_below K x F B) F B := by
  obtain ⟨r, e, r0, r1⟩ := C_gcdR (K := K) (F := F) (B := B) 200 K.1 0 x 812851200 (by first | decide | omega) (by first | decide | omega) (by first | decide | omega) (by first | decide | omega) (by first | decide | omega) (by first | decide | omega) (by first | decide | omega)
  unfold f_S_below f_S_below_25 f_S_gcd
  rw [e, zb_s]
  exact zR_g (by unfold r64; omega) (zR_i (fun _ => zR_s) (fun z => zR_g (lI_n0 (by have : ¬ r = 0 := fun q => z (zcmp_0.mpr q); omega) (by unfold r64; omega)) zR_s))
theorem zR_b {x : zO} {k : Int → zF → zB → zO} {F : zF} {B : zB} (h : zR x F B) (g : ∀ r, zR (k r F B) F B) : zR (zbind x k) F B := by
  obtain ⟨r, e⟩ := h
  rw [e, zb_s]; exact g r
theorem IV_k {Km : Nat} {K : zK} {F Fm : zF} {B Bm : zB} (h : IV cc Km K F B Fm Bm) : 60000 ≤ K.1 ∧ 70000000000 < Km ∧ GS K B ∧ XS Bm := by
  obtain ⟨p, p0, p1, w, w0, w1, hE, _, _, _, _, hK⟩ := h
  exact ⟨hK, hE.1.1.2.1, hE.1.2.2.1.1, hE.1.2.2.1.2.2.2.2.1⟩
theorem evt {Km : Nat} {K : zK} {F Fm : zF} {B Bm : zB} (h : IV cc Km K F B Fm Bm) {a1 a2 a3 : Int} (h1 : r32 a1) (h2 : r32 a2) (h3 : r32 a3) : ∃ x y e, f_S_eventAt K 0 a1 a2 a3 F B = some (x, F, B) ∧ f_M_piece Km a1 Fm Bm = some (y, Fm, Bm) ∧ f_M_isVoice Km y a2 Fm Bm = some (e, Fm, Bm) ∧ ((x < 0 ∧ (e = 0 ∨ (e = 1 ∧ (0 ≤ y ∧ y < 3) ∧ (0 ≤ a2 ∧ a2 < 4) ∧ r32 (Bm 13 y 12 a2) ∧ (a3 < 0 ∨ Bm 13 y 12 a2 ≤ a3)))) ∨ (e = 1 ∧ (0 ≤ x ∧ x < K.2 1) ∧ (0 ≤ y ∧ y < 3) ∧ (0 ≤ a2 ∧ a2 < 4) ∧ (0 ≤ a3 ∧ a3 < Bm 13 y 12 a2 ∧ Bm 13 y 12 a2 ≤ 200) ∧ EVK y x (1000 * a2 + a3) F B Bm ∧ (0 ≤ F 1 x 0 ∧ F 1 x 0 ≤ 1000000000000))) := by
  obtain ⟨x, y, e, e1, e2, e3, e4⟩ := prt h h1 h2
  have h12 := IV_12 h
  unfold f_S_eventAt f_S_eventAt_26 f_S_eventAt_37
  rw [if_pos h12, e1, zb_s]
  rcases e4 with ⟨x0, rfl⟩ | ⟨rfl, x0, y0, z0, q, V, vV, ex, hP, _⟩
  · rw [if_pos x0]
    exact ⟨-1, y, 0, rfl, e2, e3, Or.inl ⟨(by first | decide | omega), Or.inl rfl⟩⟩
  · obtain ⟨_, m, g, hV, _⟩ := hP.2.2 a2 z0.1 vV
    rw [← ex] at hV
    obtain ⟨v1, v2, v3, v4, v5, v6, _⟩ := hV
    rw [if_neg (by first | decide | omega), if_pos h3]
    by_cases c : a3 < 0
    · rw [if_pos c]
      exact ⟨-1, y, 1, rfl, e2, e3, Or.inl ⟨(by first | decide | omega), Or.inr ⟨rfl, y0, z0, by unfold r32; omega, Or.inl c⟩⟩⟩
    · rw [if_neg c, if_pos x0, if_pos (by unfold r32; omega)]
      by_cases d : a3 < F 4 x 6
      · rw [if_pos d, if_pos (by first | decide | omega)]
        obtain ⟨w1, w2, _⟩ := v6 a3.toNat (by first | decide | omega)
        rw [show ((a3.toNat : Nat) : Int) = a3 by omega] at w1 w2
        have i1 := (IV_k h).2.2.1.2.2.2.1 x a3 x0.1 x0.2 (by first | decide | omega) (by first | decide | omega)
        have s0 := sumZ_0 v3 a3.toNat (by first | decide | omega)
        have s1 := sumZ_m v3 (m - a3.toNat) a3.toNat (by first | decide | omega)
        obtain ⟨_, _, bl⟩ := bar_v (n := F 6 q 4) (d := F 6 q 5) hP.2.1.2.2.1.2 hP.2.1.2.2.2.1.2
        exact ⟨_, y, 1, rfl, e2, e3, Or.inr ⟨rfl, (by first | decide | omega), y0, z0, (by first | decide | omega), w1, (by first | decide | omega)⟩⟩
      · rw [if_neg d]
        exact ⟨-1, y, 1, rfl, e2, e3, Or.inl ⟨(by first | decide | omega), Or.inr ⟨rfl, y0, z0, by unfold r32; omega, Or.inr (by first | decide | omega)⟩⟩⟩
theorem p_event {Km : Nat} (a1 a2 a3 a4 : Int) (h1 : r32 a1) (h2 : r32 a2) (h3 : r32 a3) (h4 : r32 a4) {K : zK} {F Fm : zF} {B Bm : zB} (h : IV cc Km K F B Fm Bm) : ∃ r1 F1 B1 r2 F2 B2, f_S_event K 0 a1 a2 a3 a4 F B = some (r1, F1, B1) ∧ f_M_event_1 Km a1 a2 a3 a4 Fm Bm = some (r2, F2, B2) ∧ IV cc Km K F1 B1 F2 B2 := by
  obtain ⟨x, y, e, e1, e2, e3, e4⟩ := evt h h1 h2 h3
  have hK := (IV_k h).1
  refine rd2 h ?_ ?_
  · unfold f_S_event
    rw [if_pos (IV_12 h), e1, zb_s]
    rcases e4 with ⟨x0, _⟩ | ⟨_, x0, _, _, _, ev, pl⟩
    · exact zR_i (fun _ => zR_s) (fun a => absurd x0 a)
    · obtain ⟨_, _, _, _, l1, _, _, k7, k8, k9, k10⟩ := ev
      have k11 := k10.2.2.1
      exact zR_i (fun _ => zR_s) (fun _ => zR_g h4 (zR_i (fun _ => zR_g x0 (zR_b (C_above (by first | decide | omega) pl) (fun _ => zR_s))) (fun _ => zR_i (fun _ => zR_g x0 (zR_b (C_below (by first | decide | omega) pl) (fun _ => zR_s))) (fun _ => zR_i (fun _ => zR_g x0 (zR_b (C_above (by first | decide | omega) (by first | decide | omega)) (fun _ => zR_s))) (fun _ => zR_i (fun _ => zR_g x0 (zR_b (C_below (by first | decide | omega) (by first | decide | omega)) (fun _ => zR_s))) (fun _ => zR_i (fun _ => zR_g x0 (zR_g (by unfold r32; omega) zR_s)) (fun _ => zR_i (fun _ => zR_g x0 (zR_g (by unfold r32; omega) zR_s)) (fun _ => zR_i (fun _ => zR_g x0 (zR_g (by unfold r32; omega) zR_s)) (fun _ => zR_i (fun _ => zR_g x0 (zR_g (by unfold r32; omega) zR_s)) (fun _ => zR_s))))))))))
  · unfold f_M_event_1 f_M_event_1_31
    rw [e2, zb_s, e3, zb_s]
    rcases e4 with ⟨_, e0 | ⟨e0, y0, z0, r0, c0⟩⟩ | ⟨e0, _, y0, z0, c0, ev, _⟩
    · rw [e0]
      exact zR_g (by decide) (zR_i (fun _ => zR_s) (fun a => absurd rfl a))
    · rw [e0]
      exact zR_g (by decide) (zR_i (fun _ => zR_s) (fun _ => zR_g h3 (zR_i (fun _ => zR_s) (fun a => zR_g y0 (zR_g z0 (zR_g r0 (zR_i (fun b => absurd b (by first | decide | omega)) (fun _ => zR_s))))))))
    · rw [e0]
      obtain ⟨_, _, _, _, l1, _, _, k7, k8, k9, k10⟩ := ev
      have k11 := k10.2.2.1
      have k12 := k10.2.1
      exact zR_g (by decide) (zR_i (fun _ => zR_s) (fun _ => zR_g h3 (zR_i (fun _ => zR_s) (fun a => zR_g y0 (zR_g z0 (zR_g (by unfold r32; omega) (zR_i (fun _ => zR_g h4 (zR_i (fun _ => zR_g (by first | decide | omega) zR_s) (fun _ => zR_i (fun _ => zR_g (by first | decide | omega) zR_s) (fun _ => zR_i (fun _ => zR_g (by first | decide | omega) zR_s) (fun _ => zR_i (fun _ => zR_g (by first | decide | omega) zR_s) (fun _ => zR_i (fun _ => zR_g (by first | decide | omega) (zR_g (by unfold r32; omega) zR_s)) (fun _ => zR_i (fun _ => zR_g (by first | decide | omega) (zR_g (by unfold r32; omega) zR_s)) (fun _ => zR_i (fun _ => zR_g (by first | decide | omega) (zR_g (by unfold r32; omega) zR_s)) (fun _ => zR_i (fun _ => zR_g (by first | decide | omega) (zR_g (by unfold r32; omega) zR_s)) (fun _ => zR_s)))))))))) (fun _ => zR_s))))))))
theorem p_pitch {Km : Nat} (a1 a2 a3 a4 a5 : Int) (h1 : r32 a1) (h2 : r32 a2) (h3 : r32 a3) (h4 : r32 a4) (h5 : r32 a5) {K : zK} {F Fm : zF} {B Bm : zB} (h : IV cc Km K F B Fm Bm) : ∃ r1 F1 B1 r2 F2 B2, f_S_pitch K 0 a1 a2 a3 a4 a5 F B = some (r1, F1, B1) ∧ f_M_pitch Km a1 a2 a3 a4 a5 Fm Bm = some (r2, F2, B2) ∧ IV cc Km K F1 B1 F2 B2 := by
  obtain ⟨x, y, e, e1, e2, e3, e4⟩ := evt h h1 h2 h3
  refine rd2 h ?_ ?_
  · unfold f_S_pitch f_S_pitch_29
    rw [if_pos (IV_12 h), e1, zb_s]
    rcases e4 with ⟨x0, _⟩ | ⟨_, x0, _, _, _, ev, pl⟩
    · exact zR_i (fun _ => zR_s) (fun a => absurd x0 a)
    · obtain ⟨_, _, _, _, l1, _, _, k7, k8, k9, k10⟩ := ev
      have k11 := k10.2.2.1
      exact zR_i (fun _ => zR_s) (fun _ => zR_g h4 (zR_i (fun _ => zR_s) (fun a => zR_g x0 (zR_g (by unfold r32; omega) (zR_i (fun b => zR_g h5 (zR_i (fun _ => zR_g (by first | decide | omega) zR_s) (fun _ => zR_i (fun _ => zR_g (by first | decide | omega) zR_s) (fun _ => zR_i (fun _ => zR_b ⟨_, C_tone x0 (by first | decide | omega) (k10.2.2.2.1 a4 (by first | decide | omega) b).2.2.1⟩ (fun _ => zR_s)) (fun _ => zR_s))))) (fun _ => zR_s))))))
  · unfold f_M_pitch f_M_pitch_54 f_M_pitch_121
    rw [e2, zb_s, e3, zb_s]
    rcases e4 with ⟨_, e0 | ⟨e0, y0, z0, r0, c0⟩⟩ | ⟨e0, _, y0, z0, c0, ev, _⟩
    · rw [e0]
      exact zR_g (by decide) (zR_i (fun _ => zR_s) (fun a => absurd rfl a))
    · rw [e0]
      exact zR_g (by decide) (zR_i (fun _ => zR_s) (fun _ => zR_g h3 (zR_i (fun _ => zR_s) (fun a => zR_g y0 (zR_g z0 (zR_g r0 (zR_i (fun _ => zR_s) (fun b => absurd (show Bm 13 y 12 a2 ≤ a3 by omega) b))))))))
    · rw [e0]
      obtain ⟨_, _, _, _, l1, _, _, k7, k8, k9, k10⟩ := ev
      have k11 := k10.2.2.1
      have k12 := k10.2.1
      have tn : ∀ z, 0 ≤ z → z < 24000 → zR (f_M_toneAt Km y z Fm Bm) Fm Bm := fun z b c => by
        unfold f_M_toneAt f_M_tone f_M_tone_18
        refine zR_g y0 (zR_g ⟨b, c⟩ (zR_b (zR_g (zrm_R _ _) (zR_i (fun _ => zR_s) (fun _ => zR_s))) (fun _ => zR_s)))
      exact zR_g (by decide) (zR_i (fun _ => zR_s) (fun _ => zR_g h3 (zR_i (fun _ => zR_s) (fun a => zR_g y0 (zR_g z0 (zR_g (by unfold r32; omega) (zR_i (fun _ => zR_s) (fun b => zR_g h4 (zR_i (fun _ => zR_s) (fun c => zR_g (by first | decide | omega) (zR_g (by unfold r32; omega) (zR_i (fun d => zR_g h5 (zR_i (fun _ => zR_g (by first | decide | omega) zR_s) (fun _ => zR_i (fun _ => zR_g (by first | decide | omega) zR_s) (fun _ => zR_i (fun _ => zR_b (tn _ (by first | decide | omega) (by first | decide | omega)) (fun _ => zR_s)) (fun _ => zR_s))))) (fun _ => zR_s)))))))))))))
end
end
section
section
variable {cc : Int}
/-! ===== stroke ===== -/
theorem C_toldR {K : zK} {s w c l1 l2 : Int} {F : zF} {B : zB} {Fm : zF} {Bm : zB} (hs : 0 ≤ s ∧ s < K.2 5) (hP : PFD s w c F B Fm Bm) (hr : rwS s F) (h1 : r32 l1) (h2 : r32 l2) : zR (f_Performance_strokeTold K s l1 l2 F B) F B := by
  have hc := hP.1.2
  by_cases r : 0 ≤ l1 ∧ l1 < 2 * c
  · obtain ⟨on, ev, j, e, y1, y2, y3, y4, y5, y6, _⟩ := PFD_s hP r.1 r.2
    obtain ⟨t0, t1, t2, t3⟩ := C_toldK (K := K) hs ⟨hc.1, hc.2⟩ hr r.1 r.2 y1 y2 y3 y4 y5 y6 e
    by_cases c0 : l2 = 0
    · rw [c0]; exact ⟨_, t0⟩
    · by_cases c1 : l2 = 1
      · rw [c1]; exact ⟨_, t1⟩
      · by_cases c2 : l2 = 2
        · rw [c2]; exact ⟨_, t2⟩
        · by_cases c3 : l2 = 3
          · rw [c3]; exact ⟨_, t3⟩
          · obtain ⟨g1, g2⟩ : ((lnC 5 s (F 5 s 8).toNat : Nat) : Int) = 4000 ∧ zk 5 (F 5 s 8).toNat = (3, 1) := by
              rcases hr with ⟨e8, _⟩ | ⟨e8, _⟩
              · rw [e8]; exact ⟨rfl, by decide⟩
              · rw [e8]; exact ⟨rfl, by decide⟩
            have g3 : lnC 5 s (F 5 s 8).toNat ≤ 2147483647 := by omega
            unfold f_Performance_strokeTold
            rw [if_pos h1, if_neg (by first | decide | omega), if_pos hs, hc.1, if_pos (by unfold r32; omega), if_pos r.2, if_pos (by first | decide | omega), if_pos g2, if_pos g3, if_pos h2, if_neg c0, if_neg c1, if_neg c2, if_neg c3]
            exact zR_s
  · unfold f_Performance_strokeTold f_Performance_strokeTold_14
    rw [if_pos h1]
    by_cases z : l1 < 0
    · rw [if_pos z]; exact zR_s
    · rw [if_neg z, if_pos hs, hc.1, if_pos (by unfold r32; omega), if_neg (by first | decide | omega)]; exact zR_s
theorem prf {Km : Nat} {K : zK} {F Fm : zF} {B Bm : zB} (h : IV cc Km K F B Fm Bm) {a1 : Int} (h1 : r32 a1) : ∃ x y, f_S_performanceOf K 0 a1 F B = some (x, F, B) ∧ f_M_piece Km a1 Fm Bm = some (y, Fm, Bm) ∧ ((x < 0 ∧ (y < 0 ∨ ((0 ≤ y ∧ y < 3) ∧ Fm 13 y 53 = 0))) ∨ ((0 ≤ x ∧ x < K.2 5) ∧ (0 ≤ y ∧ y < 3) ∧ Fm 13 y 53 = 1 ∧ ∃ c, PFD x y c F B Fm Bm ∧ rwS x F)) := by
  obtain ⟨x, y, e1, e2, e3⟩ := slot h h1
  unfold f_S_performanceOf f_S_performanceOf_17 f_S_performanceOf_25
  rw [if_pos (IV_12 h), e1, zb_s]
  rcases e3 with ⟨x0, y0⟩ | ⟨x0, y0, V, _, _, d10, d11, d9, dr, ds, dp, dz⟩
  · rw [if_pos x0]
    exact ⟨-1, y, rfl, e2, Or.inl ⟨(by first | decide | omega), Or.inl (by first | decide | omega)⟩⟩
  · rw [if_neg (by first | decide | omega), if_pos x0]
    rcases d10 with z | z
    · rw [z, if_pos (by decide), if_pos rfl]
      exact ⟨-1, y, rfl, e2, Or.inl ⟨(by first | decide | omega), Or.inr ⟨y0, dz z⟩⟩⟩
    · rw [z, if_pos (by decide), if_neg (by decide)]
      obtain ⟨z11, c, pfd⟩ := dp z
      have s0 := (ds z11).1
      exact ⟨_, y, rfl, e2, Or.inr ⟨⟨s0, d9⟩, y0, pfd.2.1.1, c, pfd, dr s0⟩⟩
theorem p_stroke {Km : Nat} (a1 a2 a3 : Int) (h1 : r32 a1) (h2 : r32 a2) (h3 : r32 a3) {K : zK} {F Fm : zF} {B Bm : zB} (h : IV cc Km K F B Fm Bm) : ∃ r1 F1 B1 r2 F2 B2, f_S_stroke K 0 a1 a2 a3 F B = some (r1, F1, B1) ∧ f_M_stroke Km a1 a2 a3 Fm Bm = some (r2, F2, B2) ∧ IV cc Km K F1 B1 F2 B2 := by
  obtain ⟨x, y, e1, e2, e3⟩ := prf h h1
  refine rd2 h ?_ ?_
  · unfold f_S_stroke f_S_stroke_23
    rw [if_pos (IV_12 h), e1, zb_s]
    rcases e3 with ⟨x0, _⟩ | ⟨x0, _, _, c, pfd, hr⟩
    · exact zR_i (fun _ => zR_s) (fun a => absurd x0 a)
    · exact zR_i (fun _ => zR_s) (fun _ => zR_g x0 (zR_b (C_toldR x0 pfd hr h2 h3) (fun _ => zR_s)))
  · unfold f_M_stroke f_M_stroke_33 f_M_stroke_89
    rw [e2, zb_s]
    rcases e3 with ⟨_, y0 | ⟨y0, z⟩⟩ | ⟨_, y0, z, c, pfd, _⟩
    · exact zR_i (fun _ => zR_s) (fun a => absurd y0 a)
    · exact zR_i (fun _ => zR_s) (fun _ => zR_g y0 (zR_g (by rw [z]; decide) (zR_i (fun _ => zR_s) (fun a => absurd z a))))
    · have hc := pfd.1
      have h60 := pfd.2.1.2.2
      exact zR_i (fun _ => zR_s) (fun _ => zR_g y0 (zR_g (by rw [z]; decide) (zR_i (fun _ => zR_s) (fun _ => zR_g h2 (zR_i (fun _ => zR_s) (fun a => zR_g (by rw [h60]; unfold r32; omega) (zR_i (fun b => zR_g h3 (zR_i (fun _ => zR_g (by first | decide | omega) zR_s) (fun _ => zR_i (fun _ => zR_g (by first | decide | omega) zR_s) (fun _ => zR_i (fun _ => zR_g (by first | decide | omega) zR_s) (fun _ => zR_i (fun _ => zR_g (by first | decide | omega) zR_s) (fun _ => zR_s)))))) (fun _ => zR_s))))))))
end
end
