section
section
/-! ===== the walk: bar lines, loudness ===== -/
theorem P_barI {K : zK} {Km : Nat} {N q v w bar x i : Int} {B0 Bm0 : zB} {D : Nat} {o : oT_CW} {oM oM' : oT_W} {F : zF} {B : zB} {Fm : zF} {Bm : zB} (hG : ∀ F B, oM.2.2.1 i F B = fb_M_goSign oM' Km i F B) (hx : 0 ≤ x ∧ x < 3000) (hi : 0 ≤ i ∧ i < N) (hT : WT N B0 Bm0 B Bm) (hC : WC K Km N q v w bar B Fm Bm) (hS : WS q v w bar D F B Fm Bm) (hD : D ≤ 64) (k0 : B0 3 0 0 x = 1) (hp : B0 3 0 1 x = Bm0 14 0 8 i) (hs : sgAt Bm0 i 124) : zP (fb_Walker_goItem o K 0 x D F B) (fb_M_go oM Km i Fm Bm) (fun _ F' B' _ Fm' Bm' => WO q v w bar D F B Fm Bm F' B' Fm' Bm') := by
  have hS' := hS
  obtain ⟨hK, hKm, h11, h3, h4, v0, w0, ⟨N0, N1, hTK⟩, hV, hI, r4, r5, hB, fB, nn, dd, b0⟩ := hC
  obtain ⟨⟨a1, a2, a3, a4⟩, ⟨b1, b2, b3, b4⟩, _, _, ⟨e1, e2, e3⟩, _, _, _, _, ⟨l1, l2, l3, l4⟩, _⟩ := hS
  have m7 : Bm 14 0 7 i = 5 := by rw [hT.2.1 7 i (by decide)]; exact hs.1
  have m9 : Bm 14 0 9 i = 124 := by rw [hT.2.1 9 i (by decide)]; exact hs.2
  have pl := (hTK i hi.1 (by first | decide | omega)).2.2.2.2.2.2.2.2.2.1
  have q1 : Fm 13 w 4 * WW = bar * Fm 13 w 5 := by
    have := hB.2.2.2
    have e : 100 * (Fm 13 w 4 * WW) = 100 * (bar * Fm 13 w 5) := by
      calc 100 * (Fm 13 w 4 * WW) = 100 * Fm 13 w 4 * WW := by ac_rfl
        _ = 100 * bar * Fm 13 w 5 := this
        _ = 100 * (bar * Fm 13 w 5) := by ac_rfl
    omega
  have m0 : 0 ≤ F 11 0 11 % bar := Int.emod_nonneg _ (by first | decide | omega)
  have m1 : F 11 0 11 % bar < bar := Int.emod_lt_of_pos _ b0
  have ok : zP (some (0, F, B)) (some (0, Fm, Bm)) (fun _ F' B' _ Fm' Bm' => WO q v w bar D F B Fm Bm F' B' Fm' Bm') := zP_s ⟨WFR_r, Or.inl ⟨hS', WKP_r⟩⟩
  rw [L_goS (by first | decide | omega) m7 (by rw [m9]; decide) (by rw [m9]; decide), hG, fb_M_goSign, if_pos (by first | decide | omega), m9, if_pos (by decide), if_neg (by decide), if_pos rfl, ← e1, fb_Walker_goItem, if_pos ⟨Int.le_refl _, h11⟩, a1, if_pos ⟨Int.le_refl _, h3⟩, if_pos hx, hT.1, k0, if_pos (by decide), if_neg (by decide), if_pos rfl]
  have rb : r32 (F 11 0 5) := by unfold r32; omega
  rw [if_pos rb]
  by_cases c : F 11 0 5 = 0
  case neg =>
    rw [if_neg c, if_pos rb, if_neg c, f_Walker_goItem_285, f_M_goSign_182, zb_s]
    exact ok
  have rz : r64 (F 11 0 11 % bar) := by unfold r64; omega
  have rbar : r64 bar := by unfold r64; omega
  rw [if_pos c, if_pos rb, if_pos c, b3, if_pos rbar, if_neg (by have := zcmp_m (a := bar) (b := 0); omega), if_pos (lI_n0 b0 rbar), zlrm_e l3 (by first | decide | omega) b0 (by first | decide | omega), if_pos rz, b2, if_pos w0, if_pos r4, if_pos r5, l1, l2, L_multR (FR_r l3) q1 (by first | decide | omega) (by first | decide | omega) (by first | decide | omega) (by first | decide | omega) b0 (by first | decide | omega), zb_s]
  by_cases z : F 11 0 11 % bar = 0
  · rw [if_pos (zcmp_0.mpr z), if_pos z, if_pos (by decide), if_neg (by decide), f_Walker_goItem_285, f_M_goSign_182, zb_s]
    exact ok
  · rw [if_neg (fun y => z (zcmp_0.mp y)), if_neg z, if_pos (by decide), if_pos rfl, C_wref h11 a3, zb_s, L_failAt a4 (by first | decide | omega), zb_s, f_Walker_goItem_285, f_M_goSign_182, zb_s, hT.1, hp, ← hT.2.1 8 i (by decide)]
    exact zP_s ⟨WFR_at (fun _ _ _ _ => rfl), Or.inr (WE_at hS' hD (by decide) (by decide) pl (fun _ _ => rfl))⟩
theorem P_loudI {K : zK} {Km : Nat} {N q v w bar x i : Int} {B0 Bm0 : zB} {D : Nat} {o : oT_CW} {oM oM' : oT_W} {F : zF} {B : zB} {Fm : zF} {Bm : zB} (hMW : MW Bm0) (hG : ∀ F B, oM.2.2.1 i F B = fb_M_goSign oM' Km i F B) (hx : 0 ≤ x ∧ x < 3000) (hi : 0 ≤ i ∧ i < N) (hT : WT N B0 Bm0 B Bm) (hC : WC K Km N q v w bar B Fm Bm) (hS : WS q v w bar D F B Fm Bm) (k0 : B0 3 0 0 x = 2) (hs : sgAt Bm0 i 33) (hl : B0 3 0 2 x = fiL wL (Bm0 14 0 11 (i + 1)) 0 ∧ 0 ≤ B0 3 0 2 x) : zP (fb_Walker_goItem o K 0 x D F B) (fb_M_go oM Km i Fm Bm) (fun _ F' B' _ Fm' Bm' => WO q v w bar D F B Fm Bm F' B' Fm' Bm') := by
  have hS' := hS
  obtain ⟨hK, hKm, h11, h3, h4, v0, w0, ⟨N0, N1, hTK⟩, hV, hI, r4, r5, hB, fB, nn, dd, b0⟩ := hC
  obtain ⟨⟨a1, a2, a3, a4⟩, _, _, _, s5, s6, s7, s8, s9, _, s11, s12, _⟩ := hS
  have m7 : Bm 14 0 7 i = 5 := by rw [hT.2.1 7 i (by decide)]; exact hs.1
  have m9 : Bm 14 0 9 i = 33 := by rw [hT.2.1 9 i (by decide)]; exact hs.2
  obtain ⟨hl1, hl2⟩ := hl
  have fb : Bm0 14 0 11 (i + 1) ∈ wL ∧ fiL wL (Bm0 14 0 11 (i + 1)) 0 ≤ 7 := by
    rcases fiL_r (w := Bm0 14 0 11 (i + 1)) (L := wL) (k := 0) (by decide) with ⟨p, _⟩ | ⟨p1, p2, p3⟩
    · omega
    · have : (wL.length : Int) = 8 := by decide
      exact ⟨p3, (by first | decide | omega)⟩
  rw [L_goS (by first | decide | omega) m7 (by rw [m9]; decide) (by rw [m9]; decide), hG, fb_M_goSign, if_pos (by first | decide | omega), m9, if_pos (by decide), if_pos rfl, if_pos (by first | decide | omega), hT.2.1 11 _ (by decide), L_fL (by first | decide | omega) (MW_t hMW hT) (wL_r fb.1), zb_s, f_M_goSign_182, zb_s, fb_Walker_goItem, if_pos ⟨Int.le_refl _, h11⟩, a1, if_pos ⟨Int.le_refl _, h3⟩, if_pos hx, hT.1, k0, if_pos (by decide), if_neg (by decide), if_neg (by decide), if_pos rfl, f_Walker_goItem_285, hT.1, hl1]
  rw [hl1] at hl2
  generalize fiL wL (Bm0 14 0 11 (i + 1)) 0 = d at fb hl2 ⊢
  have fn : ∀ c y k, ¬ (c = 11 ∧ y = 0 ∧ k = 4) → zup3 F 11 0 4 d c y k = F c y k := fun c y k n => by rw [zup3_v, if_neg n]
  have gn : ∀ c y k, ¬ (c = 14 ∧ y = 0 ∧ k = 40) → zup3 Fm 14 0 40 d c y k = Fm c y k := fun c y k n => by rw [zup3_v, if_neg n]
  refine zP_s ⟨WFR_mk (fun c y k n => fn c y k (by first | decide | omega)) (fun c y k n => gn c y k (by first | decide | omega)) (fun _ _ _ _ _ => rfl) (fun _ _ _ _ _ => rfl), Or.inl ⟨?_, ?_⟩⟩
  · refine WS_mk hS' (fun c y k n => fn c y k (by first | decide | omega)) (fun c y k n => gn c y k (by first | decide | omega)) (fun _ _ _ _ _ => rfl) (fun _ _ _ _ _ => rfl) ?_ ?_ ?_ ?_ ?_ ?_ s11 ?_
    · rw [zup3_v, if_pos (by decide), zup3_v, if_pos (by decide)]; omega
    · rw [fn 11 0 5 (by decide), gn 14 0 41 (by decide)]; exact s5
    · rw [fn 11 0 6 (by decide), gn 14 0 48 (by decide)]; exact s6
    · rw [fn 11 0 7 (by decide), fn 11 0 3 (by decide), gn 14 0 50 (by decide)]; exact s7
    · rw [fn 11 0 6 (by decide), fn 11 0 7 (by decide), fn 11 0 8 (by decide), gn 14 0 49 (by decide)]; exact s8
    · rw [fn 11 0 6 (by decide), fn 11 0 9 (by decide), fn 11 0 10 (by decide)]; exact s9
    · rw [fn 11 0 18 (by decide), gn 14 0 45 (by decide)]; exact s12
  · exact ⟨⟨fn _ _ _ (by decide), fn _ _ _ (by decide), fn _ _ _ (by decide), fn _ _ _ (by decide), fn _ _ _ (by decide)⟩, fun _ _ _ => rfl, fun _ _ _ => ⟨rfl, rfl, rfl, rfl, rfl, rfl⟩, fun _ _ _ => ⟨rfl, rfl⟩, fun _ => ⟨fn _ _ _ (by decide), fn _ _ _ (by decide), gn _ _ _ (by decide)⟩, by rw [fn 4 q 6 (by first | decide | omega)]; exact Int.le_refl _⟩
end
end
section
section
/-! ===== the walk: items with blocks; brackets ===== -/
/-- the walk of the lists that R speaks of, at depth D -/
def LSim (K : zK) (Km : Nat) (N nl q v w bar : Int) (B0 Bm0 : zB) (D : Nat) (cL : Int → Int → Int → zF → zB → zO) (mL : Int → Int → zF → zB → zO) (R : zB → zB → Int → Int → Prop) : Prop :=
  (∀ m x i e F B Fm Bm, LRf R B0 Bm0 m x i e → 0 ≤ i → e ≤ 3000 → WT N B0 Bm0 B Bm → Fm 14 0 27 = nl → WC K Km N q v w bar B Fm Bm → WS q v w bar D F B Fm Bm → zP (cL 0 x D F B) (mL i e Fm Bm) (fun _ F' B' _ Fm' Bm' => WO q v w bar D F B Fm Bm F' B' Fm' Bm')) ∧
  (∀ (D' : Nat) x l F B Fm, WE D' q v w F Fm → r32 x → cL 0 x l F B = some (0, F, B)) ∧ (∀ i e F B, bad F → mL i e F B = some (0, F, B))
theorem TPL_c {b tf ts : Int} {Bm Bm' : zB} (h : TPL b tf ts Bm) (e : ∀ k, 0 ≤ k → k < b → Bm' 14 0 46 k = Bm 14 0 46 k ∧ Bm' 14 0 47 k = Bm 14 0 47 k) : TPL b tf ts Bm' := by
  obtain ⟨a1, a2, a3, a4, a5, a6⟩ := h
  refine ⟨fun k u t => by rw [(e k u t).1, (e k u t).2]; exact a1 k u t, a2, a3, a4, fun u => ?_, fun u => ?_⟩
  · rw [(e 0 (by decide) (by first | decide | omega)).1, (e 0 (by decide) (by first | decide | omega)).2]; exact a5 u
  · rw [(e 0 (by decide) (by first | decide | omega)).1, (e 0 (by decide) (by first | decide | omega)).2, (e 1 (by decide) (by first | decide | omega)).1, (e 1 (by decide) (by first | decide | omega)).2]; exact a6 u
theorem m81 {a b : Int} (a0 : 1 ≤ a) (a1 : a ≤ 9) (b0 : 1 ≤ b) (b1 : b ≤ 9) : 1 ≤ a * b ∧ a * b ≤ 81 := by
  have h : a * b ≤ 9 * 9 := Int.mul_le_mul a1 b1 (by first | decide | omega) (by decide)
  exact ⟨ml_1 a0 b0, (by first | decide | omega)⟩
theorem TPL_s {b tf ts a c : Int} {Bm Bm' : zB} (h : TPL b tf ts Bm) (b0 : 0 ≤ b) (ha : 2 ≤ a ∧ a ≤ 9) (hc : 1 ≤ c ∧ c ≤ 9) (e : ∀ k, 0 ≤ k → k < b → Bm' 14 0 46 k = Bm 14 0 46 k ∧ Bm' 14 0 47 k = Bm 14 0 47 k) (ea : Bm' 14 0 46 b = a) (ec : Bm' 14 0 47 b = c) : (2 < b + 1 → TPL (b + 1) tf ts Bm') ∧ (¬ 2 < b + 1 → TPL (b + 1) (tf * a) (ts * c) Bm') := by
  have h' := TPL_c h e
  obtain ⟨a1, a2, a3, a4, a5, a6⟩ := h'
  have r : ∀ k, 0 ≤ k → k < b + 1 → (2 ≤ Bm' 14 0 46 k ∧ Bm' 14 0 46 k ≤ 9) ∧ (1 ≤ Bm' 14 0 47 k ∧ Bm' 14 0 47 k ≤ 9) := fun k u t => by
    by_cases z : k = b
    · rw [z, ea, ec]; exact ⟨ha, hc⟩
    · exact a1 k u (by first | decide | omega)
  constructor
  · intro z
    exact ⟨r, a2, a3, fun u => (by first | decide | omega), fun u => (by first | decide | omega), fun u => (by first | decide | omega)⟩
  · intro z
    have hb : b = 0 ∨ b = 1 := by omega
    rcases hb with rfl | rfl
    · obtain ⟨t1, t2⟩ := a4 rfl
      rw [t1, t2, Int.one_mul, Int.one_mul]
      exact ⟨r, (by first | decide | omega), (by first | decide | omega), fun u => (by first | decide | omega), fun u => ⟨ea.symm, ec.symm⟩, fun u => (by first | decide | omega)⟩
    · obtain ⟨t1, t2⟩ := a5 rfl
      have q0 := r 0 (by decide) (by decide)
      rw [t1, t2]
      exact ⟨r, m81 (by first | decide | omega) (by first | decide | omega) (by first | decide | omega) (by first | decide | omega), m81 (by first | decide | omega) (by first | decide | omega) (by first | decide | omega) (by first | decide | omega), fun u => (by first | decide | omega), fun u => (by first | decide | omega), fun u => ⟨by rw [ea], by rw [ec]⟩⟩
theorem WE_close {q v w : Int} {D : Nat} {F2 F3 Fm2 Fm3 : zF} (h : WE (D + 1) q v w F2 Fm2) (fn : ∀ c y k, ¬ (c = 11 ∧ y = 0 ∧ (k = 5 ∨ k = 6 ∨ k = 9 ∨ k = 10 ∨ k = 18)) → F3 c y k = F2 c y k) (gn : ∀ c y k, ¬ (c = 14 ∧ y = 0 ∧ (k = 41 ∨ k = 45 ∨ k = 48)) → Fm3 c y k = Fm2 c y k) : WE D q v w F3 Fm3 := by
  obtain ⟨a1, a2, a3, a4, a5, a6, a7, a8, a9, a10⟩ := h
  unfold bad at a4
  refine ⟨?_, ?_, ?_, ?_, ?_, ?_, ?_, ?_, ?_, ?_⟩
  · rw [fn 11 0 0 (by first | decide | omega)]; exact a1
  · rw [fn 11 0 1 (by first | decide | omega)]; exact a2
  · rw [fn 11 0 2 (by first | decide | omega), gn 14 0 17 (by first | decide | omega), gn 14 0 18 (by first | decide | omega)]; exact a3
  · unfold bad; rw [gn 14 0 17 (by first | decide | omega)]; exact a4
  · rw [gn 14 0 18 (by first | decide | omega)]; exact a5
  · rw [gn 14 0 35 (by first | decide | omega)]; exact a6
  · rw [gn 14 0 6 (by first | decide | omega)]; exact a7
  · rw [fn 4 q 6 (by first | decide | omega)]; exact a8
  · rw [gn 14 0 36 (by first | decide | omega)]; exact a9
  · rw [fn 11 0 3 (by first | decide | omega)]; omega
theorem WO_close {q v w bar : Int} {D : Nat} {F F1 F2 F3 : zF} {B B1 B2 B3 : zB} {Fm Fm1 Fm2 Fm3 : zF} {Bm Bm1 Bm2 Bm3 : zB} (hS : WS q v w bar D F B Fm Bm) (f1 : WFR q v w F B Fm Bm F1 B1 Fm1 Bm1) (W : WO q v w bar (D + 1) F1 B1 Fm1 Bm1 F2 B2 Fm2 Bm2) (fn : ∀ c y k, ¬ (c = 11 ∧ y = 0 ∧ (k = 5 ∨ k = 6 ∨ k = 9 ∨ k = 10 ∨ k = 18)) → F3 c y k = F2 c y k) (gn : ∀ c y k, ¬ (c = 14 ∧ y = 0 ∧ (k = 41 ∨ k = 45 ∨ k = 48)) → Fm3 c y k = Fm2 c y k) (bn : ∀ c y k x, ¬ (c = 11 ∧ y = 0 ∧ k = 14) → B3 c y k x = B2 c y k x) (mn : ∀ c y k x, ¬ (c = 14 ∧ y = 0 ∧ k = 51) → Bm3 c y k x = Bm2 c y k x) (kk : WS q v w bar (D + 1) F2 B2 Fm2 Bm2 → WKP q F1 B1 Fm1 Bm1 F2 B2 Fm2 Bm2 → (F3 11 0 5 = F 11 0 5 ∧ F3 11 0 6 = F 11 0 6 ∧ F3 11 0 9 = F 11 0 9 ∧ F3 11 0 10 = F 11 0 10 ∧ F3 11 0 18 = F 11 0 18) ∧ (Fm3 14 0 41 = Fm 14 0 41 ∧ Fm3 14 0 45 = Fm 14 0 45 ∧ Fm3 14 0 48 = Fm 14 0 48) ∧ ∀ k, 0 ≤ k → k < 4 → B3 11 0 14 k = B 11 0 14 k ∧ Bm3 14 0 51 (prN k) = Bm 14 0 51 (prN k)) (r1 : ∀ k, 0 ≤ k → k < F 11 0 18 → B1 11 0 15 k = B 11 0 15 k ∧ B1 11 0 16 k = B 11 0 16 k ∧ B1 11 0 17 k = B 11 0 17 k ∧ Bm1 14 0 42 k = Bm 14 0 42 k ∧ Bm1 14 0 43 k = Bm 14 0 43 k ∧ Bm1 14 0 44 k = Bm 14 0 44 k) (r2 : ∀ k, 0 ≤ k → k < F 11 0 6 → Bm1 14 0 46 k = Bm 14 0 46 k ∧ Bm1 14 0 47 k = Bm 14 0 47 k) (r18 : F 11 0 18 ≤ F1 11 0 18) (r6 : F 11 0 6 ≤ F1 11 0 6) (r7 : 0 < F 11 0 6 → F1 11 0 7 = F 11 0 7 ∧ F1 11 0 8 = F 11 0 8 ∧ Fm1 14 0 49 = Fm 14 0 49) (rc : F1 4 q 6 = F 4 q 6) : WO q v w bar D F B Fm Bm F3 B3 Fm3 Bm3 := by
  obtain ⟨f2, s⟩ := W
  have f3 : WFR q v w F2 B2 Fm2 Bm2 F3 B3 Fm3 Bm3 := WFR_mk (fun c y k n => fn c y k (by first | decide | omega)) (fun c y k n => gn c y k (by first | decide | omega)) (fun c y k x n => bn c y k x (by first | decide | omega)) (fun c y k x n => mn c y k x (by first | decide | omega))
  refine ⟨WFR_t f1 (WFR_t f2 f3), ?_⟩
  rcases s with ⟨s, kp⟩ | s
  · obtain ⟨⟨e5, e6, e9, e10, e18⟩, ⟨g41, g45, g48⟩, pw⟩ := kk s kp
    obtain ⟨_, _, _, _, x5, y6, _, s8, s9, _, s11, ⟨z1, z2, z3, z4⟩, _⟩ := hS
    obtain ⟨⟨k5, k6, k9, k10, k18⟩, kp, kr, kb, k7, kc⟩ := kp
    refine Or.inl ⟨WS_mk s (fun c y k n => fn c y k (by first | decide | omega)) (fun c y k n => gn c y k (by first | decide | omega)) (fun c y k x n => bn c y k x (by first | decide | omega)) (fun c y k x n => mn c y k x (by first | decide | omega)) ?_ ?_ ?_ ?_ ?_ ?_ ?_ ?_, ?_⟩
    · rw [fn 11 0 4 (by first | decide | omega), gn 14 0 40 (by first | decide | omega)]; exact s.2.2.2.1
    · rw [e5, g41]; exact x5
    · rw [e6, g48]; exact y6
    · rw [fn 11 0 7 (by first | decide | omega), fn 11 0 3 (by first | decide | omega), gn 14 0 50 (by first | decide | omega)]; exact s.2.2.2.2.2.2.1
    · rw [e6, fn 11 0 7 (by first | decide | omega), fn 11 0 8 (by first | decide | omega), gn 14 0 49 (by first | decide | omega), mn 14 0 8 _ (by first | decide | omega)]
      intro u
      exact s.2.2.2.2.2.2.2.1 (by first | decide | omega)
    · rw [e6, e9, e10]
      refine TPL_c s9 (fun k u t => ?_)
      rw [mn 14 0 46 k (by first | decide | omega), mn 14 0 47 k (by first | decide | omega), (kb k u (by first | decide | omega)).1, (kb k u (by first | decide | omega)).2]
      exact r2 k u t
    · intro k u t
      rw [(pw k u t).1, (pw k u t).2]
      exact s11 k u t
    · rw [e18, g45]
      refine ⟨z1, z2, z3, fun k u t => ?_⟩
      have := s.2.2.2.2.2.2.2.2.2.2.2.1.2.2.2 k u (by first | decide | omega)
      unfold CRk at this ⊢
      rw [bn 11 0 15 k (by first | decide | omega), bn 11 0 16 k (by first | decide | omega), bn 11 0 17 k (by first | decide | omega), mn 14 0 42 k (by first | decide | omega), mn 14 0 43 k (by first | decide | omega), mn 14 0 44 k (by first | decide | omega)]
      exact this
    · refine ⟨⟨e5, e6, e9, e10, e18⟩, fun k u t => (pw k u t).1, fun k u t => ?_, fun k u t => ?_, fun u => ?_, ?_⟩
      · obtain ⟨p1, p2, p3, p4, p5, p6⟩ := kr k u (by first | decide | omega)
        obtain ⟨q1, q2, q3, q4, q5, q6⟩ := r1 k u t
        exact ⟨by rw [bn 11 0 15 k (by first | decide | omega), p1, q1], by rw [bn 11 0 16 k (by first | decide | omega), p2, q2], by rw [bn 11 0 17 k (by first | decide | omega), p3, q3], by rw [mn 14 0 42 k (by first | decide | omega), p4, q4], by rw [mn 14 0 43 k (by first | decide | omega), p5, q5], by rw [mn 14 0 44 k (by first | decide | omega), p6, q6]⟩
      · obtain ⟨p1, p2⟩ := kb k u (by first | decide | omega)
        obtain ⟨q1, q2⟩ := r2 k u t
        exact ⟨by rw [mn 14 0 46 k (by first | decide | omega), p1, q1], by rw [mn 14 0 47 k (by first | decide | omega), p2, q2]⟩
      · obtain ⟨p1, p2, p3⟩ := k7 (by first | decide | omega)
        obtain ⟨q1, q2, q3⟩ := r7 u
        exact ⟨by rw [fn 11 0 7 (by first | decide | omega), p1, q1], by rw [fn 11 0 8 (by first | decide | omega), p2, q2], by rw [gn 14 0 49 (by first | decide | omega), p3, q3]⟩
      · rw [fn 4 q 6 (by first | decide | omega), ← rc]; exact kc
  · exact Or.inr (WE_close s fn gn)
end
end
