section
/-! ===== the class: groups gathered, tracks, the last place ===== -/
section
variable {K : zK} {o g D N : Int} {bg en tn tk : Int → Int}
theorem C_g36 {z s : Int} (h7 : 0 < K.2 7) (hK : 600 ≤ K.1) (dq : DTq g D N bg en tn tk) (hz : z ≤ N) (hs : 0 ≤ s ∧ s < z) : ∀ (d m : Nat) (i : Int) (F : zF) (B : zB), i + d = 128 → 0 ≤ i → d < m → CFq K o g D N bg en tn tk F B → F 7 0 7 = s → F 7 0 6 = gplF g D (bg s) + 1 → F 7 0 5 = gplF g D (bg s) → (∀ x, 0 ≤ x → x < i → B 7 0 8 x = 0) → ∃ F' B', f_Scribe_gatherEvent_36 K m i 0 z F B = some (0, F', B') ∧ gthF F F' ∧ gthB B B' ∧ F' 7 0 5 = gplF g D (bg s) ∧ F' 7 0 7 = nxG (fun i => gplF g D (bg i)) s z ∧ F' 7 0 6 = toG (fun i => gplF g D (bg i)) (fun i => gplF g D (en i)) s z ∧ HTn tn s (nxG (fun i => gplF g D (bg i)) s z) B' := by
  have hN := dq.2.2.1
  intro d
  induction d with
  | zero =>
    intro m i F B e i0 hm hc f7 f6 f5 hx
    obtain ⟨p, rfl⟩ : ∃ p, m = p + 1 := ⟨m - 1, (by first | decide | omega)⟩
    obtain ⟨F1, B1, x1, x2⟩ := C_g58 h7 dq hz hs 400 K.1 s (gplF g D (bg s) + 1) F B (by first | decide | omega) (by first | decide | omega) (by first | decide | omega) (by first | decide | omega) hc f7 f6 f5 (by rw [show (s - s).toNat = 0 by omega, mxR]) ⟨fun i a b => (by first | decide | omega), fun x x0 x1 => Or.inl (hx x x0 (by first | decide | omega))⟩
    refine ⟨F1, B1, ?_, x2⟩
    rw [f_Scribe_gatherEvent_36, if_pos ⟨(by first | decide | omega), h7⟩, if_pos (by unfold r32; omega), if_pos (by first | decide | omega), x1]
  | succ d ih =>
    intro m i F B e i0 hm hc f7 f6 f5 hx
    obtain ⟨p, rfl⟩ : ∃ p, m = p + 1 := ⟨m - 1, (by first | decide | omega)⟩
    obtain ⟨F1, B1, x1, x2, x3, x4⟩ := ih p (i + 1) F (zup4 B 7 0 8 i 0) (by first | decide | omega) (by first | decide | omega) (by first | decide | omega) (CFq_f hc rfl rfl rfl (fun k x => by rw [zup4_v, if_neg (by first | decide | omega)])) f7 f6 f5 (fun x x0 x1 => by
      rw [zup4_v]
      by_cases c : x = i
      · rw [if_pos (by first | decide | omega)]
      · rw [if_neg (by first | decide | omega)]; exact hx x x0 (by first | decide | omega))
    refine ⟨F1, B1, ?_, x2, fun c y k x n => by rw [x3 c y k x n, zup4_v, if_neg (by first | decide | omega)], x4⟩
    rw [f_Scribe_gatherEvent_36, if_pos ⟨(by first | decide | omega), h7⟩, if_pos (by unfold r32; omega), if_neg (by first | decide | omega), if_pos (by first | decide | omega), x1]
theorem C_ga {z s : Int} {F : zF} {B : zB} (h7 : 0 < K.2 7) (hK : 600 ≤ K.1) (dq : DTq g D N bg en tn tk) (hz : z ≤ N) (hs : 0 ≤ s ∧ s < z) (hc : CFq K o g D N bg en tn tk F B) : ∃ F' B', f_Scribe_gatherEvent K 0 s z F B = some (0, F', B') ∧ gthF F F' ∧ gthB B B' ∧ F' 7 0 5 = gplF g D (bg s) ∧ F' 7 0 7 = nxG (fun i => gplF g D (bg i)) s z ∧ F' 7 0 6 = toG (fun i => gplF g D (bg i)) (fun i => gplF g D (en i)) s z ∧ HTn tn s (nxG (fun i => gplF g D (bg i)) s z) B' := by
  have hN := dq.2.2.1
  have hc' := hc
  obtain ⟨h1, h2, h3, h4, h5⟩ := hc'
  obtain ⟨_, _, b3, _⟩ := h5 s hs.1 (by first | decide | omega)
  have d3 := (dq.2.2.2.1 s hs.1 (by first | decide | omega)).2.2.1
  have hc2 : CFq K o g D N bg en tn tk (zup3 (zup3 (zup3 F 7 0 5 (gplF g D (bg s))) 7 0 6 (gplF g D (bg s) + 1)) 7 0 7 s) B := CFq_f hc (by rw [zup3_v, if_neg (by first | decide | omega), zup3_v, if_neg (by first | decide | omega), zup3_v, if_neg (by first | decide | omega)]) (by rw [zup3_v, if_neg (by first | decide | omega), zup3_v, if_neg (by first | decide | omega), zup3_v, if_neg (by first | decide | omega)]) (by rw [zup3_v, if_neg (by first | decide | omega), zup3_v, if_neg (by first | decide | omega), zup3_v, if_neg (by first | decide | omega)]) (fun _ _ => rfl)
  obtain ⟨F1, B1, x1, x2, x3⟩ := C_g36 (z := z) (s := s) h7 hK dq hz hs 128 K.1 0 _ B (by first | decide | omega) (by first | decide | omega) (by first | decide | omega) hc2 (by rw [zup3_v, if_pos (by first | decide | omega)]) (by rw [zup3_v, if_neg (by first | decide | omega), zup3_v, if_pos (by first | decide | omega)]) (by rw [zup3_v, if_neg (by first | decide | omega), zup3_v, if_neg (by first | decide | omega), zup3_v, if_pos (by first | decide | omega)]) (fun x _ _ => (by first | decide | omega))
  refine ⟨F1, B1, ?_, fun c y k n => ?_, x3⟩
  · unfold f_Scribe_gatherEvent
    rw [if_pos ⟨(by first | decide | omega), h7⟩, h1.1, if_pos h1.2, if_pos (by first | decide | omega), b3, C_gp h7 dq hc d3, zb_s, x1]
  · rw [x2 c y k n, zup3_v, if_neg (by first | decide | omega), zup3_v, if_neg (by first | decide | omega), zup3_v, if_neg (by first | decide | omega)]
theorem C_te12 {s : Int} {F : zF} {B : zB} (h7 : 0 < K.2 7) (dq : DTq g D N bg en tn tk) (hs : 0 ≤ s ∧ s < N) (hc : CFq K o g D N bg en tn tk F B) : ∀ (f m : Nat) (t : Int), N - t ≤ f → f < m → s ≤ t → t ≤ N → f_Scribe_trackEnd_12 K m t o 0 s F B = some (grN tk N (tk s) f t, F, B) := by
  have hN := dq.2.2.1
  obtain ⟨h1, h2, h3, h4, h5⟩ := hc
  intro f
  induction f with
  | zero =>
    intro m t hf hm st tz
    obtain ⟨p, rfl⟩ : ∃ p, m = p + 1 := ⟨m - 1, (by first | decide | omega)⟩
    rw [f_Scribe_trackEnd_12, if_pos ⟨(by first | decide | omega), h7⟩, h1.1, if_pos h1.2, if_pos (by unfold r32; omega), h4, if_pos (by unfold r32; omega), if_pos (by first | decide | omega), f_Scribe_trackEnd_39, grN]
  | succ f ih =>
    intro m t hf hm st tz
    obtain ⟨p, rfl⟩ : ∃ p, m = p + 1 := ⟨m - 1, (by first | decide | omega)⟩
    rw [f_Scribe_trackEnd_12, if_pos ⟨(by first | decide | omega), h7⟩, h1.1, if_pos h1.2, if_pos (by unfold r32; omega), h4, if_pos (by unfold r32; omega), grN]
    by_cases c : N ≤ t
    · rw [if_pos c, if_neg (by first | decide | omega), f_Scribe_trackEnd_39]
    · have b1 := (h5 t (by first | decide | omega) (by first | decide | omega)).1
      have b2 := (h5 s hs.1 hs.2).1
      have d1 := (dq.2.2.2.1 t (by first | decide | omega) (by first | decide | omega)).1
      have d2 := (dq.2.2.2.1 s hs.1 hs.2).1
      rw [if_neg c, if_pos h1.2, if_pos (by first | decide | omega), if_pos (by first | decide | omega), b1, b2, if_pos (by unfold r64; omega), if_pos (by unfold r64; omega)]
      by_cases y : tk t = tk s
      · rw [if_pos (zcmp_0.mpr y), if_pos ⟨(by first | decide | omega), y⟩, ih p (t + 1) (by first | decide | omega) (by first | decide | omega) (by first | decide | omega) (by first | decide | omega)]
      · rw [if_neg (fun x => y (zcmp_0.mp x)), if_neg (fun x => y x.2), f_Scribe_trackEnd_39]
theorem C_te {s : Int} {F : zF} {B : zB} (h7 : 0 < K.2 7) (hK : 600 ≤ K.1) (dq : DTq g D N bg en tn tk) (hs : 0 ≤ s ∧ s < N) (hc : CFq K o g D N bg en tn tk F B) : f_Scribe_trackEnd K 0 s F B = some (nxG tk s N, F, B) := by
  have hN := dq.2.2.1
  unfold f_Scribe_trackEnd
  rw [if_pos ⟨(by first | decide | omega), h7⟩, hc.1.1, if_pos hc.1.2]
  exact C_te12 h7 dq hs hc 400 K.1 s (by first | decide | omega) (by first | decide | omega) (by first | decide | omega) (by first | decide | omega)
/-- where the last group of s .. z - 1 ends -/
def lsG (gB gE : Int → Int) (z : Int) : Nat → Int → Int → Int
  | 0, _, a => a
  | f + 1, s, a => if s < z then lsG gB gE z f (nxG gB s z) (toG gB gE s z) else a
theorem to_b {z s : Int} (dq : DTq g D N bg en tn tk) (hz : z ≤ N) (hs : 0 ≤ s ∧ s < z) : 0 ≤ toG (fun i => gplF g D (bg i)) (fun i => gplF g D (en i)) s z ∧ toG (fun i => gplF g D (bg i)) (fun i => gplF g D (en i)) s z ≤ 40000000000000 := by
  have hN := dq.2.2.1
  have hb : ∀ i, 0 ≤ i → i < N → (0 ≤ gplF g D (bg i) ∧ gplF g D (bg i) ≤ 30000000000000) ∧ (0 ≤ gplF g D (en i) ∧ gplF g D (en i) ≤ 30000000000000) := fun i i0 i1 => ⟨gpl_b dq.1 dq.2.1 (dq.2.2.2.1 i i0 i1).2.2.1, gpl_b dq.1 dq.2.1 (dq.2.2.2.1 i i0 i1).2.2.2⟩
  have bs := (hb s hs.1 (by first | decide | omega)).1
  obtain ⟨p1, p2, _, _⟩ := nxG_p (gB := fun i => gplF g D (bg i)) hs.2 (by first | decide | omega) hs.1
  have mb := mxR_b (gE := fun i => gplF g D (en i)) (M := 40000000000000) (nxG (fun i => gplF g D (bg i)) s z - s).toNat s (gplF g D (bg s) + 1) (by first | decide | omega) (fun i i0 i1 => by have := (hb i (by first | decide | omega) (by first | decide | omega)).2; show gplF g D (en i) ≤ _; omega)
  simp only [toG]
  split
  · rename_i c
    have := (hb (nxG (fun i => gplF g D (bg i)) s z) (by first | decide | omega) (by first | decide | omega)).1
    unfold zmin
    split <;> omega
  · omega
theorem C_l41 {rec' : Int → Int → Int → Int → zF → zB → zO} {z first l3 l1 : Int} (h7 : 0 < K.2 7) (hK : 600 ≤ K.1) (dq : DTq g D N bg en tn tk) (hz : z ≤ N) : ∀ (f m : Nat) (n s a : Int) (F : zF) (B : zB), z - s ≤ f → f < m → 0 ≤ n → n ≤ s → 0 ≤ s → s ≤ z → CFq K o g D N bg en tn tk F B → F 7 0 7 = s → F 7 0 6 = a → (0 ≤ a ∧ a ≤ 40000000000000) → ∃ F' B', f_Scribe_lastPlace_41 rec' K m n z first l3 l1 0 F B = f_Scribe_lastPlace_78 rec' K first l3 l1 0 F' B' ∧ gthF F F' ∧ gthB B B' ∧ F' 7 0 6 = lsG (fun i => gplF g D (bg i)) (fun i => gplF g D (en i)) z f s a ∧ (0 ≤ F' 7 0 6 ∧ F' 7 0 6 ≤ 40000000000000) ∧ CFq K o g D N bg en tn tk F' B' := by
  have hN := dq.2.2.1
  intro f
  induction f with
  | zero =>
    intro m n s a F B hf hm n0 ns s0 sz hc f7 f6 ha
    obtain ⟨p, rfl⟩ : ∃ p, m = p + 1 := ⟨m - 1, (by first | decide | omega)⟩
    have hc' := hc
    obtain ⟨h1, h2, h3, h4, h5⟩ := hc'
    refine ⟨F, B, ?_, fun _ _ _ _ => rfl, fun _ _ _ _ _ => rfl, by rw [lsG]; exact f6, (by first | decide | omega), hc⟩
    rw [f_Scribe_lastPlace_41, if_pos ⟨(by first | decide | omega), h7⟩, h1.1, if_pos h1.2, if_pos (by unfold r32; omega), h4, if_pos (by unfold r32; omega)]
    by_cases c : N ≤ n
    · rw [if_pos c]
    · rw [if_neg c, f7, if_pos (by unfold r32; omega), if_pos (by unfold r32; omega), if_pos (by first | decide | omega)]
  | succ f ih =>
    intro m n s a F B hf hm n0 ns s0 sz hc f7 f6 ha
    obtain ⟨p, rfl⟩ : ∃ p, m = p + 1 := ⟨m - 1, (by first | decide | omega)⟩
    have hc' := hc
    obtain ⟨h1, h2, h3, h4, h5⟩ := hc'
    by_cases y : s < z
    · obtain ⟨F1, B1, x1, x2, x3, x4, x5, x6, x7⟩ := C_ga (K := K) h7 hK dq hz ⟨s0, y⟩ hc
      obtain ⟨p1, p2, _, _⟩ := nxG_p (gB := fun i => gplF g D (bg i)) y (by first | decide | omega) s0
      have hc1 : CFq K o g D N bg en tn tk F1 B1 := CFq_f hc (x2 7 0 0 (by first | decide | omega)) (x2 7 0 2 (by first | decide | omega)) (x2 8 o 2 (by first | decide | omega)) (fun k x => x3 8 o k x (by first | decide | omega))
      obtain ⟨F2, B2, y1, y2, y3, y4, y5, y6⟩ := ih p (n + 1) _ _ F1 B1 (by first | decide | omega) (by first | decide | omega) (by first | decide | omega) (by first | decide | omega) (by first | decide | omega) p2 hc1 x5 x6 (to_b dq hz ⟨s0, y⟩)
      refine ⟨F2, B2, ?_, fun c y k n => by rw [y2 c y k n, x2 c y k n], fun c y k x n => by rw [y3 c y k x n, x3 c y k x n], by rw [lsG, if_pos y]; exact y4, y5, y6⟩
      rw [f_Scribe_lastPlace_41, if_pos ⟨(by first | decide | omega), h7⟩, h1.1, if_pos h1.2, if_pos (by unfold r32; omega), h4, if_pos (by unfold r32; omega), if_neg (by first | decide | omega), f7, if_pos (by unfold r32; omega), if_pos (by unfold r32; omega), if_neg (by first | decide | omega), x1, zb_s]
      exact y1
    · refine ⟨F, B, ?_, fun _ _ _ _ => rfl, fun _ _ _ _ _ => rfl, by rw [lsG, if_neg y]; exact f6, (by first | decide | omega), hc⟩
      rw [f_Scribe_lastPlace_41, if_pos ⟨(by first | decide | omega), h7⟩, h1.1, if_pos h1.2, if_pos (by unfold r32; omega), h4, if_pos (by unfold r32; omega)]
      by_cases c : N ≤ n
      · rw [if_pos c]
      · rw [if_neg c, f7, if_pos (by unfold r32; omega), if_pos (by unfold r32; omega), if_pos (by first | decide | omega)]
/-- the last place of all tracks that become voices -/
def lpB (gB gE tk : Int → Int) (N : Int) : Nat → Int → Int → Int → Int
  | 0, _, _, a => a
  | f + 1, s, v, a => if s < N ∧ v < 4 then lpB gB gE tk N f (nxG tk s N) (v + 1) (zmax a (lsG gB gE (nxG tk s N) 400 s 0)) else a
theorem lsG_a {gB gE : Int → Int} {z : Int} : ∀ (f : Nat) (s a a' : Int), s < z → lsG gB gE z (f + 1) s a = lsG gB gE z (f + 1) s a' := by
  intro f s a a' h
  rw [lsG, lsG, if_pos h, if_pos h]
theorem C_lp7 (h7 : 0 < K.2 7) (hK : 600 ≤ K.1) (dq : DTq g D N bg en tn tk) : ∀ (f m : Nat) (s v a : Int) (F : zF) (B : zB), N - s ≤ f → f < m → 0 ≤ s → s ≤ N → 0 ≤ v → v ≤ 4 → (0 ≤ a ∧ a ≤ 40000000000000) → (0 ≤ F 7 0 6 ∧ F 7 0 6 ≤ 40000000000000) → CFq K o g D N bg en tn tk F B → ∃ F' B', f_Scribe_lastPlace_7 K m s v a 0 F B = some (lpB (fun i => gplF g D (bg i)) (fun i => gplF g D (en i)) tk N f s v a, F', B') ∧ gthF F F' ∧ gthB B B' ∧ (0 ≤ lpB (fun i => gplF g D (bg i)) (fun i => gplF g D (en i)) tk N f s v a ∧ lpB (fun i => gplF g D (bg i)) (fun i => gplF g D (en i)) tk N f s v a ≤ 40000000000000) ∧ CFq K o g D N bg en tn tk F' B' := by
  have hN := dq.2.2.1
  intro f
  induction f with
  | zero =>
    intro m s v a F B hf hm s0 sz v0 v4 ha h6 hc
    obtain ⟨p, rfl⟩ : ∃ p, m = p + 1 := ⟨m - 1, (by first | decide | omega)⟩
    have hc' := hc
    obtain ⟨h1, h2, h3, h4, h5⟩ := hc'
    refine ⟨F, B, ?_, fun _ _ _ _ => rfl, fun _ _ _ _ _ => rfl, by rw [lpB]; exact ha, hc⟩
    rw [f_Scribe_lastPlace_7, if_pos ⟨(by first | decide | omega), h7⟩, h1.1, if_pos h1.2, if_pos (by unfold r32; omega), h4, if_pos (by unfold r32; omega), if_pos (by first | decide | omega), f_Scribe_lastPlace_101, lpB]
  | succ f ih =>
    intro m s v a F B hf hm s0 sz v0 v4 ha h6 hc
    obtain ⟨p, rfl⟩ : ∃ p, m = p + 1 := ⟨m - 1, (by first | decide | omega)⟩
    have hc' := hc
    obtain ⟨h1, h2, h3, h4, h5⟩ := hc'
    rw [f_Scribe_lastPlace_7, if_pos ⟨(by first | decide | omega), h7⟩, h1.1, if_pos h1.2, if_pos (by unfold r32; omega), h4, if_pos (by unfold r32; omega), lpB]
    by_cases c : N ≤ s
    · rw [if_pos c, if_neg (by first | decide | omega), f_Scribe_lastPlace_101]
      exact ⟨F, B, rfl, fun _ _ _ _ => rfl, fun _ _ _ _ _ => rfl, ha, hc⟩
    · rw [if_neg c, if_pos (by unfold r32; omega)]
      by_cases y : 4 ≤ v
      · rw [if_pos y, if_neg (by first | decide | omega), f_Scribe_lastPlace_101]
        exact ⟨F, B, rfl, fun _ _ _ _ => rfl, fun _ _ _ _ _ => rfl, ha, hc⟩
      · obtain ⟨p1, p2, _, _⟩ := nxG_p (gB := tk) (show s < N by omega) (by first | decide | omega) s0
        rw [if_neg y, if_pos ⟨(by first | decide | omega), (by first | decide | omega)⟩, C_te h7 hK dq ⟨s0, (by first | decide | omega)⟩ hc, zb_s]
        have hc1 : CFq K o g D N bg en tn tk (zup3 F 7 0 7 s) B := CFq_f hc (by rw [zup3_v, if_neg (by first | decide | omega)]) (by rw [zup3_v, if_neg (by first | decide | omega)]) (by rw [zup3_v, if_neg (by first | decide | omega)]) (fun _ _ => rfl)
        obtain ⟨F1, B1, x1, x2, x3, x4, x5, x6⟩ := C_l41 (rec' := f_Scribe_lastPlace_7 K p) (z := nxG tk s N) (first := s) (l3 := v) (l1 := a) h7 hK dq p2 400 K.1 0 s (F 7 0 6) (zup3 F 7 0 7 s) B (by first | decide | omega) (by first | decide | omega) (by first | decide | omega) s0 s0 (by first | decide | omega) hc1 (by rw [zup3_v, if_pos (by first | decide | omega)]) (by rw [zup3_v, if_neg (by first | decide | omega)]) h6
        have la : F1 7 0 6 = lsG (fun i => gplF g D (bg i)) (fun i => gplF g D (en i)) (nxG tk s N) 400 s 0 := by rw [x4]; exact lsG_a 399 s _ _ p1
        have zb : 0 ≤ zmax a (F1 7 0 6) ∧ zmax a (F1 7 0 6) ≤ 40000000000000 := by unfold zmax; split <;> omega
        obtain ⟨F2, B2, y1, y2, y3, y4, y5⟩ := ih p (nxG tk s N) (v + 1) (zmax a (F1 7 0 6)) F1 B1 (by first | decide | omega) (by first | decide | omega) (by first | decide | omega) p2 (by first | decide | omega) (by first | decide | omega) zb x5 x6
        rw [la] at y1 y4
        refine ⟨F2, B2, ?_, fun c y k n => by rw [y2 c y k n, x2 c y k n, zup3_v, if_neg (by first | decide | omega)], fun c y k x n => by rw [y3 c y k x n, x3 c y k x n], y4, y5⟩
        rw [x1]
        unfold f_Scribe_lastPlace_78
        rw [if_pos ⟨(by first | decide | omega), h7⟩, if_pos (by unfold r64; omega), if_pos (by unfold r64; omega), C_te h7 hK dq ⟨s0, (by first | decide | omega)⟩ x6, zb_s, la]
        exact y1
end
end
