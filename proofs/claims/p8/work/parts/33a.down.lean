section
/-! ===== down: each side whole ===== -/
def CRs (T : List Int) (r : Int) (F : zF) (B : zB) : Prop := F 0 1 2 = 0 ∧ (((T.length : Int) ≤ 3000 ∧ r = (T.length : Int) ∧ F 0 1 1 = (T.length : Int) ∧ ∀ j : Nat, j < T.length → B 0 1 0 j = tbA T j % 256) ∨ (3000 < (T.length : Int) ∧ r = -2 ∧ F 0 1 1 = 0))
def dnF (F F' : zF) : Prop := ∀ c y k, ¬ ((c = 7 ∧ y = 0 ∧ (k ≤ 3 ∨ 5 ≤ k ∧ k ≤ 7)) ∨ (c = 1 ∧ y = 0 ∧ k = 10) ∨ (c = 0 ∧ y = 1 ∧ 1 ≤ k ∧ k ≤ 2)) → F' c y k = F c y k
def dnG (w : Int) (F F' : zF) : Prop := ∀ c y k, ¬ (c = 14 ∧ y = 0 ∧ (k ≤ 1 ∨ 52 ≤ k ∧ k ≤ 57 ∨ k = 71)) → ¬ (c = 13 ∧ y = w ∧ 1 ≤ k ∧ k ≤ 7) → F' c y k = F c y k
def dnH (w : Int) (B B' : zB) : Prop := ∀ c i k y, ¬ (c = 13 ∧ i = w ∧ 8 ≤ k ∧ k ≤ 35) → ¬ (c = 14 ∧ i = 0 ∧ (k = 70 ∨ k = 95)) → B' c i k y = B c i k y
section
variable {Km : Nat} {K : zK} {o f w g D N n d b : Int} {bg en tn tk nb : Int → Int}
theorem C_l41x {rec' : Int → Int → Int → Int → zF → zB → zO} {z first l3 l1 : Int} (h7 : 0 < K.2 7) (hK : 600 ≤ K.1) (dq : DTq g D N bg en tn tk) (hz : z ≤ N) (m : Nat) (s : Int) (F : zF) (B : zB) (hm : 500 < m) (s0 : 0 ≤ s) (sz : s < z) (hc : CFq K o g D N bg en tn tk F B) (f7 : F 7 0 7 = s) : ∃ F' B', f_Scribe_lastPlace_41 rec' K m 0 z first l3 l1 0 F B = f_Scribe_lastPlace_78 rec' K first l3 l1 0 F' B' ∧ gthF F F' ∧ gthB B B' ∧ F' 7 0 6 = lsG (fun i => gplF g D (bg i)) (fun i => gplF g D (en i)) z 400 s 0 ∧ (0 ≤ F' 7 0 6 ∧ F' 7 0 6 ≤ 40000000000000) ∧ CFq K o g D N bg en tn tk F' B' := by
  have hN := dq.2.2.1
  obtain ⟨p, rfl⟩ : ∃ p, m = p + 1 := ⟨m - 1, (by first | decide | omega)⟩
  have hc' := hc
  obtain ⟨h1, h2, h3, h4, h5⟩ := hc'
  obtain ⟨F1, B1, x1, x2, x3, x4, x5, x6, x7⟩ := C_ga (K := K) h7 hK dq hz ⟨s0, sz⟩ hc
  obtain ⟨p1, p2, _, _⟩ := nxG_p (gB := fun i => gplF g D (bg i)) sz (by first | decide | omega) s0
  have hc1 : CFq K o g D N bg en tn tk F1 B1 := CFq_f hc (x2 7 0 0 (by first | decide | omega)) (x2 7 0 2 (by first | decide | omega)) (x2 8 o 2 (by first | decide | omega)) (fun k x => x3 8 o k x (by first | decide | omega))
  obtain ⟨F2, B2, y1, y2, y3, y4, y5, y6⟩ := C_l41 (rec' := rec') (first := first) (l3 := l3) (l1 := l1) h7 hK dq hz 399 p (0 + 1) _ _ F1 B1 (by first | decide | omega) (by first | decide | omega) (by first | decide | omega) (by first | decide | omega) (by first | decide | omega) p2 hc1 x5 x6 (to_b dq hz ⟨s0, sz⟩)
  refine ⟨F2, B2, ?_, fun c y k n => by rw [y2 c y k n, x2 c y k n], fun c y k x n => by rw [y3 c y k x n, x3 c y k x n], by rw [lsG, if_pos sz]; exact y4, y5, y6⟩
  rw [f_Scribe_lastPlace_41, if_pos ⟨(by first | decide | omega), h7⟩, h1.1, if_pos h1.2, if_pos (by unfold r32; omega), h4, if_pos (by unfold r32; omega), if_neg (by first | decide | omega), f7, if_pos (by unfold r32; omega), if_pos (by unfold r32; omega), if_neg (by first | decide | omega), x1, zb_s]
  exact y1
theorem C_lp {F : zF} {B : zB} (h7 : 0 < K.2 7) (hK : 600 ≤ K.1) (dq : DTq g D N bg en tn tk) (hc : CFq K o g D N bg en tn tk F B) : ∃ F' B', f_Scribe_lastPlace K 0 F B = some (lpB (fun i => gplF g D (bg i)) (fun i => gplF g D (en i)) tk N 400 0 0 0, F', B') ∧ gthF F F' ∧ gthB B B' ∧ (0 ≤ lpB (fun i => gplF g D (bg i)) (fun i => gplF g D (en i)) tk N 400 0 0 0 ∧ lpB (fun i => gplF g D (bg i)) (fun i => gplF g D (en i)) tk N 400 0 0 0 ≤ 40000000000000) ∧ CFq K o g D N bg en tn tk F' B' := by
  have hN := dq.2.2.1
  have hc' := hc
  obtain ⟨h1, h2, h3, h4, h5⟩ := hc'
  obtain ⟨p1, p2, _, _⟩ := nxG_p (gB := tk) (show (0 : Int) < N by omega) (by first | decide | omega) (by first | decide | omega)
  have key : ∀ p : Nat, 500 ≤ p → ∃ F' B', f_Scribe_lastPlace_7 K (p + 1) 0 0 0 0 F B = some (lpB (fun i => gplF g D (bg i)) (fun i => gplF g D (en i)) tk N 400 0 0 0, F', B') ∧ gthF F F' ∧ gthB B B' ∧ (0 ≤ lpB (fun i => gplF g D (bg i)) (fun i => gplF g D (en i)) tk N 400 0 0 0 ∧ lpB (fun i => gplF g D (bg i)) (fun i => gplF g D (en i)) tk N 400 0 0 0 ≤ 40000000000000) ∧ CFq K o g D N bg en tn tk F' B' := fun p hp => by
    rw [f_Scribe_lastPlace_7, if_pos ⟨(by first | decide | omega), h7⟩, h1.1, if_pos h1.2, if_pos (by unfold r32; omega), h4, if_pos (by unfold r32; omega), lpB, if_neg (by first | decide | omega), if_pos (by unfold r32; omega), if_neg (by first | decide | omega), if_pos ⟨(by first | decide | omega), (by first | decide | omega)⟩, C_te h7 hK dq ⟨(by first | decide | omega), (by first | decide | omega)⟩ hc, zb_s]
    have hc1 : CFq K o g D N bg en tn tk (zup3 F 7 0 7 0) B := CFq_f hc (by rw [zup3_v, if_neg (by first | decide | omega)]) (by rw [zup3_v, if_neg (by first | decide | omega)]) (by rw [zup3_v, if_neg (by first | decide | omega)]) (fun _ _ => rfl)
    obtain ⟨F1, B1, x1, x2, x3, x4, x5, x6⟩ := C_l41x (rec' := f_Scribe_lastPlace_7 K p) (z := nxG tk 0 N) (first := 0) (l3 := 0) (l1 := 0) h7 hK dq p2 K.1 0 (zup3 F 7 0 7 0) B (by first | decide | omega) (by first | decide | omega) p1 hc1 (by rw [zup3_v, if_pos (by first | decide | omega)])
    have zb : 0 ≤ zmax 0 (F1 7 0 6) ∧ zmax 0 (F1 7 0 6) ≤ 40000000000000 := by unfold zmax; split <;> omega
    obtain ⟨F2, B2, y1, y2, y3, y4, y5⟩ := C_lp7 h7 hK dq 399 p (nxG tk 0 N) (0 + 1) (zmax 0 (F1 7 0 6)) F1 B1 (by first | decide | omega) (by first | decide | omega) (by first | decide | omega) p2 (by first | decide | omega) (by first | decide | omega) zb x5 x6
    rw [x4] at y1 y4
    refine ⟨F2, B2, ?_, fun c y k n => by rw [y2 c y k n, x2 c y k n, zup3_v, if_neg (by first | decide | omega)], fun c y k x n => by rw [y3 c y k x n, x3 c y k x n], y4, y5⟩
    rw [x1]
    unfold f_Scribe_lastPlace_78
    rw [if_pos ⟨(by first | decide | omega), h7⟩, if_pos (by unfold r64; omega), if_pos (by unfold r64; omega), C_te h7 hK dq ⟨(by first | decide | omega), (by first | decide | omega)⟩ x6, zb_s, x4]
    exact y1
  have := key (K.1 - 1) (by first | decide | omega)
  rw [show K.1 - 1 + 1 = K.1 by omega] at this
  exact this
theorem C_135 {T : List Int} {F : zF} {B : zB} (k0 : 2 ≤ K.2 0) (k7 : 0 < K.2 7) (h1 : F 7 0 1 = 1) (w : TC (F, B) T F B) : ∃ r F', f_Scribe_writeDown_135 K 0 F B = some (r, F', B) ∧ CRs T r F' B ∧ (∀ c y k, ¬ (c = 0 ∧ y = 1 ∧ 1 ≤ k ∧ k ≤ 2) → F' c y k = F c y k) := by
  have o0 : (0 : Int) ≤ 1 ∧ (1 : Int) < K.2 0 := by omega
  have cl : f_Scribe_writeDown_158 K 0 F B = some (-2, zup3 (zup3 F 0 1 1 0) 0 1 2 0, B) := by
    unfold f_Scribe_writeDown_158 f_ByteRow_clear
    rw [if_pos ⟨(by first | decide | omega), k7⟩, h1, if_pos o0, if_pos o0, zb_s]
  have cw : ∀ h : 3000 < (T.length : Int), CRs T (-2) (zup3 (zup3 F 0 1 1 0) 0 1 2 0) B ∧ (∀ c y k, ¬ (c = 0 ∧ y = 1 ∧ 1 ≤ k ∧ k ≤ 2) → (zup3 (zup3 F 0 1 1 0) 0 1 2 0) c y k = F c y k) := fun h => ⟨⟨by rw [zup3_v, if_pos (by first | decide | omega)], Or.inr ⟨h, rfl, by rw [zup3_v, if_neg (by first | decide | omega), zup3_v, if_pos (by first | decide | omega)]⟩⟩, fun c y k n => by rw [zup3_v, if_neg (by first | decide | omega), zup3_v, if_neg (by first | decide | omega)]⟩
  unfold f_Scribe_writeDown_135
  rw [if_pos ⟨(by first | decide | omega), k7⟩, h1, if_pos o0]
  rcases w.1 with ⟨q1, q2, q3, q4⟩ | ⟨q1, q2, q3⟩
  · rw [q3, if_pos (by decide), if_pos rfl, q2, if_pos (by unfold r32; omega)]
    by_cases z : (T.length : Int) ≤ 3000
    · rw [if_pos z]
      exact ⟨_, F, rfl, ⟨q3, Or.inl ⟨z, rfl, q2, q4⟩⟩, fun _ _ _ _ => rfl⟩
    · rw [if_neg z, cl]
      exact ⟨_, _, rfl, cw (by first | decide | omega)⟩
  · rw [q3, if_pos (by decide), if_neg (by decide), cl]
    exact ⟨_, _, rfl, cw (by first | decide | omega)⟩
theorem C_down {Bm : zB} {mi te : Int} {U : List Int} {F : zF} {B : zB} (hK : KKq K) (hb : BRs n d b) (dq : DTq g D N bg en tn tk) (hV : VTx K o f w g D N bg en tn tk nb n d b (lpB (fun i => gplF g D (bg i)) (fun i => gplF g D (en i)) tk N 400 0 0 0) Bm 400 0 0 U) (ho : 0 ≤ o ∧ o < K.2 8) (hf : -7 ≤ f ∧ f ≤ 7) (hte : 0 ≤ te ∧ te < 1000) (hmi : mi = 0 ∨ mi = 1) (f4 : F 7 0 4 = 0) (b1 : B 8 o 0 1 = D) (b2 : B 8 o 0 2 = f) (b3 : B 8 o 0 3 = mi) (b4 : B 8 o 0 4 = n) (b5 : B 8 o 0 5 = d) (b6 : B 8 o 0 6 = te) (f2 : F 8 o 2 = N) (hr : ∀ i, 0 ≤ i → i < N → B 8 o 220 i = tk i ∧ B 8 o 222 i = tn i ∧ B 8 o 224 i = bg i ∧ B 8 o 225 i = en i) (hnu : ∀ i, 0 ≤ i → i < N → zmax (B 8 o 3 (tk i)) 0 = nb (tk i) ∧ r32 (B 8 o 3 (tk i)) ∧ 0 ≤ nb (tk i) ∧ nb (tk i) ≤ 3) : ∃ r F' B', f_Scribe_writeDown K 0 o g 1 F B = some (r, F', B') ∧ dnF F F' ∧ wvB B B' ∧ ((512 / g * lpB (fun i => gplF g D (bg i)) (fun i => gplF g D (en i)) tk N 400 0 0 0 ≤ 100 * b ∧ CRs (hdT f mi n d te ++ U) r F' B') ∨ (100 * b < 512 / g * lpB (fun i => gplF g D (bg i)) (fun i => gplF g D (en i)) tk N 400 0 0 0 ∧ r = -2 ∧ F' 0 1 1 = 0 ∧ F' 0 1 2 = 0)) := by
  obtain ⟨k0, k7, k1, kf⟩ := hK
  obtain ⟨x1, x2, x3, _, x5, x6⟩ := BRs_b hb
  obtain ⟨hn, hd, eb⟩ := hb
  have o0 : (0 : Int) ≤ 1 ∧ (1 : Int) < K.2 0 := by omega
  have hN := dq.2.2.1
  obtain ⟨ug, hu⟩ := gu dq.1
  have g0 : 4 ≤ g ∧ g ≤ 32 := by have := dq.1; omega
  have zg : zmax g 1 = g := by unfold zmax; rw [if_neg (by first | decide | omega)]
  have zd : zmax d 1 = d := by unfold zmax; rw [if_neg (by first | decide | omega)]
  have ed : zdv 512 d = 512 / d := zdv_e (by first | decide | omega) (by decide) (by first | decide | omega) (by unfold r32; omega)
  have eg : zdv 512 g = 512 / g := zdv_e (by first | decide | omega) (by decide) (by first | decide | omega) (by unfold r32; omega)
  generalize hF1 : zup3 (zup3 (zup3 (zup3 (zup3 (zup3 F 7 0 0 o) 7 0 1 1) 7 0 2 g) 7 0 3 b) 0 1 1 0) 0 1 2 0 = F1
  have c0 : F1 7 0 0 = o := by rw [← hF1]; simp [zup3_v]
  have c1 : F1 7 0 1 = 1 := by rw [← hF1]; simp [zup3_v]
  have c2 : F1 7 0 2 = g := by rw [← hF1]; simp [zup3_v]
  have c3 : F1 7 0 3 = b := by rw [← hF1]; simp [zup3_v]
  have p1 : F1 0 1 1 = 0 := by rw [← hF1]; simp [zup3_v]
  have p2 : F1 0 1 2 = 0 := by rw [← hF1]; simp [zup3_v]
  have fn : ∀ c y k, ¬ ((c = 7 ∧ y = 0 ∧ k ≤ 3) ∨ (c = 0 ∧ y = 1 ∧ 1 ≤ k ∧ k ≤ 2)) → F1 c y k = F c y k := fun c y k n => by
    rw [← hF1, zup3_v, if_neg (by first | decide | omega), zup3_v, if_neg (by first | decide | omega), zup3_v, if_neg (by first | decide | omega), zup3_v, if_neg (by first | decide | omega), zup3_v, if_neg (by first | decide | omega), zup3_v, if_neg (by first | decide | omega)]
  have hc1 : CFq K o g D N bg en tn tk F1 B := ⟨⟨c0, ho⟩, c2, b1, by rw [fn 8 o 2 (by first | decide | omega)]; exact f2, hr⟩
  obtain ⟨F2, B2, y1, y2, y3, y4, y5⟩ := C_lp (K := K) k7 (by first | decide | omega) dq hc1
  generalize hL : lpB (fun i => gplF g D (bg i)) (fun i => gplF g D (en i)) tk N 400 0 0 0 = last at *
  have ub : 0 ≤ 512 / g * last ∧ 512 / g * last ≤ 5120000000000000 := by rcases hu with h | h | h | h <;> rw [h] <;> omega
  have e2 : F2 7 0 2 = g := by rw [y2 7 0 2 (by first | decide | omega)]; exact c2
  have e3 : F2 7 0 3 = b := by rw [y2 7 0 3 (by first | decide | omega)]; exact c3
  have el : last * (512 / g) = 512 / g * last := Int.mul_comm _ _
  unfold f_Scribe_writeDown f_ByteRow_clear
  rw [if_pos ⟨(by first | decide | omega), k7⟩, if_pos ho, if_pos ho.2, if_pos o0, if_pos o0.2, if_pos (by unfold r32; omega), b5, if_pos (by unfold r32; omega), zd, if_pos (iI_n0 (by first | decide | omega) (by unfold r32; omega)), if_pos o0, zb_s, zg, ed, b4, ← eb, hF1, y1, zb_s, e2, if_pos (iI_n0 (by first | decide | omega) (by unfold r32; omega)), eg, if_pos (by unfold r32; omega), e3, if_pos (by unfold r32; omega), el, if_pos (by unfold r64; omega), if_pos (by unfold r64; omega)]
  by_cases c : 512 / g * last ≤ 100 * b
  · rw [if_pos (zcmp_m.mpr c)]
    have hT2 : TC (F2, B2) [] F2 B2 := ⟨Or.inl ⟨by simp, by rw [y2 0 1 1 (by first | decide | omega), p1]; rfl, by rw [y2 0 1 2 (by first | decide | omega), p2], fun j hj => absurd hj (by simp)⟩, fun _ _ _ _ => rfl, fun _ _ _ _ _ => rfl⟩
    have b' : ∀ k x, B2 8 o k x = B 8 o k x := fun k x => y3 8 o k x (by first | decide | omega)
    obtain ⟨F3, B3, z1, z2⟩ := C_head (K := K) (o := o) (f := f) (mi := mi) (n := n) (d := d) (te := te) k0 k7 (by first | decide | omega) hf (by first | decide | omega) (by first | decide | omega) hte hmi ⟨by rw [y2 7 0 0 (by first | decide | omega)]; exact c0, ho⟩ (by rw [y2 7 0 1 (by first | decide | omega)]; exact c1) (by rw [b']; exact b2) (by rw [b']; exact b3) (by rw [b']; exact b4) (by rw [b']; exact b5) (by rw [b']; exact b6) hT2
    have f3n := z2.2.1
    have b3n := z2.2.2
    have b'' : ∀ k x, B3 8 o k x = B 8 o k x := fun k x => by rw [b3n 8 o k x (by first | decide | omega)]; exact b' k x
    have hc3 : CFq K o g D N bg en tn tk F3 B3 := CFq_f y5 (f3n 7 0 0 (by first | decide | omega)) (f3n 7 0 2 (by first | decide | omega)) (f3n 8 o 2 (by first | decide | omega)) (fun k x => b3n 8 o k x (by first | decide | omega))
    have hq3 : SCq K o n d b (F3, B3) := ⟨⟨by show F3 7 0 0 = o; exact hc3.1.1, ho⟩, by show F3 7 0 1 = 1; rw [f3n 7 0 1 (by first | decide | omega)]; exact (y2 7 0 1 (by first | decide | omega)).trans c1, by show F3 7 0 3 = b; rw [f3n 7 0 3 (by first | decide | omega)]; exact e3, by show F3 7 0 4 = 0; rw [f3n 7 0 4 (by first | decide | omega)]; exact (y2 7 0 4 (by first | decide | omega)).trans ((fn 7 0 4 (by first | decide | omega)).trans f4), by show B3 8 o 0 4 = n; rw [b'']; exact b4, by show B3 8 o 0 5 = d; rw [b'']; exact b5⟩
    obtain ⟨F4, B4, u1, u2, u3, u4⟩ := C_w95 (K := K) (o := o) (f := f) (w := w) (nb := nb) (Bm := Bm) ⟨k0, k7, k1, kf⟩ ⟨hn, hd, eb⟩ dq ⟨y4.1, c⟩ 400 K.1 0 0 _ U F3 B3 (by first | decide | omega) (by first | decide | omega) (by first | decide | omega) (by first | decide | omega) (by first | decide | omega) (by first | decide | omega) (fun _ i a b => (by first | decide | omega)) hV (fun i a b => by rw [b'']; exact hnu i a b) hc3 hq3 (by rw [b'']; exact b2) (TC_c z2 ⟨rfl, rfl⟩ (fun _ => rfl))
    obtain ⟨r, F5, v1, v2, v3⟩ := C_135 (K := K) k0 k7 (by rw [u3 7 0 1 (by first | decide | omega)]; exact hq3.2.1) u2
    refine ⟨r, F5, B4, by rw [z1, zb_s, u1, v1], fun c y k h => ?_, fun c y k x h => ?_, Or.inl ⟨c, v2⟩⟩
    · rw [v3 c y k (by first | decide | omega), u3 c y k (by first | decide | omega), f3n c y k (by first | decide | omega)]
      exact (y2 c y k (by first | decide | omega)).trans (fn c y k (by first | decide | omega))
    · rw [u4 c y k x h, b3n c y k x (by first | decide | omega)]
      exact y3 c y k x (by first | decide | omega)
  · rw [if_neg (fun q => c (zcmp_m.mp q))]
    exact ⟨_, _, _, rfl, fun c y k h => by rw [y2 c y k (by first | decide | omega)]; exact fn c y k (by first | decide | omega), fun c y k x h => y3 c y k x (by first | decide | omega), Or.inr ⟨(by first | decide | omega), rfl, by rw [y2 0 1 1 (by first | decide | omega)]; exact p1, by rw [y2 0 1 2 (by first | decide | omega)]; exact p2⟩⟩
theorem M_down {mi te h : Int} {F : zF} {B : zB} (h7 : 0 < K.2 7) (h1 : 0 < K.2 1) (hK : 200 ≤ K.1) (hKm : 70000000000 < Km) (hb : BRs n d b) (ho : 0 ≤ o ∧ o < K.2 8) (hf : -7 ≤ f ∧ f ≤ 7) (hte : 0 ≤ te ∧ te < 1000) (hmi : mi = 0 ∨ mi = 1) (hh : 1 ≤ h ∧ h ≤ 8) (dq : DTq g D N bg en tn tk) (htk : ∀ i, 0 ≤ i → i < N → tk i < h) (hw : F 14 0 6 = w ∧ 0 ≤ w ∧ w < 3) (m0 : B 14 0 73 0 = h) (m1 : B 14 0 73 1 = D) (m2 : B 14 0 73 2 = f) (m3 : B 14 0 73 3 = mi) (m4 : B 14 0 73 4 = n) (m5 : B 14 0 73 5 = d) (m6 : B 14 0 73 6 = te) (m7 : B 14 0 73 7 = N) (hr : ∀ i, 0 ≤ i → i < N → B 14 0 75 i = tk i ∧ B 14 0 77 i = tn i ∧ B 14 0 79 i = bg i ∧ B 14 0 80 i = en i) (hnb : ∀ k, 0 ≤ k → k < h → B 14 0 81 k = nb k) (hnu : ∀ i, 0 ≤ i → i < N → 0 ≤ nb (tk i) ∧ nb (tk i) ≤ 3) : ∃ r F' B' U Bx, f_M_down_42 Km g F B = some (r, F', B') ∧ dnG w F F' ∧ dnH w B B' ∧ VTx K o f w g D N bg en tn tk nb n d b (lpB (fun i => gplF g D (bg i)) (fun i => gplF g D (en i)) tk N 400 0 0 0) Bx 400 0 0 U ∧ ((512 / g * lpB (fun i => gplF g D (bg i)) (fun i => gplF g D (en i)) tk N 400 0 0 0 ≤ 100 * b ∧ FRs (hdT f mi n d te ++ U) r F' B') ∨ (100 * b < 512 / g * lpB (fun i => gplF g D (bg i)) (fun i => gplF g D (en i)) tk N 400 0 0 0 ∧ r = -2 ∧ F' 14 0 71 = 0)) := by
  obtain ⟨x1, x2, x3, _, x5, x6⟩ := BRs_b hb
  have hb' := hb
  obtain ⟨hn, hd, eb⟩ := hb'
  have hN := dq.2.2.1
  generalize hF1 : zup3 (zup3 (zup3 (zup3 (zup3 (zup3 F 14 0 71 0) 13 w 1 0) 13 w 2 f) 13 w 3 mi) 13 w 4 n) 13 w 5 d = F1
  have c71 : F1 14 0 71 = 0 := by rw [← hF1]; simp [zup3_v]
  have c1 : F1 13 w 1 = 0 := by rw [← hF1]; simp [zup3_v]
  have c2 : F1 13 w 2 = f := by rw [← hF1]; simp [zup3_v]
  have c3 : F1 13 w 3 = mi := by rw [← hF1]; simp [zup3_v]
  have c4 : F1 13 w 4 = n := by rw [← hF1]; simp [zup3_v]
  have c5 : F1 13 w 5 = d := by rw [← hF1]; simp [zup3_v]
  have fn : ∀ c y k, ¬ (c = 14 ∧ y = 0 ∧ k = 71) → ¬ (c = 13 ∧ y = w ∧ 1 ≤ k ∧ k ≤ 5) → F1 c y k = F c y k := fun c y k n n' => by
    rw [← hF1, zup3_v, if_neg (by first | decide | omega), zup3_v, if_neg (by first | decide | omega), zup3_v, if_neg (by first | decide | omega), zup3_v, if_neg (by first | decide | omega), zup3_v, if_neg (by first | decide | omega), zup3_v, if_neg (by first | decide | omega)]
  have w1 : F1 14 0 6 = w := by rw [fn 14 0 6 (by first | decide | omega) (by first | decide | omega)]; exact hw.1
  obtain ⟨F2, B2, y1, y2, y3, y4, y5, y6, y7⟩ := M_d121 (Km := Km) (K := K) (o := o) (f := f) (w := w) (nb := nb) h7 h1 hK (by first | decide | omega) ho hf hh dq htk h.toNat Km 400 0 0 0 0 F1 B (by first | decide | omega) (by first | decide | omega) (by first | decide | omega) (by first | decide | omega) (by first | decide | omega) (by first | decide | omega) (fun i a b => (by first | decide | omega)) (fun i a b => (dq.2.2.2.1 i a b).1.1) (by first | decide | omega) (by first | decide | omega) (by first | decide | omega) ⟨⟨w1, hw.2⟩, m1, m7, hr⟩ m0 c2 c1 hnb
  obtain ⟨U, hU⟩ := VT_e (n := n) (d := d) (b := b) dq 400 0 0 0 (by first | decide | omega) (by first | decide | omega) (by first | decide | omega) (fun _ i a b => (by first | decide | omega)) (Int.le_refl _) y5
  generalize hL : lpB (fun i => gplF g D (bg i)) (fun i => gplF g D (en i)) tk N 400 0 0 0 = last at *
  have w2 : F2 14 0 6 = w := by rw [y2 14 0 6 (by first | decide | omega) (by first | decide | omega)]; exact w1
  have d2 : F2 13 w 2 = f := by rw [y2 13 w 2 (by first | decide | omega) (by first | decide | omega)]; exact c2
  have d3 : F2 13 w 3 = mi := by rw [y2 13 w 3 (by first | decide | omega) (by first | decide | omega)]; exact c3
  have d4 : F2 13 w 4 = n := by rw [y2 13 w 4 (by first | decide | omega) (by first | decide | omega)]; exact c4
  have d5 : F2 13 w 5 = d := by rw [y2 13 w 5 (by first | decide | omega) (by first | decide | omega)]; exact c5
  have d71 : F2 14 0 71 = 0 := by rw [y2 14 0 71 (by first | decide | omega) (by first | decide | omega)]; exact c71
  have start : f_M_down_42 Km g F B = f_M_down_200 Km last g F2 B2 := by
    have e87 : f_M_down_87 Km g w mi (zup3 (zup3 (zup3 F 14 0 71 0) 13 w 1 0) 13 w 2 f) B = f_M_down_200 Km last g F2 B2 := by
      unfold f_M_down_87
      have q6 : (zup3 (zup3 (zup3 F 14 0 71 0) 13 w 1 0) 13 w 2 f) 14 0 6 = w := by simp [zup3_v, hw.1]
      rw [if_pos hw.2, if_pos hmi, q6, if_pos hw.2, m4, m5, hF1, y1]
    unfold f_M_down_42
    rw [hw.1, if_pos hw.2, m3, if_pos (by unfold r32; omega), m2]
    rcases hmi with z | z
    · rw [z] at e87 ⊢
      rw [if_neg (by decide), e87]
    · rw [z] at e87 ⊢
      rw [if_pos rfl, e87]
  obtain ⟨r, r1, r2, r3⟩ := L_cmpG (Km := Km) (F := F2) (B := B2) (by first | decide | omega) hb dq.1 y7
  have fr2 : ∀ c y k, ¬ (c = 14 ∧ y = 0 ∧ (k ≤ 1 ∨ k = 71)) → ¬ (c = 13 ∧ y = w ∧ 1 ≤ k ∧ k ≤ 5) → F2 c y k = F c y k := fun c y k n n' => by rw [y2 c y k (by first | decide | omega) (by first | decide | omega)]; exact fn c y k (by first | decide | omega) n'
  have br2 : ∀ c i k y, ¬ (c = 13 ∧ i = w ∧ 8 ≤ k ∧ k ≤ 35) → ¬ (c = 14 ∧ i = 0 ∧ k = 95) → B2 c i k y = B c i k y := fun c i k y n n' => y4 c i k y (by first | decide | omega) n'
  have g0 : 4 ≤ g ∧ g ≤ 32 := by have := dq.1; omega
  rw [start]
  unfold f_M_down_200
  rw [if_pos (by unfold r32; omega), w2, if_pos hw.2, d4, if_pos (by unfold r32; omega), d5, if_pos (by unfold r32; omega), r1, zb_s, if_pos (by unfold r32; omega)]
  by_cases c : 512 / g * last ≤ 100 * b
  · rw [if_neg (fun q => by have := r2.mp q; omega)]
    unfold f_M_down_234
    rw [if_pos (by decide), if_neg (by decide)]
    have hT2 : TM (F2, B2) [] F2 B2 := ⟨⟨by rw [d71]; rfl, fun j hj => absurd hj (by simp)⟩, fun _ _ _ _ => rfl, fun _ _ _ _ _ => rfl⟩
    obtain ⟨F3, B3, z1, z2⟩ := M_head (Km := Km) (te := te) (by first | decide | omega) hf (show 0 ≤ n ∧ n < 1000 by omega) (show 0 ≤ d ∧ d < 1000 by omega) hte hmi ⟨w2, hw.2⟩ d2 d3 d4 d5 (by rw [br2 14 0 73 6 (by first | decide | omega) (by first | decide | omega)]; exact m6) hT2
    have f3n := z2.2.1
    have b3n := z2.2.2
    obtain ⟨r', F4, B4, u1, u2, u3, u4⟩ := M_248 (Km := Km) (K := K) (o := o) (f := f) (w := w) (nb := nb) hKm hb dq ⟨y7.1, c⟩ hnu 400 Km 0 0 _ U F3 B3 (by first | decide | omega) (by first | decide | omega) (by first | decide | omega) (by first | decide | omega) ⟨by rw [f3n 14 0 6 (by first | decide | omega)]; exact w2, hw.2⟩ (by rw [f3n 13 w 1 (by first | decide | omega)]; exact y3) (by rw [f3n 13 w 4 (by first | decide | omega)]; exact d4) (by rw [f3n 13 w 5 (by first | decide | omega)]; exact d5) (VTx_f 400 0 0 U hU (fun k y hk => b3n 13 w k y (by first | decide | omega))) (by have := hdT_l (f := f) (mi := mi) (n := n) (d := d) (te := te); omega) (TM_c z2 rfl (fun _ => rfl))
    refine ⟨r', F4, B4, U, B2, by rw [z1, zb_s, u1], fun c y k n n' => ?_, fun c i k y n n' => ?_, hU, Or.inl ⟨c, u2⟩⟩
    · rw [u3 c y k n (by first | decide | omega), f3n c y k (by first | decide | omega)]
      exact fr2 c y k (by first | decide | omega) (by first | decide | omega)
    · rw [u4 c i k y n (by first | decide | omega), b3n c i k y (by first | decide | omega)]
      exact br2 c i k y n (by first | decide | omega)
  · rw [if_pos (r2.mpr (by first | decide | omega))]
    unfold f_M_down_234 f_M_down_284 f_M_down_304
    rw [if_pos (by decide), if_pos rfl, if_pos (by decide), if_pos rfl]
    exact ⟨_, _, _, U, B2, rfl, fun c y k n n' => by rw [zup3_v, if_neg (by first | decide | omega)]; exact fr2 c y k (by first | decide | omega) (by first | decide | omega), fun c i k y n n' => br2 c i k y n (by first | decide | omega), hU, Or.inr ⟨(by first | decide | omega), rfl, by rw [zup3_v, if_pos (by first | decide | omega)]⟩⟩
end
end
