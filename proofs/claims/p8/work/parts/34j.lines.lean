section
/-! ===== the calls of lines, line ===== -/
variable {cc : Int}
theorem PQ_k {K : zK} {V p w : Int} {F Fm : zF} {B Bm : zB} (h : PK K V p w F B Fm Bm) : PQl K V p F B := by
  obtain ⟨⟨h1, h2, h3, h4, h5⟩, ⟨g2, g3, g4, g5, g6, g7⟩, hv⟩ := h
  refine ⟨h1, ⟨h4, h3⟩, g2.2, g4.2, g5.2, g7.2, fun u u0 u1 => ?_⟩
  obtain ⟨hH, m, g, hV, _⟩ := hv u u0 u1
  obtain ⟨_, _, _, _, _, _, _, _, c, nw, qn, gb⟩ := hV
  have c0 := nw.1
  rw [nw.2.1]
  refine ⟨hH.1, c0, fun i i0 i1 => ?_⟩
  obtain ⟨k0, k1, k9, k4, k5, _⟩ := nw.2.2.2.2 i i0 i1
  exact ⟨k1.2, ⟨k9.1, k9.2.1⟩, k5.2, (gb i i0 i1).2.2.2.1⟩
theorem slotL {Km : Nat} {K : zK} {F Fm : zF} {B Bm : zB} (h : IV cc Km K F B Fm Bm) {a1 : Int} (h1 : r32 a1) : ∃ x y, f_S_pieceAt K 0 a1 F B = some (x, F, B) ∧ f_M_piece Km a1 Fm Bm = some (y, Fm, Bm) ∧ ((x < 0 ∧ y = -1) ∨ ((0 ≤ x ∧ x < K.2 6) ∧ (0 ≤ y ∧ y < 3) ∧ ∃ V, PK K V x y F B Fm Bm ∧ MK V y Fm Bm ∧ PD K V x y F B Fm Bm ∧ (Fm 13 y 48 = 0 ∨ LNok y Fm Bm) ∧ F 6 x 8 < K.2 2 ∧ F 6 x 12 < K.2 9)) := by
  obtain ⟨p, p0, p1, w, w0, w1, hE, hZ⟩ := h
  have hA := hE.1.1
  obtain ⟨n1, n2, n3, n4, n5, n6⟩ := hE.1.2.2.2.2.1
  have hWw := hE.1.2.2.2.2.2.1
  have hF := hE.1.2.2.2.2.2.2.2.2.1
  have s0 := hE.1.2.2.2.2.2.2.2.2.2.1
  have s1 := hE.1.2.2.2.2.2.2.2.2.2.2
  have h12 : 0 < K.2 12 := by have := hA.2.2; omega
  by_cases z : a1 < 0 ∨ 2 ≤ a1
  · exact ⟨-1, -1, C_atx h1 z, L_atx h1 z, Or.inl ⟨(by first | decide | omega), rfl⟩⟩
  · have hl : 0 ≤ a1 ∧ a1 < 2 := by omega
    have go : ∀ q v, B 12 0 3 a1 = q → Bm 14 0 5 a1 = v → 0 ≤ v ∧ v < 3 → SLD K q v F B Fm Bm → LNk q v Fm Bm → ∃ x y, f_S_pieceAt K 0 a1 F B = some (x, F, B) ∧ f_M_piece Km a1 Fm Bm = some (y, Fm, Bm) ∧ ((x < 0 ∧ y = -1) ∨ ((0 ≤ x ∧ x < K.2 6) ∧ (0 ≤ y ∧ y < 3) ∧ ∃ V, PK K V x y F B Fm Bm ∧ MK V y Fm Bm ∧ PD K V x y F B Fm Bm ∧ (Fm 13 y 48 = 0 ∨ LNok y Fm Bm) ∧ F 6 x 8 < K.2 2 ∧ F 6 x 12 < K.2 9)) := fun q v eq ev hv hs ln => by
      have x1 := C_at (K := K) (F := F) h12 hl eq
      rcases hs with ⟨q0, m0⟩ | ⟨q0, m0, V, hP, hM, hD⟩
      · have x3 := L_at (Km := Km) (F := Fm) hl ev hv (Or.inl m0)
        rw [if_pos m0] at x3
        exact ⟨q, -1, x1, x3, Or.inl ⟨q0, rfl⟩⟩
      · have x3 := L_at (Km := Km) (F := Fm) hl ev hv (Or.inr m0)
        rw [if_neg (by first | decide | omega)] at x3
        have o := hF q hP.1.1.1 hP.1.1.2
        exact ⟨q, v, x1, x3, Or.inr ⟨hP.1.1, hv, V, hP, hM, hD, ln q0, o.1, o.2.2⟩⟩
    rcases (show a1 = 0 ∨ a1 = 1 by omega) with e | e
    · exact go p0 w0 (by rw [e]; exact n2) (by rw [e]; exact n5) hWw.2.1 (SLD_of s0 hE.2.2.2.1) hE.2.2.2.2.2.2.1
    · exact go p1 w1 (by rw [e]; exact n3) (by rw [e]; exact n6) hWw.2.2.1 (SLD_of s1 hE.2.2.2.2.1) hE.2.2.2.2.2.2.2
theorem IV_xc {Km : Nat} {K : zK} {F Fm : zF} {B Bm : zB} (h : IV cc Km K F B Fm Bm) : XC Bm := by
  obtain ⟨p, p0, p1, w, w0, w1, hE, _⟩ := h
  exact hE.1.2.2.1.2.2.2.2.2.1
theorem p_line {Km : Nat} (a1 a2 a3 : Int) (h1 : r32 a1) (h2 : r32 a2) (h3 : r32 a3) {K : zK} {F Fm : zF} {B Bm : zB} (h : IV cc Km K F B Fm Bm) : ∃ r1 F1 B1 r2 F2 B2, f_S_line K 0 a1 a2 a3 F B = some (r1, F1, B1) ∧ f_M_line Km a1 a2 a3 Fm Bm = some (r2, F2, B2) ∧ IV cc Km K F1 B1 F2 B2 := by
  obtain ⟨x, y, e1, e2, e3⟩ := slotL h h1
  have hU := IV_u h
  refine rd2 h ?_ ?_
  · unfold f_S_line f_S_line_20
    rw [if_pos (IV_12 h), e1, zb_s]
    rcases e3 with ⟨x0, _⟩ | ⟨x0, _, V, hP, hM, hD, ln, l8, _⟩
    · exact zR_i (fun _ => zR_s) (fun a => absurd x0 a)
    · refine zR_i (fun _ => zR_s) (fun _ => zR_g x0 (zR_i (fun _ => zR_s) (fun n8 => zR_g ⟨(by first | decide | omega), l8⟩ (zR_b ?_ (fun _ => zR_s)))))
      obtain ⟨q0, q4, hB⟩ := hU.2.1 (F 6 x 8) (by first | decide | omega) l8
      generalize F 6 x 8 = l at *
      unfold f_Layout_tell f_Layout_tell_12
      have b7 := fun j => (hB j).2.2.2.2.1
      have b5 := fun j => (hB j).2.2.1
      have b8 := fun j => (hB j).2.2.2.2.2.1
      refine zR_g h2 (zR_i (fun _ => zR_s) (fun n2 => zR_g ⟨(by first | decide | omega), l8⟩ (zR_g (by unfold r32; omega) (zR_i (fun l2 => zR_g h3 (zR_i (fun _ => zR_g (by first | decide | omega) (zR_g (by have := b7 a2; unfold r32; omega) zR_s)) (fun _ => zR_i (fun _ => zR_g (by first | decide | omega) (zR_g (by first | decide | omega) (zR_g (by have := b7 a2; have := b7 (a2 + 1); unfold r32; omega) zR_s))) (fun _ => zR_i (fun _ => zR_g (by first | decide | omega) (zR_g (by have := b8 a2; unfold r32; omega) zR_s)) (fun _ => zR_i (fun _ => zR_g (by first | decide | omega) (zR_g (by have := b7 (a2 + 1); omega) (zR_g (by first | decide | omega) (zR_g (by have := b7 a2; omega) (zR_g (by have := b5 (B 2 l 7 a2); have := b5 (B 2 l 7 (a2 + 1)); unfold r32; omega) zR_s))))) (fun _ => zR_i (fun _ => zR_g (by first | decide | omega) zR_s) (fun _ => zR_s))))))) (fun _ => zR_s)))))
  · unfold f_M_line f_M_line_25 f_M_line_101
    rw [e2, zb_s]
    rcases e3 with ⟨_, y0⟩ | ⟨_, y0, V, hP, hM, hD, ln, l8, _⟩
    · exact zR_i (fun _ => zR_s) (fun a => absurd (show y < 0 by omega) a)
    · have hx := IV_xc h
      have h7 := hP.2.1.2.2.2.2.2
      rcases ln with z | ⟨k1, k2, k3, k4, k5, k6⟩
      · exact zR_i (fun _ => zR_s) (fun _ => zR_g h2 (zR_i (fun _ => zR_s) (fun n2 => zR_g y0 (zR_g (by rw [z]; decide) (zR_i (fun a => absurd a (by rw [z]; omega)) (fun _ => zR_s))))))
      · refine zR_i (fun _ => zR_s) (fun _ => zR_g h2 (zR_i (fun _ => zR_s) (fun n2 => zR_g y0 (zR_g (by unfold r32; omega) (zR_i (fun l2 => ?_) (fun _ => zR_s))))))
        obtain ⟨j1, j2, j3, j4⟩ := k3 a2 (by first | decide | omega) l2
        have c1 := (hx y (Bm 13 y 49 a2)).1
        have c2 := (hx y (Bm 13 y 49 a2 + Bm 13 y 50 a2)).1
        have lc : zR (f_M_lineColumns Km y a2 Fm Bm) Fm Bm := by
          unfold f_M_lineColumns
          exact zR_g y0 (zR_g (by first | decide | omega) (zR_g (by first | decide | omega) (zR_g (by first | decide | omega) zR_s)))
        refine zR_g h3 (zR_i (fun _ => zR_g (by first | decide | omega) (zR_g (by unfold r32; omega) zR_s)) (fun _ => zR_i (fun _ => zR_g (by first | decide | omega) (zR_g (by unfold r32; omega) zR_s)) (fun _ => zR_i (fun _ => zR_g (by first | decide | omega) (zR_g j4 zR_s)) (fun _ => zR_i (fun _ => ?_) (fun _ => zR_i (fun _ => zR_g (by first | decide | omega) zR_s) (fun _ => zR_s))))))
        unfold f_M_lineColumns
        rw [if_pos y0, if_pos (by first | decide | omega), if_pos (by first | decide | omega), if_pos (by first | decide | omega), zb_s]
        exact zR_g (by unfold r32; omega) zR_s
theorem p_lines {Km : Nat} (a1 a2 : Int) (h1 : r32 a1) (h2 : r32 a2) {K : zK} {F Fm : zF} {B Bm : zB} (h : IV cc Km K F B Fm Bm) : ∃ r1 F1 B1 K1 r2 F2 B2, f_S_lines K 0 a1 a2 F B = some (r1, F1, B1, K1) ∧ f_M_lines Km a1 a2 Fm Bm = some (r2, F2, B2) ∧ IV cc Km K1 F1 B1 F2 B2 := by
  have hI := h
  have hXC := IV_xc h
  obtain ⟨p, p0, p1, w, w0, w1, hE, hW, hO, h7, hX, hK⟩ := h
  have hA := hE.1.1
  obtain ⟨n1, n2, n3, n4, n5, n6⟩ := hE.1.2.2.2.2.1
  have hWw := hE.1.2.2.2.2.2.1
  have hF := hE.1.2.2.2.2.2.2.2.2.1
  have s0 := hE.1.2.2.2.2.2.2.2.2.2.1
  have s1 := hE.1.2.2.2.2.2.2.2.2.2.2
  have hU := hE.2.2.2.2.2.1
  have gs := hE.1.2.2.1.1
  have h12 : 0 < K.2 12 := by have := hA.2.2; omega
  have g2 : 0 ≤ K.2 2 := by have := hA.2.2; omega
  have outC : ∀ q, q < 0 → f_S_pieceAt K 0 a1 F B = some (q, F, B) → f_S_lines K 0 a1 a2 F B = some (-1, F, B, K) := fun q q0 c => by
    unfold f_S_lines f_S_lines_24
    rw [if_pos ⟨(by first | decide | omega), h12⟩, c]
    simp only [zbN_s]
    rw [if_pos q0]
  have outL : f_M_piece Km a1 Fm Bm = some (-1, Fm, Bm) → f_M_lines Km a1 a2 Fm Bm = some (-1, Fm, Bm) := fun l => by
    unfold f_M_lines f_M_lines_24
    rw [l, zb_s, if_pos (by decide)]
  by_cases z : a1 < 0 ∨ 2 ≤ a1
  · exact ⟨_, _, _, _, _, _, _, outC (-1) (by decide) (C_atx h1 z), outL (L_atx h1 z), hI⟩
  · have hl : 0 ≤ a1 ∧ a1 < 2 := by omega
    have go : ∀ q v, B 12 0 3 a1 = q → Bm 14 0 5 a1 = v → 0 ≤ v ∧ v < 3 → ((q = p0 ∧ v = w0) ∨ (q = p1 ∧ v = w1)) → SLD K q v F B Fm Bm → ∃ r1 F1 B1 K1 r2 F2 B2, f_S_lines K 0 a1 a2 F B = some (r1, F1, B1, K1) ∧ f_M_lines Km a1 a2 Fm Bm = some (r2, F2, B2) ∧ IV cc Km K1 F1 B1 F2 B2 := fun q v eq ev hv hc hs => by
      have x1 := C_at (K := K) (F := F) h12 hl eq
      rcases hs with ⟨q0, m0⟩ | ⟨q0, m0, V, hP, hM, hD⟩
      · have x3 := L_at (Km := Km) (F := Fm) hl ev hv (Or.inl m0)
        rw [if_pos m0] at x3
        exact ⟨_, _, _, _, _, _, _, outC q q0 x1, outL x3, hI⟩
      have x3 := L_at (Km := Km) (F := Fm) hl ev hv (Or.inr m0)
      rw [if_neg (by first | decide | omega)] at x3
      have hq := hP.1.1
      by_cases b1 : a2 < 200 ∨ 2000 < a2
      · refine ⟨-1, F, B, K, -1, Fm, Bm, ?_, ?_, hI⟩
        · unfold f_S_lines f_S_lines_24
          rw [if_pos ⟨(by first | decide | omega), h12⟩, x1]
          simp only [zbN_s]
          rw [if_neg (by first | decide | omega), if_pos h2]
          by_cases b2 : a2 < 200
          · rw [if_pos b2]
          · rw [if_neg b2, if_neg (by first | decide | omega)]
        · unfold f_M_lines f_M_lines_24
          rw [x3, zb_s, if_neg (by first | decide | omega), if_pos h2]
          by_cases b2 : a2 < 200
          · rw [if_pos b2]
          · rw [if_neg b2, if_neg (by first | decide | omega)]
      -- the reference
      have k7 := hP.2.1.2.2.2.2.2
      have n0 : 0 ≤ Fm 13 v 7 ∧ Fm 13 v 7 ≤ 100 := by omega
      have hwd : 0 ≤ a2 ∧ a2 ≤ 2000 := by omega
      have k2 : -7 ≤ Fm 13 v 2 ∧ Fm 13 v 2 ≤ 7 := by have := hP.2.1.1; omega
      have hKm : 200 ≤ Km := by have := hA.2.1; omega
      obtain ⟨B1, y1, y2, y3⟩ := L_l44 (K := Km) (F := Fm) (nb := Fm 13 v 7) (wd := a2) hKm hv k2 rfl n0 hwd (Fm 13 v 7).toNat Km (Fm 13 v 7 - 1) (zup4 Bm 14 0 59 (Fm 13 v 7) 0) (by first | decide | omega) (by first | decide | omega) (by have := hA.2.1; omega) (fun x => by rw [zup4_v, if_neg (by first | decide | omega)]; exact (hXC v x).2.2) (fun i i0 i1 => by rw [show i = Fm 13 v 7 by omega, zup4_v, if_pos ⟨rfl, rfl, rfl, rfl⟩]; omega) (fun i i0 i1 => (by first | decide | omega))
      have gF0 : ∀ c y k, ¬ (c = 13 ∧ y = v ∧ (k = 47 ∨ k = 48)) → (zup3 (zup3 Fm 13 v 48 0) 13 v 47 a2) c y k = Fm c y k := fun c y k n => by rw [zup3_v, if_neg (by first | decide | omega), zup3_v, if_neg (by first | decide | omega)]
      have mB1 : ∀ c y k x, ¬ (c = 14 ∧ y = 0 ∧ (k = 59 ∨ k = 60)) → B1 c y k x = Bm c y k x := fun c y k x n => by rw [y2 c y k x n, zup4_v, if_neg (by first | decide | omega)]
      have e47 : (zup3 (zup3 Fm 13 v 48 0) 13 v 47 a2) 13 v 47 = a2 := by rw [zup3_v, if_pos ⟨rfl, rfl, rfl⟩]
      have e48 : (zup3 (zup3 Fm 13 v 48 0) 13 v 47 a2) 13 v 48 = 0 := by rw [zup3_v, if_neg (by first | decide | omega), zup3_v, if_pos ⟨rfl, rfl, rfl⟩]
      generalize zup3 (zup3 Fm 13 v 48 0) 13 v 47 a2 = G at y1 gF0 e47 e48
      obtain ⟨r', Fm', Bm', z1, z2, z3, i', z4, z5⟩ := L_l177 (K := Km) (nb := Fm 13 v 7) (wd := a2) (F0 := G) (B0 := B1) hKm hv (by rw [gF0 13 v 2 (by first | decide | omega)]; exact k2) (gF0 13 v 7 (by first | decide | omega)) n0 hwd (fun x => by rw [mB1 13 v 46 x (by first | decide | omega)]; exact (hXC v x).2.2) y3 (Fm 13 v 7).toNat Km 0 0 G B1 (by first | decide | omega) (by have := hA.2.1; omega) (by decide) e48 (fun _ _ _ _ => rfl) (fun _ _ _ _ _ => rfl) ⟨(by first | decide | omega), fun j j0 j1 => (by first | decide | omega), fun i => (by first | decide | omega), fun j j0 j1 => (by first | decide | omega), fun i => (by first | decide | omega), fun _ => rfl⟩
      have g : ∀ c y k, ¬ (c = 14 ∧ y = 0 ∧ k ≤ 1) → ¬ (c = 13 ∧ y = v ∧ (k = 47 ∨ k = 48)) → Fm' c y k = Fm c y k := fun c y k _ n => by rw [z2 c y k (by first | decide | omega), gF0 c y k n]
      have m : ∀ c y k x, ¬ (c = 14 ∧ y = 0 ∧ (k = 59 ∨ k = 60)) → ¬ (c = 13 ∧ y = v ∧ 49 ≤ k ∧ k ≤ 52) → Bm' c y k x = Bm c y k x := fun c y k x n n' => by rw [z3 c y k x n', mB1 c y k x n]
      have hL' : LNk q v Fm' Bm' := fun _ => by
        have g7 : Fm' 13 v 7 = Fm 13 v 7 := g 13 v 7 (by first | decide | omega) (by first | decide | omega)
        have g47 : Fm' 13 v 47 = a2 := by rw [z2 13 v 47 (by first | decide | omega)]; exact e47
        obtain ⟨q1, q2, q3, q4, q5, q6⟩ := z5
        by_cases e : i' = 0
        · exact Or.inl (by rw [z4]; exact e)
        · refine Or.inr ⟨(by first | decide | omega), by rw [g47]; exact h2, fun j j0 j1 => ?_, q3 (by first | decide | omega), fun j j0 j1 => q4 j j0 (by first | decide | omega), ?_⟩
          · rw [g7]; exact q2 j j0 (by first | decide | omega)
          · rw [g7, z4]; exact q5 (by first | decide | omega)
      have eM : f_M_lines Km a1 a2 Fm Bm = some (r', Fm', Bm') := by
        unfold f_M_lines
        rw [x3, zb_s, if_neg (by first | decide | omega), if_pos h2, if_neg (by first | decide | omega), if_pos (by first | decide | omega), if_pos hv, if_pos (by first | decide | omega), y1]
        exact z1
      -- the class
      have fin : ∀ (K1 : zK) (F1 : zF) (B1 : zB) (s : Int), K1.1 = K.1 → ((s = F 6 q 8 ∧ K1 = K) ∨ (F 6 q 8 < 0 ∧ s = K.2 2 ∧ K1 = (K.1, zinN K.2 2))) → 0 ≤ s → s < K1.2 2 → F1 6 q 8 = s → (∀ c y k, y < K.2 c → ¬ (c = 6 ∧ y = q ∧ k = 8) → ¬ (c = 2 ∧ y = s) → F1 c y k = F c y k) → (∀ c y k x, y < K.2 c → ¬ (c = 2 ∧ y = s) → B1 c y k x = B c y k x) → LBl s B1 → ∃ r F2 B2, f_S_lines_44 K1 q a2 F1 B1 = some (r, F2, B2, K1) ∧ IV cc Km K1 F2 B2 Fm' Bm' := fun K1 F1 B1 s k1 sc sb0 sb1 e8 f1 b1' hB => by
        have kc : ∀ c, ¬ c = 2 → K1.2 c = K.2 c := fun c hc => by
          rcases sc with ⟨_, z⟩ | ⟨_, _, z⟩
          · rw [z]
          · rw [z]; show zinN K.2 2 c = K.2 c; rw [zinN_v, if_neg hc]
        have kk : ∀ c, K.2 c ≤ K1.2 c := fun c => by
          rcases sc with ⟨_, z⟩ | ⟨_, _, z⟩
          · rw [z]; exact Int.le_refl _
          · rw [z]; show K.2 c ≤ zinN K.2 2 c
            by_cases e2 : c = 2
            · rw [e2, zinN_v, if_pos rfl]; omega
            · rw [zinN_v, if_neg e2]; exact Int.le_refl _
        have hq4 : ∀ u, 0 ≤ u → u < V → (0 ≤ B 6 q 0 u ∧ B 6 q 0 u < K.2 4) := fun u u0 u1 => (hP.2.2 u u0 u1).1.1
        have hi1 : ∀ y i, 0 ≤ y → y < K.2 4 → 0 ≤ i → i < 200 → B 4 y 5 i < K.2 1 := fun y i a b c d => (gs.2.2.2.1 y i a b c d).2
        have hP1 : PK K1 V q v F1 B1 Fm Bm := by
          refine PK_e hP kk (fun k hk => f1 6 q k hq.2 (by first | decide | omega) (by first | decide | omega)) (by funext u; exact b1' 6 q 0 u hq.2 (by first | decide | omega)) (fun u u0 u1 => by funext k; exact f1 4 _ k (hq4 u u0 u1).2 (by first | decide | omega) (by first | decide | omega)) (fun u u0 u1 => by funext k x; exact b1' 4 _ k x (hq4 u u0 u1).2 (by first | decide | omega)) (fun u i u0 u1 i0 i1 => ?_) (fun u i u0 u1 i0 i1 => ?_) (fun _ _ _ => rfl) (fun _ _ _ => rfl)
          · funext k; exact f1 1 _ k (hi1 _ i (hq4 u u0 u1).1 (hq4 u u0 u1).2 i0 i1) (by first | decide | omega) (by first | decide | omega)
          · funext k x; exact b1' 1 _ k x (hi1 _ i (hq4 u u0 u1).1 (hq4 u u0 u1).2 i0 i1) (by first | decide | omega)
        obtain ⟨r, F2, B2, e, fl, bl, lx⟩ := C_brk (wd := a2) (by rw [k1]; exact hK) (PQ_k hP1) ⟨sb0, sb1⟩ hwd hB
        have f : ∀ c y k, y < K.2 c → ¬ (c = 6 ∧ y = q ∧ k = 8) → ¬ (c = 2 ∧ y = s) → F2 c y k = F c y k := fun c y k hy n n' => by rw [fl c y k (by first | decide | omega), f1 c y k hy n n']
        have b : ∀ c y k x, y < K.2 c → ¬ (c = 2 ∧ y = s) → B2 c y k x = B c y k x := fun c y k x hy n => by rw [bl c y k x n, b1' c y k x hy n]
        have l5 := kc 5 (by decide)
        have l9 := kc 9 (by decide)
        have l6 := kc 6 (by decide)
        have hU' : IU cc K1 F2 B2 Fm' Bm' := by
          obtain ⟨c0, u1, u2, u3, u4, u5, u6⟩ := hU
          have kn : IKn K1 F2 := by
            rcases sc with ⟨z1, z2⟩ | ⟨z1, z2, z3⟩
            · refine IKn_f c0.2 (by rw [z2]) (by rw [z2]) (by rw [z2]) (by rw [z2]) (fun y k y0 y1 hk => ?_)
              by_cases e : y = q ∧ k = 8
              · rw [e.1, e.2, fl 6 q 8 (by first | decide | omega), e8, z1]
              · exact f 6 y k y1 (by first | decide | omega) (by first | decide | omega)
            · have o := c0.2
              have k2'' : K1.2 2 = K.2 2 + 1 := by rw [z3]; show zinN K.2 2 2 = K.2 2 + 1; rw [zinN_v, if_pos rfl]
              have g' := ngk_o (k := 8) (K := K) (K' := K1) (q := q) (F := F) (F' := F2) l6 o.1 hq z1 (by rw [fl 6 q 8 (by first | decide | omega), e8]; exact sb0) (fun y y0 y1 n => f 6 y 8 y1 (by first | decide | omega) (by first | decide | omega))
              unfold IKn at *
              rw [ngk_e (k := 9) (K' := K1) (F' := F2) l6 (fun y y0 y1 => f 6 y 9 y1 (by first | decide | omega) (by first | decide | omega)), ngk_e (k := 12) (K' := K1) (F' := F2) l6 (fun y y0 y1 => f 6 y 12 y1 (by first | decide | omega) (by first | decide | omega)), l6, k2'', l5, l9]
              omega
          refine ⟨⟨c0.1, kn⟩, fun l l0 l1 => ?_, fun x x0 x1 => ?_, fun t t0 t1 => ?_, fun y y0 y1 => ?_, fun i i0 i1 z => ?_, TQm_e u6 (fun k x _ => m 14 0 k x (by first | decide | omega) (by first | decide | omega))⟩
          · by_cases e : l = s
            · rw [e]; exact lx
            · have hl : l < K.2 2 := by
                rcases sc with ⟨_, z⟩ | ⟨_, zs, z⟩
                · rw [z] at l1; exact l1
                · rw [z] at l1
                  have l1 : l < zinN K.2 2 2 := l1
                  rw [zinN_v, if_pos rfl] at l1
                  omega
              obtain ⟨a1, a2, a3⟩ := u1 l l0 hl
              refine ⟨by rw [f 2 l 0 hl (by first | decide | omega) (by first | decide | omega)]; exact a1, by rw [f 2 l 4 hl (by first | decide | omega) (by first | decide | omega)]; exact a2, fun j => ?_⟩
              have bb : ∀ k x, B2 2 l k x = B 2 l k x := fun k x => b 2 l k x hl (by first | decide | omega)
              rw [bb, bb, bb, bb, bb, bb, bb, bb, bb]
              exact a3 j
          · have hx : x < K.2 5 := by omega
            exact PXu_e (u2 x x0 hx) (fun k _ => f 5 x k hx (by first | decide | omega) (by first | decide | omega))
          · have ht : t < K.2 9 := by omega
            have gg : ∀ k, F2 9 t k = F 9 t k := fun k => f 9 t k ht (by first | decide | omega) (by first | decide | omega)
            have bb : ∀ k x, B2 9 t k x = B 9 t k x := fun k x => b 9 t k x ht (by first | decide | omega)
            have := u3 t t0 ht
            unfold STu at *
            simp only [gg, bb]
            exact this
          · have hy : y < K.2 6 := by omega
            rw [f 6 y 13 hy (by first | decide | omega) (by first | decide | omega), f 6 y 12 hy (by first | decide | omega) (by first | decide | omega)]
            exact u4 y y0 hy
          · rw [g 13 i 53 (by first | decide | omega) (by first | decide | omega)] at z
            exact PMu_e (u5 i i0 i1 z) (fun k k0 k1 => g 13 i k (by first | decide | omega) (by first | decide | omega))
        refine ⟨r, F2, B2, ?_, p, p0, p1, w, w0, w1, IE_ob (c0 := 2) (kk' := 8) (s := s) hE hc hP hM m0 (Or.inl ⟨rfl, rfl⟩) k1 ⟨sb0, sb1⟩ sc (by rw [fl 6 q 8 (by first | decide | omega)]; exact e8) (fun c y k hy n n' => f c y k hy (by first | decide | omega) n') (fun c y k x hy n => b c y k x hy n) g m hU' hL', ?_, ?_, ?_, ?_, by rw [k1]; exact hK⟩
        · unfold f_S_lines_44
          rw [if_pos ⟨hq.1, (by first | decide | omega)⟩, e8, if_pos ⟨sb0, sb1⟩, e]
          simp only [zbN_s]
        · have e1 : F2 0 1 1 = F 0 1 1 := f 0 1 1 (by have := hA.2.2; omega) (by first | decide | omega) (by first | decide | omega)
          refine ⟨by rw [e1, g 14 0 71 (by first | decide | omega) (by first | decide | omega)]; exact hW.1, by rw [e1]; exact hW.2.1, fun j j0 j1 => ?_⟩
          rw [e1] at j1
          rw [b 0 1 0 j (by have := hA.2.2; omega) (by first | decide | omega), m 14 0 70 j (by first | decide | omega) (by first | decide | omega)]; exact hW.2.2 j j0 j1
        · exact IOp_g hO (kc 8 (by decide)) (f 12 0 8 h12 (by first | decide | omega) (by first | decide | omega)) (f 12 0 9 h12 (by first | decide | omega) (by first | decide | omega)) (fun o k ho => f 8 o k ho (by first | decide | omega) (by first | decide | omega)) (fun o k x ho => b 8 o k x ho (by first | decide | omega)) (g 14 0 72 (by first | decide | omega) (by first | decide | omega)) (fun k x hk => m 14 0 k x (by first | decide | omega) (by first | decide | omega))
        · rw [f 7 0 4 (by have := hA.2.2; omega) (by first | decide | omega) (by first | decide | omega)]; exact h7
        · intro y y0 y1
          rw [b 12 0 1 y h12 (by first | decide | omega), m 14 0 4 y (by first | decide | omega) (by first | decide | omega)]; exact hX y y0 y1
      have l8 := (hF q hq.1 hq.2).1
      by_cases n8 : F 6 q 8 < 0
      · -- lines are made
        have k2' : zinN K.2 2 2 = K.2 2 + 1 := by rw [zinN_v, if_pos rfl]
        have k6' : zinN K.2 2 6 = K.2 6 := by rw [zinN_v, if_neg (by decide)]
        obtain ⟨r, F2, B2, e, hV2⟩ := fin (K.1, zinN K.2 2) (zup3 (zinF F 2 (K.2 2) [0, 0, 0, 0, 0, 0, 0, 0, 0, 0, 0, 0, 0]) 6 q 8 (K.2 2)) (zinB B 2 (K.2 2) (fun _ _ => 0)) (K.2 2) rfl (Or.inr ⟨n8, rfl, rfl⟩) g2 (by show K.2 2 < zinN K.2 2 2; omega) (by rw [zup3_v, if_pos ⟨rfl, rfl, rfl⟩]) (fun c y k hy n n' => by rw [zup3_v, if_neg n, zinF_v, if_neg n']) (fun c y k x hy n => by rw [zinB_v, if_neg n]) (fun j => by
          have bz : ∀ k, (zinB B 2 (K.2 2) (fun _ _ => 0)) 2 (K.2 2) k j = 0 := fun k => by rw [zinB_v, if_pos ⟨rfl, rfl⟩]
          rw [bz, bz, bz, bz, bz, bz, bz, bz, bz]
          refine ⟨by decide, by decide, by decide, by decide, by decide, by decide, by decide, by decide, by decide⟩)
        refine ⟨r, F2, B2, _, r', Fm', Bm', ?_, eM, hV2⟩
        unfold f_S_lines f_Layout_init f_S_lines_41
        rw [if_pos ⟨(by first | decide | omega), h12⟩, x1]
        simp only [zbN_s]
        rw [if_neg (by first | decide | omega), if_pos h2, if_neg (by first | decide | omega), if_pos (by first | decide | omega), if_pos hq, if_pos n8, if_pos hq.2, if_pos g2]
        simp only [zbM_s]
        rw [if_pos (show 0 ≤ K.2 2 ∧ K.2 2 < zinN K.2 2 2 by omega), if_pos (show 0 ≤ q ∧ q < zinN K.2 2 6 by omega), if_pos (show 0 ≤ q ∧ q < zinN K.2 2 6 by omega), if_pos (show K.2 2 < zinN K.2 2 2 by omega)]
        exact e
      · obtain ⟨r, F2, B2, e, hV2⟩ := fin K F B (F 6 q 8) rfl (Or.inl ⟨rfl, rfl⟩) (by first | decide | omega) l8 rfl (fun _ _ _ _ _ _ => rfl) (fun _ _ _ _ _ _ => rfl) (hU.2.1 (F 6 q 8) (by first | decide | omega) l8).2.2
        refine ⟨r, F2, B2, K, r', Fm', Bm', ?_, eM, hV2⟩
        unfold f_S_lines
        rw [if_pos ⟨(by first | decide | omega), h12⟩, x1]
        simp only [zbN_s]
        rw [if_neg (by first | decide | omega), if_pos h2, if_neg (by first | decide | omega), if_pos (by first | decide | omega), if_pos hq, if_neg n8]
        exact e
    rcases (show a1 = 0 ∨ a1 = 1 by omega) with e | e
    · exact go p0 w0 (by rw [e]; exact n2) (by rw [e]; exact n5) hWw.2.1 (Or.inl ⟨rfl, rfl⟩) (SLD_of s0 hE.2.2.2.1)
    · exact go p1 w1 (by rw [e]; exact n3) (by rw [e]; exact n6) hWw.2.2.1 (Or.inr ⟨rfl, rfl⟩) (SLD_of s1 hE.2.2.2.2.1)
end
