section
section
/-! ===== the calls of fault, moment ===== -/
variable {cc : Int}
theorem PQs_k {Km : Nat} {K : zK} {F Fm : zF} {B Bm : zB} (h : IV cc Km K F B Fm Bm) {q V w : Int} (hP : PK K V q w F B Fm Bm) : PQs K V q F B := by
  obtain ⟨⟨h1, h2, h3, h4, h5⟩, ⟨g2, g3, _⟩, hv⟩ := id hP
  exact ⟨h1, ⟨h4, h3⟩, g2.2, g3.2, fun u u0 u1 => PKc_v h hP u0 u1 rfl⟩
theorem PQs_m {K K' : zK} {V p : Int} {F F' : zF} {B B' : zB} (h : PQs K V p F B) (kk : ∀ c, K.2 c ≤ K'.2 c) (f6 : ∀ k, k = 1 ∨ k = 2 ∨ k = 3 → F' 6 p k = F 6 p k) (b6 : ∀ x, B' 6 p 0 x = B 6 p 0 x) (f4 : ∀ y k, y < K.2 4 → F' 4 y k = F 4 y k) (b4 : ∀ y k x, y < K.2 4 → B' 4 y k x = B 4 y k x) (f1 : ∀ y k, y < K.2 1 → F' 1 y k = F 1 y k) (b1 : ∀ y k x, y < K.2 1 → B' 1 y k x = B 1 y k x) : PQs K' V p F' B' := by
  have k6 := kk 6
  have k4 := kk 4
  have k1 := kk 1
  obtain ⟨h1, h2, h3, h4, h5⟩ := h
  refine ⟨⟨h1.1, (by first | decide | omega)⟩, by rw [f6 1 (by first | decide | omega)]; exact h2, by rw [f6 2 (by first | decide | omega)]; exact h3, by rw [f6 3 (by first | decide | omega)]; exact h4, fun u u0 u1 => ?_⟩
  obtain ⟨m, q0, q1, q2, q3⟩ := h5 u u0 u1
  rw [b6]
  refine ⟨m, ⟨q0.1, (by first | decide | omega)⟩, by rw [f4 _ 6 q0.2]; exact q1, q2, fun i i0 i1 => ?_⟩
  obtain ⟨e1, e2, e3⟩ := q3 i i0 i1
  have l := e1.1.2
  rw [b4 _ 5 i q0.2, f1 _ 0 l, f1 _ 1 l]
  refine ⟨⟨⟨e1.1.1, (by first | decide | omega)⟩, by rw [f1 _ 10 l]; exact e1.2.1, fun k k0 k1' => ?_⟩, e2, e3⟩
  rw [f1 _ 10 l] at k1'
  rw [b1 _ 12 k l, b1 _ 13 k l]
  exact e1.2.2 k k0 k1'
/-- the study of a kept piece is made -/
def STm (K K1 : zK) (q s : Int) (F : zF) (B : zB) (F1 : zF) (B1 : zB) : Prop := K1.1 = K.1 ∧ (0 ≤ s ∧ s < K1.2 9) ∧ ((s = F 6 q 12 ∧ K1 = K) ∨ (F 6 q 12 < 0 ∧ s = K.2 9 ∧ K1 = (K.1, zinN K.2 9))) ∧ (F1 6 q 12 = s ∧ F1 6 q 13 = 1) ∧ (∀ c y k, y < K.2 c → ¬ (c = 6 ∧ y = q ∧ (k = 12 ∨ k = 13)) → ¬ (c = 9 ∧ y = s) → F1 c y k = F c y k) ∧ (∀ c y k x, y < K.2 c → ¬ (c = 9 ∧ y = s) → B1 c y k x = B c y k x) ∧ STu s F1 B1
theorem C_stm {K : zK} {V q : Int} {F Fm : zF} {B Bm : zB} (hK : 60000 ≤ K.1) (g9 : 0 ≤ K.2 9) (hU : IU cc K F B Fm Bm) (hq : PQs K V q F B) (l12 : F 6 q 12 < K.2 9) : ∃ s F1 B1 K1, f_Piece_studyMade K q F B = some (s, F1, B1, K1) ∧ STm K K1 q s F B F1 B1 ∧ PQs K1 V q F1 B1 := by
  have hp := hq.1
  have c13 := hU.2.2.2.2.1 q hp.1 hp.2
  -- an object that is there, not looked through
  have g18 : ∀ (K1 : zK) (F1 : zF) (B1 : zB) (s : Int), K1.1 = K.1 → PQs K1 V q F1 B1 → F1 6 q 12 = s → 0 ≤ s → s < K1.2 9 → F1 6 q 13 = 0 → SBb s B1 → ∃ F2 B2, f_Piece_studyMade_18 K1 q F1 B1 = some (s, F2, B2, K1) ∧ (F2 6 q 12 = s ∧ F2 6 q 13 = 1) ∧ (∀ c y k, ¬ (c = 6 ∧ y = q ∧ k = 13) → ¬ (c = 9 ∧ y = s) → F2 c y k = F1 c y k) ∧ stB s B1 B2 ∧ STu s F2 B2 ∧ PQs K1 V q F2 B2 := fun K1 F1 B1 s k1 h1 e12 s0 s1 e13 hS => by
    obtain ⟨F2, B2, e, f, b, st⟩ := C_look (by rw [k1]; exact hK) h1 ⟨s0, s1⟩ hS
    have f12 : F2 6 q 12 = s := by rw [f 6 q 12 (by first | decide | omega)]; exact e12
    refine ⟨zup3 F2 6 q 13 1, B2, ?_, ⟨by rw [zup3_v, if_neg (by first | decide | omega)]; exact f12, by rw [zup3_v, if_pos ⟨rfl, rfl, rfl⟩]⟩, fun c y k n n' => by rw [zup3_v, if_neg n, f c y k (by first | decide | omega)], b, ?_, ?_⟩
    · unfold f_Piece_studyMade_18 f_Piece_studyMade_38
      rw [if_pos h1.1, e13, if_pos (by decide), if_pos rfl, e12, if_pos ⟨s0, s1⟩, e]
      simp only [zbN_s]
      rw [if_pos h1.1, zup3_v, if_neg (by first | decide | omega), f12]
    · unfold STu at *
      rw [zup3_v, if_neg (by first | decide | omega), zup3_v, if_neg (by first | decide | omega)]
      exact st
    · exact PQs_m (PKs_f h1 f b) (fun _ => Int.le_refl _) (fun k hk => by rw [zup3_v, if_neg (by first | decide | omega)]) (fun _ => rfl) (fun y k _ => by rw [zup3_v, if_neg (by first | decide | omega)]) (fun _ _ _ _ => rfl) (fun y k _ => by rw [zup3_v, if_neg (by first | decide | omega)]) (fun _ _ _ _ => rfl)
  unfold f_Piece_studyMade
  rw [if_pos hp]
  by_cases n : F 6 q 12 < 0
  · -- a study is made
    have e13 : F 6 q 13 = 0 := by
      rcases c13 with z | z
      · exact z
      · omega
    have k9 : zinN K.2 9 9 = K.2 9 + 1 := by rw [zinN_v, if_pos rfl]
    have kn : ∀ c, ¬ c = 9 → zinN K.2 9 c = K.2 c := fun c hc => by rw [zinN_v, if_neg hc]
    have kk : ∀ c, K.2 c ≤ zinN K.2 9 c := fun c => by
      by_cases e : c = 9
      · rw [e, k9]; omega
      · rw [kn c e]; exact Int.le_refl _
    generalize hF1 : zup3 (zinF F 9 (K.2 9) [0, 0, 0, 0, 0, 0, 0, 0, 0, 0, 0]) 6 q 12 (K.2 9) = F1
    generalize hB1 : zinB B 9 (K.2 9) (fun _ _ => 0) = B1
    have fn : ∀ c y k, ¬ (c = 9 ∧ y = K.2 9) → ¬ (c = 6 ∧ y = q ∧ k = 12) → F1 c y k = F c y k := fun c y k q1 q2 => by rw [← hF1, zup3_v, if_neg q2, zinF_v, if_neg q1]
    have bn : ∀ c y k x, ¬ (c = 9 ∧ y = K.2 9) → B1 c y k x = B c y k x := fun c y k x q1 => by rw [← hB1, zinB_v, if_neg q1]
    have bz : ∀ k x, B1 9 (K.2 9) k x = 0 := fun k x => by rw [← hB1, zinB_v, if_pos ⟨rfl, rfl⟩]
    have h1 : PQs (K.1, zinN K.2 9) V q F1 B1 := PQs_m hq kk (fun k hk => fn 6 q k (by first | decide | omega) (by first | decide | omega)) (fun x => bn 6 q 0 x (by first | decide | omega)) (fun y k _ => fn 4 y k (by first | decide | omega) (by first | decide | omega)) (fun y k x _ => bn 4 y k x (by first | decide | omega)) (fun y k _ => fn 1 y k (by first | decide | omega) (by first | decide | omega)) (fun y k x _ => bn 1 y k x (by first | decide | omega))
    obtain ⟨F2, B2, e, g1, g2, g3, g4, g5⟩ := g18 (K.1, zinN K.2 9) F1 B1 (K.2 9) rfl h1 (by rw [← hF1, zup3_v, if_pos ⟨rfl, rfl, rfl⟩]) g9 (by show K.2 9 < zinN K.2 9 9; omega) (by rw [fn 6 q 13 (by first | decide | omega) (by first | decide | omega)]; exact e13) ⟨fun j => by rw [bz]; omega, fun k j _ _ => by rw [bz]; omega, fun j => by rw [bz, bz, bz, bz, bz, bz]; exact ⟨by decide, by decide, by decide, by decide, by decide, by decide⟩⟩
    refine ⟨K.2 9, F2, B2, (K.1, zinN K.2 9), ?_, ⟨rfl, ⟨g9, by show K.2 9 < zinN K.2 9 9; omega⟩, Or.inr ⟨n, rfl, rfl⟩, g1, fun c y k hy n1 n2 => by rw [g2 c y k (by first | decide | omega) n2, fn c y k n2 (by first | decide | omega)], fun c y k x hy n1 => by rw [g3 c y k x n1, bn c y k x n1], g4⟩, g5⟩
    rw [if_pos n]
    unfold f_Study_init f_Piece_studyMade_15
    rw [if_pos g9]
    simp only [zbM_s]
    rw [if_pos (show 0 ≤ K.2 9 ∧ K.2 9 < zinN K.2 9 9 by omega), if_pos (show 0 ≤ q ∧ q < zinN K.2 9 6 by rw [kn 6 (by decide)]; exact hp), if_pos (show 0 ≤ q ∧ q < zinN K.2 9 6 by rw [kn 6 (by decide)]; exact hp), if_pos (show K.2 9 < zinN K.2 9 9 by omega), hF1, hB1]
    exact e
  · rw [if_neg n]
    have st := hU.2.2.2.1 (F 6 q 12) (by first | decide | omega) l12
    rcases c13 with e13 | ⟨e13, _⟩
    · obtain ⟨F2, B2, e, g1, g2, g3, g4, g5⟩ := g18 K F B (F 6 q 12) rfl hq rfl (by first | decide | omega) l12 e13 st.2.2
      exact ⟨F 6 q 12, F2, B2, K, e, ⟨rfl, ⟨(by first | decide | omega), l12⟩, Or.inl ⟨rfl, rfl⟩, g1, fun c y k _ n1 n2 => g2 c y k (by first | decide | omega) n2, fun c y k x _ n1 => g3 c y k x n1, g4⟩, g5⟩
    · refine ⟨F 6 q 12, F, B, K, ?_, ⟨rfl, ⟨(by first | decide | omega), l12⟩, Or.inl ⟨rfl, rfl⟩, ⟨rfl, e13⟩, fun _ _ _ _ _ _ => rfl, fun _ _ _ _ _ _ => rfl, st⟩, hq⟩
      unfold f_Piece_studyMade_18 f_Piece_studyMade_38
      rw [if_pos hp, e13, if_pos (by decide), if_neg (by decide), if_pos hp]
/-- once made, it is made -/
theorem C_stm2 {K1 : zK} {q s : Int} {F1 : zF} {B1 : zB} (hp : 0 ≤ q ∧ q < K1.2 6) (s0 : 0 ≤ s) (e : F1 6 q 12 = s ∧ F1 6 q 13 = 1) : f_Piece_studyMade K1 q F1 B1 = some (s, F1, B1, K1) := by
  unfold f_Piece_studyMade f_Piece_studyMade_18 f_Piece_studyMade_38
  rw [if_pos hp, e.1, if_neg (by first | decide | omega), if_pos hp, e.2, if_pos (by decide), if_neg (by decide), if_pos hp]
theorem IV_st {Km : Nat} {K K1 : zK} {p p0 p1 w w0 w1 q v V s : Int} {F F1 Fm : zF} {B B1 Bm : zB} (hE : IE cc K Km p p0 p1 w w0 w1 F B Fm Bm) (hZ : IZ K F B Fm Bm) (hc : (q = p0 ∧ v = w0) ∨ (q = p1 ∧ v = w1)) (hP : PK K V q v F B Fm Bm) (hM : MK V v Fm Bm) (m0 : Fm 13 v 0 = 1) (hL : LNk q v Fm Bm) (h : STm K K1 q s F B F1 B1) : IV cc Km K1 F1 B1 Fm Bm := by
  obtain ⟨k1, sb, sc, e12, f, b, st⟩ := h
  have hA := hE.1.1.2.2
  have kc : ∀ c, ¬ c = 9 → K1.2 c = K.2 c := fun c hc => by
    rcases sc with ⟨_, z⟩ | ⟨_, _, z⟩
    · rw [z]
    · rw [z]; show zinN K.2 9 c = K.2 c; rw [zinN_v, if_neg hc]
  have l2 := kc 2 (by decide)
  have l5 := kc 5 (by decide)
  have l6 := kc 6 (by decide)
  have hU' : IU cc K1 F1 B1 Fm Bm := by
    obtain ⟨c0, u1, u2, u3, u4, u5, u6⟩ := hE.2.2.2.2.2.1
    have kn : IKn K1 F1 := by
      rcases sc with ⟨z1, z2⟩ | ⟨z1, z2, z3⟩
      · refine IKn_f c0.2 (by rw [z2]) (by rw [z2]) (by rw [z2]) (by rw [z2]) (fun y k y0 y1 hk => ?_)
        by_cases e : y = q ∧ k = 12
        · rw [e.1, e.2, e12.1, z1]
        · exact f 6 y k y1 (by first | decide | omega) (by first | decide | omega)
      · have o := c0.2
        have k9 : K1.2 9 = K.2 9 + 1 := by rw [z3]; show zinN K.2 9 9 = K.2 9 + 1; rw [zinN_v, if_pos rfl]
        have g' := ngk_o (k := 12) (K := K) (K' := K1) (q := q) (F := F) (F' := F1) l6 o.1 hP.1.1 z1 (by rw [e12.1]; exact sb.1) (fun y y0 y1 n => f 6 y 12 y1 (by first | decide | omega) (by first | decide | omega))
        unfold IKn at *
        rw [ngk_e (k := 9) (K' := K1) (F' := F1) l6 (fun y y0 y1 => f 6 y 9 y1 (by first | decide | omega) (by first | decide | omega)), ngk_e (k := 8) (K' := K1) (F' := F1) l6 (fun y y0 y1 => f 6 y 8 y1 (by first | decide | omega) (by first | decide | omega)), l6, k9, l5, l2]
        omega
    refine ⟨⟨c0.1, kn⟩, fun l l0 l1 => ?_, fun x x0 x1 => ?_, fun t t0 t1 => ?_, fun y y0 y1 => ?_, u5, u6⟩
    · have hl : l < K.2 2 := by omega
      obtain ⟨a1, a2, a3⟩ := u1 l l0 hl
      refine ⟨by rw [f 2 l 0 hl (by first | decide | omega) (by first | decide | omega)]; exact a1, by rw [f 2 l 4 hl (by first | decide | omega) (by first | decide | omega)]; exact a2, fun j => ?_⟩
      have bb : ∀ k x, B1 2 l k x = B 2 l k x := fun k x => b 2 l k x hl (by first | decide | omega)
      rw [bb, bb, bb, bb, bb, bb, bb, bb, bb]
      exact a3 j
    · have hx : x < K.2 5 := by omega
      exact PXu_e (u2 x x0 hx) (fun k _ => f 5 x k hx (by first | decide | omega) (by first | decide | omega))
    · by_cases e : t = s
      · rw [e]; exact st
      · have ht : t < K.2 9 := by
          rcases sc with ⟨_, z⟩ | ⟨_, zs, z⟩
          · rw [z] at t1; exact t1
          · rw [z] at t1
            have t1 : t < zinN K.2 9 9 := t1
            rw [zinN_v, if_pos rfl] at t1
            omega
        have gg : ∀ k, F1 9 t k = F 9 t k := fun k => f 9 t k ht (by first | decide | omega) (by first | decide | omega)
        have bb : ∀ k x, B1 9 t k x = B 9 t k x := fun k x => b 9 t k x ht (by first | decide | omega)
        have := u3 t t0 ht
        unfold STu at *
        simp only [gg, bb]
        exact this
    · have hy : y < K.2 6 := by omega
      by_cases e : y = q
      · rw [e, e12.1, e12.2]; exact Or.inr ⟨rfl, sb.1⟩
      · rw [f 6 y 13 hy (by first | decide | omega) (by first | decide | omega), f 6 y 12 hy (by first | decide | omega) (by first | decide | omega)]
        exact u4 y y0 hy
  have hE1 := IE_ob (c0 := 9) (kk' := 12) (s := s) hE hc hP hM m0 (Or.inr ⟨rfl, rfl⟩) k1 sb sc e12.1 f b (fun _ _ _ _ _ => rfl) (fun _ _ _ _ _ _ => rfl) hU' hL
  exact ⟨p, p0, p1, w, w0, w1, hE1, IZ_f hZ k1 (kc 8 (by decide)) (f 0 1 1 (by first | decide | omega) (by first | decide | omega) (by first | decide | omega)) (f 12 0 8 (by first | decide | omega) (by first | decide | omega) (by first | decide | omega)) (f 12 0 9 (by first | decide | omega) (by first | decide | omega) (by first | decide | omega)) (f 7 0 4 (by first | decide | omega) (by first | decide | omega) (by first | decide | omega)) (fun o k ho => f 8 o k ho (by first | decide | omega) (by first | decide | omega)) (fun x => b 0 1 0 x (by first | decide | omega) (by first | decide | omega)) (fun x => b 12 0 1 x (by first | decide | omega) (by first | decide | omega)) (fun o k x ho => b 8 o k x ho (by first | decide | omega)) (fun _ _ => rfl) (fun _ _ _ => rfl)⟩
theorem p_fault {Km : Nat} (a1 a2 a3 : Int) (h1 : r32 a1) (h2 : r32 a2) (h3 : r32 a3) {K : zK} {F Fm : zF} {B Bm : zB} (h : IV cc Km K F B Fm Bm) : ∃ r1 F1 B1 K1 r2 F2 B2, f_S_fault K 0 a1 a2 a3 F B = some (r1, F1, B1, K1) ∧ f_M_fault_0 Km a1 a2 a3 Fm Bm = some (r2, F2, B2) ∧ IV cc Km K1 F1 B1 F2 B2 := by
  have hK := (IV_k h).1
  have h12 := IV_12 h
  have hU := IV_u h
  rcases slotE h h1 with ⟨q, q0, x1, x3⟩ | ⟨p, p0, p1, w, w0, w1, q, v, V, hE, hZ, hc, hP, hM, hD, m0, hv, x1, x3, ln, q0⟩
  · refine ⟨-1, F, B, K, -1, Fm, Bm, ?_, ?_, h⟩
    · unfold f_S_fault f_S_fault_37
      rw [if_pos h12, x1]
      simp only [zbN_s]
      rw [if_pos q0]
    · unfold f_M_fault_0 f_M_fault_0_25
      rw [x3, zb_s, if_pos (by decide)]
  have hq := hP.1.1
  have hR : ∃ r, f_M_fault_0 Km a1 a2 a3 Fm Bm = some (r, Fm, Bm) := by
    have h76 := hM.2.2
    unfold f_M_fault_0 f_M_fault_0_25 f_M_fault_0_81
    rw [x3, zb_s]
    exact zR_i (fun _ => zR_s) (fun _ => zR_g h2 (zR_i (fun _ => zR_s) (fun n2 => zR_g hv (zR_g (by unfold r32; omega) (zR_i (fun l2 => zR_g h3 (zR_i (fun _ => zR_g (by first | decide | omega) zR_s) (fun _ => zR_i (fun _ => zR_g (by first | decide | omega) zR_s) (fun _ => zR_i (fun _ => zR_g (by first | decide | omega) zR_s) (fun _ => zR_i (fun _ => zR_g (by first | decide | omega) zR_s) (fun _ => zR_s)))))) (fun _ => zR_s))))))
  obtain ⟨r', eM⟩ := hR
  have l12 := (hE.1.2.2.2.2.2.2.2.2.1 q hq.1 hq.2).2.2
  have g9 : 0 ≤ K.2 9 := by have := hE.1.1.2.2; omega
  obtain ⟨s, F1, B1, K1, e, st, hq1⟩ := C_stm hK g9 hU (PQs_k h hP) l12
  have hV1 := IV_st hE hZ hc hP hM m0 ln st
  have st2 := C_stm2 (B1 := B1) hq1.1 st.2.1.1 st.2.2.2.1
  have s2 := st.2.2.2.2.2.2.2.1
  by_cases b : a3 < 0 ∨ 4 ≤ a3 ∨ a2 < 0
  · refine ⟨-1, F, B, K, r', Fm, Bm, ?_, eM, h⟩
    unfold f_S_fault f_S_fault_37
    rw [if_pos h12, x1]
    simp only [zbN_s]
    rw [if_neg (by first | decide | omega), if_pos h3]
    by_cases b1 : a3 < 0
    · rw [if_pos b1]
    rw [if_neg b1]
    by_cases b2 : 4 ≤ a3
    · rw [if_pos b2]
    · rw [if_neg b2, if_pos h2, if_pos (by first | decide | omega)]
  by_cases c : a2 < F1 9 s 2
  · refine ⟨B1 9 s (260 + a3.toNat) a2, F1, B1, K1, r', Fm, Bm, ?_, eM, hV1⟩
    unfold f_S_fault f_S_fault_31 f_S_fault_44
    rw [if_pos h12, x1]
    simp only [zbN_s]
    rw [if_neg (by first | decide | omega), if_pos h3, if_neg (by first | decide | omega), if_neg (by first | decide | omega), if_pos h2, if_neg (by first | decide | omega), if_pos hq, if_pos hq.2, e]
    simp only [zbM_s]
    rw [if_pos st.2.1, if_pos h2, if_pos (by unfold r32; omega), if_pos c, if_pos hq1.1, st2]
    simp only [zbM_s]
    rw [if_pos st.2.1, if_pos (by first | decide | omega), if_pos (by first | decide | omega)]
  · refine ⟨-1, F1, B1, K1, r', Fm, Bm, ?_, eM, hV1⟩
    unfold f_S_fault f_S_fault_31 f_S_fault_37
    rw [if_pos h12, x1]
    simp only [zbN_s]
    rw [if_neg (by first | decide | omega), if_pos h3, if_neg (by first | decide | omega), if_neg (by first | decide | omega), if_pos h2, if_neg (by first | decide | omega), if_pos hq, if_pos hq.2, e]
    simp only [zbM_s]
    rw [if_pos st.2.1, if_pos h2, if_pos (by unfold r32; omega), if_neg c]
end
end
section
section
/-! ===== the calls of moment, look ===== -/
variable {cc : Int}
theorem L_mom {Km : Nat} {a1 a2 a3 v V : Int} {Fm : zF} {Bm : zB} (h2 : r32 a2) (h3 : r32 a3) (hK : 200 ≤ Km) (x3 : f_M_piece Km a1 Fm Bm = some (v, Fm, Bm)) (hR : RDW V v Fm Bm) (h33 : Fm 13 v 3 = 0 ∨ Fm 13 v 3 = 1) (hM : MW5 V v Fm Bm) : ∃ r Fm' Bm', f_M_moment_0 Km a1 a2 a3 Fm Bm = some (r, Fm', Bm') ∧ crdF Fm Fm' ∧ crdB Bm Bm' := by
  have hv := hR.1
  have k2 := hR.2.2.1
  have h72 := hM.1
  have same : ∀ r : Int, ∃ r' Fm' Bm', some (r, Fm, Bm) = some (r', Fm', Bm') ∧ crdF Fm Fm' ∧ crdB Bm Bm' := fun r => ⟨r, Fm, Bm, rfl, fun _ _ _ _ => rfl, fun _ _ _ _ _ => rfl⟩
  unfold f_M_moment_0 f_M_moment_0_35 f_M_moment_0_208
  rw [x3, zb_s, if_neg (by first | decide | omega), if_pos h2]
  by_cases c1 : a2 < 0
  · rw [if_pos c1]; exact same _
  rw [if_neg c1, if_pos hv, if_pos (by unfold r32; omega)]
  by_cases c2 : Fm 13 v 72 ≤ a2
  · rw [if_pos c2]; exact same _
  rw [if_neg c2, if_pos h3]
  by_cases c3 : a3 < 0
  · rw [if_pos c3]; exact same _
  rw [if_neg c3]
  by_cases c4 : ¬ a3 ≤ 8
  · rw [if_neg c4]; exact same _
  have c4' : a3 ≤ 8 := by omega
  rw [if_pos c4']
  by_cases d0 : a3 = 0
  · rw [if_pos d0, if_pos (by first | decide | omega)]; exact same _
  rw [if_neg d0]
  by_cases d1 : a3 = 1
  · rw [if_pos d1, if_pos (by first | decide | omega)]; exact same _
  rw [if_neg d1]
  obtain ⟨n, F1, B1, e, f, b, cl, lo, g4, g5⟩ := L_chA (K := Km) hK hR hM (j := a2) (by first | decide | omega)
  have n0 := cl.1
  rw [e, zb_s]
  have res : ∀ r : Int, ∃ r' Fm' Bm', some (r, F1, B1) = some (r', Fm', Bm') ∧ crdF Fm Fm' ∧ crdB Bm Bm' := fun r => ⟨r, F1, B1, rfl, f, b⟩
  by_cases d2 : a3 = 2
  · rw [if_pos d2, if_pos (by unfold r32; omega)]; exact res _
  rw [if_neg d2]
  by_cases d3 : a3 = 3
  · rw [if_pos d3, if_pos (by unfold r32; omega)]; exact res _
  rw [if_neg d3, if_pos (by unfold r32; omega)]
  by_cases d4 : ¬ 0 ≤ F1 14 0 104
  · rw [if_neg d4]; exact res _
  have d4' : 0 ≤ F1 14 0 104 := by omega
  obtain ⟨q0, q1⟩ := g5 d4'
  have kc := cl.2 (F1 14 0 105) q0 q1
  rw [if_pos d4']
  by_cases e4 : a3 = 4
  · rw [if_pos e4, if_pos (by first | decide | omega), if_pos (by unfold r32; omega)]; exact res _
  rw [if_neg e4]
  by_cases e5 : a3 = 5
  · rw [if_pos e5, if_pos (by first | decide | omega), if_pos (by unfold r32; omega)]; exact res _
  rw [if_neg e5]
  by_cases e6 : a3 = 6
  · have l2 : 0 ≤ F1 14 0 102 ∧ F1 14 0 102 ≤ 62 := by
      rcases lo with z | z
      · have := z.1; omega
      · exact z.2
    have ez : zrm (F1 14 0 102) 7 = F1 14 0 102 % 7 := zrm_e l2.1 (by unfold r32; omega) (by decide) (by decide)
    obtain ⟨r, F2, B2, e2, rfl, rfl, r0, r1⟩ := s_mod (K := Km) (a := F1 14 0 102 % 7 - B1 14 0 98 (F1 14 0 105)) (b := 7) (F := F1) (B := B1) (by unfold r32; omega) (by decide) (by decide)
    rw [if_pos e6, if_pos (by first | decide | omega), ez, e2, zb_s, if_pos (zdv_R _ _)]; exact res _
  rw [if_neg e6]
  have f2 : -7 ≤ F1 13 v 2 ∧ F1 13 v 2 ≤ 7 := by rw [f 13 v 2 (by first | decide | omega)]; exact k2
  have f3 : F1 13 v 3 = 0 ∨ F1 13 v 3 = 1 := by rw [f 13 v 3 (by first | decide | omega)]; exact h33
  by_cases e7 : a3 = 7
  · obtain ⟨t, et, t0, t1⟩ := L_tonL (K := Km) (B := B1) hv f2 f3
    obtain ⟨r, F2, B2, e2, rfl, rfl, r0, r1⟩ := s_mod (K := Km) (a := B1 14 0 98 (F1 14 0 105) - t) (b := 7) (F := F1) (B := B1) (by unfold r32; omega) (by decide) (by decide)
    rw [if_pos e7, if_pos (by first | decide | omega), et, zb_s, e2, zb_s, if_pos (by unfold r32; omega)]; exact res _
  · obtain ⟨r, er, r01⟩ := L_isF4 (K := Km) hv f2 cl n.toNat Km 0 0 (by first | decide | omega) (by decide) (by first | decide | omega) (Or.inl rfl)
    have er' : f_M_isForeign Km v F1 B1 = some (r, F1, B1) := er
    rw [if_neg e7, er', zb_s, if_pos (by unfold r32; omega)]
    by_cases z : r = 0
    · rw [if_pos z]; exact res _
    · rw [if_neg z]; exact res _
theorem p_moment {Km : Nat} (a1 a2 a3 : Int) (h1 : r32 a1) (h2 : r32 a2) (h3 : r32 a3) {K : zK} {F Fm : zF} {B Bm : zB} (h : IV cc Km K F B Fm Bm) : ∃ r1 F1 B1 K1 r2 F2 B2, f_S_moment K 0 a1 a2 a3 F B = some (r1, F1, B1, K1) ∧ f_M_moment_0 Km a1 a2 a3 Fm Bm = some (r2, F2, B2) ∧ IV cc Km K1 F1 B1 F2 B2 := by
  have hK := (IV_k h).1
  have hKm := (IV_k h).2.1
  have h12 := IV_12 h
  have hU := IV_u h
  rcases slotE h h1 with ⟨q, q0, x1, x3⟩ | ⟨p, p0, p1, w, w0, w1, q, v, V, hE, hZ, hc, hP, hM, hD, m0, hv, x1, x3, ln, q0⟩
  · refine ⟨-2147483648, F, B, K, -2147483648, Fm, Bm, ?_, ?_, h⟩
    · unfold f_S_moment f_S_moment_28
      rw [if_pos h12, x1]
      simp only [zbN_s]
      rw [if_pos q0]
    · unfold f_M_moment_0 f_M_moment_0_35
      rw [x3, zb_s, if_pos (by decide)]
  have hq := hP.1.1
  have h33 : Fm 13 v 3 = 0 ∨ Fm 13 v 3 = 1 := by have := hP.2.1.2.1; omega
  obtain ⟨r', Fm', Bm', eM, mf, mb⟩ := L_mom (a1 := a1) h2 h3 (by first | decide | omega) x3 (PK_r hP) h33 hM.1
  have fin : ∀ {K1 : zK} {F1 : zF} {B1 : zB}, IV cc Km K1 F1 B1 Fm Bm → IV cc Km K1 F1 B1 Fm' Bm' := fun hV => IV_s hV (fun i y k n => mf i y k (by first | decide | omega)) (fun c y k x n => mb c y k x (by first | decide | omega))
  by_cases c1 : a2 < 0
  · refine ⟨-2147483648, F, B, K, r', Fm', Bm', ?_, eM, fin h⟩
    unfold f_S_moment f_S_moment_28
    rw [if_pos h12, x1]
    simp only [zbN_s]
    rw [if_neg (by first | decide | omega), if_pos h2, if_pos c1]
  have l12 := (hE.1.2.2.2.2.2.2.2.2.1 q hq.1 hq.2).2.2
  have g9 : 0 ≤ K.2 9 := by have := hE.1.1.2.2; omega
  obtain ⟨s, F1, B1, K1, e, st, hq1⟩ := C_stm hK g9 hU (PQs_k h hP) l12
  have hV1 := IV_st hE hZ hc hP hM m0 ln st
  have st2 := C_stm2 (B1 := B1) hq1.1 st.2.1.1 st.2.2.2.1
  obtain ⟨t1, t2, t3⟩ := st.2.2.2.2.2.2
  have hK1 : 60000 ≤ K1.1 := by rw [st.1]; exact hK
  unfold f_S_moment f_S_moment_22
  rw [if_pos h12, x1]
  simp only [zbN_s]
  rw [if_neg (by first | decide | omega), if_pos h2, if_neg c1, if_pos hq, if_pos hq.2, e]
  simp only [zbM_s]
  rw [if_pos st.2.1, if_pos h2, if_pos (by unfold r32; omega)]
  by_cases c2 : ¬ a2 < F1 9 s 0
  · rw [if_neg c2]
    exact ⟨_, F1, B1, K1, r', Fm', Bm', rfl, eM, fin hV1⟩
  have c2' : a2 < F1 9 s 0 := by omega
  rw [if_pos c2', if_pos hq1.1, if_pos hq1.1.2, st2]
  simp only [zbM_s]
  unfold f_S_moment_37 f_S_moment_100 f_S_moment_115
  rw [if_pos h3]
  have pl := t3.1 a2
  by_cases d0 : a3 = 0
  · obtain ⟨r, er⟩ := C_above (K := K1) (x := B1 9 s 1 a2) (F := F1) (B := B1) (by first | decide | omega) pl
    rw [if_pos d0, if_pos st.2.1, if_pos (by first | decide | omega), er]
    simp only [zbN_s]
    exact ⟨r, F1, B1, K1, r', Fm', Bm', rfl, eM, fin hV1⟩
  rw [if_neg d0]
  by_cases d1 : a3 = 1
  · obtain ⟨r, er⟩ := C_below (K := K1) (x := B1 9 s 1 a2) (F := F1) (B := B1) (by first | decide | omega) pl
    rw [if_pos d1, if_pos st.2.1, if_pos (by first | decide | omega), er]
    simp only [zbN_s]
    exact ⟨r, F1, B1, K1, r', Fm', Bm', rfl, eM, fin hV1⟩
  rw [if_neg d1]
  by_cases d2 : a3 < 0
  · rw [if_pos d2]; exact ⟨_, F1, B1, K1, r', Fm', Bm', rfl, eM, fin hV1⟩
  rw [if_neg d2]
  by_cases d3 : ¬ a3 ≤ 8
  · rw [if_neg d3]; exact ⟨_, F1, B1, K1, r', Fm', Bm', rfl, eM, fin hV1⟩
  have d3' : a3 ≤ 8 := by omega
  obtain ⟨r, B2, er, b2, s2⟩ := C_told2 (j := a2) (l3 := a3) hK1 hq1 st.2.1 t3 (by first | decide | omega) h3
  have stm2 : STm K K1 q s F B F1 B2 := by
    obtain ⟨k1, k2, k3, k4, k5, k6, k7⟩ := st
    exact ⟨k1, k2, k3, k4, k5, fun c y k x hy n => by rw [b2 c y k x n, k6 c y k x hy n], t1, t2, s2⟩
  rw [if_pos d3', if_pos st.2.1, if_pos hq1.1, er]
  simp only [zbN_s]
  exact ⟨r, F1, B2, K1, r', Fm', Bm', rfl, eM, fin (IV_st hE hZ hc hP hM m0 ln stm2)⟩
/-- the sounds of a kept piece are made -/
theorem IV_sm {Km : Nat} {K K1 : zK} {p p0 p1 w w0 w1 q v V s : Int} {F F1 Fm : zF} {B B1 B2 Bm : zB} (hE : IE cc K Km p p0 p1 w w0 w1 F B Fm Bm) (hZ : IZ K F B Fm Bm) (hc : (q = p0 ∧ v = w0) ∨ (q = p1 ∧ v = w1)) (hP : PK K V q v F B Fm Bm) (hM : MK V v Fm Bm) (hD : PD K V q v F B Fm Bm) (m0 : Fm 13 v 0 = 1) (hv : 0 ≤ v ∧ v < 3) (x2 : K1.1 = K.1) (x3 : 0 ≤ s ∧ s < K1.2 5) (x4 : (s = F 6 q 9 ∧ K1 = K) ∨ (F 6 q 9 < 0 ∧ s = K.2 5 ∧ K1 = (K.1, zinN K.2 5))) (x5 : SDR s V q v F1 B1 Fm Bm) (x6 : F1 6 q 9 = s ∧ F1 6 q 11 = 1) (x7 : rwS s F1) (x8 : smF K q s F F1) (x9 : smB K s B B1) (x10 : F 6 q 11 = 1 → F1 = F ∧ B1 = B) (x11 : pfU K s F F1) (kb : khB s B1 B2) : IV cc Km K1 F1 B2 Fm Bm := by
  obtain ⟨d10, d11, d9, dr, ds, dp, dz⟩ := hD
  have hp := hP.1.1
  have hA := hE.1.1.2.2
  have f10 : F1 6 q 10 = F 6 q 10 := x8 6 q 10 hp.2 (by first | decide | omega) (by first | decide | omega)
  have hD' : PD K1 V q v F1 B2 Fm Bm := by
    refine ⟨by rw [f10]; exact d10, Or.inr x6.2, by rw [x6.1]; exact x3.2, fun _ => by rw [x6.1]; exact x7, fun _ => ⟨by rw [x6.1]; exact x3.1, by rw [x6.1]; exact SDR_e x5 ⟨rfl, rfl⟩ (fun k x hk => kb 5 s k x (by first | decide | omega)) (fun _ _ _ => rfl) (fun _ _ _ => rfl)⟩, fun z => ⟨x6.2, ?_⟩, fun z => dz (by rw [← f10]; exact z)⟩
    rw [f10] at z
    obtain ⟨e11, c, pfd⟩ := dp z
    obtain ⟨rfl, rfl⟩ := x10 e11
    have es : F1 6 q 9 = s := x6.1
    rw [es] at pfd ⊢
    exact ⟨c, PFD_p pfd x7 (fun _ _ => rfl) (fun k x hk => kb 5 s k x (by first | decide | omega)) (fun _ _ => rfl) (fun _ _ _ _ => rfl) pfd.2.2.2.2.2.2⟩
  have pF : pfF K q s F F1 := fun c y k q0 q1 q2 => x8 c y k q0 (by first | decide | omega) q2
  have pB : pfB K s B B2 := fun c y k x q0 q1 => by rw [kb c y k x (by first | decide | omega), x9 c y k x q0 (by first | decide | omega)]
  have pG : pfG v Fm Fm := fun _ _ _ _ _ => rfl
  have pM : pfM v Bm Bm := fun _ _ _ _ _ _ => rfl
  have kc : ∀ c, ¬ c = 5 → K1.2 c = K.2 c := fun c hc => by
    rcases x4 with ⟨_, z⟩ | ⟨_, _, z⟩
    · rw [z]
    · rw [z]; show zinN K.2 5 c = K.2 c; rw [zinN_v, if_neg hc]
  exact ⟨p, p0, p1, w, w0, w1, IE_pf hE hc hP hM m0 x2 x3 x4 x6.1 pF pB pG pM hD' (IU_pf hE.2.2.2.2.2.1 x3 x4 pF pB pG pM x11 (Or.inr (fun _ _ => rfl)) hv hp x6.1), IZ_f hZ x2 (kc 8 (by decide)) (pF 0 1 1 (by first | decide | omega) (by first | decide | omega) (by first | decide | omega)) (pF 12 0 8 (by first | decide | omega) (by first | decide | omega) (by first | decide | omega)) (pF 12 0 9 (by first | decide | omega) (by first | decide | omega) (by first | decide | omega)) (pF 7 0 4 (by first | decide | omega) (by first | decide | omega) (by first | decide | omega)) (fun o k ho => pF 8 o k ho (by first | decide | omega) (by first | decide | omega)) (fun x => pB 0 1 0 x (by first | decide | omega) (by first | decide | omega)) (fun x => pB 12 0 1 x (by first | decide | omega) (by first | decide | omega)) (fun o k x ho => pB 8 o k x ho (by first | decide | omega)) (fun _ _ => rfl) (fun _ _ _ => rfl)⟩
end
end
section
section
/-! ===== the call of look ===== -/
variable {cc : Int}
theorem p_look {Km : Nat} (a1 a2 : Int) (h1 : r32 a1) (h2 : r32 a2) {K : zK} {F Fm : zF} {B Bm : zB} (h : IV cc Km K F B Fm Bm) : ∃ r1 F1 B1 K1 r2 F2 B2, f_S_look K 0 a1 a2 F B = some (r1, F1, B1, K1) ∧ f_M_look Km a1 a2 Fm Bm = some (r2, F2, B2) ∧ IV cc Km K1 F1 B1 F2 B2 := by
  have hK := (IV_k h).1
  have hKm := (IV_k h).2.1
  have h12 := IV_12 h
  have hU := IV_u h
  rcases slotE h h1 with ⟨q, q0, x1, x3⟩ | ⟨p, p0, p1, w, w0, w1, q, v, V, hE, hZ, hc, hP, hM, hD, m0, hv, x1, x3, ln, q0⟩
  · refine ⟨-1, F, B, K, -1, Fm, Bm, ?_, ?_, h⟩
    · unfold f_S_look
      rw [if_pos h12, x1]
      simp only [zbN_s]
      rw [if_pos q0]
    · unfold f_M_look
      rw [x3, zb_s, if_pos (by decide)]
  have hq := hP.1.1
  have o3 := hE.1.2.2.2.2.2.2.2.2.1 q hq.1 hq.2
  have h5 : 0 ≤ K.2 5 := by have := hE.1.1.2.2; omega
  have g9 : 0 ≤ K.2 9 := by have := hE.1.1.2.2; omega
  have h33 : Fm 13 v 3 = 0 ∨ Fm 13 v 3 = 1 := by have := hP.2.1.2.1; omega
  obtain ⟨s, F1, B1, K1, y1, y2, y3, y4, y5, y6, y7, y8, y9, y10, y11⟩ := C_made (by first | decide | omega) h5 hP hE.2.1 hD
  obtain ⟨Fm', Bm', z1, z2, z3, z4, z5, z6⟩ := SDR_ga (Km := Km) (by first | decide | omega) y5 hE.2.1
  have hsm : ∀ {B2 : zB}, khB s B1 B2 → IV cc Km K1 F1 B2 Fm Bm := fun kb => IV_sm hE hZ hc hP hM hD m0 hv y2 y3 y4 y5 y6 y7 y8 y9 y10 y11 kb
  have hV1 : IV cc Km K1 F1 B1 Fm Bm := hsm (fun _ _ _ _ _ => rfl)
  obtain ⟨t, F3, B3, K3, e3, st, hq3⟩ := C_stm hK g9 hU (PQs_k h hP) o3.2.2
  have hV3 := IV_st hE hZ hc hP hM m0 ln st
  by_cases c9 : a2 = 9
  · -- the key heard
    have hS : F1 5 s 1 = 0 → 0 ≤ F1 5 s 0 ∧ F1 5 s 0 ≤ 2000 ∧ SB s (F1 5 s 0) B1 := fun z => by
      rcases z4 with ⟨g1, g2, g3, g4, g5⟩ | ⟨g1, g2, g3⟩
      · refine ⟨g3, g4, fun j j0 j1 => ?_⟩
        obtain ⟨b1, b2, b3, b4, b5, b6, b7⟩ := g5 j j0 j1
        exact ⟨b1.2, b2.2, b3.2, b4.2, b5.2, b7.1, b6.2⟩
      · omega
    have h51 : F1 5 s 1 = 0 ∨ F1 5 s 1 = 1 := by
      rcases z4 with ⟨g1, _⟩ | ⟨g1, _⟩
      · exact Or.inl g1
      · exact Or.inr g1
    obtain ⟨r, B2, ek, kb⟩ := C_khd (by rw [y2]; exact hK) y3 h51 hS
    obtain ⟨r', el⟩ := L_key (K := Km) (by first | decide | omega) z1 z4 ⟨z5, z6⟩ (TQm_e hU.2.2.2.2.2.2 (fun k x hk => z3 14 0 k x (by first | decide | omega)))
    refine ⟨r, F1, B2, K1, r', Fm', Bm', ?_, ?_, IV_s (hsm kb) (fun i y k n => z2 i y k (by first | decide | omega)) (fun c y k x n => z3 c y k x (by first | decide | omega))⟩
    · unfold f_S_look f_S_look_139
      rw [if_pos h12, x1]
      simp only [zbN_s]
      rw [if_neg (by first | decide | omega), if_pos h2, if_neg (by first | decide | omega), if_neg (by first | decide | omega), if_neg (by first | decide | omega), if_neg (by first | decide | omega), if_neg (by first | decide | omega), if_neg (by first | decide | omega), if_neg (by first | decide | omega), if_neg (by first | decide | omega), if_neg (by first | decide | omega), if_pos c9, if_pos hq, y1]
      simp only [zbM_s]
      rw [if_pos y3, ek]
      simp only [zbN_s]
    · unfold f_M_look
      rw [x3, zb_s, if_neg (by first | decide | omega), if_pos h2, if_neg (by first | decide | omega), if_neg (by first | decide | omega), if_neg (by first | decide | omega), if_neg (by first | decide | omega), if_neg (by first | decide | omega), if_neg (by first | decide | omega), if_neg (by first | decide | omega), if_neg (by first | decide | omega), if_neg (by first | decide | omega), if_pos c9, if_pos hv, el, zb_s]
  have hR : ∃ r, f_M_look Km a1 a2 Fm Bm = some (r, Fm, Bm) := by
    unfold f_M_look f_M_look_111
    rw [x3, zb_s]
    exact zR_i (fun _ => zR_s) (fun _ => zR_g h2 (zR_i (fun _ => zR_g hv zR_s) (fun _ => zR_i (fun _ => zR_g hv zR_s) (fun _ => zR_i (fun _ => zR_g hv zR_s) (fun _ => zR_i (fun _ => zR_g hv (zR_g (by unfold r32; omega) (zR_i (fun _ => zR_s) (fun _ => zR_s)))) (fun _ => zR_i (fun _ => zR_g hv zR_s) (fun _ => zR_i (fun _ => zR_g hv zR_s) (fun _ => zR_i (fun _ => zR_g hv zR_s) (fun _ => zR_i (fun _ => zR_g hv zR_s) (fun _ => zR_i (fun _ => zR_g hv zR_s) (fun _ => zR_i (fun a => absurd a c9) (fun _ => zR_i (fun _ => zR_g hv zR_s) (fun _ => zR_i (fun _ => zR_g hv zR_s) (fun _ => zR_i (fun _ => zR_g hv zR_s) (fun _ => zR_i (fun _ => zR_g hv zR_s) (fun _ => zR_s))))))))))))))))
  obtain ⟨r', eM⟩ := hR
  have d10 := hD.1
  unfold f_S_look f_S_look_123 f_S_look_131 f_S_look_161 f_S_look_173 f_S_look_180 f_S_look_193 f_S_look_201 f_S_look_213 f_S_look_220
  rw [if_pos h12, x1]
  simp only [zbN_s]
  rw [if_neg (by first | decide | omega), if_pos h2]
  have stay : ∀ r : Int, ∃ r1 F1 B1 K1 r2 F2 B2, some (r, F, B, K) = some (r1, F1, B1, K1) ∧ f_M_look Km a1 a2 Fm Bm = some (r2, F2, B2) ∧ IV cc Km K1 F1 B1 F2 B2 := fun r => ⟨r, F, B, K, r', Fm, Bm, rfl, eM, h⟩
  by_cases c0 : a2 = 0
  · rw [if_pos c0, if_pos hq]; exact stay _
  rw [if_neg c0]
  by_cases c1 : a2 = 1
  · rw [if_pos c1, if_pos hq]; exact stay _
  rw [if_neg c1]
  by_cases c2 : a2 = 2
  · rw [if_pos c2, if_pos hq]; exact stay _
  rw [if_neg c2]
  by_cases c3 : a2 = 3
  · rw [if_pos c3, if_pos hq]; exact stay _
  rw [if_neg c3]
  by_cases c4 : a2 = 4
  · rw [if_pos c4, if_pos hq]; exact stay _
  rw [if_neg c4]
  by_cases c5 : a2 = 5
  · rw [if_pos c5, if_pos hq]; exact stay _
  rw [if_neg c5]
  by_cases c6 : a2 = 6
  · rw [if_pos c6, if_pos hq]; exact stay _
  rw [if_neg c6]
  by_cases c7 : a2 = 7
  · rw [if_pos c7, if_pos hq, e3]
    simp only [zbM_s]
    rw [if_pos st.2.1]
    exact ⟨_, F3, B3, K3, r', Fm, Bm, rfl, eM, hV3⟩
  rw [if_neg c7]
  by_cases c8 : a2 = 8
  · rw [if_pos c8, if_pos hq, e3]
    simp only [zbM_s]
    rw [if_pos st.2.1]
    exact ⟨_, F3, B3, K3, r', Fm, Bm, rfl, eM, hV3⟩
  rw [if_neg c8, if_neg c9]
  by_cases c10 : a2 = 10
  · rw [if_pos c10, if_pos hq]
    by_cases n8 : F 6 q 8 < 0
    · rw [if_pos n8]; exact stay _
    · rw [if_neg n8, if_pos ⟨(by first | decide | omega), o3.1⟩]; exact stay _
  rw [if_neg c10]
  by_cases c11 : a2 = 11
  · rw [if_pos c11, if_pos hq, if_pos (by unfold r32; omega)]
    by_cases z : F 6 q 10 = 0
    · rw [if_pos z]; exact stay _
    · rw [if_neg z, y1]
      simp only [zbM_s]
      rw [if_pos y3]
      exact ⟨_, F1, B1, K1, r', Fm, Bm, rfl, eM, hV1⟩
  rw [if_neg c11]
  by_cases c12 : a2 = 12
  · rw [if_pos c12, if_pos hq, if_pos (by unfold r32; omega)]
    by_cases z : F 6 q 10 = 0
    · rw [if_pos z]; exact stay _
    · rw [if_neg z, y1]
      simp only [zbM_s]
      rw [if_pos y3]
      exact ⟨_, F1, B1, K1, r', Fm, Bm, rfl, eM, hV1⟩
  rw [if_neg c12]
  by_cases c13 : a2 = 13
  · rw [if_pos c13, if_pos hq, if_pos (by unfold r32; omega)]
    by_cases z : F 6 q 10 = 0
    · rw [if_pos z]; exact stay _
    · rw [if_neg z, y1]
      simp only [zbM_s]
      rw [if_pos y3]
      exact ⟨_, F1, B1, K1, r', Fm, Bm, rfl, eM, hV1⟩
  rw [if_neg c13]; exact stay _
end
end
