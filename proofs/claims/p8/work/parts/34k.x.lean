section
/-! ===== the call of x ===== -/
variable {cc : Int}
theorem nd_64 {p : Int} (p0 : 0 ≤ p ∧ p ≤ 1000000000000) : r64 (nu p) ∧ r64 (de p) := by
  have g := gc_pos (a := p) (b := WW) (by decide)
  have q1 : 0 ≤ p / gc p WW := Int.ediv_nonneg p0.1 (by first | decide | omega)
  have q2 : p / gc p WW ≤ p := Int.ediv_le_self _ p0.1
  have q3 : 0 ≤ WW / gc p WW := Int.ediv_nonneg (by decide) (by first | decide | omega)
  have q4 : WW / gc p WW ≤ WW := Int.ediv_le_self _ (by decide)
  have e : WW = 812851200 := rfl
  unfold nu de r64
  omega
theorem C_cx27 {K : zK} {l b v : Int} {F : zF} {B : zB} (hl : 0 ≤ l ∧ l < K.2 2) (hB : LBl l B) (hb : 0 ≤ b ∧ b < 100) (rv : r64 v) : ∀ (d N : Nat) (j : Int), 3200 ≤ j + d → 0 ≤ j → j ≤ 3200 → d < N → zR (f_Layout_columnX_27 K N j l b v F B) F B := by
  have b5 := (hB (b + 1)).2.2.1
  intro d
  induction d with
  | zero =>
    intro N j hj j0 j1 hN
    obtain ⟨n, rfl⟩ : ∃ n, N = n + 1 := ⟨N - 1, (by first | decide | omega)⟩
    rw [f_Layout_columnX_27, if_pos hl, if_pos (by first | decide | omega), if_pos (by unfold r32; omega), if_pos (by unfold r32; omega), if_pos (by first | decide | omega)]
    exact zR_s
  | succ d ih =>
    intro N j hj j0 j1 hN
    obtain ⟨n, rfl⟩ : ∃ n, N = n + 1 := ⟨N - 1, (by first | decide | omega)⟩
    rw [f_Layout_columnX_27]
    exact zR_g hl (zR_g (by first | decide | omega) (zR_g (by unfold r32; omega) (zR_g (by unfold r32; omega) (zR_i (fun _ => zR_s) (fun c => zR_g (by first | decide | omega) (zR_g (hB j).1 (zR_g rv (zR_i (fun _ => zR_s) (fun _ => ih n (j + 1) (by first | decide | omega) (by first | decide | omega) (by first | decide | omega) (by first | decide | omega))))))))))
section
variable {K : Nat} {w : Int} {F : zF} {B : zB}
theorem m42 {V nb : Int} (h : CDn V w nb 3200 B) : ∀ (d : Nat) (s t : Int), s + d = t → 0 ≤ s → t ≤ nb → B 13 w 42 s ≤ B 13 w 42 t := by
  intro d
  induction d with
  | zero =>
    intro s t hs s0 t1
    rw [show s = t by omega]; exact Int.le_refl _
  | succ d ih =>
    intro s t hs s0 t1
    have k := ih (s + 1) t (by first | decide | omega) (by first | decide | omega) t1
    have := (h.1 s s0 (by first | decide | omega)).2.1
    omega
theorem L_x199 {V nb b j col : Int} (w0 : 0 ≤ w ∧ w < 3) (hM : CDn V w nb 3200 B) (hL : LNok w F B) (h7 : F 13 w 7 = nb) (n0 : 0 ≤ nb ∧ nb ≤ 100) (j0 : 0 ≤ j ∧ j < F 13 w 48) (hb : B 13 w 49 j ≤ b ∧ b < B 13 w 49 j + B 13 w 50 j) (hc : B 13 w 42 b ≤ col ∧ col < B 13 w 42 (b + 1)) : ∀ (d N : Nat) (i v : Int), col ≤ i + d → 0 ≤ i → d < N → i ≤ 3200 → zR (f_M_x_199 K N i v col (B 13 w 42 (B 13 w 49 j)) j w F B) F B := by
  obtain ⟨k1, k2, k3, k4, k5, k6⟩ := hL
  obtain ⟨q1, q2, q3, q4⟩ := k3 j j0.1 j0.2
  have c3 := (hM.1 b (by first | decide | omega) (by first | decide | omega)).2.2
  have c0 := (hM.1 b (by first | decide | omega) (by first | decide | omega)).1
  have m1 := m42 hM (b - B 13 w 49 j).toNat (B 13 w 49 j) b (by first | decide | omega) q1 (by first | decide | omega)
  have m2 := m42 hM (B 13 w 49 j + B 13 w 50 j - (b + 1)).toNat (b + 1) (B 13 w 49 j + B 13 w 50 j) (by first | decide | omega) (by first | decide | omega) (by first | decide | omega)
  have m3 : B 13 w 42 (B 13 w 49 j + B 13 w 50 j) ≤ 3200 := by
    have := (hM.1 (B 13 w 49 j + B 13 w 50 j - 1) (by first | decide | omega) (by first | decide | omega)).2.2
    rw [show B 13 w 49 j + B 13 w 50 j - 1 + 1 = B 13 w 49 j + B 13 w 50 j by omega] at this
    exact this
  have m4 := (hM.1 (B 13 w 49 j) q1 (by first | decide | omega)).1
  have o258 : ∀ v s, (s = 0 ∨ s = 1) → zR (f_M_x_258 K v col (B 13 w 42 (B 13 w 49 j)) j w s F B) F B := fun v s hs => by
    unfold f_M_x_258 f_M_x_301 f_M_lineColumns
    refine zR_g (by unfold r32; omega) (zR_i (fun _ => zR_s) (fun _ => zR_g w0 (zR_g (by first | decide | omega) ?_)))
    rw [if_pos w0, if_pos (by first | decide | omega), if_pos (by first | decide | omega), if_pos (by first | decide | omega), zb_s]
    exact zR_g (iI_n0 (by first | decide | omega) (by unfold r32; omega)) zR_s
  have o257 : ∀ v, zR (f_M_x_257 K v col (B 13 w 42 (B 13 w 49 j)) j w F B) F B := fun v => o258 v 0 (Or.inl rfl)
  intro d
  induction d with
  | zero =>
    intro N i v hi i0 hN i1
    obtain ⟨n, rfl⟩ : ∃ n, N = n + 1 := ⟨N - 1, (by first | decide | omega)⟩
    rw [f_M_x_199, if_pos (by unfold r32; omega), if_pos (by unfold r32; omega), if_pos (by first | decide | omega)]
    exact zR_g w0 (zR_g (by first | decide | omega) (zR_g q4 (zR_g k2 (zR_i (fun _ => o257 v) (fun _ => zR_g (by unfold r32; omega) (zR_g (by unfold r32; omega) (zR_i (fun _ => o257 v) (fun _ => o258 v 1 (Or.inr rfl)))))))))
  | succ d ih =>
    intro N i v hi i0 hN i1
    obtain ⟨n, rfl⟩ : ∃ n, N = n + 1 := ⟨N - 1, (by first | decide | omega)⟩
    rw [f_M_x_199]
    exact zR_g (by unfold r32; omega) (zR_g (by unfold r32; omega) (zR_i (fun _ => zR_g w0 (zR_g (by first | decide | omega) (zR_g q4 (zR_g k2 (zR_i (fun _ => o257 v) (fun _ => zR_g (by unfold r32; omega) (zR_g (by unfold r32; omega) (zR_i (fun _ => o257 v) (fun _ => o258 v 1 (Or.inr rfl)))))))))) (fun c => zR_g w0 (zR_g (by first | decide | omega) (ih n (i + 1) _ (by first | decide | omega) (by first | decide | omega) (by first | decide | omega) (by first | decide | omega))))))
theorem L_x117 {V nb b j yn J : Int} (hK : 5000 ≤ K) (w0 : 0 ≤ w ∧ w < 3) (hM : CDm V w nb 3200 B) (hL : LNok w F B) (h2 : -7 ≤ F 13 w 2 ∧ F 13 w 2 ≤ 7) (h7 : F 13 w 7 = nb) (n0 : 0 ≤ nb ∧ nb ≤ 100) (j0 : 0 ≤ j ∧ j < F 13 w 48) (hb : B 13 w 49 j ≤ b ∧ b < B 13 w 49 j + B 13 w 50 j) (hy : 0 ≤ yn ∧ yn < 3200) (r3 : r64 (B 13 w 32 yn) ∧ r64 (B 13 w 33 yn)) (hJ : B 13 w 42 b ≤ J ∧ J < B 13 w 42 (b + 1)) (e3 : B 13 w 43 J = B 13 w 32 yn ∧ B 13 w 44 J = B 13 w 33 yn) : ∀ (d N : Nat) (col : Int), col + d = J → B 13 w 42 b ≤ col → d < N → zR (f_M_x_117 K N col (B 13 w 42 (B 13 w 49 j)) j b yn w F B) F B := by
  have hL' := hL
  obtain ⟨k1, k2, k3, k4, k5, k6⟩ := hL
  obtain ⟨q1, q2, q3, q4⟩ := k3 j j0.1 j0.2
  have c3 := (hM.1.1 b (by first | decide | omega) (by first | decide | omega)).2.2
  have c0 := (hM.1.1 b (by first | decide | omega) (by first | decide | omega)).1
  have c4 := (hM.1.1 (B 13 w 49 j) q1 (by first | decide | omega)).1
  have m1 := m42 hM.1 (b - B 13 w 49 j).toNat (B 13 w 49 j) b (by first | decide | omega) q1 (by first | decide | omega)
  have fnd : ∀ col, B 13 w 42 b ≤ col → col ≤ J → zR (zbind (f_M_ahead K w (B 13 w 49 j) F B) (fun r31 F31 B31 => f_M_x_199 K K (B 13 w 42 (B 13 w 49 j)) (r31 + (6 * ((b - (B31 13 w 49 j)) + 1))) col (B 13 w 42 (B 13 w 49 j)) j w F31 B31)) F B := fun col l0 l1 => by
    obtain ⟨r, e, _⟩ := L_ahd (K := K) (F := F) (B := B) w0 h2 (a := B 13 w 49 j) (by unfold r32; omega)
    rw [e, zb_s]
    exact L_x199 w0 hM.1 hL' h7 n0 j0 hb (by first | decide | omega) 3200 K _ _ (by first | decide | omega) c4 (by first | decide | omega) (by first | decide | omega)
  intro d
  induction d with
  | zero =>
    intro N col hc l0 hN
    obtain ⟨n, rfl⟩ : ∃ n, N = n + 1 := ⟨N - 1, (by first | decide | omega)⟩
    have r4 := hM.2 b col (by first | decide | omega) (by first | decide | omega) (by first | decide | omega) (by first | decide | omega)
    have ec : col = J := by omega
    rw [f_M_x_117]
    refine zR_g w0 (zR_g (by first | decide | omega) (zR_g hy (zR_g r4.1 (zR_g r3.1 (zR_i (fun _ => zR_g r4.2 (zR_g r3.2 (zR_i (fun _ => zR_g (by first | decide | omega) (fnd col l0 (by first | decide | omega))) (fun a => absurd (zcmp_0.mpr (by rw [ec]; exact e3.2)) a)))) (fun a => absurd (zcmp_0.mpr (by rw [ec]; exact e3.1)) a))))))
  | succ d ih =>
    intro N col hc l0 hN
    obtain ⟨n, rfl⟩ : ∃ n, N = n + 1 := ⟨N - 1, (by first | decide | omega)⟩
    have r4 := hM.2 b col (by first | decide | omega) (by first | decide | omega) (by first | decide | omega) (by first | decide | omega)
    have nxt : zR (f_M_x_157 (f_M_x_117 K n) K col (B 13 w 42 (B 13 w 49 j)) j b yn w F B) F B := ih n (col + 1) (by first | decide | omega) (by first | decide | omega) (by first | decide | omega)
    rw [f_M_x_117]
    exact zR_g w0 (zR_g (by first | decide | omega) (zR_g hy (zR_g r4.1 (zR_g r3.1 (zR_i (fun _ => zR_g r4.2 (zR_g r3.2 (zR_i (fun _ => zR_g (by first | decide | omega) (fnd col l0 (by first | decide | omega))) (fun _ => nxt)))) (fun _ => nxt))))))
theorem L_x63 {V nb b yn J : Int} (hK : 5000 ≤ K) (w0 : 0 ≤ w ∧ w < 3) (hM : CDm V w nb 3200 B) (hL : LNok w F B) (h2 : -7 ≤ F 13 w 2 ∧ F 13 w 2 ≤ 7) (h7 : F 13 w 7 = nb) (n0 : 0 ≤ nb ∧ nb ≤ 100) (hb : 0 ≤ b ∧ b < nb) (hy : 0 ≤ yn ∧ yn < 3200) (r3 : r64 (B 13 w 32 yn) ∧ r64 (B 13 w 33 yn)) (hJ : B 13 w 42 b ≤ J ∧ J < B 13 w 42 (b + 1)) (e3 : B 13 w 43 J = B 13 w 32 yn ∧ B 13 w 44 J = B 13 w 33 yn) : ∀ (d N : Nat) (j : Int), j + d = F 13 w 48 - 1 → 0 ≤ j → d < N → B 13 w 49 j ≤ b → zR (f_M_x_63 K N j b yn w F B) F B := by
  have hL' := hL
  obtain ⟨k1, k2, k3, k4, k5, k6⟩ := hL
  have c3 := (hM.1.1 b hb.1 hb.2).2.2
  have c0 := (hM.1.1 b hb.1 hb.2).1
  intro d
  induction d with
  | zero =>
    intro N j hj j0 hN l0
    obtain ⟨n, rfl⟩ : ∃ n, N = n + 1 := ⟨N - 1, (by first | decide | omega)⟩
    obtain ⟨q1, q2, q3, q4⟩ := k3 j j0 (by first | decide | omega)
    rw [← show j = F 13 w 48 - 1 by omega] at k6
    rw [f_M_x_63]
    exact zR_g w0 (zR_g (by first | decide | omega) (zR_g (by unfold r32; omega) (zR_g (by unfold r32; omega) (zR_i (fun c => zR_g (by first | decide | omega) (zR_g (by first | decide | omega) (L_x117 hK w0 hM hL' h2 h7 n0 (by first | decide | omega) (by first | decide | omega) hy r3 hJ e3 (J - B 13 w 42 b).toNat K _ (by first | decide | omega) (Int.le_refl _) (by first | decide | omega)))) (fun c => (by first | decide | omega))))))
  | succ d ih =>
    intro N j hj j0 hN l0
    obtain ⟨n, rfl⟩ : ∃ n, N = n + 1 := ⟨N - 1, (by first | decide | omega)⟩
    obtain ⟨q1, q2, q3, q4⟩ := k3 j j0 (by first | decide | omega)
    rw [f_M_x_63]
    exact zR_g w0 (zR_g (by first | decide | omega) (zR_g (by unfold r32; omega) (zR_g (by unfold r32; omega) (zR_i (fun c => zR_g (by first | decide | omega) (zR_g (by first | decide | omega) (L_x117 hK w0 hM hL' h2 h7 n0 (by first | decide | omega) (by first | decide | omega) hy r3 hJ e3 (J - B 13 w 42 b).toNat K _ (by first | decide | omega) (Int.le_refl _) (by first | decide | omega)))) (fun c => ih n (j + 1) (by first | decide | omega) (by first | decide | omega) (by first | decide | omega) (by rw [k5 j j0 (by first | decide | omega)]; omega))))))
end
theorem p_x {Km : Nat} (a1 a2 a3 : Int) (h1 : r32 a1) (h2 : r32 a2) (h3 : r32 a3) {K : zK} {F Fm : zF} {B Bm : zB} (h : IV cc Km K F B Fm Bm) : ∃ r1 F1 B1 r2 F2 B2, f_S_x K 0 a1 a2 a3 F B = some (r1, F1, B1) ∧ f_M_x Km a1 a2 a3 Fm Bm = some (r2, F2, B2) ∧ IV cc Km K F1 B1 F2 B2 := by
  have hK := (IV_k h).1
  have hKm := (IV_k h).2.1
  have hU := IV_u h
  obtain ⟨x, y, e, e1, e2, e3, e4⟩ := prt h h1 h2
  obtain ⟨x', y', e1', e2', e3'⟩ := slotL h h1
  refine rd2 h ?_ ?_
  · unfold f_S_x f_S_x_46
    rw [if_pos (IV_12 h), e1, zb_s, e1', zb_s]
    rcases e4 with ⟨x0, _⟩ | ⟨_, x0, y0, z0, q, V, vV, ex, hP, _⟩
    · exact zR_i (fun _ => zR_s) (fun a => absurd x0 a)
    rcases e3' with ⟨x0', _⟩ | ⟨x0', y0', V', hP', hM', hD', ln, l8, _⟩
    · exact zR_i (fun _ => zR_s) (fun _ => zR_i (fun _ => zR_s) (fun a => absurd x0' a))
    obtain ⟨_, m, g, hV, _⟩ := hP.2.2 a2 z0.1 vV
    rw [← ex] at hV
    obtain ⟨_, _, _, _, _, _, _, _, c, nw, qn, gb⟩ := hV
    have c0 := nw.1
    have n10 := nw.2.1
    refine zR_i (fun _ => zR_s) (fun _ => zR_i (fun _ => zR_s) (fun _ => zR_g x0' (zR_i (fun _ => zR_s) (fun n8 => zR_g h3 (zR_i (fun _ => zR_s) (fun n3 => zR_g x0 (zR_g (by rw [n10]; unfold r32; omega) (zR_i (fun l3 => ?_) (fun _ => zR_s)))))))))
    rw [n10] at l3
    obtain ⟨k0, k1, k9, _⟩ := nw.2.2.2.2 a3 (by first | decide | omega) l3
    have hl : 0 ≤ F 6 x' 8 ∧ F 6 x' 8 < K.2 2 := ⟨(by first | decide | omega), l8⟩
    obtain ⟨q0, q4, hB⟩ := hU.2.1 (F 6 x' 8) hl.1 l8
    refine zR_g (by first | decide | omega) (zR_g hl (zR_b ?_ (fun _ => zR_s)))
    unfold f_Layout_columnX f_Layout_columnX_17
    have b5 := (hB (B 4 x 361 a3)).2.2.1
    exact zR_g hl (zR_g (by unfold r32; omega) (zR_i (fun _ => zR_s) (fun _ => zR_g (by unfold r32; omega) (zR_i (fun _ => zR_s) (fun _ => zR_i (fun lb => zR_g (by first | decide | omega) (C_cx27 hl hB (by first | decide | omega) (by unfold r64; omega) 3200 K.1 _ (by first | decide | omega) b5.1 b5.2 (by first | decide | omega))) (fun _ => zR_s))))))
  · unfold f_M_x f_M_x_39
    rw [e2, zb_s, e3, zb_s]
    rcases e4 with ⟨_, e0⟩ | ⟨e0, x0, y0, z0, q, V, vV, ex, hP, hM, _⟩
    · rw [e0]; exact zR_g (by decide) (zR_i (fun _ => zR_s) (fun a => absurd rfl a))
    have yy : y' = y := by
      rw [e2] at e2'
      injection e2' with t
      injection t with t
      exact t.symm
    rw [yy] at e3'
    rcases e3' with ⟨_, yn⟩ | ⟨x0', y0', V', hP', hM', hD', ln, l8, _⟩
    · omega
    obtain ⟨_, m, g, hV, h7⟩ := hP.2.2 a2 z0.1 vV
    rw [← ex] at hV h7
    obtain ⟨v1, v2, v3, v4, v5, _, _, _, c, nw, qn, gb⟩ := hV
    have c0 := nw.1
    have n13 := nw.2.2.2.1
    have k7 := hP.2.1.2.2.2.2.2
    have k2 : -7 ≤ Fm 13 y 2 ∧ Fm 13 y 2 ≤ 7 := by have := hP.2.1.1; omega
    rw [e0]
    refine zR_g (by decide) (zR_i (fun a => absurd a (by decide)) (fun _ => zR_g h3 (zR_i (fun _ => zR_s) (fun n3 => zR_g y0 (zR_g z0 (zR_g (by rw [n13]; unfold r32; omega) (zR_i (fun _ => zR_s) (fun l3 => ?_))))))))
    rw [n13] at l3
    obtain ⟨k0, k1, k9, _, _, zz⟩ := nw.2.2.2.2 a3 (by first | decide | omega) (by first | decide | omega)
    rcases ln with z48 | ln
    · exact zR_g (by rw [z48]; decide) (zR_i (fun _ => zR_s) (fun a => absurd z48 a))
    have n48 := ln.1
    have hb : 0 ≤ Bm 13 y 31 (800 * a2 + a3) ∧ Bm 13 y 31 (800 * a2 + a3) < Fm 13 y 7 := by
      rw [← k1.1]
      have zE := zz.2
      rw [← v5, ← h7] at zE
      exact ⟨k1.2.1, zE⟩
    obtain ⟨J, j1, j2, j3, j4⟩ := hM.2.1.1.2 a2 (800 * a2 + a3) z0.1 vV (by first | decide | omega) (by rw [n13]; omega) hb.1 hb.2
    have r3 := nd_64 ⟨k9.1, k9.2.1⟩
    rw [← k9.2.2.1, ← k9.2.2.2] at r3
    exact zR_g (by unfold r32; omega) (zR_i (fun _ => zR_s) (fun _ => zR_g (by first | decide | omega) (L_x63 (by first | decide | omega) y0 hM.2.1 ln k2 rfl (by first | decide | omega) hb (by first | decide | omega) r3 ⟨j1, j2⟩ ⟨j3, j4⟩ (Fm 13 y 48 - 1).toNat Km 0 (by first | decide | omega) (by decide) (by first | decide | omega) (by rw [ln.2.2.2.1]; exact hb.1))))
end
