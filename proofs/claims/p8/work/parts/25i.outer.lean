section
/-! ===== brackets judged: the reference ===== -/
theorem FR_k {n d bar r : Int} (h : FR n d bar) (r0 : 0 ≤ r) : FR (r * n) d (r * bar) := by
  obtain ⟨a, b, c, e⟩ := h
  exact ⟨a, b, Int.mul_nonneg r0 c, by rw [Int.mul_assoc, e, Int.mul_assoc]⟩
/-- the step of the reference's loop ahead of the ties -/
def joS (rec : Int → Int → Int → zF → zB → zO) (K : Nat) (l3 l2 l1 : Int) (F10 : zF) (B10 : zB) : zO := if 0 ≤ (F10 14 0 6) ∧ (F10 14 0 6) < 3 then if 0 ≤ (l1 + l3) ∧ (l1 + l3) < 4000 then if r32 (B10 13 (F10 14 0 6) 25 (l1 + l3)) then (if (B10 13 (F10 14 0 6) 25 (l1 + l3)) ≤ 0 then f_M_judge_115 rec K (l1 + l3) l3 l2 l1 F10 B10 else (if l3 = 0 then f_M_judge_110 rec K (l1 + l3) l3 l2 l1 F10 B10 else if 0 ≤ ((l1 + l3) - 1) ∧ ((l1 + l3) - 1) < 4000 then if r32 (B10 13 (F10 14 0 6) 25 ((l1 + l3) - 1)) then (if (B10 13 (F10 14 0 6) 25 ((l1 + l3) - 1)) = (B10 13 (F10 14 0 6) 25 (l1 + l3)) then f_M_judge_115 rec K (l1 + l3) l3 l2 l1 F10 B10 else f_M_judge_110 rec K (l1 + l3) l3 l2 l1 F10 B10) else none else none)) else none else none else none
theorem joS_e {K n : Nat} {l3 l2 l1 : Int} {F : zF} {B : zB} : f_M_judge_48 K (n + 1) l3 l2 l1 F B = if r32 l3 then if r32 (F 14 0 36) then (if (F 14 0 36) ≤ l3 then f_M_judge_265 K l2 F B else zbind (f_M_good K F B) (fun r10 F10 B10 => if r32 r10 then (if r10 = 0 then f_M_judge_265 K l2 F10 B10 else joS (f_M_judge_48 K n) K l3 l2 l1 F10 B10) else none)) else none else none := rfl
theorem L_jo {K : zK} {Km m i j : Nat} {q v w n d : Int} {g : Int → Int} {F : zF} {B : zB} {Fm : zF} {Bm : zB} (hKm : 812851200 < Km) (v0 : 0 ≤ v ∧ v < 4) (w0 : 0 ≤ w ∧ w < 3) (hn : 1 ≤ n ∧ n ≤ 12) (hd : d = 2 ∨ d = 4 ∨ d = 8 ∨ d = 16) (m4 : Fm 13 w 4 = n) (m5 : Fm 13 w 5 = d) (hJ : JS K q v w m (barV n d) g F B Fm Bm) (h17 : Fm 14 0 17 = 0) (hi : i < m) (ij : i < j) (jm : j ≤ m) (hl : f_M_lastOuter Km w (1000 * v + i) (1000 * v + m) Fm Bm = some (1000 * v + j - 1, Fm, Bm)) (h26 : 0 ≤ Bm 13 w 26 (1000 * v + i) ∧ Bm 13 w 26 (1000 * v + i) ≤ 3000) : ∃ G, (∀ c y k, ¬ (c = 14 ∧ y = 0 ∧ k ≤ 1) → G c y k = Fm c y k) ∧ f_M_judgeOuter Km i Fm Bm = some (0, if sumZ g j ≤ (sumZ g i / barV n d + 1) * barV n d ∧ (sumZ g j - sumZ g i) % 6350400 = 0 then G else flM G Bm 13 (Bm 13 w 26 (1000 * v + i)), Bm) := by
  obtain ⟨⟨c6, c36, c35, cw, mm0, mm1⟩, hg, hs, he, hV⟩ := hJ
  obtain ⟨b1, b2, b3, b4, b5⟩ := bar_v hn hd
  have ei := he i hi
  obtain ⟨k, rfl⟩ : ∃ k, j = k + 1 := ⟨j - 1, (by first | decide | omega)⟩
  have ek := he k (by first | decide | omega)
  have ek5 := ek.1.2.2.2.2.1
  have gk := hg k (by first | decide | omega) (by first | decide | omega)
  have s0 := sumZ_0 hg i (by first | decide | omega)
  have s1 := sumZ_0 hg k (by first | decide | omega)
  have s2 := sumZ_m hg (m - (k + 1)) (k + 1) (by first | decide | omega)
  have s3 : sumZ g i < sumZ g (k + 1) := by
    have := sumZ_m (m := k + 1) (fun j a b => hg j a (by first | decide | omega)) (k + 1 - i) i (by first | decide | omega)
    omega
  have e1 : sumZ g (k + 1) = sumZ g k + g k := rfl
  generalize hbar : barV n d = bar at *
  generalize hP : sumZ g i = P at *
  generalize hQ : sumZ g (k + 1) = Q at *
  have q0 : 0 ≤ P / bar := Int.ediv_nonneg s0 (by first | decide | omega)
  have q1 := Int.mul_ediv_add_emod P bar
  have q2 := Int.emod_nonneg P (show bar ≠ 0 by omega)
  have q3 := Int.emod_lt_of_pos P b4
  have q4 : (P / bar + 1) * bar = bar * (P / bar) + bar := by rw [Int.add_mul, Int.one_mul, Int.mul_comm]
  have rn : r32 n := by unfold r32; omega
  have rd : r32 d := by unfold r32; omega
  unfold f_M_judgeOuter
  rw [cw, if_pos w0, c35, c36, hl, zb_s, cw, if_pos w0, if_pos (by first | decide | omega), show 1000 * v + ((k + 1 : Nat) : Int) - 1 = 1000 * v + k by omega, ek.2.2.1, ek.2.2.2.1, ek5.1, ek5.2.1, ek.2.2.2.2, L_plusR hKm (FR_r s1) (FR_r (by first | decide | omega)) (by first | decide | omega), zb_s, ← e1]
  have f6 : fr Fm Q 14 0 6 = w := by rw [fr_n (by first | decide | omega)]; exact cw
  have f4 : fr Fm Q 13 w 4 = n := by rw [fr_n (by first | decide | omega)]; exact m4
  have f5 : fr Fm Q 13 w 5 = d := by rw [fr_n (by first | decide | omega)]; exact m5
  rw [f6, if_pos w0, if_pos (by first | decide | omega), f4, f5, if_pos rn, if_pos rd, ei.2.2.1, ei.2.2.2.1, L_oftR (FR_r s0) b5 (by first | decide | omega) (by first | decide | omega) (by first | decide | omega) (by first | decide | omega) b4 (by first | decide | omega), zb_s, f6, if_pos w0, f4, f5, if_pos rn, if_pos rd, fr_0, fr_1, L_cmpR hKm (FR_r (by first | decide | omega)) (FR_k b1 (by first | decide | omega)) (by first | decide | omega) (by first | decide | omega), zb_s]
  have e160 : ∀ s : Int, s = 0 ∨ s = 1 → f_M_judgeOuter_160 Km (de Q) (nu Q) (1000 * v + i) s (fr Fm Q) Bm = some (0, if s = 1 ∧ (Q - P) % 6350400 = 0 then fr (fr Fm Q) (Q - P) else flM (fr (fr Fm Q) (Q - P)) Bm 13 (Bm 13 w 26 (1000 * v + i)), Bm) := by
    intro s hs'
    have g17 : fr (fr Fm Q) (Q - P) 14 0 17 = 0 := by rw [fr_n (by first | decide | omega), fr_n (by first | decide | omega)]; exact h17
    have g6 : fr (fr Fm Q) (Q - P) 14 0 6 = w := by rw [fr_n (by first | decide | omega), fr_n (by first | decide | omega)]; exact cw
    obtain ⟨d0, d1, d2⟩ := de_128 (D := Q - P) (by first | decide | omega)
    have WWe : WW = 812851200 := rfl
    have rz : 0 ≤ 128 % de (Q - P) ∧ 128 % de (Q - P) < de (Q - P) := ⟨Int.emod_nonneg _ (by first | decide | omega), Int.emod_lt_of_pos _ d0⟩
    have fail : f_M_judgeOuter_206 Km (1000 * v + i) (fr (fr Fm Q) (Q - P)) Bm = some (0, flM (fr (fr Fm Q) (Q - P)) Bm 13 (Bm 13 w 26 (1000 * v + i)), Bm) := by
      unfold f_M_judgeOuter_206 f_M_judgeOuter_221
      rw [g6, if_pos w0, if_pos (by first | decide | omega), L_failAt g17 (by first | decide | omega), zb_s]
    unfold f_M_judgeOuter_160
    rw [f6, if_pos w0, if_pos (by first | decide | omega), ei.2.2.1, ei.2.2.2.1, L_minusR hKm (FR_r (by first | decide | omega)) (FR_r s0) (by first | decide | omega) (by first | decide | omega), zb_s, fr_1]
    rcases hs' with rfl | rfl
    · rw [if_pos (by decide), if_pos rfl, if_neg (fun z => absurd z.1 (by decide))]
      exact fail
    · rw [if_pos (by decide), if_neg (by decide), if_pos (lI_n0 d0 (by unfold r64; omega)), zlrm_e (by decide) (by decide) d0 (by first | decide | omega), if_pos (by unfold r64; omega)]
      by_cases z : 128 % de (Q - P) = 0
      · rw [if_pos (zcmp_0.mpr z), f_M_judgeOuter_221, if_pos ⟨rfl, d2.mp z⟩]
      · rw [if_neg (fun t => z (zcmp_0.mp t)), if_neg (fun t => z (d2.mpr t.2))]
        exact fail
  refine ⟨fr (fr Fm Q) (Q - P), fun c y k h => by rw [fr_n h, fr_n h], ?_⟩
  by_cases z : Q ≤ (P / bar + 1) * bar
  · have r14 : ¬ 0 < (if Q < (P / bar + 1) * bar then (-1 : Int) else if Q = (P / bar + 1) * bar then 0 else 1) := by
      by_cases y : Q < (P / bar + 1) * bar
      · rw [if_pos y]; decide
      · rw [if_neg y, if_pos (by first | decide | omega)]; decide
    rw [if_pos (by split; decide; split <;> decide), if_neg r14, e160 1 (Or.inr rfl)]
    by_cases y : (Q - P) % 6350400 = 0
    · rw [if_pos ⟨rfl, y⟩, if_pos ⟨z, y⟩]
    · rw [if_neg (fun t => y t.2), if_neg (fun t => y t.2)]
  · have r14 : 0 < (if Q < (P / bar + 1) * bar then (-1 : Int) else if Q = (P / bar + 1) * bar then 0 else 1) := by
      rw [if_neg (by first | decide | omega), if_neg (by first | decide | omega)]; decide
    rw [if_pos (by split; decide; split <;> decide), if_pos r14, e160 0 (Or.inl rfl), if_neg (fun t => absurd t.1 (by decide)), if_neg (fun t => z t.1)]
/-- the bracket at event i, both sides -/
theorem P_outer {K : zK} {Km m i : Nat} {q v w n d op : Int} {g : Int → Int} {rec : Int → Int → Int → zF → zB → zO} {F : zF} {B : zB} {Fm : zF} {Bm : zB} (hK : 3002 ≤ K.1) (hKm : 812851200 < Km) (h4 : 0 ≤ q ∧ q < K.2 4) (v0 : 0 ≤ v ∧ v < 4) (w0 : 0 ≤ w ∧ w < 3) (hn : 1 ≤ n ∧ n ≤ 12) (hd : d = 2 ∨ d = 4 ∨ d = 8 ∨ d = 16) (m4 : Fm 13 w 4 = n) (m5 : Fm 13 w 5 = d) (hJ : JS K q v w m (barV n d) g F B Fm Bm) (h17 : Fm 14 0 17 = 0) (hi : i < m) : ∃ b G, f_Part_bracketStands K q i (barV n d) F B = some (b, F, B) ∧ (∀ c y k, ¬ (c = 14 ∧ y = 0 ∧ k ≤ 1) → G c y k = Fm c y k) ∧ ((b = 1 ∧ joS rec Km i op (1000 * v) Fm Bm = f_M_judge_115 rec Km (1000 * v + i) i op (1000 * v) G Bm ∧ BSk q m (barV n d) g F B i) ∨ (b = 0 ∧ joS rec Km i op (1000 * v) Fm Bm = f_M_judge_115 rec Km (1000 * v + i) i op (1000 * v) (flM G Bm 13 (Bm 13 w 26 (1000 * v + i))) Bm ∧ F 1 (B 4 q 5 i) 6 = Bm 14 0 8 (Bm 13 w 26 (1000 * v + i)) ∧ (0 ≤ Bm 13 w 26 (1000 * v + i) ∧ Bm 13 w 26 (1000 * v + i) ≤ 3000) ∧ (0 ≤ F 1 (B 4 q 5 i) 6 ∧ F 1 (B 4 q 5 i) 6 ≤ 3000))) := by
  have hJ' := hJ
  obtain ⟨⟨c6, c36, c35, cw, mm0, mm1⟩, hg, hs, he, hV⟩ := hJ
  obtain ⟨b1, b2, b3, b4, b5⟩ := bar_v hn hd
  obtain ⟨ei, p0, p14, p15, pg⟩ := he i hi
  have e5 := ei.2.2.2.2.2.1
  have e8 := ei.2.2.2.2.2.2.2.1
  have hie := hV i (by first | decide | omega) (by first | decide | omega)
  have r5 : r32 (F 1 (B 4 q 5 i) 5) := by unfold r32; omega
  have ri : r32 (i : Int) := by unfold r32; omega
  have s0 := sumZ_0 hg i (by first | decide | omega)
  by_cases z5 : F 1 (B 4 q 5 i) 5 = 0
  · refine ⟨1, Fm, ?_, fun _ _ _ _ => rfl, Or.inl ⟨rfl, ?_, Or.inl z5⟩⟩
    · unfold f_Part_bracketStands f_Part_bracketStands_42
      rw [if_pos h4, if_pos (by first | decide | omega), if_pos hie, if_pos r5, if_pos z5]
    · unfold joS
      rw [cw, if_pos w0, if_pos (by first | decide | omega), ← e5.1, if_pos r5, if_pos (by first | decide | omega)]
  · -- a bracket is asked for: its loop, and the reference's
    have go : ∃ b G, f_Part_bracketStands_36 K (F 1 (B 4 q 5 i) 5) q i (barV n d) F B = some (b, F, B) ∧ (∀ c y k, ¬ (c = 14 ∧ y = 0 ∧ k ≤ 1) → G c y k = Fm c y k) ∧ ((b = 1 ∧ f_M_judgeOuter Km i Fm Bm = some (0, G, Bm) ∧ BSk q m (barV n d) g F B i) ∨ (b = 0 ∧ f_M_judgeOuter Km i Fm Bm = some (0, flM G Bm 13 (Bm 13 w 26 (1000 * v + i)), Bm))) := by
      obtain ⟨k1, hk1⟩ : ∃ k, K.1 = k + 1 := ⟨K.1 - 1, (by first | decide | omega)⟩
      obtain ⟨j, j0, j1, j2, j3, j4, j5⟩ := br_j (Km := Km) h4 v0 w0 hJ' hi (m - (i + 1)) k1 Km (i + 1) (by first | decide | omega) (by first | decide | omega) (by first | decide | omega) (by first | decide | omega)
      rw [show 1000 * v + ((i + 1 : Nat) : Int) - 1 = 1000 * v + i by omega] at j3
      obtain ⟨G, gn, jo⟩ := L_jo (K := K) (Km := Km) (i := i) (j := j) hKm v0 w0 hn hd m4 m5 hJ' h17 hi (by first | decide | omega) j1 j3 ⟨(e8 (by first | decide | omega)).2.1, (e8 (by first | decide | omega)).2.2.1⟩
      have lt : sumZ g i < sumZ g j := by
        have := sumZ_m (m := j) (fun t a b => hg t a (by first | decide | omega)) (j - i) i (by first | decide | omega)
        omega
      have le := sumZ_m hg (m - j) j (by first | decide | omega)
      have c62 : f_Part_bracketStands_36 K (F 1 (B 4 q 5 i) 5) q i (barV n d) F B = f_Part_bracketStands_107 K (sumZ g j) (sumZ g i) (barV n d) F B := by
        unfold f_Part_bracketStands_36
        rw [if_pos (by unfold r64; omega), if_pos (zcmp_g.mpr b4), if_pos h4, if_pos (by first | decide | omega), if_pos hie, p0, show f_Part_bracketStands_62 K K.1 = f_Part_bracketStands_62 K (k1 + 1) by rw [← hk1], f_Part_bracketStands_62, if_pos h4, if_pos ri, c6, if_pos (by unfold r32; omega), if_neg (by first | decide | omega), if_pos (by first | decide | omega), if_pos hie, if_pos r5, if_pos r5, if_pos rfl, pg, ← j2]
        rfl
      rw [c62, C_107 s0 lt b4 (by first | decide | omega) (by first | decide | omega), jo]
      by_cases y : sumZ g j ≤ (sumZ g i / barV n d + 1) * barV n d ∧ (sumZ g j - sumZ g i) % 6350400 = 0
      · refine ⟨1, G, by rw [if_pos y], gn, Or.inl ⟨rfl, by rw [if_pos y], Or.inr (Or.inr ⟨j, (by first | decide | omega), j1, fun t a b => ?_, j5, y.1, y.2⟩)⟩⟩
        by_cases e : t = i
        · rw [e]
        · exact j4 t (by first | decide | omega) b
      · exact ⟨0, G, by rw [if_neg y], gn, Or.inr ⟨rfl, by rw [if_neg y]⟩⟩
    obtain ⟨b, G, g1, g2, g3⟩ := go
    have e110 : ∀ G', f_M_judgeOuter Km i Fm Bm = some (0, G', Bm) → f_M_judge_110 rec Km (1000 * v + i) i op (1000 * v) Fm Bm = f_M_judge_115 rec Km (1000 * v + i) i op (1000 * v) G' Bm := fun G' h => by
      unfold f_M_judge_110
      rw [h, zb_s]
    have fin : ∀ (cl : f_Part_bracketStands K q i (barV n d) F B = f_Part_bracketStands_36 K (F 1 (B 4 q 5 i) 5) q i (barV n d) F B) (mr : joS rec Km i op (1000 * v) Fm Bm = f_M_judge_110 rec Km (1000 * v + i) i op (1000 * v) Fm Bm), ∃ b G, f_Part_bracketStands K q i (barV n d) F B = some (b, F, B) ∧ (∀ c y k, ¬ (c = 14 ∧ y = 0 ∧ k ≤ 1) → G c y k = Fm c y k) ∧ ((b = 1 ∧ joS rec Km i op (1000 * v) Fm Bm = f_M_judge_115 rec Km (1000 * v + i) i op (1000 * v) G Bm ∧ BSk q m (barV n d) g F B i) ∨ (b = 0 ∧ joS rec Km i op (1000 * v) Fm Bm = f_M_judge_115 rec Km (1000 * v + i) i op (1000 * v) (flM G Bm 13 (Bm 13 w 26 (1000 * v + i))) Bm ∧ F 1 (B 4 q 5 i) 6 = Bm 14 0 8 (Bm 13 w 26 (1000 * v + i)) ∧ (0 ≤ Bm 13 w 26 (1000 * v + i) ∧ Bm 13 w 26 (1000 * v + i) ≤ 3000) ∧ (0 ≤ F 1 (B 4 q 5 i) 6 ∧ F 1 (B 4 q 5 i) 6 ≤ 3000))) := by
      intro cl mr
      refine ⟨b, G, by rw [cl]; exact g1, g2, ?_⟩
      rcases g3 with ⟨h1, h2, h3⟩ | ⟨h1, h2⟩
      · exact Or.inl ⟨h1, by rw [mr]; exact e110 _ h2, h3⟩
      · have e8' := e8 (by first | decide | omega)
        exact Or.inr ⟨h1, by rw [mr]; exact e110 _ h2, e8'.1, ⟨e8'.2.1, e8'.2.2.1⟩, e8'.2.2.2⟩
    by_cases i0 : i = 0
    · refine fin ?_ ?_
      · unfold f_Part_bracketStands
        rw [if_pos h4, if_pos (by first | decide | omega), if_pos hie, if_pos r5, if_neg z5, if_pos ri, if_pos (by first | decide | omega)]
      · unfold joS
        rw [cw, if_pos w0, if_pos (by first | decide | omega), ← e5.1, if_pos r5, if_neg (by first | decide | omega), if_pos (by first | decide | omega)]
    · obtain ⟨i', rfl⟩ : ∃ k, i = k + 1 := ⟨i - 1, (by first | decide | omega)⟩
      obtain ⟨ep, _⟩ := he i' (by first | decide | omega)
      have ep5 := ep.2.2.2.2.2.1
      have hpe := hV i' (by first | decide | omega) (by first | decide | omega)
      have rp : r32 (F 1 (B 4 q 5 i') 5) := by unfold r32; omega
      have x1 : ((i' + 1 : Nat) : Int) - 1 = i' := by omega
      have x2 : 1000 * v + ((i' + 1 : Nat) : Int) - 1 = 1000 * v + i' := by omega
      by_cases y : F 1 (B 4 q 5 i') 5 = F 1 (B 4 q 5 ((i' + 1 : Nat) : Int)) 5
      · refine ⟨1, Fm, ?_, fun _ _ _ _ => rfl, Or.inl ⟨rfl, ?_, Or.inr (Or.inl ⟨i', rfl, y⟩)⟩⟩
        · unfold f_Part_bracketStands f_Part_bracketStands_42
          rw [if_pos h4, if_pos (by first | decide | omega), if_pos hie, if_pos r5, if_neg z5, if_pos ri, if_neg (by first | decide | omega), x1, if_pos (by first | decide | omega), if_pos hpe, if_pos rp, if_pos y]
        · unfold joS
          rw [cw, if_pos w0, if_pos (by first | decide | omega), ← e5.1, if_pos r5, if_neg (by first | decide | omega), if_neg (by first | decide | omega), x2, if_pos (by first | decide | omega), ← ep5.1, if_pos rp, if_pos y]
      · refine fin ?_ ?_
        · unfold f_Part_bracketStands
          rw [if_pos h4, if_pos (by first | decide | omega), if_pos hie, if_pos r5, if_neg z5, if_pos ri, if_neg (by first | decide | omega), x1, if_pos (by first | decide | omega), if_pos hpe, if_pos rp, if_neg y]
        · unfold joS
          rw [cw, if_pos w0, if_pos (by first | decide | omega), ← e5.1, if_pos r5, if_neg (by first | decide | omega), if_neg (by first | decide | omega), x2, if_pos (by first | decide | omega), ← ep5.1, if_pos rp, if_neg y]
end
