section
section
/-! ===== an event made: both sides ===== -/
noncomputable def WC (K : zK) (Km : Nat) (N q v w bar : Int) (B : zB) (Fm : zF) (Bm : zB) : Prop := 3002 ≤ K.1 ∧ 812851200 < Km ∧ 0 < K.2 11 ∧ 0 < K.2 3 ∧ (0 ≤ q ∧ q < K.2 4) ∧ (0 ≤ v ∧ v < 4) ∧ (0 ≤ w ∧ w < 3) ∧ TK B Bm N ∧ (∀ t, 0 ≤ t → t < 200 → 0 ≤ B 4 q 5 t ∧ B 4 q 5 t < K.2 1) ∧ inJ q B ∧ (r32 (Fm 13 w 4) ∧ r32 (Fm 13 w 5) ∧ FR (100 * Fm 13 w 4) (Fm 13 w 5) (100 * bar) ∧ 100 * bar ≤ 1000000000000 ∧ (1 ≤ Fm 13 w 4 ∧ Fm 13 w 4 ≤ 12) ∧ (1 ≤ Fm 13 w 5 ∧ Fm 13 w 5 ≤ 16) ∧ 0 < bar)
theorem WE_at {D : Nat} {q v w bar s i : Int} {F : zF} {B : zB} {Fm G : zF} {Bm : zB} (h : WS q v w bar D F B Fm Bm) (hD : D ≤ 64) (s0 : 1 ≤ s) (s1 : s ≤ 15) (hp : 0 ≤ Bm 14 0 8 i ∧ Bm 14 0 8 i ≤ 3000) (hG : ∀ k, ¬ k ≤ 1 → G 14 0 k = Fm 14 0 k) : WE D q v w (zup3 F 11 0 2 (s + 16 * Bm 14 0 8 i)) (flM G Bm s i) := by
  obtain ⟨⟨a1, a2, a3, a4⟩, ⟨b1, b2, b3, b4⟩, ⟨c1, c2, c3⟩, d, e, f, g, h, k, l, m, n, ⟨o1, o2, o3, o4⟩⟩ := h
  refine ⟨?_, ?_, ?_, flM_b s0 s1, ?_, ?_, ?_, ?_, ?_, ?_⟩
  · rw [zup3_v, if_neg (by decide)]; exact a1
  · rw [zup3_v, if_neg (by decide)]; exact a2
  · rw [zup3_v, if_pos (by decide), flM_17, flM_18]
  · rw [flM_18]; exact hp
  · rw [flM_n (by decide), hG 35 (by decide)]; exact b1
  · rw [flM_n (by decide), hG 6 (by decide)]; exact b2
  · rw [zup3_v, if_neg (by omega)]; omega
  · rw [flM_n (by decide), hG 36 (by decide)]; omega
  · rw [zup3_v, if_neg (by decide)]; omega
theorem WFR_at {q v w s i x : Int} {F : zF} {B : zB} {Fm G : zF} {Bm : zB} (hG : ∀ c y k, ¬ (c = 14 ∧ y = 0 ∧ k ≤ 1) → G c y k = Fm c y k) : WFR q v w F B Fm Bm (zup3 F 11 0 2 x) B (flM G Bm s i) Bm := by
  refine ⟨fun c y k a b d => by rw [zup3_v, if_neg (by omega)], fun _ _ _ _ _ _ _ => rfl, fun _ => Iff.rfl, fun c i k a => ?_, fun _ _ _ _ _ _ => rfl, fun h => ⟨h, fun c => ⟨by rw [zup3_v, if_neg (by omega)]; exact c, SD_c (by rw [zup3_v, if_neg (by omega)]) (by rw [zup3_v, if_neg (by omega)]) c (fun j _ _ => by rw [zup3_v, if_neg (by omega)])⟩⟩⟩
  rw [flM_n (by omega), hG c i k (by omega)]
theorem P_event {K : zK} {Km : Nat} {N q v w bar x i : Int} {D : Nat} {F : zF} {B : zB} {Fm : zF} {Bm : zB} (hC : WC K Km N q v w bar B Fm Bm) (hS : WS q v w bar D F B Fm Bm) (hD : D ≤ 64) (hx : 0 ≤ x ∧ x < 3000) (hi : 0 ≤ i ∧ i < N) (hpl : B 3 0 1 x = Bm 14 0 8 i) (hev : evR B Bm x i) : zP (f_Walker_makeEvent K 0 x F B) (f_M_event_0 Km i Fm Bm) (fun _ F' B' _ Fm' Bm' => WO q v w bar D F B Fm Bm F' B' Fm' Bm') := by
  have hS' := hS
  obtain ⟨hK, hKm, h11, h3, h4, v0, w0, ⟨N0, N1, hT⟩, hV, hI, r4, r5, hB, fB⟩ := hC
  obtain ⟨⟨a1, a2, a3, a4⟩, ⟨b1, b2, b3, b4⟩, ⟨c1, c2, c3⟩, ⟨d1, d2, d3⟩, ⟨e1, e2, e3⟩, ⟨f1, f2, f3⟩, ⟨g1, g2, g3⟩, hh, hk, ⟨l1, l2, l3, l4⟩, hm, ⟨n1, n2, n3, n4⟩, ⟨o1, o2, o3, o4⟩⟩ := hS
  obtain ⟨v1, v2, v3, v4, v5, v6, v7⟩ := hev
  have pl : ∀ t, 0 ≤ t → t ≤ N → 0 ≤ Bm 14 0 8 t ∧ Bm 14 0 8 t ≤ 3000 := fun t p r => (hT t p r).2.2.2.2.2.2.2.2.2.1
  have pli := pl i hi.1 (by omega)
  have m0 := hm 0 (by decide) (by decide)
  have m1 := hm 1 (by decide) (by decide)
  have m2 := hm 2 (by decide) (by decide)
  have m3 := hm 3 (by decide) (by decide)
  rw [show prN 0 = 2 by decide] at m0
  rw [show prN 1 = 3 by decide] at m1
  rw [show prN 2 = 5 by decide] at m2
  rw [show prN 3 = 7 by decide] at m3
  have hc := C_slowed (K := K) (F := F) (B := B) v1 v2 v3 h11 (by omega) (fun k p r => by have := hm k p r; omega)
  have hl := L_valueOf (K := Km) (F := Fm) (B := Bm) (i := i) (by omega) rfl rfl v2 v3 (fun k p => by rcases p with rfl | rfl | rfl | rfl <;> omega) (by omega)
  rw [← m0.1, ← m1.1, ← m2.1, ← m3.1] at hl
  generalize hU : slV (B 11 0 14 0 + 7 - Bm 14 0 33 i - lg2 (Bm 14 0 32 i)) (B 11 0 14 1 + if Bm 14 0 33 i = 1 then 1 else 0) (B 11 0 14 2) (B 11 0 14 3 + if Bm 14 0 33 i = 2 then 1 else 0) = U at hc hl
  have ub : U = -1 ∨ (1 ≤ U ∧ U ≤ 1024) := by rw [← hU]; exact slV_b
  clear hU
  have kd : ∃ s0 cnt, ((Bm 14 0 7 i = 2 ∧ s0 = i ∧ cnt = 1) ∨ (Bm 14 0 7 i = 4 ∧ s0 = i + 1 ∧ cnt = -1) ∨ (Bm 14 0 7 i = 5 ∧ s0 = i + 1 ∧ (0 ≤ cnt ∧ s0 + cnt ≤ 3000) ∧ (∀ k, s0 ≤ k → k < s0 + cnt → Bm 14 0 7 k = 2) ∧ ¬ Bm 14 0 7 (s0 + cnt) = 2 ∧ r32 (Bm 14 0 7 (s0 + cnt)))) ∧ (cnt = B 3 0 6 x ∨ (cnt = -1 ∧ B 3 0 6 x = 0)) ∧ (0 ≤ B 3 0 6 x ∧ B 3 0 6 x ≤ 6) ∧ (0 ≤ s0 ∧ s0 + B 3 0 6 x ≤ N) ∧ pitR B Bm (B 3 0 3 x) s0 (B 3 0 6 x) := by
    rcases v7 with ⟨⟨p1, _⟩, p2⟩ | ⟨p1, p2⟩ | ⟨⟨p1, _⟩, p2, p3, p4⟩
    · exact ⟨i + 1, -1, Or.inr (Or.inl ⟨p1, rfl, rfl⟩), Or.inr ⟨rfl, p2⟩, by omega, by omega, fun k u t => by omega⟩
    · have := (p2 0 (by decide) (by decide)).2.2.2
      rw [Int.add_zero] at this
      exact ⟨i, 1, Or.inl ⟨this, rfl, rfl⟩, Or.inl p1.symm, by omega, by omega, by rw [p1]; exact p2⟩
    · have k2 : ∀ k, i + 1 ≤ k → k < i + 1 + B 3 0 6 x → Bm 14 0 7 k = 2 := fun k u t => by
        have := (p3 (k - (i + 1)) (by omega) (by omega)).2.2.2
        rwa [show i + 1 + (k - (i + 1)) = k by omega] at this
      have kN : i + 1 + B 3 0 6 x ≤ N := by
        rcases Int.lt_or_le N (i + 1 + B 3 0 6 x) with z | z
        · have y1 := k2 N (by omega) z
          have y2 := (hT N N0 (Int.le_refl _)).2.2.2.1.mpr rfl
          omega
        · exact z
      have kr := (hT (i + 1 + B 3 0 6 x) (by omega) kN).2.2.1
      exact ⟨i + 1, B 3 0 6 x, Or.inr (Or.inr ⟨p1, rfl, by omega, k2, p4, by unfold r32; omega⟩), Or.inl rfl, by omega, by omega, p3⟩
  obtain ⟨s0, cnt, kd1, kd2, kd3, kd4, kd5⟩ := kd
  have hz : F 11 0 6 ≤ 2 → ∃ z, 6350400 = F 11 0 9 * z ∧ 1 ≤ z ∧ z ≤ 6350400 := fun h => TPL_d hk f2 h
  obtain ⟨z, hz⟩ : ∃ z, F 11 0 6 ≤ 2 → 6350400 = F 11 0 9 * z ∧ 1 ≤ z ∧ z ≤ 6350400 := by
    by_cases h : F 11 0 6 ≤ 2
    · obtain ⟨z, hz⟩ := hz h
      exact ⟨z, fun _ => hz⟩
    · exact ⟨0, fun y => absurd y h⟩
  have hk' := hk
  obtain ⟨_, t1, t2, _⟩ := hk'
  rw [L_evE (u := U) (z := z) (come := F 11 0 11) (far := 100 * bar) (m := F 4 q 6) (cnt := cnt) hKm (by omega) a4 hl ub f1.symm (by omega) hk hz l1 l2 (by omega) o1.symm (by omega) b1 v0 b2 w0 r4 r5 hB (by omega) kd1]
  by_cases q1 : 2 < F 11 0 6 ∨ U = -1
  · rw [if_pos q1]
    have e : f_Walker_makeEvent K 0 x F B = some (0, zup3 F 11 0 2 (12 + 16 * Bm 14 0 8 i), B) := by
      unfold f_Walker_makeEvent
      rw [if_pos ⟨Int.le_refl _, h11⟩, a1, if_pos ⟨Int.le_refl _, h3⟩, if_pos hx, if_pos (by unfold r32; omega)]
      by_cases b2 : F 11 0 6 ≤ 2
      · have un : U = -1 := by omega
        rw [if_pos b2, hc, zb_s, un, C35a h11 a3, hpl]
      · rw [if_neg b2, C35a h11 a3, hpl]
    rw [e]
    exact zP_s ⟨WFR_at (fun _ _ _ _ => rfl), Or.inr (WE_at hS' hD (by decide) (by decide) pli (fun _ _ => rfl))⟩
  rw [if_neg q1]
  have u1 : 1 ≤ U ∧ U ≤ 1024 := ub.resolve_left (fun h => q1 (Or.inr h))
  obtain ⟨hz1, hz2⟩ := hz (by omega)
  have c35 := C35b (K := K) (F := F) (B := B) (x := x) (pl := Bm 14 0 8 i) (u := U) (q := q) (e := B 4 q 5 (F 4 q 6)) (z := z) h11 h3 h4 hx a1 a2 a3 rfl (by omega) rfl (by omega) rfl t1 rfl t2 hz1 hz2 u1 rfl (by omega) b4 (by omega) (fun h => ⟨rfl, hV _ (by omega) h⟩)
  have ce : f_Walker_makeEvent K 0 x F B = f_Walker_makeEvent_35 K (Bm 14 0 8 i) 0 x U F B := by
    unfold f_Walker_makeEvent
    rw [if_pos ⟨Int.le_refl _, h11⟩, a1, if_pos ⟨Int.le_refl _, h3⟩, if_pos hx, if_pos (by unfold r32; omega), if_pos (by omega), hc, zb_s, hpl]
  rw [ce, c35]
  have zu : 1 ≤ z * U := ml_1 hz2.1 u1.1
  have zu2 : z * U ≤ 6350400 * 1024 := Int.mul_le_mul hz2.2 u1.2 (Int.le_trans (by decide) u1.1) (by decide)
  have zt : 1 ≤ z * U * F 11 0 10 := ml_1 zu t2.1
  have zt2 : z * U * F 11 0 10 ≤ 6350400 * 1024 * 81 := Int.mul_le_mul zu2 t2.2 (by omega) (by decide)
  by_cases q2 : 200 ≤ F 4 q 6 ∨ 100 * bar < F 11 0 11 + z * U * F 11 0 10
  · rw [if_pos q2, if_pos q2]
    exact zP_s ⟨WFR_at (fun c y k n => by rw [fr_n n, fr_n n]), Or.inr (WE_at hS' hD (by decide) (by decide) pli (fun k n => by rw [fr_n (by omega), fr_n (by omega)]))⟩
  rw [if_neg q2, if_neg q2]
  generalize hlen : z * U * F 11 0 10 = len at zt zt2 q2 ⊢
  generalize hm' : F 4 q 6 = m at o1 o2 o3 o4 q2 ⊢
  generalize hE : B 4 q 5 m = e
  have he := hV m (by omega) (by omega)
  rw [hE] at he
  generalize hF2 : evF e len U (F 11 0 9) (F 11 0 10) (if F 11 0 6 = 0 then 0 else F 11 0 7) (F 11 0 8) (B 3 0 7 x) (F 11 0 4) (Bm 14 0 8 i) F = F2
  generalize hG2 : fr (fr Fm len) (F 11 0 11 + len) = G2
  generalize hM2 : zup4 Bm 13 w 21 (1000 * v + m) 0 = M2
  have fn : ∀ c y k, ¬ (c = 1 ∧ y = e) → F2 c y k = F c y k := fun c y k n => by rw [← hF2, evF_n (fun u => n ⟨u.1, u.2.1⟩)]
  have gn : ∀ c y k, ¬ (c = 14 ∧ y = 0 ∧ k ≤ 1) → G2 c y k = Fm c y k := fun c y k n => by rw [← hG2, fr_n n, fr_n n]
  have mn : ∀ c y k t, ¬ (c = 13 ∧ y = w ∧ k = 21 ∧ t = 1000 * v + m) → M2 c y k t = Bm c y k t := fun c y k t n => by rw [← hM2, zup4_v, if_neg n]
  have ev := evF_v (e := e) (len := len) (u := U) (tf := F 11 0 9) (ts := F 11 0 10) (br := if F 11 0 6 = 0 then 0 else F 11 0 7) (bp := F 11 0 8) (mk := B 3 0 7 x) (ld := F 11 0 4) (tok := Bm 14 0 8 i) (F := F)
  rw [hF2] at ev
  have E0 : EPR e (1000 * v + m) w 0 F2 B M2 := ⟨ev.2.2.2.2.2.2.2.2.2, by rw [← hM2, zup4_v, if_pos (by omega)], by omega, fun k u t => by omega, fun j k u t s => by omega⟩
  have PH : PLH x s0 (B 3 0 6 x) (B 3 0 3 x) (F 11 0 18).toNat F2 B M2 := by
    refine ⟨by rw [fn _ _ _ (by omega)]; exact a1, by rw [fn _ _ _ (by omega)]; exact a3, by rw [fn _ _ _ (by omega)]; omega, rfl, rfl, fun k u t => ?_, fun t u s => ?_⟩
    · have := n4 k (by omega) (by omega)
      unfold CRk at this ⊢
      rw [mn _ _ _ _ (by omega), mn _ _ _ _ (by omega), mn _ _ _ _ (by omega)]
      exact this
    · obtain ⟨y1, y2, y3, y4⟩ := kd5 t u s
      have y5 := (hT (s0 + t) (by omega) (by omega)).2.2.2.2.1 y4
      rw [mn _ _ _ _ (by omega), mn _ _ _ _ (by omega), mn _ _ _ _ (by omega)]
      exact ⟨y1, y2, y3, by omega, by omega⟩
  have own : ownE B q e := ⟨m, by omega, by omega, hE⟩
  have frm : ∀ F' B' Bm' X G C, lFr e (1000 * v + m) w F2 B M2 F' B' Bm' → (∀ c y k, ¬ (c = 11 ∧ y = 0) → ¬ (c = 4 ∧ y = q ∧ k = 6) → X c y k = F' c y k) → (∀ c y k, ¬ (c = 14 ∧ y = 0 ∧ (k ≤ 1 ∨ k = 17 ∨ k = 18 ∨ (36 ≤ k ∧ k ≤ 50))) → G c y k = Fm c y k) → (∀ c y k t, ¬ (c = 13 ∧ y = w ∧ t = 1000 * v + m ∧ 16 ≤ k ∧ k ≤ 26) → C c y k t = Bm' c y k t) → X 11 0 11 = F 11 0 11 + len → X 4 q 6 = m + 1 → WFR q v w F B Fm Bm X B' G C := by
    intro F' B' Bm' X G C hf hX hG hC hX11 hX6
    refine ⟨fun c y k s t u => ?_, fun c y k t s p r => ?_, fun y => ?_, hG, fun c y k t s u => ?_, fun h => ⟨fun t t' p r p' r' s => ?_, fun cb => ⟨by omega, ?_⟩⟩⟩
    · have ne : ¬ (c = 1 ∧ y = e) := fun p => u ⟨p.1, by rw [p.2]; exact own⟩
      rw [hX c y k s t, hf.1 c y k (fun p => ne ⟨p.1, p.2.1⟩) (fun p => s ⟨p.1, p.2.1⟩), fn c y k ne]
    · have ne : ¬ (c = 1 ∧ y = e) := fun p => r ⟨p.1, by rw [p.2]; exact own⟩
      exact hf.2.1 c y k t (fun p => ne ⟨p.1, p.2.1⟩)
    · unfold ownE
      constructor
      · intro ⟨j, j0, j1, j2⟩
        exact ⟨j, j0, j1, by rw [← j2, hf.2.1 4 q 5 j (by omega)]⟩
      · intro ⟨j, j0, j1, j2⟩
        exact ⟨j, j0, j1, by rw [← j2, hf.2.1 4 q 5 j (by omega)]⟩
    · unfold inV at u
      rw [hC c y k t (by omega), hf.2.2 c y k t (by omega), mn c y k t (by omega)]
    · rw [hf.2.1 4 q 5 t (by omega), hf.2.1 4 q 5 t' (by omega)] at s
      exact h t t' p r p' r' s
    · unfold SD
      rw [hX11, hX6, hm']
      obtain ⟨mn', hmn⟩ : ∃ k : Nat, m = k := ⟨m.toNat, by omega⟩
      rw [show (m + 1).toNat = mn' + 1 by omega, show m.toNat = mn' by omega, sumZ]
      have e1 : X 1 (B' 4 q 5 (mn' : Int)) 1 = len := by
        rw [← hmn, hf.2.1 4 q 5 m (by omega), hE, hX 1 e 1 (by omega) (by omega), hf.1 1 e 1 (by omega) (by omega), ev.1]
      have e2 : sumZ (fun j => X 1 (B' 4 q 5 j) 1) mn' = sumZ (fun j => F 1 (B 4 q 5 j) 1) mn' := sumZ_c (fun j a b => by
        have ne : ¬ B 4 q 5 j = e := fun y => by
          have := h j m (by omega) (by omega) (by omega) (by omega) (by rw [y, hE])
          omega
        rw [hf.2.1 4 q 5 j (by omega), hX 1 _ 1 (by omega) (by omega), hf.1 1 _ 1 (fun u => ne u.2.1) (by omega), fn 1 _ 1 (fun u => ne u.2)])
      rw [e2]
      show F 11 0 11 + len - (_ + X 1 (B' 4 q 5 (mn' : Int)) 1) = _
      rw [e1]
      omega
  have okC : ∀ F' B' Bm', lFr e (1000 * v + m) w F2 B M2 F' B' Bm' → F' 11 0 2 = 0 → EPR e (1000 * v + m) w (B 3 0 6 x) F' B' Bm' → zP (f_Walker_makeEvent_273 K len 0 F' B') (f_M_event_0_277 Km (1000 * v + m) (de len) (nu len) (F 11 0 9) (F 11 0 10) i G2 Bm') (fun _ F' B' _ Fm' Bm' => WO q v w bar D F B Fm Bm F' B' Fm' Bm') := by
    intro F' B' Bm' hf h2 hEP
    have fF : ∀ (c : Nat) y k, ¬ c = 1 → ¬ (c = 11 ∧ y = 0 ∧ k = 2) → F' c y k = F c y k := fun c y k n n' => by rw [hf.1 c y k (fun u => n u.1) n', fn c y k (fun u => n u.1)]
    have fm : ∀ (c : Nat) y k t, ¬ c = 13 → Bm' c y k t = Bm c y k t := fun c y k t n => by rw [hf.2.2 c y k t (fun u => n u.1), mn c y k t (fun u => n u.1)]
    rw [C273 (q := q) h11 h4 (by rw [fF 11 0 1 (by decide) (by omega)]; exact a2), L277 (come := F 11 0 11) (w := w) hKm (by rw [gn _ _ _ (by omega)]; exact a4) (by rw [gn _ _ _ (by omega)]; exact l1) (by rw [gn _ _ _ (by omega)]; exact l2) (by omega) (by omega) (by rw [gn _ _ _ (by omega)]; exact b2) w0 (by omega) (by omega) (by rw [gn _ _ _ (by omega), ← f1]; omega), fF 4 q 6 (by decide) (by omega), fF 11 0 11 (by decide) (by omega), hm', gn 14 0 40 (by omega), gn 14 0 48 (by omega), gn 14 0 50 (by omega), gn 14 0 49 (by omega), fm 14 0 34 i (by decide)]
    generalize hX : zup3 (zup3 F' 4 q 6 (m + 1)) 11 0 11 (F 11 0 11 + len) = X
    generalize hY : evG (F 11 0 11 + len) G2 = Y
    generalize hZ : evB w (1000 * v + m) (nu len) (de len) (Bm 14 0 34 i) (Fm 14 0 40) i (Fm 14 0 48) (F 11 0 10) (F 11 0 9) (if Fm 14 0 48 ≤ 0 then 0 else Fm 14 0 50) (Fm 14 0 49) Bm' = Z
    have xn : ∀ (c : Nat) y k, ¬ c = 1 → ¬ (c = 11 ∧ y = 0 ∧ (k = 2 ∨ k = 11)) → ¬ (c = 4 ∧ y = q ∧ k = 6) → X c y k = F c y k := fun c y k n n' n'' => by rw [← hX, zup3_v, if_neg (by omega), zup3_v, if_neg (by omega), fF c y k n (by omega)]
    have x1 : ∀ y k, X 1 y k = F' 1 y k := fun y k => by rw [← hX, zup3_v, if_neg (by omega), zup3_v, if_neg (by omega)]
    have x2 : X 11 0 2 = 0 := by rw [← hX, zup3_v, if_neg (by omega), zup3_v, if_neg (by omega)]; exact h2
    have x11 : X 11 0 11 = F 11 0 11 + len := by rw [← hX, zup3_v, if_pos (by decide)]
    have x6 : X 4 q 6 = m + 1 := by rw [← hX, zup3_v, if_neg (by omega), zup3_v, if_pos (by omega)]
    have yn : ∀ c y k, ¬ (c = 14 ∧ y = 0 ∧ (k ≤ 1 ∨ k = 36 ∨ k = 38 ∨ k = 39)) → Y c y k = Fm c y k := fun c y k n => by rw [← hY, evG_n n, gn c y k (by omega)]
    have yv := evG_v (p := F 11 0 11 + len) (F := G2)
    rw [hY, gn 14 0 36 (by omega), ← o1] at yv
    have zn : ∀ c y k t, ¬ (c = 13 ∧ y = w ∧ t = 1000 * v + m ∧ 16 ≤ k ∧ k ≤ 26 ∧ ¬ k = 21) → Z c y k t = Bm' c y k t := fun c y k t n => by rw [← hZ, evB_n (fun u => n ⟨u.1, u.2.1, u.2.2.1, u.2.2.2⟩)]
    have zv := evB_v (w := w) (x := 1000 * v + m) (a := nu len) (b := de len) (mk := Bm 14 0 34 i) (ld := Fm 14 0 40) (tk := i) (ins := Fm 14 0 48) (up := F 11 0 10) (dn := F 11 0 9) (out := if Fm 14 0 48 ≤ 0 then 0 else Fm 14 0 50) (ot := Fm 14 0 49) (B := Bm')
    rw [hZ] at zv
    have z14 : ∀ k t, Z 14 0 k t = Bm 14 0 k t := fun k t => by rw [zn _ _ _ _ (by omega), fm _ _ _ _ (by decide)]
    have b' : ∀ (c : Nat) y k t, ¬ c = 1 → B' c y k t = B c y k t := fun c y k t n => hf.2.1 c y k t (fun u => n u.1)
    refine zP_s ⟨frm F' B' Bm' X Y Z hf (fun c y k n n' => by rw [← hX, zup3_v, if_neg (by omega), zup3_v, if_neg (by omega)]) (fun c y k n => yn c y k (by omega)) (fun c y k t n => zn c y k t (by omega)) x11 x6, Or.inl ⟨?_, ?_⟩⟩
    · refine ⟨⟨by rw [xn _ _ _ (by decide) (by omega) (by omega)]; exact a1, by rw [xn _ _ _ (by decide) (by omega) (by omega)]; exact a2, x2, by rw [yn _ _ _ (by omega)]; exact a4⟩, ⟨by rw [yn _ _ _ (by omega)]; exact b1, by rw [yn _ _ _ (by omega)]; exact b2, by rw [xn _ _ _ (by decide) (by omega) (by omega)]; exact b3, by rw [xn _ _ _ (by decide) (by omega) (by omega)]; exact b4⟩, ?_, ?_, ?_, ?_, ?_, ?_, ?_, ?_, ?_, ?_, ?_⟩
      · rw [xn _ _ _ (by decide) (by omega) (by omega), yn _ _ _ (by omega)]; exact ⟨c1, c2, c3⟩
      · rw [xn _ _ _ (by decide) (by omega) (by omega), yn _ _ _ (by omega)]; exact ⟨d1, d2, d3⟩
      · rw [xn _ _ _ (by decide) (by omega) (by omega), yn _ _ _ (by omega)]; exact ⟨e1, e2, e3⟩
      · rw [xn _ _ _ (by decide) (by omega) (by omega), yn _ _ _ (by omega)]; exact ⟨f1, f2, f3⟩
      · rw [xn 11 0 7 (by decide) (by omega) (by omega), xn 11 0 3 (by decide) (by omega) (by omega), yn _ _ _ (by omega)]; exact ⟨g1, g2, g3⟩
      · rw [xn 11 0 6 (by decide) (by omega) (by omega), xn 11 0 7 (by decide) (by omega) (by omega), xn 11 0 8 (by decide) (by omega) (by omega), yn _ _ _ (by omega), z14]; exact hh
      · rw [xn 11 0 6 (by decide) (by omega) (by omega), xn 11 0 9 (by decide) (by omega) (by omega), xn 11 0 10 (by decide) (by omega) (by omega)]
        unfold TPL at hk ⊢
        simp only [z14]
        exact hk
      · rw [x11]
        exact ⟨yv.2.1, yv.2.2, by omega, by omega⟩
      · intro k u t
        rw [b' _ _ _ _ (by decide), z14]
        exact hm k u t
      · rw [xn _ _ _ (by decide) (by omega) (by omega), yn _ _ _ (by omega)]
        refine ⟨n1, n2, n3, fun k u t => ?_⟩
        have := n4 k u t
        unfold CRk at this ⊢
        rw [b' 11 _ _ _ (by decide), b' 11 _ _ _ (by decide), b' 11 _ _ _ (by decide), z14, z14, z14]
        exact this
      · rw [x6]
        refine ⟨yv.1.symm, by omega, by omega, fun j j0 j1 => ?_⟩
        rw [b' 4 q 5 j (by decide)]
        by_cases jm : j = m
        · subst jm
          rw [hE]
          have w1 : ∀ k, ¬ k = 10 → X 1 e k = F2 1 e k := fun k n => by rw [x1, hf.1 1 e k (by omega) (by omega)]
          unfold EVW
          obtain ⟨E1, E2, E3, E4, E5⟩ := hEP
          rw [w1 1 (by decide), w1 2 (by decide), w1 3 (by decide), w1 4 (by decide), w1 5 (by decide), w1 6 (by decide), w1 7 (by decide), w1 8 (by decide), w1 9 (by decide), ev.1, ev.2.1, ev.2.2.1, ev.2.2.2.1, ev.2.2.2.2.1, ev.2.2.2.2.2.1, ev.2.2.2.2.2.2.1, ev.2.2.2.2.2.2.2.1, ev.2.2.2.2.2.2.2.2.1, zv.1, zv.2.1, zv.2.2.1, zv.2.2.2.1, zv.2.2.2.2.1, zv.2.2.2.2.2.1, zv.2.2.2.2.2.2.1, zv.2.2.2.2.2.2.2.1, zv.2.2.2.2.2.2.2.2.1, zv.2.2.2.2.2.2.2.2.2, z14, z14, x1]
          have bb : (if F 11 0 6 = 0 then (0 : Int) else F 11 0 7) = (if Fm 14 0 48 ≤ 0 then 0 else Fm 14 0 50) := by
            by_cases c : F 11 0 6 = 0
            · rw [if_pos c, if_pos (by omega)]
            · rw [if_neg c, if_neg (by omega), g1]
          have b7 : 0 < F 11 0 6 → 1 ≤ F 11 0 7 := fun h => (hh h).1
          refine ⟨u1, ⟨rfl, t1.1, t1.2⟩, ⟨rfl, t2.1, t2.2⟩, ⟨z, hz1, hlen.symm⟩, ⟨rfl, rfl, zt, by omega⟩, ⟨bb, ?_, ?_⟩, ⟨by omega, by omega, ?_, ?_⟩, ?_, ⟨v4, v5⟩, ⟨d1, d2, d3⟩, ⟨rfl, by omega, by omega, pli.1, pli.2⟩, ⟨x1 e 10, ?_, by omega, ?_, ?_⟩⟩
          · split <;> omega
          · split <;> omega
          · by_cases c : F 11 0 6 = 0
            · rw [if_pos c]; omega
            · rw [if_neg c]
              have := b7 (by omega)
              omega
          · intro u
            by_cases c : F 11 0 6 = 0
            · exact hk.2.2.2.1 c
            · rw [if_neg c] at u
              have := b7 (by omega)
              omega
          · intro u
            by_cases c : F 11 0 6 = 0
            · rw [if_pos c] at u; omega
            · exact (hh (by omega)).2
          · rw [zn _ _ _ _ (by omega), E2, E1]
          · intro k u s
            rw [zn _ _ _ _ (by omega), zn _ _ _ _ (by omega)]
            exact E4 k u (by omega)
          · intro k k' u s t
            exact E5 k k' u s (by omega)
        · have ne : ¬ B 4 q 5 j = e := fun y => jm (hI j m (by omega) (by omega) (by omega) (by omega) (by rw [y, hE]))
          refine EVW_f (o4 j j0 (by omega)) (fun k => ?_) (fun k y => ?_) (fun k u t => ?_) (fun k y u t s r => ?_) (fun y => z14 8 y)
          · rw [x1, hf.1 1 _ k (fun u => ne u.2.1) (by omega), fn 1 _ k (fun u => ne u.2)]
          · exact hf.2.1 1 _ k y (fun u => ne u.2.1)
          · rw [zn _ _ _ _ (by omega), hf.2.2 _ _ _ _ (by omega), mn _ _ _ _ (by omega)]
          · rw [zn _ _ _ _ (by omega), hf.2.2 _ _ _ _ (by omega), mn _ _ _ _ (by omega)]
    · refine ⟨⟨xn _ _ _ (by decide) (by omega) (by omega), xn _ _ _ (by decide) (by omega) (by omega), xn _ _ _ (by decide) (by omega) (by omega), xn _ _ _ (by decide) (by omega) (by omega), xn _ _ _ (by decide) (by omega) (by omega)⟩, fun k u t => b' _ _ _ _ (by decide), fun k u t => ⟨b' _ _ _ _ (by decide), b' _ _ _ _ (by decide), b' _ _ _ _ (by decide), z14 _ _, z14 _ _, z14 _ _⟩, fun k u t => ⟨z14 _ _, z14 _ _⟩, fun u => ⟨xn _ _ _ (by decide) (by omega) (by omega), xn _ _ _ (by decide) (by omega) (by omega), yn _ _ _ (by omega)⟩, by rw [x6, hm']; omega⟩
  have noC : ∀ F' B' Bm' p, lFr e (1000 * v + m) w F2 B M2 F' B' Bm' → 0 ≤ p ∧ p ≤ N → F' 11 0 2 = 9 + 16 * Bm' 14 0 8 p → zP (f_Walker_makeEvent_273 K len 0 F' B') (f_M_event_0_277 Km (1000 * v + m) (de len) (nu len) (F 11 0 9) (F 11 0 10) i (flM G2 Bm' 9 p) Bm') (fun _ F' B' _ Fm' Bm' => WO q v w bar D F B Fm Bm F' B' Fm' Bm') := by
    intro F' B' Bm' p hf hp h2
    have fF : ∀ (c : Nat) y k, ¬ c = 1 → ¬ (c = 11 ∧ y = 0 ∧ k = 2) → F' c y k = F c y k := fun c y k n n' => by rw [hf.1 c y k (fun u => n u.1) n', fn c y k (fun u => n u.1)]
    have fm : ∀ (c : Nat) y k t, ¬ c = 13 → Bm' c y k t = Bm c y k t := fun c y k t n => by rw [hf.2.2 c y k t (fun u => n u.1), mn c y k t (fun u => n u.1)]
    rw [C273 (q := q) h11 h4 (by rw [fF 11 0 1 (by decide) (by omega)]; exact a2), L277b (flM_b (by decide) (by decide))]
    refine zP_s ⟨frm F' B' Bm' _ _ Bm' hf (fun c y k n n' => by rw [zup3_v, if_neg (by omega), zup3_v, if_neg (by omega)]) (fun c y k n => by rw [flM_n (by omega), gn c y k (by omega)]) (fun c y k t n => rfl) (by rw [zup3_v, if_pos (by omega), fF _ _ _ (by decide) (by omega)]) (by rw [zup3_v, if_neg (by omega), zup3_v, if_pos (by omega), fF _ _ _ (by decide) (by omega), hm']), Or.inr ⟨?_, ?_, ?_, flM_b (by decide) (by decide), ?_, ?_, ?_, ?_, ?_, ?_⟩⟩
    · rw [zup3_v, if_neg (by omega), zup3_v, if_neg (by omega), fF _ _ _ (by decide) (by omega)]; exact a1
    · rw [zup3_v, if_neg (by omega), zup3_v, if_neg (by omega), fF _ _ _ (by decide) (by omega)]; exact a2
    · rw [zup3_v, if_neg (by omega), zup3_v, if_neg (by omega), h2, flM_17, flM_18]
    · rw [flM_18, fm _ _ _ _ (by decide)]; exact pl p hp.1 hp.2
    · rw [flM_n (by decide), gn _ _ _ (by omega)]; exact b1
    · rw [flM_n (by decide), gn _ _ _ (by omega)]; exact b2
    · rw [zup3_v, if_neg (by omega), zup3_v, if_pos (by omega), fF _ _ _ (by decide) (by omega), hm']; omega
    · rw [flM_n (by decide), gn _ _ _ (by omega), ← o1]; omega
    · rw [zup3_v, if_neg (by omega), zup3_v, if_neg (by omega), fF _ _ _ (by decide) (by omega)]; omega
  have main := P_ploop (K := K) (Km := Km) (x := x) (s0 := s0) (cnt := B 3 0 6 x) (p0 := B 3 0 3 x) (N := N) (nn := (F 11 0 18).toNat) (by omega) (by omega) h11 h3 he (by omega) hx (by rw [gn _ _ _ (by omega)]; exact a4) (by rw [gn _ _ _ (by omega)]; exact b2) w0 (by rw [gn _ _ _ (by omega), ← n1]; omega) (by omega) (by omega) (by omega) kd4 N1 okC noC (fun t u s => by rw [mn _ _ _ _ (by omega)]; exact pl t u s) (B 3 0 6 x).toNat K.1 Km (k := 0) (by omega) (Int.le_refl _) (by omega) (by omega) (by omega) E0 PH lFr_r
  rw [Int.add_zero] at main
  have e249 : f_M_event_0_249 Km Km s0 (s0 + cnt) (1000 * v + m) (de len) (nu len) (F 11 0 9) (F 11 0 10) i G2 M2 = f_M_event_0_249 Km Km s0 (s0 + B 3 0 6 x) (1000 * v + m) (de len) (nu len) (F 11 0 9) (F 11 0 10) i G2 M2 := by
    rcases kd2 with y | ⟨y, y'⟩
    · rw [y]
    · obtain ⟨k, hk⟩ : ∃ k, Km = k + 1 := ⟨Km - 1, by omega⟩
      have st : ∀ c, c ≤ 0 → -10 ≤ c → f_M_event_0_249 Km Km s0 (s0 + c) (1000 * v + m) (de len) (nu len) (F 11 0 9) (F 11 0 10) i G2 M2 = f_M_event_0_277 Km (1000 * v + m) (de len) (nu len) (F 11 0 9) (F 11 0 10) i G2 M2 := fun c c0 c1 => by
        rw [show f_M_event_0_249 Km Km = f_M_event_0_249 Km (k + 1) by rw [← hk], f_M_event_0_249, if_pos (by unfold r32; omega), if_pos (by unfold r32; omega), if_pos (by omega)]
      rw [y, y', st (-1) (by decide) (by decide), st 0 (by decide) (by decide)]
  rw [e249]
  exact main
end
end
section
section
/-! ===== two events exchanged in the reference ===== -/
noncomputable def sg2 (a b y : Int) : Int := if y = a then b else if y = b then a else y
noncomputable def sg6 (a b t y : Int) : Int := if 6 * a ≤ y ∧ y < 6 * a + t then y - 6 * a + 6 * b else if 6 * b ≤ y ∧ y < 6 * b + t then y - 6 * b + 6 * a else y
noncomputable def swR (w a b : Int) (n : Nat) (B B' : zB) : Prop := ∀ c i k y, B' c i k y = if c = 13 ∧ i = w ∧ 16 ≤ k ∧ k ≤ n then B 13 w k (sg2 a b y) else B c i k y
theorem swp_v {w a b y y' : Int} {k k' c : Nat} {B : zB} : (zup4 (zup4 B 13 w k a (B 13 w k b)) 13 w k b (B 13 w k a)) c y' k' y = if c = 13 ∧ y' = w ∧ k' = k then B 13 w k (sg2 a b y) else B c y' k' y := by
  rw [zup4_v, zup4_v]
  unfold sg2
  by_cases h : c = 13 ∧ y' = w ∧ k' = k
  · obtain ⟨rfl, rfl, rfl⟩ := h
    rw [if_pos (⟨rfl, rfl, rfl⟩ : (13 : Nat) = 13 ∧ y' = y' ∧ k' = k')]
    by_cases hb : y = b
    · rw [if_pos ⟨rfl, rfl, rfl, hb⟩]
      by_cases ha : y = a
      · rw [if_pos ha, ← ha, hb]
      · rw [if_neg ha, if_pos hb]
    · rw [if_neg (fun z => hb z.2.2.2)]
      by_cases ha : y = a
      · rw [if_pos ⟨rfl, rfl, rfl, ha⟩, if_pos ha]
      · rw [if_neg (fun z => ha z.2.2.2), if_neg ha, if_neg hb]
  · rw [if_neg (fun z => h ⟨z.1, z.2.1, z.2.2.1⟩), if_neg (fun z => h ⟨z.1, z.2.1, z.2.2.1⟩), if_neg h]
theorem L_sw0 {K k : Nat} {w a b : Int} {F : zF} {B : zB} (w0 : 0 ≤ w ∧ w < 3) (h : zk 13 k = (3, 0)) {L : Nat} (hL : lnM 13 0 k = L) (hL2 : L ≤ 30000) (a0 : 0 ≤ a ∧ a < L) (b0 : 0 ≤ b ∧ b < L) : f_M_swap_0 K 13 w k a b F B = some (0, F, zup4 (zup4 B 13 w k a (B 13 w k b)) 13 w k b (B 13 w k a)) := by
  have e : lnM 13 w k = L := hL
  unfold f_M_swap_0
  rw [if_pos (by rw [show nM 13 = 3 by decide]; exact w0), e, if_pos a0, if_pos h, if_pos (by omega), if_pos b0]
theorem L_sw1 {K k : Nat} {w a b : Int} {F : zF} {B : zB} (w0 : 0 ≤ w ∧ w < 3) (h : zk 13 k = (3, 1)) {L : Nat} (hL : lnM 13 0 k = L) (hL2 : L ≤ 30000) (a0 : 0 ≤ a ∧ a < L) (b0 : 0 ≤ b ∧ b < L) : f_M_swap_1 K 13 w k a b F B = some (0, F, zup4 (zup4 B 13 w k a (B 13 w k b)) 13 w k b (B 13 w k a)) := by
  have e : lnM 13 w k = L := hL
  unfold f_M_swap_1
  rw [if_pos (by rw [show nM 13 = 3 by decide]; exact w0), e, if_pos a0, if_pos h, if_pos (by omega), if_pos b0]
theorem swR_0 {w a b : Int} {B : zB} : swR w a b 15 B B := fun c i k y => by rw [if_neg (by omega)]
theorem swR_s {w a b : Int} {n : Nat} {B B1 : zB} (h15 : 15 ≤ n) (h : swR w a b n B B1) : swR w a b (n + 1) B (zup4 (zup4 B1 13 w (n + 1) a (B1 13 w (n + 1) b)) 13 w (n + 1) b (B1 13 w (n + 1) a)) := fun c i k y => by
  rw [swp_v]
  by_cases e : c = 13 ∧ i = w ∧ k = n + 1
  · obtain ⟨rfl, rfl, rfl⟩ := e
    rw [if_pos ⟨rfl, rfl, rfl⟩, if_pos ⟨rfl, rfl, by omega, by omega⟩, h, if_neg (by omega)]
  · rw [if_neg e, h]
    by_cases g : c = 13 ∧ i = w ∧ 16 ≤ k ∧ k ≤ n
    · rw [if_pos g, if_pos (by omega)]
    · rw [if_neg g, if_neg (by omega)]
noncomputable def sw6 (w a b t : Int) (B B' : zB) : Prop := ∀ c i k y, B' c i k y = if c = 13 ∧ i = w ∧ 16 ≤ k ∧ k ≤ 26 then B 13 w k (sg2 a b y) else if c = 13 ∧ i = w ∧ 28 ≤ k ∧ k ≤ 29 then B 13 w k (sg6 a b t y) else B c i k y
theorem sw6_s {w a b t : Int} {B B1 : zB} (ab : a < b) (t0 : 0 ≤ t) (t6 : t < 6) (h : sw6 w a b t B B1) {B2 B3 : zB} (h2 : B2 = zup4 (zup4 B1 13 w 28 (6 * a + t) (B1 13 w 28 (6 * b + t))) 13 w 28 (6 * b + t) (B1 13 w 28 (6 * a + t))) (h3 : B3 = zup4 (zup4 B2 13 w 29 (6 * a + t) (B2 13 w 29 (6 * b + t))) 13 w 29 (6 * b + t) (B2 13 w 29 (6 * a + t))) : sw6 w a b (t + 1) B B3 := by
  have key : ∀ y, sg6 a b t (sg2 (6 * a + t) (6 * b + t) y) = sg6 a b (t + 1) y := fun y => by
    unfold sg2 sg6
    by_cases e1 : y = 6 * a + t
    · rw [if_pos e1, if_neg (by omega), if_neg (by omega), if_pos (by omega)]
      omega
    rw [if_neg e1]
    by_cases e2 : y = 6 * b + t
    · rw [if_pos e2, if_neg (by omega), if_neg (by omega), if_neg (by omega), if_pos (by omega)]
      omega
    rw [if_neg e2]
    by_cases e3 : 6 * a ≤ y ∧ y < 6 * a + t
    · rw [if_pos e3, if_pos (by omega)]
    rw [if_neg e3, if_neg (show ¬ (6 * a ≤ y ∧ y < 6 * a + (t + 1)) by omega)]
    by_cases e4 : 6 * b ≤ y ∧ y < 6 * b + t
    · rw [if_pos e4, if_pos (by omega)]
    · rw [if_neg e4, if_neg (by omega)]
  intro c i k y
  rw [h3, swp_v, h2]
  by_cases e1 : c = 13 ∧ i = w ∧ k = 29
  · obtain ⟨rfl, rfl, rfl⟩ := e1
    rw [if_pos ⟨rfl, rfl, rfl⟩, swp_v, if_neg (by omega), h, if_neg (by omega), if_pos ⟨rfl, rfl, by decide, by decide⟩, if_neg (by omega), if_pos ⟨rfl, rfl, by decide, by decide⟩, key]
  rw [if_neg e1, swp_v]
  by_cases e2 : c = 13 ∧ i = w ∧ k = 28
  · obtain ⟨rfl, rfl, rfl⟩ := e2
    rw [if_pos ⟨rfl, rfl, rfl⟩, h, if_neg (by omega), if_pos ⟨rfl, rfl, by decide, by decide⟩, if_neg (by omega), if_pos ⟨rfl, rfl, by decide, by decide⟩, key]
  rw [if_neg e2, h]
  by_cases e3 : c = 13 ∧ i = w ∧ 16 ≤ k ∧ k ≤ 26
  · rw [if_pos e3, if_pos e3]
  · rw [if_neg e3, if_neg e3, if_neg (by omega), if_neg (by omega)]
theorem L_ex6 {K : Nat} {w a b : Int} {F : zF} {B : zB} (hw : F 14 0 6 = w) (w0 : 0 ≤ w ∧ w < 3) (a0 : 0 ≤ a) (ab : a < b) (b1 : b < 4000) : ∀ (j n : Nat) {t : Int} {B1 : zB}, 0 ≤ t → t ≤ 6 → (6 - t).toNat = j → j < n → sw6 w a b t B B1 → ∃ B', f_M_exchange_134 K n t a b F B1 = some (0, F, B') ∧ sw6 w a b 6 B B' := by
  intro j
  induction j with
  | zero =>
    intro n t B1 h0 h1 hj hn h
    obtain ⟨n, rfl⟩ : ∃ m, n = m + 1 := ⟨n - 1, by omega⟩
    have ht : t = 6 := by omega
    subst ht
    exact ⟨B1, by rw [f_M_exchange_134, if_pos (by decide), if_pos (by decide)], h⟩
  | succ j ih =>
    intro n t B1 h0 h1 hj hn h
    obtain ⟨n, rfl⟩ : ∃ m, n = m + 1 := ⟨n - 1, by omega⟩
    obtain ⟨B', e, g⟩ := ih n (t := t + 1) (by omega) (by omega) (by omega) (by omega) (sw6_s ab h0 (by omega) h rfl rfl)
    exact ⟨B', by rw [f_M_exchange_134, hw, if_pos (by unfold r32; omega), if_neg (by omega), if_pos w0, L_sw0 (L := 24000) w0 (by decide) rfl (by decide) (by omega) (by omega), zb_s, hw, if_pos w0, L_sw0 (L := 24000) w0 (by decide) rfl (by decide) (by omega) (by omega), zb_s, e], g⟩
theorem L_exch {K : Nat} {w a b : Int} {F : zF} {B : zB} (hK : 10 < K) (hw : F 14 0 6 = w) (w0 : 0 ≤ w ∧ w < 3) (a0 : 0 ≤ a) (ab : a < b) (b1 : b < 4000) : ∃ B', f_M_exchange K a b F B = some (0, F, B') ∧ sw6 w a b 6 B B' := by
  have s0 : ∀ (k : Nat) (B : zB), zk 13 k = (3, 0) → lnM 13 0 k = 4000 → f_M_swap_0 K 13 w k a b F B = some (0, F, zup4 (zup4 B 13 w k a (B 13 w k b)) 13 w k b (B 13 w k a)) := fun k B h h' => L_sw0 w0 h h' (by decide) (by omega) (by omega)
  have s1 : ∀ (k : Nat) (B : zB), zk 13 k = (3, 1) → lnM 13 0 k = 4000 → f_M_swap_1 K 13 w k a b F B = some (0, F, zup4 (zup4 B 13 w k a (B 13 w k b)) 13 w k b (B 13 w k a)) := fun k B h h' => L_sw1 w0 h h' (by decide) (by omega) (by omega)
  unfold f_M_exchange
  rw [hw, if_pos w0, s1 16 _ (by decide) rfl, zb_s, hw, if_pos w0, s1 17 _ (by decide) rfl, zb_s, hw, if_pos w0]
  have r16 := swR_s (n := 15) (by decide) (swR_0 (w := w) (a := a) (b := b) (B := B))
  have r17 := swR_s (by decide) r16
  generalize zup4 (zup4 (zup4 (zup4 B 13 w 16 a (B 13 w 16 b)) 13 w 16 b (B 13 w 16 a)) 13 w 17 a ((zup4 (zup4 B 13 w 16 a (B 13 w 16 b)) 13 w 16 b (B 13 w 16 a)) 13 w 17 b)) 13 w 17 b ((zup4 (zup4 B 13 w 16 a (B 13 w 16 b)) 13 w 16 b (B 13 w 16 a)) 13 w 17 a) = B1 at r17 ⊢
  rw [s0 18 _ (by decide) rfl, zb_s, hw, if_pos w0]
  have r18 := swR_s (by decide) r17
  generalize zup4 (zup4 B1 13 w 18 a (B1 13 w 18 b)) 13 w 18 b (B1 13 w 18 a) = B2 at r18 ⊢
  rw [s0 19 _ (by decide) rfl, zb_s, hw, if_pos w0]
  have r19 := swR_s (by decide) r18
  generalize zup4 (zup4 B2 13 w 19 a (B2 13 w 19 b)) 13 w 19 b (B2 13 w 19 a) = B3 at r19 ⊢
  rw [s0 20 _ (by decide) rfl, zb_s, hw, if_pos w0]
  have r20 := swR_s (by decide) r19
  generalize zup4 (zup4 B3 13 w 20 a (B3 13 w 20 b)) 13 w 20 b (B3 13 w 20 a) = B4 at r20 ⊢
  rw [s0 21 _ (by decide) rfl, zb_s, hw, if_pos w0]
  have r21 := swR_s (by decide) r20
  generalize zup4 (zup4 B4 13 w 21 a (B4 13 w 21 b)) 13 w 21 b (B4 13 w 21 a) = B5 at r21 ⊢
  rw [s0 22 _ (by decide) rfl, zb_s, hw, if_pos w0]
  have r22 := swR_s (by decide) r21
  generalize zup4 (zup4 B5 13 w 22 a (B5 13 w 22 b)) 13 w 22 b (B5 13 w 22 a) = B6 at r22 ⊢
  rw [s0 23 _ (by decide) rfl, zb_s, hw, if_pos w0]
  have r23 := swR_s (by decide) r22
  generalize zup4 (zup4 B6 13 w 23 a (B6 13 w 23 b)) 13 w 23 b (B6 13 w 23 a) = B7 at r23 ⊢
  rw [s0 24 _ (by decide) rfl, zb_s, hw, if_pos w0]
  have r24 := swR_s (by decide) r23
  generalize zup4 (zup4 B7 13 w 24 a (B7 13 w 24 b)) 13 w 24 b (B7 13 w 24 a) = B8 at r24 ⊢
  rw [s0 25 _ (by decide) rfl, zb_s, hw, if_pos w0]
  have r25 := swR_s (by decide) r24
  generalize zup4 (zup4 B8 13 w 25 a (B8 13 w 25 b)) 13 w 25 b (B8 13 w 25 a) = B9 at r25 ⊢
  rw [s0 26 _ (by decide) rfl, zb_s]
  have r26 := swR_s (by decide) r25
  generalize zup4 (zup4 B9 13 w 26 a (B9 13 w 26 b)) 13 w 26 b (B9 13 w 26 a) = B10 at r26 ⊢
  refine L_ex6 hw w0 a0 ab b1 6 K (t := 0) (by decide) (by decide) (by decide) (by omega) ?_
  intro c i k y
  rw [r26]
  by_cases e : c = 13 ∧ i = w ∧ 16 ≤ k ∧ k ≤ 26
  · rw [if_pos e, if_pos e]
  · rw [if_neg e, if_neg e]
    by_cases e2 : c = 13 ∧ i = w ∧ 28 ≤ k ∧ k ≤ 29
    · rw [if_pos e2]
      unfold sg6
      rw [if_neg (by omega), if_neg (by omega), e2.1, e2.2.1]
    · rw [if_neg e2]
end
end
section
section
/-! ===== what was made is turned round: the order ===== -/
noncomputable def rv (lo hi j : Int) : Int := if lo ≤ j ∧ j ≤ hi then lo + hi - j else j
theorem rv_b {lo hi j n : Int} (h0 : 0 ≤ lo) (h1 : hi < n) (j0 : 0 ≤ j) (j1 : j < n) : 0 ≤ rv lo hi j ∧ rv lo hi j < n := by
  unfold rv
  split <;> omega
theorem rv_i {lo hi j : Int} : rv lo hi (rv lo hi j) = j := by
  unfold rv
  by_cases h : lo ≤ j ∧ j ≤ hi
  · rw [if_pos h, if_pos (by omega)]; omega
  · rw [if_neg h, if_neg h]
theorem rv_s {lo hi j : Int} (h : lo < hi) : sg2 lo hi (rv (lo + 1) (hi - 1) j) = rv lo hi j := by
  unfold sg2 rv
  by_cases a : j = lo
  · rw [if_neg (show ¬ (lo + 1 ≤ j ∧ j ≤ hi - 1) by omega), if_pos a, if_pos (by omega)]; omega
  by_cases b : j = hi
  · rw [if_neg (show ¬ (lo + 1 ≤ j ∧ j ≤ hi - 1) by omega), if_neg a, if_pos b, if_pos (by omega)]; omega
  by_cases c : lo + 1 ≤ j ∧ j ≤ hi - 1
  · rw [if_pos c, if_neg (by omega), if_neg (by omega), if_pos (by omega)]; omega
  · rw [if_neg c, if_neg a, if_neg b, if_neg (by omega)]
theorem C_turn9 {K : zK} {F : zF} {q fr : Int} (h4 : 0 ≤ q ∧ q < K.2 4) : ∀ (d n : Nat) {lo hi : Int} {B : zB}, (hi + 1 - lo).toNat ≤ d → d < n → 0 ≤ lo → lo ≤ 200 → -1 ≤ hi → hi < 200 → (∀ t, 0 ≤ t → t < 200 → 0 ≤ B 4 q 5 t ∧ B 4 q 5 t < K.2 1) → ∃ B', f_Part_turn_9 K n hi lo q fr F B = f_Part_turn_53 K K.1 fr q F B' ∧ (∀ j, B' 4 q 5 j = B 4 q 5 (rv lo hi j)) ∧ ∀ c i k y, ¬ (c = 4 ∧ i = q ∧ k = 5) → B' c i k y = B c i k y := by
  intro d
  induction d with
  | zero =>
    intro n lo hi B hd hn l0 l1 h0 h1 hV
    obtain ⟨n, rfl⟩ : ∃ m, n = m + 1 := ⟨n - 1, by omega⟩
    refine ⟨B, ?_, fun j => ?_, fun _ _ _ _ _ => rfl⟩
    · rw [f_Part_turn_9, if_pos (by unfold r32; omega), if_pos (by unfold r32; omega), if_pos (by omega)]
    · unfold rv
      rw [if_neg (by omega)]
  | succ d ih =>
    intro n lo hi B hd hn l0 l1 h0 h1 hV
    obtain ⟨n, rfl⟩ : ∃ m, n = m + 1 := ⟨n - 1, by omega⟩
    by_cases c : hi ≤ lo
    · refine ⟨B, ?_, fun j => ?_, fun _ _ _ _ _ => rfl⟩
      · rw [f_Part_turn_9, if_pos (by unfold r32; omega), if_pos (by unfold r32; omega), if_pos c]
      · unfold rv
        by_cases e : lo ≤ j ∧ j ≤ hi
        · rw [if_pos e, show lo + hi - j = j by omega]
        · rw [if_neg e]
    · have sv : ∀ t, (zup4 (zup4 B 4 q 5 lo (B 4 q 5 hi)) 4 q 5 hi (B 4 q 5 lo)) 4 q 5 t = B 4 q 5 (sg2 lo hi t) := fun t => by
        rw [zup4_v, zup4_v]
        unfold sg2
        by_cases e1 : t = hi
        · rw [if_pos (by omega), if_neg (by omega), if_pos e1]
        · rw [if_neg (by omega)]
          by_cases e2 : t = lo
          · rw [if_pos (by omega), if_pos e2]
          · rw [if_neg (by omega), if_neg e2, if_neg e1]
      obtain ⟨B', e, g1, g2⟩ := ih n (lo := lo + 1) (hi := hi - 1) (B := zup4 (zup4 B 4 q 5 lo (B 4 q 5 hi)) 4 q 5 hi (B 4 q 5 lo)) (by omega) (by omega) (by omega) (by omega) (by omega) (by omega) (fun t u v => by
        rw [sv]
        refine hV _ ?_ ?_ <;> (unfold sg2; split <;> (try split) <;> omega))
      refine ⟨B', ?_, fun j => ?_, fun c i k y h => ?_⟩
      · rw [f_Part_turn_9, if_pos (by unfold r32; omega), if_pos (by unfold r32; omega), if_neg c, if_pos h4, if_pos (by omega), if_pos (by omega), if_pos (hV hi (by omega) (by omega)), if_pos (hV lo (by omega) (by omega)), e]
      · rw [g1, sv, rv_s (by omega)]
      · rw [g2 c i k y h, zup4_v, if_neg (by omega), zup4_v, if_neg (by omega)]
/-- the reference's rows, turned round between lo and hi -/
noncomputable def rvB (v w lo hi : Int) (B B' : zB) : Prop := (∀ k j, 16 ≤ k → k ≤ 26 → 0 ≤ j → j < 1000 → B' 13 w k (1000 * v + j) = B 13 w k (1000 * v + rv lo hi j)) ∧ (∀ k j t, 28 ≤ k → k ≤ 29 → 0 ≤ j → j < 1000 → 0 ≤ t → t < 6 → B' 13 w k (6 * (1000 * v + j) + t) = B 13 w k (6 * (1000 * v + rv lo hi j) + t)) ∧ ∀ c i k y, ¬ inV v w c i k y → B' c i k y = B c i k y
theorem rvB_0 {v w lo hi : Int} {B : zB} (h : hi ≤ lo) : rvB v w lo hi B B := by
  have e : ∀ j, rv lo hi j = j := fun j => by
    unfold rv
    by_cases e : lo ≤ j ∧ j ≤ hi
    · rw [if_pos e]; omega
    · rw [if_neg e]
  exact ⟨fun k j _ _ _ _ => by rw [e], fun k j t _ _ _ _ _ _ => by rw [e], fun _ _ _ _ _ => rfl⟩
theorem rvB_s {v w lo hi : Int} {B B1 B2 : zB} (v0 : 0 ≤ v) (l0 : 0 ≤ lo) (h1 : hi < 1000) (h : lo < hi) (s : sw6 w (1000 * v + lo) (1000 * v + hi) 6 B B1) (r : rvB v w (lo + 1) (hi - 1) B1 B2) : rvB v w lo hi B B2 := by
  obtain ⟨r1, r2, r3⟩ := r
  refine ⟨fun k j a b j0 j1 => ?_, fun k j t a b j0 j1 t0 t1 => ?_, fun c i k y n => ?_⟩
  · rw [r1 k j a b j0 j1, s, if_pos ⟨rfl, rfl, a, b⟩, ← rv_s h]
    unfold sg2
    generalize rv (lo + 1) (hi - 1) j = u
    by_cases e1 : u = lo
    · rw [if_pos (by omega), if_pos e1]
    rw [if_neg (by omega), if_neg e1]
    by_cases e2 : u = hi
    · rw [if_pos (by omega), if_pos e2]
    · rw [if_neg (by omega), if_neg e2]
  · rw [r2 k j t a b j0 j1 t0 t1, s, if_neg (by omega), if_pos ⟨rfl, rfl, a, b⟩, ← rv_s h]
    unfold sg2 sg6
    generalize rv (lo + 1) (hi - 1) j = u
    by_cases e1 : u = lo
    · rw [if_pos (by omega), if_pos e1]
      congr 1
      omega
    rw [if_neg (by omega), if_neg e1]
    by_cases e2 : u = hi
    · rw [if_pos (by omega), if_pos e2]
      congr 1
      omega
    · rw [if_neg (by omega), if_neg e2]
  · rw [r3 c i k y n, s]
    unfold inV at n
    by_cases e1 : c = 13 ∧ i = w ∧ 16 ≤ k ∧ k ≤ 26
    · rw [if_pos e1, e1.1, e1.2.1]
      unfold sg2
      rw [if_neg (by omega), if_neg (by omega)]
    rw [if_neg e1]
    by_cases e2 : c = 13 ∧ i = w ∧ 28 ≤ k ∧ k ≤ 29
    · rw [if_pos e2, e2.1, e2.2.1]
      unfold sg6
      rw [if_neg (by omega), if_neg (by omega)]
    · rw [if_neg e2]
theorem L_gb50 {o : oT_W} {K : Nat} {F : zF} {v w fr : Int} (hK : 10 < K) (hv : F 14 0 35 = v) (v0 : 0 ≤ v ∧ v < 4) (hw : F 14 0 6 = w) (w0 : 0 ≤ w ∧ w < 3) : ∀ (d n : Nat) {lo hi : Int} {B : zB}, (hi + 1 - lo).toNat ≤ d → d < n → 0 ≤ lo → lo ≤ 200 → -1 ≤ hi → hi < 200 → ∃ B', f_M_goBack_50 o K n hi lo fr F B = f_M_goBack_92 o K K fr F B' ∧ rvB v w lo hi B B' := by
  intro d
  induction d with
  | zero =>
    intro n lo hi B hd hn l0 l1 h0 h1
    obtain ⟨n, rfl⟩ : ∃ m, n = m + 1 := ⟨n - 1, by omega⟩
    exact ⟨B, by rw [f_M_goBack_50, if_pos (by unfold r32; omega), if_pos (by unfold r32; omega), if_pos (by omega)], rvB_0 (by omega)⟩
  | succ d ih =>
    intro n lo hi B hd hn l0 l1 h0 h1
    obtain ⟨n, rfl⟩ : ∃ m, n = m + 1 := ⟨n - 1, by omega⟩
    by_cases c : hi ≤ lo
    · exact ⟨B, by rw [f_M_goBack_50, if_pos (by unfold r32; omega), if_pos (by unfold r32; omega), if_pos c], rvB_0 c⟩
    · obtain ⟨B1, e1, s⟩ := L_exch (K := K) (w := w) (a := 1000 * v + lo) (b := 1000 * v + hi) (F := F) (B := B) hK hw w0 (by omega) (by omega) (by omega)
      obtain ⟨B', e, g⟩ := ih n (lo := lo + 1) (hi := hi - 1) (B := B1) (by omega) (by omega) (by omega) (by omega) (by omega) (by omega)
      exact ⟨B', by rw [f_M_goBack_50, hv, if_pos (by unfold r32; omega), if_pos (by unfold r32; omega), if_neg c, e1, zb_s, e], rvB_s v0.1 l0 (by omega) (by omega) s g⟩
end
end
section
section
/-! ===== what was made is turned round: the marks ===== -/
noncomputable def cmk (a t : Int) : Int := zor (zor (zor (zand a (-8)) (if zand a 2 = 0 then 0 else 4)) (if zand a 4 = 0 then 0 else 2)) t
noncomputable def rmk (a t : Int) : Int := zor (zor (zor (zand a (-8)) t) (if zand a 4 ≤ 0 then 0 else 2)) (if zand a 2 ≤ 0 then 0 else 4)
theorem mk_f : ∀ a : Fin 128, ∀ t : Fin 2, cmk (a.val : Int) (t.val : Int) = rmk (a.val : Int) (t.val : Int) ∧ 0 ≤ cmk (a.val : Int) (t.val : Int) ∧ cmk (a.val : Int) (t.val : Int) < 128 := by decide +kernel
theorem mk_e {a t : Int} (a0 : 0 ≤ a) (a1 : a < 128) (t0 : t = 0 ∨ t = 1) : cmk a t = rmk a t ∧ 0 ≤ cmk a t ∧ cmk a t < 128 := by
  have h := mk_f ⟨a.toNat, by omega⟩ ⟨t.toNat, by omega⟩
  rw [show (((⟨a.toNat, by omega⟩ : Fin 128).val : Nat) : Int) = a by show ((a.toNat : Nat) : Int) = a; omega, show (((⟨t.toNat, by omega⟩ : Fin 2).val : Nat) : Int) = t by show ((t.toNat : Nat) : Int) = t; omega] at h
  exact h
theorem tie_f : ∀ a : Fin 128, zand (a.val : Int) 1 = 0 ∨ zand (a.val : Int) 1 = 1 := by decide +kernel
theorem tie_e {a : Int} (a0 : 0 ≤ a) (a1 : a < 128) : zand a 1 = 0 ∨ zand a 1 = 1 := by
  have h := tie_f ⟨a.toNat, by omega⟩
  rw [show (((⟨a.toNat, by omega⟩ : Fin 128).val : Nat) : Int) = a by show ((a.toNat : Nat) : Int) = a; omega] at h
  exact h
theorem C_has {K : zK} {e m : Int} {F : zF} {B : zB} (he : 0 ≤ e ∧ e < K.2 1) : f_Event_has K e m F B = some (if zand (F 1 e 7) m = 0 then 0 else 1, F, B) := by
  unfold f_Event_has f_Event_has_14
  rw [if_pos he, if_pos (zand_r32 _ _)]
  by_cases c : zand (F 1 e 7) m = 0
  · rw [if_pos c, if_pos c, if_pos (by decide)]
  · rw [if_neg c, if_neg c, if_pos (by decide)]
noncomputable def tieC (q m : Int) (F : zF) (B : zB) (j : Int) : Int := if j + 1 < m then (if zand (F 1 (B 4 q 5 (j + 1)) 7) 1 = 0 then 0 else 1) else 0
theorem C_53s {K : zK} {q m l : Int} {F : zF} {B : zB} {n : Nat} (h4 : 0 ≤ q ∧ q < K.2 4) (hm : F 4 q 6 = m) (m2 : m ≤ 200) (l0 : 0 ≤ l) (lm : l < m) (hV : ∀ t, 0 ≤ t → t < 200 → 0 ≤ B 4 q 5 t ∧ B 4 q 5 t < K.2 1) : f_Part_turn_53 K (n + 1) l q F B = f_Part_turn_53 K n (l + 1) q (zup3 F 1 (B 4 q 5 l) 7 (cmk (F 1 (B 4 q 5 l) 7) (tieC q m F B l))) B := by
  have v1 := hV l l0 (by omega)
  have e149 : ∀ (rec : Int → Int → zF → zB → zO) a b, f_Part_turn_149 rec K (B 4 q 5 l) l q a b F B = rec (l + 1) q (zup3 F 1 (B 4 q 5 l) 7 (zor a b)) B := fun rec a b => by
    unfold f_Part_turn_149
    rw [if_pos v1]
  have e114 : ∀ (rec : Int → Int → zF → zB → zO) a b, f_Part_turn_114 rec K (B 4 q 5 l) l q a b F B = rec (l + 1) q (zup3 F 1 (B 4 q 5 l) 7 (zor (zor a b) (tieC q m F B l))) B := fun rec a b => by
    unfold f_Part_turn_114 f_Part_turn_148 tieC
    rw [if_pos h4, hm, if_pos (by unfold r32; omega), if_pos (by unfold r32; omega), e149]
    by_cases c : m ≤ l + 1
    · rw [if_pos c, if_neg (by omega)]
    · have v2 := hV (l + 1) (by omega) (by omega)
      rw [if_neg c, if_pos (show 0 ≤ l + 1 ∧ l + 1 < 200 by omega), if_pos v2, C_has v2, zb_s, e149, if_pos (show l + 1 < m by omega)]
      by_cases z : zand (F 1 (B 4 q 5 (l + 1)) 7) 1 = 0
      · rw [if_pos z, if_pos (by decide), if_pos rfl]
      · rw [if_neg z, if_pos (by decide), if_neg (by decide), e149]
  have e95 : ∀ (rec : Int → Int → zF → zB → zO) a b, f_Part_turn_95 rec K (B 4 q 5 l) l q a b F B = rec (l + 1) q (zup3 F 1 (B 4 q 5 l) 7 (zor (zor (zor a b) (if zand (F 1 (B 4 q 5 l) 7) 4 = 0 then 0 else 2)) (tieC q m F B l))) B := fun rec a b => by
    unfold f_Part_turn_95
    rw [if_pos v1, C_has v1, zb_s, e114, e114]
    by_cases z : zand (F 1 (B 4 q 5 l) 7) 4 = 0
    · rw [if_pos z, if_pos z, if_pos (by decide), if_pos rfl]
    · rw [if_neg z, if_neg z, if_pos (by decide), if_neg (by decide)]
  rw [f_Part_turn_53, if_pos h4, hm, if_pos (by unfold r32; omega), if_pos (by unfold r32; omega), if_neg (by omega), if_pos (by omega), if_pos v1, C_has v1, zb_s, e95, e95]
  unfold cmk
  by_cases z : zand (F 1 (B 4 q 5 l) 7) 2 = 0
  · rw [if_pos z, if_pos z, if_pos (by decide), if_pos rfl]
  · rw [if_neg z, if_neg z, if_pos (by decide), if_neg (by decide)]
theorem C_53 {K : zK} {q m : Int} {B : zB} (h4 : 0 ≤ q ∧ q < K.2 4) (m2 : m ≤ 200) (hV : ∀ t, 0 ≤ t → t < 200 → 0 ≤ B 4 q 5 t ∧ B 4 q 5 t < K.2 1) (hI : inJ q B) : ∀ (d n : Nat) {l : Int} {F : zF}, (m - l).toNat = d → d < n → 0 ≤ l → l ≤ 200 → -1 ≤ m → F 4 q 6 = m → ∃ F', f_Part_turn_53 K n l q F B = some (0, F', B) ∧ (∀ j, l ≤ j → j < m → F' 1 (B 4 q 5 j) 7 = cmk (F 1 (B 4 q 5 j) 7) (tieC q m F B j)) ∧ ∀ c y k, ¬ (c = 1 ∧ k = 7 ∧ ∃ j, l ≤ j ∧ j < m ∧ B 4 q 5 j = y) → F' c y k = F c y k := by
  intro d
  induction d with
  | zero =>
    intro n l F hd hn l0 l2 m1 hm
    obtain ⟨n, rfl⟩ : ∃ m, n = m + 1 := ⟨n - 1, by omega⟩
    exact ⟨F, by rw [f_Part_turn_53, if_pos h4, hm, if_pos (by unfold r32; omega), if_pos (by unfold r32; omega), if_pos (by omega)], fun j a b => by omega, fun _ _ _ _ => rfl⟩
  | succ d ih =>
    intro n l F hd hn l0 l2 m1 hm
    obtain ⟨n, rfl⟩ : ∃ m, n = m + 1 := ⟨n - 1, by omega⟩
    obtain ⟨F', e, g1, g2⟩ := ih n (l := l + 1) (F := zup3 F 1 (B 4 q 5 l) 7 (cmk (F 1 (B 4 q 5 l) 7) (tieC q m F B l))) (by omega) (by omega) (by omega) (by omega) m1 (by rw [zup3_v, if_neg (by omega)]; exact hm)
    have ne : ∀ j, l < j → j < m → ¬ B 4 q 5 j = B 4 q 5 l := fun j a b y => by
      have := hI j l (by omega) (by omega) (by omega) (by omega) y
      omega
    refine ⟨F', by rw [C_53s h4 hm m2 l0 (by omega) hV, e], fun j a b => ?_, fun c y k h => ?_⟩
    · by_cases jl : j = l
      · subst jl
        rw [g2 1 _ 7 (fun ⟨_, _, t, t0, t1, t2⟩ => ne t (by omega) t1 t2), zup3_v, if_pos ⟨rfl, rfl, rfl⟩]
      · rw [g1 j (by omega) b, zup3_v, if_neg (fun z => ne j (by omega) b z.2.1)]
        congr 1
        generalize cmk (F 1 (B 4 q 5 l) 7) (tieC q m F B l) = val
        unfold tieC
        by_cases c : j + 1 < m
        · rw [if_pos c, if_pos c, zup3_v, if_neg (show ¬ ((1 : Nat) = 1 ∧ B 4 q 5 (j + 1) = B 4 q 5 l ∧ (7 : Nat) = 7) from fun z => ne (j + 1) (by omega) c z.2.1)]
        · rw [if_neg c, if_neg c]
    · rw [g2 c y k (fun ⟨p1, p2, t, t0, t1, t2⟩ => h ⟨p1, p2, t, by omega, t1, t2⟩), zup3_v, if_neg (fun z => h ⟨z.1, z.2.2, l, Int.le_refl _, by omega, z.2.1.symm⟩)]
noncomputable def tieM (v w m : Int) (B : zB) (j : Int) : Int := if j + 1 < m then zand (B 13 w 18 (1000 * v + j + 1)) 1 else 0
theorem L_92s {o : oT_W} {K : Nat} {F : zF} {B : zB} {v w m l : Int} {n : Nat} (hv : F 14 0 35 = v) (v0 : 0 ≤ v ∧ v < 4) (hw : F 14 0 6 = w) (w0 : 0 ≤ w ∧ w < 3) (hm : F 14 0 36 = m) (m2 : m ≤ 200) (l0 : 0 ≤ l) (lm : l < m) : f_M_goBack_92 o K (n + 1) l F B = f_M_goBack_92 o K n (l + 1) F (zup4 B 13 w 18 (1000 * v + l) (rmk (B 13 w 18 (1000 * v + l)) (tieM v w m B l))) := by
  have e180 : ∀ (rec : Int → zF → zB → zO) a b c d, f_M_goBack_180 o rec K a b c (1000 * v + l) l d F B = rec (l + 1) F (zup4 B 13 w 18 (1000 * v + l) (zor (zor (zor (zand c (-8)) b) a) d)) := fun rec a b c d => by
    unfold f_M_goBack_180
    rw [hw, if_pos w0, if_pos (by omega)]
  have e152 : ∀ (rec : Int → zF → zB → zO) c s, f_M_goBack_152 o rec K c (1000 * v + l) l s F B = rec (l + 1) F (zup4 B 13 w 18 (1000 * v + l) (rmk c s)) := fun rec c s => by
    unfold f_M_goBack_152 f_M_goBack_166 rmk
    rw [if_pos (zand_r32 _ _)]
    by_cases z : zand c 4 ≤ 0
    · rw [if_pos z, if_pos z, if_pos (zand_r32 _ _)]
      by_cases y : zand c 2 ≤ 0
      · rw [if_pos y, if_pos y, e180]
      · rw [if_neg y, if_neg y, e180]
    · rw [if_neg z, if_neg z, if_pos (zand_r32 _ _)]
      by_cases y : zand c 2 ≤ 0
      · rw [if_pos y, if_pos y, e180]
      · rw [if_neg y, if_neg y, e180]
  rw [f_M_goBack_92, hm, hv, hw, if_pos (by unfold r32; omega), if_pos (by unfold r32; omega), if_neg (by omega), if_pos w0, if_pos (by omega), if_pos (by unfold r32; omega), e152]
  unfold tieM
  by_cases c : m - 1 ≤ l
  · rw [if_pos c, if_neg (by omega)]
  · rw [if_neg c, if_pos (by omega), if_pos (by omega), e152]
theorem L_92 {o : oT_W} {K : Nat} {F : zF} {v w m : Int} (hv : F 14 0 35 = v) (v0 : 0 ≤ v ∧ v < 4) (hw : F 14 0 6 = w) (w0 : 0 ≤ w ∧ w < 3) (hm : F 14 0 36 = m) (m1 : -1 ≤ m) (m2 : m ≤ 200) : ∀ (d n : Nat) {l : Int} {B : zB}, (m - l).toNat = d → d < n → 0 ≤ l → l ≤ 200 → ∃ B', f_M_goBack_92 o K n l F B = some (0, F, B') ∧ (∀ j, l ≤ j → j < m → B' 13 w 18 (1000 * v + j) = rmk (B 13 w 18 (1000 * v + j)) (tieM v w m B j)) ∧ ∀ c i k y, ¬ (c = 13 ∧ i = w ∧ k = 18 ∧ 1000 * v + l ≤ y ∧ y < 1000 * v + m) → B' c i k y = B c i k y := by
  intro d
  induction d with
  | zero =>
    intro n l B hd hn l0 l2
    obtain ⟨n, rfl⟩ : ∃ m, n = m + 1 := ⟨n - 1, by omega⟩
    exact ⟨B, by rw [f_M_goBack_92, hm, if_pos (by unfold r32; omega), if_pos (by unfold r32; omega), if_pos (by omega)], fun j a b => by omega, fun _ _ _ _ _ => rfl⟩
  | succ d ih =>
    intro n l B hd hn l0 l2
    obtain ⟨n, rfl⟩ : ∃ m, n = m + 1 := ⟨n - 1, by omega⟩
    obtain ⟨B', e, g1, g2⟩ := ih n (l := l + 1) (B := zup4 B 13 w 18 (1000 * v + l) (rmk (B 13 w 18 (1000 * v + l)) (tieM v w m B l))) (by omega) (by omega) (by omega) (by omega)
    refine ⟨B', by rw [L_92s hv v0 hw w0 hm m2 l0 (by omega), e], fun j a b => ?_, fun c i k y h => ?_⟩
    · by_cases jl : j = l
      · subst jl
        rw [g2 _ _ _ _ (by omega), zup4_v, if_pos ⟨rfl, rfl, rfl, rfl⟩]
      · rw [g1 j (by omega) b, zup4_v, if_neg (by omega)]
        congr 1
        unfold tieM
        by_cases c : j + 1 < m
        · rw [if_pos c, if_pos c, zup4_v, if_neg (by omega)]
        · rw [if_neg c, if_neg c]
    · rw [g2 c i k y (by omega), zup4_v, if_neg (by omega)]
end
end
section
section
/-! ===== what was made is turned round, both sides ===== -/
theorem EVW_g {w e x x' : Int} {F F' : zF} {B Bm B' Bm' : zB} (h : EVW w e x F B Bm) (h1 : ∀ k, ¬ k = 7 → F' 1 e k = F 1 e k) (h2 : ∀ k y, B' 1 e k y = B 1 e k y) (h3 : ∀ k, 16 ≤ k → k ≤ 26 → ¬ k = 18 → Bm' 13 w k x' = Bm 13 w k x) (h4 : ∀ k t, 28 ≤ k → k ≤ 29 → 0 ≤ t → t < 6 → Bm' 13 w k (6 * x' + t) = Bm 13 w k (6 * x + t)) (h5 : ∀ y, Bm' 14 0 8 y = Bm 14 0 8 y) (h7 : F' 1 e 7 = Bm' 13 w 18 x' ∧ 0 ≤ F' 1 e 7 ∧ F' 1 e 7 < 128) : EVW w e x' F' B' Bm' := by
  unfold EVW EPR at h ⊢
  simp only [h1 1 (by decide), h1 2 (by decide), h1 3 (by decide), h1 4 (by decide), h1 5 (by decide), h1 6 (by decide), h1 8 (by decide), h1 9 (by decide), h1 10 (by decide), h2, h5, h3 16 (by decide) (by decide) (by decide), h3 17 (by decide) (by decide) (by decide), h3 19 (by decide) (by decide) (by decide), h3 20 (by decide) (by decide) (by decide), h3 21 (by decide) (by decide) (by decide), h3 22 (by decide) (by decide) (by decide), h3 23 (by decide) (by decide) (by decide), h3 24 (by decide) (by decide) (by decide), h3 25 (by decide) (by decide) (by decide), h3 26 (by decide) (by decide) (by decide)]
  obtain ⟨a1, a2, a3, a4, a5, a6, a7, a8, a9, a10, a11, e1, e2, e3, e4, e5⟩ := h
  refine ⟨a1, a2, a3, a4, a5, a6, a7, a8, h7, a10, a11, trivial, e2, e3, fun k u v => ?_, e5⟩
  rw [h4 28 _ (by decide) (by decide) u (by omega), h4 29 _ (by decide) (by decide) u (by omega)]
  exact e4 k u v
/-- what the turning may change, exactly -/
theorem T_parts {K : zK} {Km : Nat} {o : oT_W} {q v w m mm fr : Int} {F : zF} {B : zB} {Fm : zF} {Bm : zB} (hK : 3002 ≤ K.1) (hKm : 3002 < Km) (h4 : 0 ≤ q ∧ q < K.2 4) (v0 : 0 ≤ v ∧ v < 4) (w0 : 0 ≤ w ∧ w < 3) (hV : ∀ t, 0 ≤ t → t < 200 → 0 ≤ B 4 q 5 t ∧ B 4 q 5 t < K.2 1) (hI : inJ q B) (hv : Fm 14 0 35 = v) (hw : Fm 14 0 6 = w) (hm : F 4 q 6 = m) (m0 : 0 ≤ m ∧ m ≤ 200) (hmm : Fm 14 0 36 = mm) (mm0 : 0 ≤ mm ∧ mm ≤ 200) (f0 : 0 ≤ fr ∧ fr ≤ 200) : ∃ F' B' B1 Bm1 Bm', f_Part_turn K q fr F B = some (0, F', B') ∧ f_M_goBack_50 o Km Km (Fm 14 0 36 - 1) fr fr Fm Bm = some (0, Fm, Bm') ∧ B' = B1 ∧ (∀ j, B1 4 q 5 j = B 4 q 5 (rv fr (m - 1) j)) ∧ (∀ c i k y, ¬ (c = 4 ∧ i = q ∧ k = 5) → B1 c i k y = B c i k y) ∧ inJ q B1 ∧ (∀ j, fr ≤ j → j < m → F' 1 (B1 4 q 5 j) 7 = cmk (F 1 (B1 4 q 5 j) 7) (tieC q m F B1 j)) ∧ (∀ c y k, ¬ (c = 1 ∧ k = 7 ∧ ∃ j, fr ≤ j ∧ j < m ∧ B1 4 q 5 j = y) → F' c y k = F c y k) ∧ rvB v w fr (mm - 1) Bm Bm1 ∧ (∀ j, fr ≤ j → j < mm → Bm' 13 w 18 (1000 * v + j) = rmk (Bm1 13 w 18 (1000 * v + j)) (tieM v w mm Bm1 j)) ∧ (∀ c i k y, ¬ (c = 13 ∧ i = w ∧ k = 18 ∧ 1000 * v + fr ≤ y ∧ y < 1000 * v + mm) → Bm' c i k y = Bm1 c i k y) := by
  obtain ⟨B1, e1, p1, p2⟩ := C_turn9 (K := K) (F := F) (q := q) (fr := fr) h4 200 K.1 (lo := fr) (hi := m - 1) (B := B) (by omega) (by omega) f0.1 f0.2 (by omega) (by omega) hV
  have hV1 : ∀ t, 0 ≤ t → t < 200 → 0 ≤ B1 4 q 5 t ∧ B1 4 q 5 t < K.2 1 := fun t a b => by
    rw [p1]
    have := rv_b (lo := fr) (hi := m - 1) (n := 200) f0.1 (by omega) a b
    exact hV _ this.1 this.2
  have hI1 : inJ q B1 := fun t t' a b a' b' y => by
    rw [p1, p1] at y
    have z1 := rv_b (lo := fr) (hi := m - 1) (n := 200) f0.1 (by omega) a b
    have z2 := rv_b (lo := fr) (hi := m - 1) (n := 200) f0.1 (by omega) a' b'
    have := hI _ _ z1.1 z1.2 z2.1 z2.2 y
    rw [← rv_i (lo := fr) (hi := m - 1) (j := t), this, rv_i]
  obtain ⟨F', e2, p3, p4⟩ := C_53 (K := K) (q := q) (m := m) (B := B1) h4 m0.2 hV1 hI1 (m - fr).toNat K.1 (l := fr) (F := F) rfl (by omega) f0.1 f0.2 (by omega) hm
  obtain ⟨Bm1, e3, p5⟩ := L_gb50 (o := o) (K := Km) (F := Fm) (fr := fr) (by omega) hv v0 hw w0 200 Km (lo := fr) (hi := mm - 1) (B := Bm) (by omega) (by omega) f0.1 f0.2 (by omega) (by omega)
  obtain ⟨Bm', e4, p6, p7⟩ := L_92 (o := o) (K := Km) hv v0 hw w0 hmm (by omega) mm0.2 (mm - fr).toNat Km (l := fr) (B := Bm1) rfl (by omega) f0.1 f0.2
  refine ⟨F', B1, B1, Bm1, Bm', ?_, ?_, rfl, p1, p2, hI1, p3, p4, p5, p6, p7⟩
  · unfold f_Part_turn
    rw [if_pos h4, hm, e1, e2]
  · rw [hmm, e3, e4]
theorem sumZ_v {g : Int → Int} {lo : Int} {n : Nat} (l0 : 0 ≤ lo) : sumZ (fun j => g (rv lo (n - 1) j)) n = sumZ g n := by
  by_cases c : (n : Int) ≤ lo
  · exact sumZ_c (fun j a b => by unfold rv; rw [if_neg (by omega)])
  · obtain ⟨a, ha⟩ : ∃ k : Nat, lo = k := ⟨lo.toNat, by omega⟩
    obtain ⟨k, hk⟩ : ∃ k : Nat, n = a + k := ⟨n - a, by omega⟩
    rw [hk, sumZ_a, sumZ_a, sumZ_c (g := fun j => g (rv lo (((a + k : Nat) : Int) - 1) j)) (h := g) (n := a) (fun j p r => by show g (rv lo _ j) = g j; unfold rv; rw [if_neg (by omega)])]
    congr 1
    rw [← sumZ_r (f := fun t => g (a + t)) (n := k)]
    exact sumZ_c (fun j p r => by
      show g (rv lo _ ((a : Int) + j)) = g (a + ((k : Int) - 1 - j))
      unfold rv
      rw [if_pos (by omega), show lo + (((a + k : Nat) : Int) - 1) - (a + j) = a + ((k : Int) - 1 - j) by omega])
theorem T_frame {q v w m mm fr : Int} {F F' : zF} {B B1 : zB} {Fm : zF} {Bm Bm1 Bm' : zB} (hm : F 4 q 6 = m) (m0 : 0 ≤ m ∧ m ≤ 200) (mm0 : 0 ≤ mm ∧ mm ≤ 200) (f0 : 0 ≤ fr ∧ fr ≤ 200) (p1 : ∀ j, B1 4 q 5 j = B 4 q 5 (rv fr (m - 1) j)) (p2 : ∀ c i k y, ¬ (c = 4 ∧ i = q ∧ k = 5) → B1 c i k y = B c i k y) (hI1 : inJ q B1) (p4 : ∀ c y k, ¬ (c = 1 ∧ k = 7 ∧ ∃ j, fr ≤ j ∧ j < m ∧ B1 4 q 5 j = y) → F' c y k = F c y k) (p5 : rvB v w fr (mm - 1) Bm Bm1) (p7 : ∀ c i k y, ¬ (c = 13 ∧ i = w ∧ k = 18 ∧ 1000 * v + fr ≤ y ∧ y < 1000 * v + mm) → Bm' c i k y = Bm1 c i k y) : WFR q v w F B Fm Bm F' B1 Fm Bm' := by
  have own : ∀ j, 0 ≤ j → j < 200 → ownE B q (B1 4 q 5 j) := fun j a b => by
    have z := rv_b (lo := fr) (hi := m - 1) (n := 200) f0.1 (by omega) a b
    exact ⟨_, z.1, z.2, (p1 j).symm⟩
  refine ⟨fun c y k a b d => p4 c y k (fun ⟨z1, _, j, j0, j1, j2⟩ => d ⟨z1, by rw [← j2]; exact own j (by omega) (by omega)⟩), fun c y k x a b d => p2 c y k x b, fun y => ⟨?_, ?_⟩, fun _ _ _ _ => rfl, fun c i k x a b => ?_, fun _ => ⟨hI1, fun c => ⟨by rw [p4 4 q 6 (by omega)]; exact c, ?_⟩⟩⟩
  · intro ⟨j, j0, j1, j2⟩
    rw [← j2]
    exact own j j0 j1
  · intro ⟨j, j0, j1, j2⟩
    have z := rv_b (lo := fr) (hi := m - 1) (n := 200) f0.1 (by omega) j0 j1
    exact ⟨_, z.1, z.2, by rw [p1, rv_i]; exact j2⟩
  · have b' := b
    unfold inV at b'
    rw [p7 c i k x (by omega), p5.2.2 c i k x b]
  · unfold SD
    rw [p4 11 0 11 (by omega), p4 4 q 6 (by omega), hm]
    obtain ⟨mn', hmn⟩ : ∃ k : Nat, m = k := ⟨m.toNat, by omega⟩
    rw [show m.toNat = mn' by omega, ← sumZ_v (g := fun j => F 1 (B 4 q 5 j) 1) (n := mn') f0.1, sumZ_c (fun j a b => by
      show F' 1 (B1 4 q 5 j) 1 = F 1 (B 4 q 5 (rv fr ((mn' : Int) - 1) j)) 1
      rw [p4 1 _ 1 (fun z => absurd z.2.1 (by decide)), p1, hmn])]
theorem P_turn {K : zK} {Km : Nat} {o : oT_W} {N q v w bar fr : Int} {D : Nat} {F : zF} {B : zB} {Fm : zF} {Bm : zB} (hC : WC K Km N q v w bar B Fm Bm) (hS : WS q v w bar D F B Fm Bm) (f0 : 0 ≤ fr ∧ fr ≤ F 4 q 6) : zP (f_Part_turn K q fr F B) (f_M_goBack_50 o Km Km (Fm 14 0 36 - 1) fr fr Fm Bm) (fun _ F' B' _ Fm' Bm' => WFR q v w F B Fm Bm F' B' Fm' Bm' ∧ WS q v w bar D F' B' Fm' Bm' ∧ WKP q F B Fm Bm F' B' Fm' Bm') := by
  obtain ⟨hK, hKm, h11, h3, h4, v0, w0, _, hV, hI, _⟩ := hC
  obtain ⟨s1, ⟨b1, b2, b3⟩, s3, s4, s5, s6, s7, s8, s9, s10, s11, s12, ⟨o1, o2, o3, o4⟩⟩ := hS
  generalize hm : F 4 q 6 = m at o1 o2 o3 o4 f0
  obtain ⟨F', B', B1, Bm1, Bm', e1, e2, e3, p1, p2, hI1, p3, p4, p5, p6, p7⟩ := T_parts (K := K) (Km := Km) (F := F) (B := B) (Fm := Fm) (Bm := Bm) (o := o) (m := m) (mm := m) (fr := fr) hK (by omega) h4 v0 w0 hV hI b1 b2 hm ⟨o2, o3⟩ o1.symm ⟨o2, o3⟩ (by omega)
  subst e3
  rw [e1, e2]
  have fn : ∀ (c : Nat) y k, ¬ c = 1 → F' c y k = F c y k := fun c y k n => p4 c y k (fun z => n z.1)
  have bn : ∀ (c : Nat) i k y, ¬ c = 4 → B' c i k y = B c i k y := fun c i k y n => p2 c i k y (fun z => n z.1)
  have mn : ∀ (c : Nat) i k y, ¬ c = 13 → Bm' c i k y = Bm c i k y := fun c i k y n => by
    rw [p7 c i k y (fun z => n z.1), p5.2.2 c i k y (fun z => n z.1)]
  have m14 : ∀ k y, Bm' 14 0 k y = Bm 14 0 k y := fun k y => mn 14 0 k y (by decide)
  refine zP_s ⟨T_frame hm ⟨o2, o3⟩ ⟨o2, o3⟩ (by omega) p1 p2 hI1 p4 p5 p7, ?_, ?_⟩
  · refine ⟨by simp only [fn 11 0 _ (by decide)]; exact s1, by simp only [fn 11 0 _ (by decide)]; exact ⟨b1, b2, b3⟩, by simp only [fn 11 0 _ (by decide)]; exact s3, by simp only [fn 11 0 _ (by decide)]; exact s4, by simp only [fn 11 0 _ (by decide)]; exact s5, by simp only [fn 11 0 _ (by decide)]; exact s6, by simp only [fn 11 0 _ (by decide)]; exact s7, by simp only [fn 11 0 _ (by decide), m14]; exact s8, ?_, by simp only [fn 11 0 _ (by decide)]; exact s10, ?_, ?_, ?_⟩
    · simp only [fn 11 0 _ (by decide)]
      unfold TPL at s9 ⊢
      simp only [m14]
      exact s9
    · simp only [bn 11 0 _ _ (by decide), m14]
      exact s11
    · simp only [fn 11 0 _ (by decide)]
      refine ⟨s12.1, s12.2.1, s12.2.2.1, fun k u t => ?_⟩
      have := s12.2.2.2 k u t
      unfold CRk at this ⊢
      simp only [bn 11 0 _ _ (by decide), m14]
      exact this
    · rw [fn 4 q 6 (by decide), hm]
      refine ⟨o1, o2, o3, fun j j0 j1 => ?_⟩
      have rb : ∀ t, 0 ≤ t → t < m → 0 ≤ rv fr (m - 1) t ∧ rv fr (m - 1) t < m := fun t a b => rv_b f0.1 (by omega) a b
      have ev : ∀ t, 0 ≤ t → t < m → EVW w (B' 4 q 5 t) (1000 * v + rv fr (m - 1) t) F B Bm := fun t a b => by
        rw [p1]
        exact o4 _ (rb t a b).1 (rb t a b).2
      have mk : ∀ t, 0 ≤ t → t < m → F 1 (B' 4 q 5 t) 7 = Bm1 13 w 18 (1000 * v + t) ∧ 0 ≤ F 1 (B' 4 q 5 t) 7 ∧ F 1 (B' 4 q 5 t) 7 < 128 := fun t a b => by
        have := (ev t a b).2.2.2.2.2.2.2.2.1
        rw [p5.1 18 t (by decide) (by decide) a (by omega)]
        exact this
      refine EVW_g (ev j j0 j1) (fun k n => p4 1 _ k (fun z => n z.2.1)) (fun k y => bn 1 _ k y (by decide)) (fun k a b n => ?_) (fun k t a b t0 t1 => ?_) (fun y => m14 8 y) ?_
      · rw [p7 _ _ _ _ (by omega), p5.1 k j a b j0 (by omega)]
      · rw [p7 _ _ _ _ (by omega), p5.2.1 k j t a b j0 (by omega) t0 t1]
      · obtain ⟨k1, k2, k3⟩ := mk j j0 j1
        by_cases c : fr ≤ j
        · have tt : tieC q m F B' j = tieM v w m Bm1 j ∧ (tieC q m F B' j = 0 ∨ tieC q m F B' j = 1) := by
            unfold tieC tieM
            by_cases d : j + 1 < m
            · rw [if_pos d, if_pos d]
              obtain ⟨y1, y2, y3⟩ := mk (j + 1) (by omega) d
              rw [show 1000 * v + j + 1 = 1000 * v + (j + 1) by omega, ← y1]
              rcases tie_e y2 y3 with z | z
              · rw [z]; exact ⟨by decide, by decide⟩
              · rw [z]; exact ⟨by decide, by decide⟩
            · rw [if_neg d, if_neg d]
              exact ⟨rfl, Or.inl rfl⟩
          rw [p3 j c j1, p6 j c j1, ← k1, ← tt.1]
          exact mk_e k2 k3 tt.2
        · rw [p4 1 _ 7 (fun ⟨_, _, t, t0, t1, t2⟩ => by have := hI1 t j (by omega) (by omega) (by omega) (by omega) t2; omega), p7 _ _ _ _ (by omega)]
          exact ⟨k1, k2, k3⟩
  · refine ⟨⟨fn _ _ _ (by decide), fn _ _ _ (by decide), fn _ _ _ (by decide), fn _ _ _ (by decide), fn _ _ _ (by decide)⟩, fun k u t => bn _ _ _ _ (by decide), fun k u t => ⟨bn _ _ _ _ (by decide), bn _ _ _ _ (by decide), bn _ _ _ _ (by decide), m14 _ _, m14 _ _, m14 _ _⟩, fun k u t => ⟨m14 _ _, m14 _ _⟩, fun u => ⟨fn _ _ _ (by decide), fn _ _ _ (by decide), rfl⟩, by rw [fn _ _ _ (by decide)]; exact Int.le_refl _⟩
theorem P_turnE {K : zK} {Km : Nat} {o : oT_W} {N q v w bar fr : Int} {D : Nat} {F : zF} {B : zB} {Fm : zF} {Bm : zB} (hC : WC K Km N q v w bar B Fm Bm) (hS : WE D q v w F Fm) (f0 : 0 ≤ fr ∧ fr ≤ 200) : zP (f_Part_turn K q fr F B) (f_M_goBack_50 o Km Km (Fm 14 0 36 - 1) fr fr Fm Bm) (fun _ F' B' _ Fm' Bm' => WFR q v w F B Fm Bm F' B' Fm' Bm' ∧ WE D q v w F' Fm') := by
  obtain ⟨hK, hKm, h11, h3, h4, v0, w0, _, hV, hI, _⟩ := hC
  obtain ⟨a1, a2, a3, a4, a5, a6, a7, a8, a9, a10⟩ := hS
  obtain ⟨F', B', B1, Bm1, Bm', e1, e2, e3, p1, p2, hI1, p3, p4, p5, p6, p7⟩ := T_parts (K := K) (Km := Km) (F := F) (B := B) (Fm := Fm) (Bm := Bm) (o := o) (m := F 4 q 6) (mm := Fm 14 0 36) (fr := fr) hK (by omega) h4 v0 w0 hV hI a6 a7 rfl a8 rfl a9 f0
  subst e3
  rw [e1, e2]
  have fn : ∀ (c : Nat) y k, ¬ c = 1 → F' c y k = F c y k := fun c y k n => p4 c y k (fun z => n z.1)
  refine zP_s ⟨T_frame rfl a8 a9 f0 p1 p2 hI1 p4 p5 p7, ?_⟩
  refine ⟨by rw [fn _ _ _ (by decide)]; exact a1, by rw [fn _ _ _ (by decide)]; exact a2, by rw [fn _ _ _ (by decide)]; exact a3, a4, a5, a6, a7, by rw [fn _ _ _ (by decide)]; exact a8, a9, by rw [fn _ _ _ (by decide)]; exact a10⟩
end
end
section
section
/-! ===== the walk: what stands fast, counting ===== -/
theorem WC_f {K : zK} {Km : Nat} {N q v w bar : Int} {F F' : zF} {B B' : zB} {Fm Fm' : zF} {Bm Bm' : zB} (h : WC K Km N q v w bar B Fm Bm) (f : WFR q v w F B Fm Bm F' B' Fm' Bm') : WC K Km N q v w bar B' Fm' Bm' := by
  obtain ⟨a1, a2, a3, a4, a5, a6, a7, ⟨t0, t1, t2⟩, a9, a10, a11⟩ := h
  obtain ⟨f1, f2, f3, f4, f5, f6⟩ := f
  have b10 : ∀ k y, B' 10 0 k y = B 10 0 k y := fun k y => f2 10 0 k y (by omega) (by omega) (by omega)
  have m14 : ∀ (k : Nat) y, k < 42 → Bm' 14 0 k y = Bm 14 0 k y := fun k y n => f5 14 0 k y (by omega) (by unfold inV; omega)
  refine ⟨a1, a2, a3, a4, a5, a6, a7, ⟨t0, t1, fun j u v => ?_⟩, fun t u v => ?_, (f6 a10).1, ?_⟩
  · have := t2 j u v
    unfold TKj at this ⊢
    simp only [b10, m14 7 _ (by decide), m14 8 _ (by decide), m14 9 _ (by decide), m14 10 _ (by decide), m14 11 _ (by decide)]
    exact this
  · obtain ⟨j, j0, j1, j2⟩ := (f3 (B' 4 q 5 t)).mp ⟨t, u, v, rfl⟩
    rw [← j2]
    exact a9 j j0 j1
  · rw [f4 13 w 4 (by omega), f4 13 w 5 (by omega)]
    exact a11
/-- the tree as it was parsed -/
noncomputable def WT (N : Int) (B0 Bm0 B Bm : zB) : Prop := (∀ k y, B 3 0 k y = B0 3 0 k y) ∧ (∀ (k : Nat) y, k < 30 ∨ (34 < k ∧ k < 42) → Bm 14 0 k y = Bm0 14 0 k y) ∧ (∀ (k : Nat) y, 30 ≤ k → k ≤ 34 → y < N → Bm 14 0 k y = Bm0 14 0 k y) ∧ (∀ y, N ≤ y → Bm0 14 0 30 y ≤ y ∧ Bm0 14 0 31 y ≤ y)
theorem WT_f {N q v w : Int} {F F' : zF} {B B' : zB} {Fm Fm' : zF} {B0 Bm0 Bm Bm' : zB} (h : WT N B0 Bm0 B Bm) (f : WFR q v w F B Fm Bm F' B' Fm' Bm') : WT N B0 Bm0 B' Bm' := by
  obtain ⟨f1, f2, f3, f4, f5, f6⟩ := f
  exact ⟨fun k y => by rw [f2 3 0 k y (by omega) (by omega) (by omega)]; exact h.1 k y, fun k y n => by rw [f5 14 0 k y (by omega) (by unfold inV; omega)]; exact h.2.1 k y n, fun k y n n' u => by rw [f5 14 0 k y (by omega) (by unfold inV; omega)]; exact h.2.2.1 k y n n' u, h.2.2.2⟩
theorem P_count {K : zK} {Km : Nat} {q v w bar i : Int} {D : Nat} {F : zF} {B : zB} {Fm : zF} {Bm : zB} (h11 : 0 < K.2 11) (hS : WS q v w bar D F B Fm Bm) (hD : D ≤ 64) (hi : 0 ≤ i ∧ i < 3001) (hp : 0 ≤ Bm 14 0 8 i ∧ Bm 14 0 8 i ≤ 3000) : zP (f_Walker_countItem K 0 (Bm 14 0 8 i) F B) (f_M_counts Km i Fm Bm) (fun _ F' B' _ Fm' Bm' => B' = B ∧ Bm' = Bm ∧ WFR q v w F B Fm Bm F' B' Fm' Bm' ∧ ((WS q v w bar D F' B' Fm' Bm' ∧ F' 11 0 7 < F' 11 0 3 ∧ WKP q F B Fm Bm F' B' Fm' Bm') ∨ WE D q v w F' Fm')) := by
  have hS' := hS
  obtain ⟨⟨a1, a2, a3, a4⟩, ⟨b1, b2, b3, b4⟩, ⟨c1, c2, c3⟩, s4, s5, s6, s7, s8, s9, s10, s11, s12, s13⟩ := hS
  unfold f_Walker_countItem f_M_counts f_Walker_countItem_27 f_M_counts_30
  have r0 : r32 (F 11 0 3) := by unfold r32; omega
  have r1 : r32 (F 11 0 3 + 1) := by unfold r32; omega
  rw [if_pos ⟨Int.le_refl _, h11⟩, if_pos r1, ← c1, if_pos r0]
  by_cases c : F 11 0 3 = 5000
  · rw [if_neg (show ¬ F 11 0 3 + 1 ≤ 5000 by omega), if_pos c, C_wref h11 (by rw [zup3_v, if_neg (by decide)]; exact a3), zb_s, L_failAt a4 hi, zb_s]
    refine zP_s ⟨rfl, rfl, ⟨fun c y k n _ _ => by rw [zup3_v, if_neg (by omega), zup3_v, if_neg (by omega)], fun _ _ _ _ _ _ _ => rfl, fun _ => Iff.rfl, fun c y k n => by rw [flM_n (by omega)], fun _ _ _ _ _ _ => rfl, fun h => ⟨h, fun c => ⟨by rw [zup3_v, if_neg (by omega), zup3_v, if_neg (by omega)]; exact c, SD_c (by rw [zup3_v, if_neg (by omega), zup3_v, if_neg (by omega)]) (by rw [zup3_v, if_neg (by omega), zup3_v, if_neg (by omega)]) c (fun j _ _ => by rw [zup3_v, if_neg (by omega), zup3_v, if_neg (by omega)])⟩⟩⟩, Or.inr ⟨?_, ?_, ?_, flM_b (by decide) (by decide), ?_, ?_, ?_, ?_, ?_, ?_⟩⟩
    · rw [zup3_v, if_neg (by decide), zup3_v, if_neg (by decide)]; exact a1
    · rw [zup3_v, if_neg (by decide), zup3_v, if_neg (by decide)]; exact a2
    · rw [zup3_v, if_pos (by decide), flM_17, flM_18]
    · rw [flM_18]; exact hp
    · rw [flM_n (by decide)]; exact b1
    · rw [flM_n (by decide)]; exact b2
    · rw [zup3_v, if_neg (by omega), zup3_v, if_neg (by omega)]; omega
    · rw [flM_n (by decide)]; omega
    · rw [zup3_v, if_neg (by decide), zup3_v, if_pos (by decide)]; omega
  · rw [if_pos (show F 11 0 3 + 1 ≤ 5000 by omega), if_neg c]
    have fn : ∀ c y k, ¬ (c = 11 ∧ y = 0 ∧ k = 3) → zup3 F 11 0 3 (F 11 0 3 + 1) c y k = F c y k := fun c y k n => by rw [zup3_v, if_neg n]
    have f3 : zup3 F 11 0 3 (F 11 0 3 + 1) 11 0 3 = F 11 0 3 + 1 := by rw [zup3_v, if_pos (by decide)]
    have gn : ∀ c y k, ¬ (c = 14 ∧ y = 0 ∧ k = 37) → zup3 Fm 14 0 37 (F 11 0 3 + 1) c y k = Fm c y k := fun c y k n => by rw [zup3_v, if_neg n]
    have g3 : zup3 Fm 14 0 37 (F 11 0 3 + 1) 14 0 37 = F 11 0 3 + 1 := by rw [zup3_v, if_pos (by decide)]
    generalize zup3 F 11 0 3 (F 11 0 3 + 1) = X at fn f3 ⊢
    generalize zup3 Fm 14 0 37 (F 11 0 3 + 1) = Y at gn g3 ⊢
    have e1 : ∀ y k, X 1 y k = F 1 y k := fun y k => fn 1 y k (by omega)
    refine zP_s ⟨rfl, rfl, ⟨fun c y k n _ _ => fn c y k (by omega), fun _ _ _ _ _ _ _ => rfl, fun _ => Iff.rfl, fun c y k n => gn c y k (by omega), fun _ _ _ _ _ _ => rfl, fun h => ⟨h, fun c => ⟨by rw [fn 4 q 6 (by omega)]; exact c, SD_c (fn 11 0 11 (by omega)) (fn 4 q 6 (by omega)) c (fun j _ _ => fn 1 _ 1 (by omega))⟩⟩⟩, Or.inl ⟨?_, ?_, ?_⟩⟩
    · refine ⟨?_, ?_, ?_, ?_, ?_, ?_, ?_, ?_, ?_, ?_, s11, ?_, ?_⟩
      · rw [fn 11 0 0 (by decide), fn 11 0 1 (by decide), fn 11 0 2 (by decide), gn 14 0 17 (by decide)]; exact ⟨a1, a2, a3, a4⟩
      · rw [fn 11 0 13 (by decide), fn 11 0 12 (by decide), gn 14 0 35 (by decide), gn 14 0 6 (by decide)]; exact ⟨b1, b2, b3, b4⟩
      · rw [f3, g3]; omega
      · rw [fn 11 0 4 (by decide), gn 14 0 40 (by decide)]; exact s4
      · rw [fn 11 0 5 (by decide), gn 14 0 41 (by decide)]; exact s5
      · rw [fn 11 0 6 (by decide), gn 14 0 48 (by decide)]; exact s6
      · rw [fn 11 0 7 (by decide), f3, gn 14 0 50 (by decide)]; omega
      · rw [fn 11 0 6 (by decide), fn 11 0 7 (by decide), fn 11 0 8 (by decide), gn 14 0 49 (by decide)]; exact s8
      · rw [fn 11 0 6 (by decide), fn 11 0 9 (by decide), fn 11 0 10 (by decide)]; exact s9
      · rw [fn 11 0 11 (by decide), gn 14 0 38 (by decide), gn 14 0 39 (by decide)]; exact s10
      · rw [fn 11 0 18 (by decide), gn 14 0 45 (by decide)]; exact s12
      · rw [fn 4 q 6 (by omega), gn 14 0 36 (by decide)]
        exact ⟨s13.1, s13.2.1, s13.2.2.1, fun j u t => EVW_f (s13.2.2.2 j u t) (fun k => e1 _ k) (fun _ _ => rfl) (fun _ _ _ => rfl) (fun _ _ _ _ _ _ => rfl) (fun _ => rfl)⟩
    · rw [fn 11 0 7 (by decide), f3]; omega
    · exact ⟨⟨fn _ _ _ (by decide), fn _ _ _ (by decide), fn _ _ _ (by decide), fn _ _ _ (by decide), fn _ _ _ (by decide)⟩, fun _ _ _ => rfl, fun _ _ _ => ⟨rfl, rfl, rfl, rfl, rfl, rfl⟩, fun _ _ _ => ⟨rfl, rfl⟩, fun _ => ⟨fn _ _ _ (by decide), fn _ _ _ (by decide), gn _ _ _ (by decide)⟩, by rw [fn 4 q 6 (by omega)]; exact Int.le_refl _⟩
end
end
section
section
/-! ===== the walk: a list of items ===== -/
theorem WS_mk {q v w bar : Int} {D D' : Nat} {F F' : zF} {B B' : zB} {Fm Fm' : zF} {Bm Bm' : zB} (hS : WS q v w bar D F B Fm Bm) (fn : ∀ c y k, ¬ (c = 11 ∧ y = 0 ∧ (4 ≤ k ∧ k ≤ 10 ∨ 14 ≤ k)) → F' c y k = F c y k) (gn : ∀ c y k, ¬ (c = 14 ∧ y = 0 ∧ (40 ≤ k ∧ k ≤ 50)) → Fm' c y k = Fm c y k) (bn : ∀ c y k x, ¬ (c = 11 ∧ y = 0) → B' c y k x = B c y k x) (mn : ∀ c y k x, ¬ (c = 14 ∧ y = 0 ∧ 42 ≤ k ∧ k ≤ 51) → Bm' c y k x = Bm c y k x) (h4 : F' 11 0 4 = Fm' 14 0 40 ∧ 0 ≤ F' 11 0 4 ∧ F' 11 0 4 ≤ 7) (h5 : F' 11 0 5 = Fm' 14 0 41 ∧ 0 ≤ F' 11 0 5 ∧ F' 11 0 5 ≤ D') (h6 : F' 11 0 6 = Fm' 14 0 48 ∧ 0 ≤ F' 11 0 6 ∧ F' 11 0 6 ≤ D') (h7 : F' 11 0 7 = Fm' 14 0 50 ∧ 0 ≤ F' 11 0 7 ∧ F' 11 0 7 ≤ F' 11 0 3) (h8 : 0 < F' 11 0 6 → 1 ≤ F' 11 0 7 ∧ F' 11 0 8 = Bm' 14 0 8 (Fm' 14 0 49) ∧ 0 ≤ Fm' 14 0 49 ∧ Fm' 14 0 49 ≤ 3000 ∧ 0 ≤ F' 11 0 8 ∧ F' 11 0 8 ≤ 3000) (h9 : TPL (F' 11 0 6) (F' 11 0 9) (F' 11 0 10) Bm') (h11 : ∀ k, 0 ≤ k → k < 4 → B' 11 0 14 k = Bm' 14 0 51 (prN k) ∧ -(3 * (D' : Int)) ≤ B' 11 0 14 k ∧ B' 11 0 14 k ≤ 3 * (D' : Int)) (h12 : F' 11 0 18 = Fm' 14 0 45 ∧ 0 ≤ F' 11 0 18 ∧ F' 11 0 18 ≤ D' ∧ ∀ k, 0 ≤ k → k < F' 11 0 18 → CRk B' Bm' k) : WS q v w bar D' F' B' Fm' Bm' := by
  obtain ⟨⟨a1, a2, a3, a4⟩, ⟨b1, b2, b3, b4⟩, c, _, _, _, _, _, _, s10, _, _, s13⟩ := hS
  refine ⟨?_, ?_, ?_, h4, h5, h6, h7, h8, h9, ?_, h11, h12, ?_⟩
  · rw [fn 11 0 0 (by omega), fn 11 0 1 (by omega), fn 11 0 2 (by omega), gn 14 0 17 (by omega)]; exact ⟨a1, a2, a3, a4⟩
  · rw [fn 11 0 13 (by omega), fn 11 0 12 (by omega), gn 14 0 35 (by omega), gn 14 0 6 (by omega)]; exact ⟨b1, b2, b3, b4⟩
  · rw [fn 11 0 3 (by omega), gn 14 0 37 (by omega)]; exact c
  · rw [fn 11 0 11 (by omega), gn 14 0 38 (by omega), gn 14 0 39 (by omega)]; exact s10
  · rw [fn 4 q 6 (by omega), gn 14 0 36 (by omega)]
    refine ⟨s13.1, s13.2.1, s13.2.2.1, fun j u t => ?_⟩
    rw [bn 4 q 5 j (by omega)]
    exact EVW_f (s13.2.2.2 j u t) (fun k => fn 1 _ k (by omega)) (fun k y => bn 1 _ k y (by omega)) (fun k _ _ => mn 13 w k _ (by omega)) (fun k y _ _ _ _ => mn 13 w k y (by omega)) (fun y => mn 14 0 8 y (by omega))
theorem WFR_mk {q v w : Int} {F F' : zF} {B B' : zB} {Fm Fm' : zF} {Bm Bm' : zB} (fn : ∀ c y k, ¬ (c = 11 ∧ y = 0 ∧ ¬ k = 11) → F' c y k = F c y k) (gn : ∀ c y k, ¬ (c = 14 ∧ y = 0 ∧ (k ≤ 1 ∨ k = 17 ∨ k = 18 ∨ 36 ≤ k ∧ k ≤ 50)) → Fm' c y k = Fm c y k) (bn : ∀ c y k x, ¬ (c = 11 ∧ y = 0) → B' c y k x = B c y k x) (mn : ∀ c y k x, ¬ (c = 14 ∧ y = 0 ∧ 42 ≤ k ∧ k ≤ 51) → Bm' c y k x = Bm c y k x) : WFR q v w F B Fm Bm F' B' Fm' Bm' := by
  refine ⟨fun c y k a _ _ => fn c y k (by omega), fun c y k x a _ _ => bn c y k x a, fun y => ?_, gn, fun c i k x a _ => mn c i k x a, fun h => ⟨fun t t' a b a' b' e => ?_, fun c => ⟨by rw [fn 4 q 6 (by omega)]; exact c, SD_c (fn 11 0 11 (by omega)) (fn 4 q 6 (by omega)) c (fun j _ _ => by rw [fn 1 _ 1 (by omega), bn 4 q 5 j (by omega)])⟩⟩⟩
  · unfold ownE
    simp only [bn 4 q 5 _ (by omega)]
  · rw [bn 4 q 5 t (by omega), bn 4 q 5 t' (by omega)] at e
    exact h t t' a b a' b' e
noncomputable def ISim (K : zK) (Km : Nat) (N nl q v w bar : Int) (B0 Bm0 : zB) (D : Nat) (cI : Int → Int → Int → zF → zB → zO) (mI : Int → zF → zB → zO) (R : zB → zB → Int → Int → Prop) : Prop := ∀ x i F B Fm Bm, R B0 Bm0 x i → 0 ≤ x ∧ x < 3000 → 0 ≤ i ∧ i < N → WT N B0 Bm0 B Bm → Fm 14 0 27 = nl → WC K Km N q v w bar B Fm Bm → WS q v w bar D F B Fm Bm → F 11 0 7 < F 11 0 3 → zP (cI 0 x D F B) (mI i Fm Bm) (fun _ F' B' _ Fm' Bm' => WO q v w bar D F B Fm Bm F' B' Fm' Bm')
theorem LRf_len {R : zB → zB → Int → Int → Prop} {B Bm : zB} : ∀ {m : Nat} {x i e : Int}, LRf R B Bm m x i e → (m : Int) ≤ e - i := by
  intro m
  induction m with
  | zero => intro x i e h; have := h.2; omega
  | succ m ih =>
    intro x i e h
    have := ih h.2.2.2
    have := h.2.1.1
    omega
theorem LRf_x {R : zB → zB → Int → Int → Prop} {B Bm : zB} {m : Nat} {x i e : Int} (h : LRf R B Bm m x i e) : r32 x ∧ i ≤ e := by
  cases m with
  | zero => exact ⟨by rw [h.1]; decide, by have := h.2; omega⟩
  | succ m => exact ⟨by have := h.1; unfold r32; omega, by have := h.2.1; omega⟩
theorem WE_n {D : Nat} {q v w : Int} {F Fm : zF} (h : WE D q v w F Fm) : r32 (F 11 0 2) ∧ ¬ F 11 0 2 = 0 := by
  obtain ⟨a1, a2, a3, a4, a5, _⟩ := h
  unfold bad at a4
  unfold r32
  omega
theorem C_goX {K : zK} {o : oT_CW} {D n : Nat} {q v w cnt x l2 : Int} {F Fm : zF} {B : zB} (h11 : 0 < K.2 11) (h : WE D q v w F Fm) (hc : r32 cnt) (hx : r32 x) : f_Walker_goThrough_5 o K (n + 1) cnt x 0 l2 F B = some (0, F, B) := by
  obtain ⟨e1, e2⟩ := WE_n h
  rw [f_Walker_goThrough_5]
  simp only [f_Walker_goThrough_73]
  rw [if_pos hc]
  by_cases c1 : 3000 ≤ cnt
  · rw [if_pos c1]
  rw [if_neg c1, if_pos hx]
  by_cases c2 : x = -1
  · rw [if_pos c2]
  rw [if_neg c2, if_pos ⟨Int.le_refl _, h11⟩, if_pos e1, if_neg e2]
theorem L_walkX {K : Nat} {o : oT_W} {n : Nat} {i e : Int} {F : zF} {B : zB} (h : bad F) : f_M_walk_2 o K (n + 1) i e F B = some (0, F, B) := by
  rw [f_M_walk_2, L_goodB h, zb_s, if_pos (by decide), if_pos rfl, f_M_walk_41]
theorem P_list {K : zK} {Km : Nat} {N nl q v w bar e : Int} {B0 Bm0 : zB} {D : Nat} {o : oT_CW} {oM : oT_W} {R : zB → zB → Int → Int → Prop} (hI : ISim K Km N nl q v w bar B0 Bm0 D o.2.1 oM.2.1 R) (hR : ∀ x i, R B0 Bm0 x i → B0 3 0 1 x = Bm0 14 0 8 i) (hD : D < 64) (he : e ≤ 3000) : ∀ (m n n' : Nat) {cnt x i : Int} {F : zF} {B : zB} {Fm : zF} {Bm : zB}, LRf R B0 Bm0 m x i e → 0 ≤ cnt → cnt + m ≤ 3000 → 0 ≤ i → m + 1 < n → m + 1 < n' → WT N B0 Bm0 B Bm → Fm 14 0 27 = nl → WC K Km N q v w bar B Fm Bm → WS q v w bar D F B Fm Bm → zP (f_Walker_goThrough_5 o K n cnt x 0 D F B) (f_M_walk_2 oM Km n' i e Fm Bm) (fun _ F' B' _ Fm' Bm' => WO q v w bar D F B Fm Bm F' B' Fm' Bm') := by
  intro m
  induction m with
  | zero =>
    intro n n' cnt x i F B Fm Bm h c0 c1 i0 hn hn' hT hnl hC hS
    obtain ⟨n, rfl⟩ : ∃ m, n = m + 1 := ⟨n - 1, by omega⟩
    obtain ⟨n', rfl⟩ : ∃ m, n' = m + 1 := ⟨n' - 1, by omega⟩
    have hN := hC.2.2.2.2.2.2.2.1.2.1
    have c : f_Walker_goThrough_5 o K (n + 1) cnt x 0 D F B = some (0, F, B) := by
      rw [f_Walker_goThrough_5, if_pos (by unfold r32; omega), h.1]
      by_cases c1 : 3000 ≤ cnt
      · rw [if_pos c1, f_Walker_goThrough_73]
      · rw [if_neg c1, if_pos (by decide), if_pos rfl, f_Walker_goThrough_73]
    rw [c, f_M_walk_2, L_good hS.1.2.2.2, zb_s, if_pos (by decide), if_neg (by decide), h.2, if_pos (by unfold r32; have := h.2; omega), if_pos (by unfold r32; have := h.2; omega), if_pos (Int.le_refl _), f_M_walk_41]
    exact zP_s ⟨WFR_r, Or.inl ⟨hS, WKP_r⟩⟩
  | succ m ih =>
    intro n n' cnt x i F B Fm Bm h c0 c1 i0 hn hn' hT hnl hC hS
    obtain ⟨n, rfl⟩ : ∃ m, n = m + 1 := ⟨n - 1, by omega⟩
    obtain ⟨n', rfl⟩ : ∃ m, n' = m + 1 := ⟨n' - 1, by omega⟩
    obtain ⟨hx, hi, hr, hl⟩ := h
    have h11 := hC.2.2.1
    have h3 := hC.2.2.2.1
    obtain ⟨N0, N1, hTK⟩ := hC.2.2.2.2.2.2.2.1
    obtain ⟨lx, _⟩ := LRf_x hl
    have iN : i < N := by
      rcases Int.lt_or_le i N with z | z
      · exact z
      · have := (hT.2.2.2 i z).2
        omega
    have a1 := hS.1.1
    have a3 := hS.1.2.2.1
    have a4 := hS.1.2.2.2
    have hp := (hTK i i0 (by omega)).2.2.2.2.2.2.2.2.2.1
    have pe : B 3 0 1 x = Bm 14 0 8 i := by rw [hT.1, hT.2.1 8 i (by decide)]; exact hR x i hr
    have nx : ∀ (F1 : zF) (B1 : zB) (Fm1 : zF) (Bm1 : zB), WT N B0 Bm0 B1 Bm1 → F1 11 0 0 = 0 → f_Walker_goThrough_57 o (f_Walker_goThrough_5 o K n) K cnt x 0 D F1 B1 = f_Walker_goThrough_5 o K n (cnt + 1) (B0 3 0 5 x) 0 D F1 B1 ∧ f_M_walk_31 oM (f_M_walk_2 oM Km n') Km i e Fm1 Bm1 = f_M_walk_2 oM Km n' (Bm0 14 0 31 i) e Fm1 Bm1 := by
      intro F1 B1 Fm1 Bm1 t z
      unfold f_Walker_goThrough_57 f_M_walk_31
      rw [if_pos ⟨Int.le_refl _, h11⟩, z, if_pos ⟨Int.le_refl _, h3⟩, if_pos hx, t.1, if_pos ⟨i0, by omega⟩, t.2.2.1 31 i (by decide) (by decide) iN]
      exact ⟨rfl, rfl⟩
    obtain ⟨n1, rfl⟩ : ∃ m, n = m + 1 := ⟨n - 1, by omega⟩
    obtain ⟨n2, rfl⟩ : ∃ m, n' = m + 1 := ⟨n' - 1, by omega⟩
    have fin : ∀ (F1 : zF) (B1 : zB) (Fm1 : zF) (Bm1 : zB), WO q v w bar D F B Fm Bm F1 B1 Fm1 Bm1 → zP (f_Walker_goThrough_57 o (f_Walker_goThrough_5 o K (n1 + 1)) K cnt x 0 D F1 B1) (f_M_walk_31 oM (f_M_walk_2 oM Km (n2 + 1)) Km i e Fm1 Bm1) (fun _ F' B' _ Fm' Bm' => WO q v w bar D F B Fm Bm F' B' Fm' Bm') := by
      intro F1 B1 Fm1 Bm1 ⟨f, s⟩
      have t := WT_f hT f
      rcases s with ⟨s, k⟩ | s
      · obtain ⟨y1, y2⟩ := nx F1 B1 Fm1 Bm1 t s.1.1
        rw [y1, y2]
        refine zP_m (ih (n1 + 1) (n2 + 1) hl (by omega) (by omega) (by omega) (by omega) (by omega) t (by rw [f.2.2.2.1 14 0 27 (by omega)]; exact hnl) (WC_f hC f) s) ?_
        intro r F2 B2 r' Fm2 Bm2 ⟨g, u⟩
        refine ⟨WFR_t f g, ?_⟩
        rcases u with ⟨u, k'⟩ | u
        · exact Or.inl ⟨u, WKP_t k k'⟩
        · exact Or.inr u
      · obtain ⟨y1, y2⟩ := nx F1 B1 Fm1 Bm1 t s.1
        rw [y1, y2, C_goX h11 s (by unfold r32; omega) lx, L_walkX s.2.2.2.1]
        exact zP_s ⟨f, Or.inr s⟩
    rw [f_Walker_goThrough_5, f_M_walk_2]
    rw [if_pos (by unfold r32; omega), if_neg (by omega), if_pos (by unfold r32; omega), if_neg (by omega), if_pos ⟨Int.le_refl _, h11⟩, a3, if_pos (by decide), if_pos rfl, if_pos (by unfold r32; omega), if_neg (by omega), a1, if_pos ⟨Int.le_refl _, h3⟩, if_pos hx, L_good a4, zb_s, if_pos (by decide), if_neg (by decide), if_pos (by unfold r32; omega), if_pos (by unfold r32; omega), if_neg (by omega), pe]
    refine zP_c (P_count h11 hS (by omega) (by omega) hp) ?_
    intro r F1 B1 r' Fm1 Bm1 ⟨eB, eM, f, s⟩
    subst eB eM
    rcases s with ⟨s, lt, k⟩ | s
    · rw [s.1.2.2.1, if_pos (by decide), if_pos rfl, L_good s.1.2.2.2, zb_s, if_pos (by decide), if_neg (by decide)]
      refine zP_c (hI x i F1 B1 Fm1 Bm1 hr hx (by omega) hT (by rw [f.2.2.2.1 14 0 27 (by omega)]; exact hnl) (WC_f hC f) s lt) ?_
      intro r F2 B2 r' Fm2 Bm2 ⟨g, u⟩
      refine fin F2 B2 Fm2 Bm2 ⟨WFR_t f g, ?_⟩
      rcases u with ⟨u, k'⟩ | u
      · exact Or.inl ⟨u, WKP_t k k'⟩
      · exact Or.inr u
    · obtain ⟨z1, z2⟩ := WE_n s
      rw [if_pos z1, if_neg z2, L_goodB s.2.2.2.1, zb_s, if_pos (by decide), if_pos rfl]
      exact fin F1 B1 Fm1 Bm1 ⟨f, Or.inr s⟩
end
end
section
section
/-! ===== the walk: events, bar lines, loudness ===== -/
theorem wL_r {w : Int} (h : w ∈ wL) : r64 w := by
  unfold wL at h
  simp only [List.mem_cons, List.not_mem_nil, or_false] at h
  unfold r64
  omega
theorem evR_t {N : Int} {B0 Bm0 B Bm : zB} {x i : Int} (h : evR B0 Bm0 x i) (t : WT N B0 Bm0 B Bm) (hi : i < N) : evR B Bm x i := by
  unfold evR pitR wdAt sgAt at h ⊢
  simp only [t.1, t.2.1 7 _ (by decide), t.2.1 8 _ (by decide), t.2.1 9 _ (by decide), t.2.1 10 _ (by decide), t.2.1 11 _ (by decide), t.2.2.1 32 i (by decide) (by decide) hi, t.2.2.1 33 i (by decide) (by decide) hi, t.2.2.1 34 i (by decide) (by decide) hi]
  exact h
theorem MW_t {N : Int} {B0 Bm0 B Bm : zB} (h : MW Bm0) (t : WT N B0 Bm0 B Bm) : MW Bm := by
  have e : ∀ (k : Nat), k < 30 → Bm 14 0 k = Bm0 14 0 k := fun k n => funext (fun y => t.2.1 k y (Or.inl n))
  unfold MW at h ⊢
  rw [e 13 (by decide), e 14 (by decide), e 15 (by decide)]
  exact h
theorem L_goS {K : Nat} {o : oT_W} {i : Int} {F : zF} {B : zB} (hi : 0 ≤ i ∧ i < 3001) (h5 : B 14 0 7 i = 5) (h9 : ¬ B 14 0 9 i = 60) (hr : r32 (B 14 0 9 i)) : fb_M_go o K i F B = zbind (o.2.2.1 i F B) (fun _ F1 B1 => some (0, F1, B1)) := by
  unfold fb_M_go f_M_go_31 f_M_go_62
  simp only [f_M_go_182]
  rw [if_pos hi, h5, if_pos (by decide), if_neg (by decide), if_pos rfl, if_pos hr, if_neg h9, if_pos hi, if_pos (by decide), if_neg (by decide), if_pos hi, if_pos (by decide), if_pos rfl]
theorem L_goE {K : Nat} {o : oT_W} {i : Int} {F : zF} {B : zB} (hi : 0 ≤ i ∧ i < 3001) (h : B 14 0 7 i = 2 ∨ (B 14 0 7 i = 5 ∧ B 14 0 9 i = 60) ∨ (B 14 0 7 i = 4 ∧ B 14 0 11 i = 114)) : fb_M_go o K i F B = zbind (f_M_event_0 K i F B) (fun _ F1 B1 => some (0, F1, B1)) := by
  unfold fb_M_go f_M_go_54
  simp only [f_M_go_182]
  rcases h with h | ⟨h, h'⟩ | ⟨h, h'⟩
  · rw [if_pos hi, h, if_pos (by decide), if_pos rfl]
  · rw [if_pos hi, h, if_pos (by decide), if_neg (by decide), if_pos rfl, h', if_pos (by decide), if_pos rfl]
  · unfold f_M_go_31 f_M_go_54
    rw [if_pos hi, h, if_pos (by decide), if_neg (by decide), if_neg (by decide), if_pos hi, if_pos (by decide), if_pos rfl, h', if_pos (by decide), if_pos (by decide)]
    rfl
theorem P_evI {K : zK} {Km : Nat} {N q v w bar x i : Int} {B0 Bm0 : zB} {D : Nat} {o : oT_CW} {oM : oT_W} {F : zF} {B : zB} {Fm : zF} {Bm : zB} (hx : 0 ≤ x ∧ x < 3000) (hi : 0 ≤ i ∧ i < N) (hT : WT N B0 Bm0 B Bm) (hC : WC K Km N q v w bar B Fm Bm) (hS : WS q v w bar D F B Fm Bm) (hD : D ≤ 64) (k0 : B0 3 0 0 x = 0) (hp : B0 3 0 1 x = Bm0 14 0 8 i) (he : evR B0 Bm0 x i) : zP (fb_Walker_goItem o K 0 x D F B) (fb_M_go oM Km i Fm Bm) (fun _ F' B' _ Fm' Bm' => WO q v w bar D F B Fm Bm F' B' Fm' Bm') := by
  have ev := evR_t he hT hi.2
  have h11 := hC.2.2.1
  have h3 := hC.2.2.2.1
  have N1 := hC.2.2.2.2.2.2.2.1.2.1
  have kd : Bm 14 0 7 i = 2 ∨ (Bm 14 0 7 i = 5 ∧ Bm 14 0 9 i = 60) ∨ (Bm 14 0 7 i = 4 ∧ Bm 14 0 11 i = 114) := by
    rcases ev.2.2.2.2.2.2 with ⟨p, _⟩ | ⟨_, p⟩ | ⟨p, _⟩
    · exact Or.inr (Or.inr p)
    · have := (p 0 (by decide) (by decide)).2.2.2
      rw [Int.add_zero] at this
      exact Or.inl this
    · exact Or.inr (Or.inl p)
  rw [L_goE (by omega) kd, fb_Walker_goItem, if_pos ⟨Int.le_refl _, h11⟩, hS.1.1, if_pos ⟨Int.le_refl _, h3⟩, if_pos hx, hT.1, k0, if_pos (by decide), if_pos rfl]
  refine zP_c (P_event hC hS hD hx hi (by rw [hT.1, hT.2.1 8 i (by decide)]; exact hp) ev) ?_
  intro r F1 B1 r' Fm1 Bm1 h
  rw [f_Walker_goItem_285]
  exact zP_s h
end
end
section
section
/-! ===== the walk: bar lines, loudness ===== -/
theorem P_barI {K : zK} {Km : Nat} {N q v w bar x i : Int} {B0 Bm0 : zB} {D : Nat} {o : oT_CW} {oM oM' : oT_W} {F : zF} {B : zB} {Fm : zF} {Bm : zB} (hG : ∀ F B, oM.2.2.1 i F B = fb_M_goSign oM' Km i F B) (hx : 0 ≤ x ∧ x < 3000) (hi : 0 ≤ i ∧ i < N) (hT : WT N B0 Bm0 B Bm) (hC : WC K Km N q v w bar B Fm Bm) (hS : WS q v w bar D F B Fm Bm) (hD : D ≤ 64) (k0 : B0 3 0 0 x = 1) (hp : B0 3 0 1 x = Bm0 14 0 8 i) (hs : sgAt Bm0 i 124) : zP (fb_Walker_goItem o K 0 x D F B) (fb_M_go oM Km i Fm Bm) (fun _ F' B' _ Fm' Bm' => WO q v w bar D F B Fm Bm F' B' Fm' Bm') := by
  have hS' := hS
  obtain ⟨hK, hKm, h11, h3, h4, v0, w0, ⟨N0, N1, hTK⟩, hV, hI, r4, r5, hB, fB, nn, dd, b0⟩ := hC
  obtain ⟨⟨a1, a2, a3, a4⟩, ⟨b1, b2, b3, b4⟩, _, _, ⟨e1, e2, e3⟩, _, _, _, _, ⟨l1, l2, l3, l4⟩, _⟩ := hS
  have m7 : Bm 14 0 7 i = 5 := by rw [hT.2.1 7 i (by decide)]; exact hs.1
  have m9 : Bm 14 0 9 i = 124 := by rw [hT.2.1 9 i (by decide)]; exact hs.2
  have pl := (hTK i hi.1 (by omega)).2.2.2.2.2.2.2.2.2.1
  have q1 : Fm 13 w 4 * WW = bar * Fm 13 w 5 := by
    have := hB.2.2.2
    have e : 100 * (Fm 13 w 4 * WW) = 100 * (bar * Fm 13 w 5) := by
      calc 100 * (Fm 13 w 4 * WW) = 100 * Fm 13 w 4 * WW := by ac_rfl
        _ = 100 * bar * Fm 13 w 5 := this
        _ = 100 * (bar * Fm 13 w 5) := by ac_rfl
    omega
  have m0 : 0 ≤ F 11 0 11 % bar := Int.emod_nonneg _ (by omega)
  have m1 : F 11 0 11 % bar < bar := Int.emod_lt_of_pos _ b0
  have ok : zP (some (0, F, B)) (some (0, Fm, Bm)) (fun _ F' B' _ Fm' Bm' => WO q v w bar D F B Fm Bm F' B' Fm' Bm') := zP_s ⟨WFR_r, Or.inl ⟨hS', WKP_r⟩⟩
  rw [L_goS (by omega) m7 (by rw [m9]; decide) (by rw [m9]; decide), hG, fb_M_goSign, if_pos (by omega), m9, if_pos (by decide), if_neg (by decide), if_pos rfl, ← e1, fb_Walker_goItem, if_pos ⟨Int.le_refl _, h11⟩, a1, if_pos ⟨Int.le_refl _, h3⟩, if_pos hx, hT.1, k0, if_pos (by decide), if_neg (by decide), if_pos rfl]
  have rb : r32 (F 11 0 5) := by unfold r32; omega
  rw [if_pos rb]
  by_cases c : F 11 0 5 = 0
  case neg =>
    rw [if_neg c, if_pos rb, if_neg c, f_Walker_goItem_285, f_M_goSign_182, zb_s]
    exact ok
  have rz : r64 (F 11 0 11 % bar) := by unfold r64; omega
  have rbar : r64 bar := by unfold r64; omega
  rw [if_pos c, if_pos rb, if_pos c, b3, if_pos rbar, if_neg (by have := zcmp_m (a := bar) (b := 0); omega), if_pos (lI_n0 b0 rbar), zlrm_e l3 (by omega) b0 (by omega), if_pos rz, b2, if_pos w0, if_pos r4, if_pos r5, l1, l2, L_multR (FR_r l3) q1 (by omega) (by omega) (by omega) (by omega) b0 (by omega), zb_s]
  by_cases z : F 11 0 11 % bar = 0
  · rw [if_pos (zcmp_0.mpr z), if_pos z, if_pos (by decide), if_neg (by decide), f_Walker_goItem_285, f_M_goSign_182, zb_s]
    exact ok
  · rw [if_neg (fun y => z (zcmp_0.mp y)), if_neg z, if_pos (by decide), if_pos rfl, C_wref h11 a3, zb_s, L_failAt a4 (by omega), zb_s, f_Walker_goItem_285, f_M_goSign_182, zb_s, hT.1, hp, ← hT.2.1 8 i (by decide)]
    exact zP_s ⟨WFR_at (fun _ _ _ _ => rfl), Or.inr (WE_at hS' hD (by decide) (by decide) pl (fun _ _ => rfl))⟩
theorem P_loudI {K : zK} {Km : Nat} {N q v w bar x i : Int} {B0 Bm0 : zB} {D : Nat} {o : oT_CW} {oM oM' : oT_W} {F : zF} {B : zB} {Fm : zF} {Bm : zB} (hMW : MW Bm0) (hG : ∀ F B, oM.2.2.1 i F B = fb_M_goSign oM' Km i F B) (hx : 0 ≤ x ∧ x < 3000) (hi : 0 ≤ i ∧ i < N) (hT : WT N B0 Bm0 B Bm) (hC : WC K Km N q v w bar B Fm Bm) (hS : WS q v w bar D F B Fm Bm) (k0 : B0 3 0 0 x = 2) (hs : sgAt Bm0 i 33) (hl : B0 3 0 2 x = fiL wL (Bm0 14 0 11 (i + 1)) 0 ∧ 0 ≤ B0 3 0 2 x) : zP (fb_Walker_goItem o K 0 x D F B) (fb_M_go oM Km i Fm Bm) (fun _ F' B' _ Fm' Bm' => WO q v w bar D F B Fm Bm F' B' Fm' Bm') := by
  have hS' := hS
  obtain ⟨hK, hKm, h11, h3, h4, v0, w0, ⟨N0, N1, hTK⟩, hV, hI, r4, r5, hB, fB, nn, dd, b0⟩ := hC
  obtain ⟨⟨a1, a2, a3, a4⟩, _, _, _, s5, s6, s7, s8, s9, _, s11, s12, _⟩ := hS
  have m7 : Bm 14 0 7 i = 5 := by rw [hT.2.1 7 i (by decide)]; exact hs.1
  have m9 : Bm 14 0 9 i = 33 := by rw [hT.2.1 9 i (by decide)]; exact hs.2
  obtain ⟨hl1, hl2⟩ := hl
  have fb : Bm0 14 0 11 (i + 1) ∈ wL ∧ fiL wL (Bm0 14 0 11 (i + 1)) 0 ≤ 7 := by
    rcases fiL_r (w := Bm0 14 0 11 (i + 1)) (L := wL) (k := 0) (by decide) with ⟨p, _⟩ | ⟨p1, p2, p3⟩
    · omega
    · have : (wL.length : Int) = 8 := by decide
      exact ⟨p3, by omega⟩
  rw [L_goS (by omega) m7 (by rw [m9]; decide) (by rw [m9]; decide), hG, fb_M_goSign, if_pos (by omega), m9, if_pos (by decide), if_pos rfl, if_pos (by omega), hT.2.1 11 _ (by decide), L_fL (by omega) (MW_t hMW hT) (wL_r fb.1), zb_s, f_M_goSign_182, zb_s, fb_Walker_goItem, if_pos ⟨Int.le_refl _, h11⟩, a1, if_pos ⟨Int.le_refl _, h3⟩, if_pos hx, hT.1, k0, if_pos (by decide), if_neg (by decide), if_neg (by decide), if_pos rfl, f_Walker_goItem_285, hT.1, hl1]
  rw [hl1] at hl2
  generalize fiL wL (Bm0 14 0 11 (i + 1)) 0 = d at fb hl2 ⊢
  have fn : ∀ c y k, ¬ (c = 11 ∧ y = 0 ∧ k = 4) → zup3 F 11 0 4 d c y k = F c y k := fun c y k n => by rw [zup3_v, if_neg n]
  have gn : ∀ c y k, ¬ (c = 14 ∧ y = 0 ∧ k = 40) → zup3 Fm 14 0 40 d c y k = Fm c y k := fun c y k n => by rw [zup3_v, if_neg n]
  refine zP_s ⟨WFR_mk (fun c y k n => fn c y k (by omega)) (fun c y k n => gn c y k (by omega)) (fun _ _ _ _ _ => rfl) (fun _ _ _ _ _ => rfl), Or.inl ⟨?_, ?_⟩⟩
  · refine WS_mk hS' (fun c y k n => fn c y k (by omega)) (fun c y k n => gn c y k (by omega)) (fun _ _ _ _ _ => rfl) (fun _ _ _ _ _ => rfl) ?_ ?_ ?_ ?_ ?_ ?_ s11 ?_
    · rw [zup3_v, if_pos (by decide), zup3_v, if_pos (by decide)]; omega
    · rw [fn 11 0 5 (by decide), gn 14 0 41 (by decide)]; exact s5
    · rw [fn 11 0 6 (by decide), gn 14 0 48 (by decide)]; exact s6
    · rw [fn 11 0 7 (by decide), fn 11 0 3 (by decide), gn 14 0 50 (by decide)]; exact s7
    · rw [fn 11 0 6 (by decide), fn 11 0 7 (by decide), fn 11 0 8 (by decide), gn 14 0 49 (by decide)]; exact s8
    · rw [fn 11 0 6 (by decide), fn 11 0 9 (by decide), fn 11 0 10 (by decide)]; exact s9
    · rw [fn 11 0 18 (by decide), gn 14 0 45 (by decide)]; exact s12
  · exact ⟨⟨fn _ _ _ (by decide), fn _ _ _ (by decide), fn _ _ _ (by decide), fn _ _ _ (by decide), fn _ _ _ (by decide)⟩, fun _ _ _ => rfl, fun _ _ _ => ⟨rfl, rfl, rfl, rfl, rfl, rfl⟩, fun _ _ _ => ⟨rfl, rfl⟩, fun _ => ⟨fn _ _ _ (by decide), fn _ _ _ (by decide), gn _ _ _ (by decide)⟩, by rw [fn 4 q 6 (by omega)]; exact Int.le_refl _⟩
end
end
section
section
/-! ===== the walk: items with blocks; brackets ===== -/
/-- the walk of the lists that R speaks of, at depth D -/
noncomputable def LSim (K : zK) (Km : Nat) (N nl q v w bar : Int) (B0 Bm0 : zB) (D : Nat) (cL : Int → Int → Int → zF → zB → zO) (mL : Int → Int → zF → zB → zO) (R : zB → zB → Int → Int → Prop) : Prop :=
  (∀ m x i e F B Fm Bm, LRf R B0 Bm0 m x i e → 0 ≤ i → e ≤ 3000 → WT N B0 Bm0 B Bm → Fm 14 0 27 = nl → WC K Km N q v w bar B Fm Bm → WS q v w bar D F B Fm Bm → zP (cL 0 x D F B) (mL i e Fm Bm) (fun _ F' B' _ Fm' Bm' => WO q v w bar D F B Fm Bm F' B' Fm' Bm')) ∧
  (∀ (D' : Nat) x l F B Fm, WE D' q v w F Fm → r32 x → cL 0 x l F B = some (0, F, B)) ∧ (∀ i e F B, bad F → mL i e F B = some (0, F, B))
theorem TPL_c {b tf ts : Int} {Bm Bm' : zB} (h : TPL b tf ts Bm) (e : ∀ k, 0 ≤ k → k < b → Bm' 14 0 46 k = Bm 14 0 46 k ∧ Bm' 14 0 47 k = Bm 14 0 47 k) : TPL b tf ts Bm' := by
  obtain ⟨a1, a2, a3, a4, a5, a6⟩ := h
  refine ⟨fun k u t => by rw [(e k u t).1, (e k u t).2]; exact a1 k u t, a2, a3, a4, fun u => ?_, fun u => ?_⟩
  · rw [(e 0 (by decide) (by omega)).1, (e 0 (by decide) (by omega)).2]; exact a5 u
  · rw [(e 0 (by decide) (by omega)).1, (e 0 (by decide) (by omega)).2, (e 1 (by decide) (by omega)).1, (e 1 (by decide) (by omega)).2]; exact a6 u
theorem m81 {a b : Int} (a0 : 1 ≤ a) (a1 : a ≤ 9) (b0 : 1 ≤ b) (b1 : b ≤ 9) : 1 ≤ a * b ∧ a * b ≤ 81 := by
  have h : a * b ≤ 9 * 9 := Int.mul_le_mul a1 b1 (by omega) (by decide)
  exact ⟨ml_1 a0 b0, by omega⟩
theorem TPL_s {b tf ts a c : Int} {Bm Bm' : zB} (h : TPL b tf ts Bm) (b0 : 0 ≤ b) (ha : 2 ≤ a ∧ a ≤ 9) (hc : 1 ≤ c ∧ c ≤ 9) (e : ∀ k, 0 ≤ k → k < b → Bm' 14 0 46 k = Bm 14 0 46 k ∧ Bm' 14 0 47 k = Bm 14 0 47 k) (ea : Bm' 14 0 46 b = a) (ec : Bm' 14 0 47 b = c) : (2 < b + 1 → TPL (b + 1) tf ts Bm') ∧ (¬ 2 < b + 1 → TPL (b + 1) (tf * a) (ts * c) Bm') := by
  have h' := TPL_c h e
  obtain ⟨a1, a2, a3, a4, a5, a6⟩ := h'
  have r : ∀ k, 0 ≤ k → k < b + 1 → (2 ≤ Bm' 14 0 46 k ∧ Bm' 14 0 46 k ≤ 9) ∧ (1 ≤ Bm' 14 0 47 k ∧ Bm' 14 0 47 k ≤ 9) := fun k u t => by
    by_cases z : k = b
    · rw [z, ea, ec]; exact ⟨ha, hc⟩
    · exact a1 k u (by omega)
  constructor
  · intro z
    exact ⟨r, a2, a3, fun u => by omega, fun u => by omega, fun u => by omega⟩
  · intro z
    have hb : b = 0 ∨ b = 1 := by omega
    rcases hb with rfl | rfl
    · obtain ⟨t1, t2⟩ := a4 rfl
      rw [t1, t2, Int.one_mul, Int.one_mul]
      exact ⟨r, by omega, by omega, fun u => by omega, fun u => ⟨ea.symm, ec.symm⟩, fun u => by omega⟩
    · obtain ⟨t1, t2⟩ := a5 rfl
      have q0 := r 0 (by decide) (by decide)
      rw [t1, t2]
      exact ⟨r, m81 (by omega) (by omega) (by omega) (by omega), m81 (by omega) (by omega) (by omega) (by omega), fun u => by omega, fun u => by omega, fun u => ⟨by rw [ea], by rw [ec]⟩⟩
theorem WE_close {q v w : Int} {D : Nat} {F2 F3 Fm2 Fm3 : zF} (h : WE (D + 1) q v w F2 Fm2) (fn : ∀ c y k, ¬ (c = 11 ∧ y = 0 ∧ (k = 5 ∨ k = 6 ∨ k = 9 ∨ k = 10 ∨ k = 18)) → F3 c y k = F2 c y k) (gn : ∀ c y k, ¬ (c = 14 ∧ y = 0 ∧ (k = 41 ∨ k = 45 ∨ k = 48)) → Fm3 c y k = Fm2 c y k) : WE D q v w F3 Fm3 := by
  obtain ⟨a1, a2, a3, a4, a5, a6, a7, a8, a9, a10⟩ := h
  unfold bad at a4
  refine ⟨?_, ?_, ?_, ?_, ?_, ?_, ?_, ?_, ?_, ?_⟩
  · rw [fn 11 0 0 (by omega)]; exact a1
  · rw [fn 11 0 1 (by omega)]; exact a2
  · rw [fn 11 0 2 (by omega), gn 14 0 17 (by omega), gn 14 0 18 (by omega)]; exact a3
  · unfold bad; rw [gn 14 0 17 (by omega)]; exact a4
  · rw [gn 14 0 18 (by omega)]; exact a5
  · rw [gn 14 0 35 (by omega)]; exact a6
  · rw [gn 14 0 6 (by omega)]; exact a7
  · rw [fn 4 q 6 (by omega)]; exact a8
  · rw [gn 14 0 36 (by omega)]; exact a9
  · rw [fn 11 0 3 (by omega)]; omega
theorem WO_close {q v w bar : Int} {D : Nat} {F F1 F2 F3 : zF} {B B1 B2 B3 : zB} {Fm Fm1 Fm2 Fm3 : zF} {Bm Bm1 Bm2 Bm3 : zB} (hS : WS q v w bar D F B Fm Bm) (f1 : WFR q v w F B Fm Bm F1 B1 Fm1 Bm1) (W : WO q v w bar (D + 1) F1 B1 Fm1 Bm1 F2 B2 Fm2 Bm2) (fn : ∀ c y k, ¬ (c = 11 ∧ y = 0 ∧ (k = 5 ∨ k = 6 ∨ k = 9 ∨ k = 10 ∨ k = 18)) → F3 c y k = F2 c y k) (gn : ∀ c y k, ¬ (c = 14 ∧ y = 0 ∧ (k = 41 ∨ k = 45 ∨ k = 48)) → Fm3 c y k = Fm2 c y k) (bn : ∀ c y k x, ¬ (c = 11 ∧ y = 0 ∧ k = 14) → B3 c y k x = B2 c y k x) (mn : ∀ c y k x, ¬ (c = 14 ∧ y = 0 ∧ k = 51) → Bm3 c y k x = Bm2 c y k x) (kk : WS q v w bar (D + 1) F2 B2 Fm2 Bm2 → WKP q F1 B1 Fm1 Bm1 F2 B2 Fm2 Bm2 → (F3 11 0 5 = F 11 0 5 ∧ F3 11 0 6 = F 11 0 6 ∧ F3 11 0 9 = F 11 0 9 ∧ F3 11 0 10 = F 11 0 10 ∧ F3 11 0 18 = F 11 0 18) ∧ (Fm3 14 0 41 = Fm 14 0 41 ∧ Fm3 14 0 45 = Fm 14 0 45 ∧ Fm3 14 0 48 = Fm 14 0 48) ∧ ∀ k, 0 ≤ k → k < 4 → B3 11 0 14 k = B 11 0 14 k ∧ Bm3 14 0 51 (prN k) = Bm 14 0 51 (prN k)) (r1 : ∀ k, 0 ≤ k → k < F 11 0 18 → B1 11 0 15 k = B 11 0 15 k ∧ B1 11 0 16 k = B 11 0 16 k ∧ B1 11 0 17 k = B 11 0 17 k ∧ Bm1 14 0 42 k = Bm 14 0 42 k ∧ Bm1 14 0 43 k = Bm 14 0 43 k ∧ Bm1 14 0 44 k = Bm 14 0 44 k) (r2 : ∀ k, 0 ≤ k → k < F 11 0 6 → Bm1 14 0 46 k = Bm 14 0 46 k ∧ Bm1 14 0 47 k = Bm 14 0 47 k) (r18 : F 11 0 18 ≤ F1 11 0 18) (r6 : F 11 0 6 ≤ F1 11 0 6) (r7 : 0 < F 11 0 6 → F1 11 0 7 = F 11 0 7 ∧ F1 11 0 8 = F 11 0 8 ∧ Fm1 14 0 49 = Fm 14 0 49) (rc : F1 4 q 6 = F 4 q 6) : WO q v w bar D F B Fm Bm F3 B3 Fm3 Bm3 := by
  obtain ⟨f2, s⟩ := W
  have f3 : WFR q v w F2 B2 Fm2 Bm2 F3 B3 Fm3 Bm3 := WFR_mk (fun c y k n => fn c y k (by omega)) (fun c y k n => gn c y k (by omega)) (fun c y k x n => bn c y k x (by omega)) (fun c y k x n => mn c y k x (by omega))
  refine ⟨WFR_t f1 (WFR_t f2 f3), ?_⟩
  rcases s with ⟨s, kp⟩ | s
  · obtain ⟨⟨e5, e6, e9, e10, e18⟩, ⟨g41, g45, g48⟩, pw⟩ := kk s kp
    obtain ⟨_, _, _, _, x5, y6, _, s8, s9, _, s11, ⟨z1, z2, z3, z4⟩, _⟩ := hS
    obtain ⟨⟨k5, k6, k9, k10, k18⟩, kp, kr, kb, k7, kc⟩ := kp
    refine Or.inl ⟨WS_mk s (fun c y k n => fn c y k (by omega)) (fun c y k n => gn c y k (by omega)) (fun c y k x n => bn c y k x (by omega)) (fun c y k x n => mn c y k x (by omega)) ?_ ?_ ?_ ?_ ?_ ?_ ?_ ?_, ?_⟩
    · rw [fn 11 0 4 (by omega), gn 14 0 40 (by omega)]; exact s.2.2.2.1
    · rw [e5, g41]; exact x5
    · rw [e6, g48]; exact y6
    · rw [fn 11 0 7 (by omega), fn 11 0 3 (by omega), gn 14 0 50 (by omega)]; exact s.2.2.2.2.2.2.1
    · rw [e6, fn 11 0 7 (by omega), fn 11 0 8 (by omega), gn 14 0 49 (by omega), mn 14 0 8 _ (by omega)]
      intro u
      exact s.2.2.2.2.2.2.2.1 (by omega)
    · rw [e6, e9, e10]
      refine TPL_c s9 (fun k u t => ?_)
      rw [mn 14 0 46 k (by omega), mn 14 0 47 k (by omega), (kb k u (by omega)).1, (kb k u (by omega)).2]
      exact r2 k u t
    · intro k u t
      rw [(pw k u t).1, (pw k u t).2]
      exact s11 k u t
    · rw [e18, g45]
      refine ⟨z1, z2, z3, fun k u t => ?_⟩
      have := s.2.2.2.2.2.2.2.2.2.2.2.1.2.2.2 k u (by omega)
      unfold CRk at this ⊢
      rw [bn 11 0 15 k (by omega), bn 11 0 16 k (by omega), bn 11 0 17 k (by omega), mn 14 0 42 k (by omega), mn 14 0 43 k (by omega), mn 14 0 44 k (by omega)]
      exact this
    · refine ⟨⟨e5, e6, e9, e10, e18⟩, fun k u t => (pw k u t).1, fun k u t => ?_, fun k u t => ?_, fun u => ?_, ?_⟩
      · obtain ⟨p1, p2, p3, p4, p5, p6⟩ := kr k u (by omega)
        obtain ⟨q1, q2, q3, q4, q5, q6⟩ := r1 k u t
        exact ⟨by rw [bn 11 0 15 k (by omega), p1, q1], by rw [bn 11 0 16 k (by omega), p2, q2], by rw [bn 11 0 17 k (by omega), p3, q3], by rw [mn 14 0 42 k (by omega), p4, q4], by rw [mn 14 0 43 k (by omega), p5, q5], by rw [mn 14 0 44 k (by omega), p6, q6]⟩
      · obtain ⟨p1, p2⟩ := kb k u (by omega)
        obtain ⟨q1, q2⟩ := r2 k u t
        exact ⟨by rw [mn 14 0 46 k (by omega), p1, q1], by rw [mn 14 0 47 k (by omega), p2, q2]⟩
      · obtain ⟨p1, p2, p3⟩ := k7 (by omega)
        obtain ⟨q1, q2, q3⟩ := r7 u
        exact ⟨by rw [fn 11 0 7 (by omega), p1, q1], by rw [fn 11 0 8 (by omega), p2, q2], by rw [gn 14 0 49 (by omega), p3, q3]⟩
      · rw [fn 4 q 6 (by omega), ← rc]; exact kc
  · exact Or.inr (WE_close s fn gn)
end
end
section
section
/-! ===== the walk: a bracket ===== -/
theorem P_br {K : zK} {Km : Nat} {N nl q v w bar x i : Int} {B0 Bm0 : zB} {D m : Nat} {o : oT_CW} {oM : oT_W} {R : zB → zB → Int → Int → Prop} {F : zF} {B : zB} {Fm : zF} {Bm : zB} (hL : LSim K Km N nl q v w bar B0 Bm0 (D + 1) o.1 oM.1 R) (hx : 0 ≤ x ∧ x < 3000) (hi : 0 ≤ i ∧ i < N) (hT : WT N B0 Bm0 B Bm) (hnl : Fm 14 0 27 = nl) (hC : WC K Km N q v w bar B Fm Bm) (hS : WS q v w bar D F B Fm Bm) (hD : D < 64) (hg : F 11 0 7 < F 11 0 3) (hp : B0 3 0 1 x = Bm0 14 0 8 i) (hs : sgAt Bm0 i 91) (n1 : nmAt Bm0 (i + 1) (B0 3 0 2 x) 2 9) (n2 : nmAt Bm0 (i + 3) (B0 3 0 3 x) 1 9) (hb : i + 4 < Bm0 14 0 30 i ∧ Bm0 14 0 30 i ≤ 3000) (hl : LRf R B0 Bm0 m (B0 3 0 4 x) (i + 5) (Bm0 14 0 30 i)) : zP (fb_Walker_goBracket o K 0 x D F B) (fb_M_goSign oM Km i Fm Bm) (fun _ F' B' _ Fm' Bm' => WO q v w bar D F B Fm Bm F' B' Fm' Bm') := by
  have hC' := hC
  have hS' := hS
  obtain ⟨hK, hKm, h11, h3, h4, v0, w0, ⟨N0, N1, hTK⟩, _⟩ := hC
  obtain ⟨⟨a1, a2, a3, a4⟩, _, ⟨c1, c2, c3⟩, s4, s5, ⟨f1, f2, f3⟩, ⟨g1, g2, g3⟩, hh, hk, _, hm, ⟨z1, z2, z3, z4⟩, _⟩ := hS
  have m9 : Bm 14 0 9 i = 91 := by rw [hT.2.1 9 i (by decide)]; exact hs.2
  have p1 : Bm 14 0 9 (i + 1) = B0 3 0 2 x := by rw [hT.2.1 9 _ (by decide)]; exact n1.2.1
  have p2 : Bm 14 0 9 (i + 3) = B0 3 0 3 x := by rw [hT.2.1 9 _ (by decide)]; exact n2.2.1
  have p3 : Bm 14 0 30 i = Bm0 14 0 30 i := hT.2.2.1 30 i (by decide) (by decide) hi.2
  have p4 : B 3 0 1 x = Bm 14 0 8 i := by rw [hT.1, hT.2.1 8 i (by decide)]; exact hp
  have n1' := n1.2.2
  have n2' := n2.2.2
  clear n1 n2 hs hp
  generalize hM1 : zup4 (zup4 Bm 14 0 46 (Fm 14 0 48) (B0 3 0 2 x)) 14 0 47 (Fm 14 0 48) (B0 3 0 3 x) = M1
  have mn : ∀ c y k t, ¬ (c = 14 ∧ y = 0 ∧ (k = 46 ∨ k = 47) ∧ t = F 11 0 6) → M1 c y k t = Bm c y k t := fun c y k t n => by rw [← hM1, zup4_v, if_neg (by omega), zup4_v, if_neg (by omega)]
  have ma : M1 14 0 46 (F 11 0 6) = B0 3 0 2 x := by rw [← hM1, zup4_v, if_neg (by omega), zup4_v, if_pos (by omega)]
  have mc : M1 14 0 47 (F 11 0 6) = B0 3 0 3 x := by rw [← hM1, zup4_v, if_pos (by omega)]
  obtain ⟨tp1, tp2⟩ := TPL_s hk f2 n1' n2' (fun k u t => ⟨mn 14 0 46 k (by omega), mn 14 0 47 k (by omega)⟩) ma mc
  have key2 : ∀ X Y : zF, (∀ c y k, ¬ (c = 11 ∧ y = 0 ∧ (k = 6 ∨ k = 7 ∨ k = 8 ∨ k = 9 ∨ k = 10)) → X c y k = F c y k) → (∀ c y k, ¬ (c = 14 ∧ y = 0 ∧ (k = 49 ∨ k = 50)) → Y c y k = Fm c y k) → X 11 0 6 = F 11 0 6 + 1 → TPL (F 11 0 6 + 1) (X 11 0 9) (X 11 0 10) M1 → X 11 0 7 = Y 14 0 50 ∧ 1 ≤ X 11 0 7 ∧ X 11 0 7 ≤ F 11 0 3 → X 11 0 8 = Bm 14 0 8 (Y 14 0 49) ∧ 0 ≤ Y 14 0 49 ∧ Y 14 0 49 ≤ 3000 ∧ 0 ≤ X 11 0 8 ∧ X 11 0 8 ≤ 3000 → (0 < F 11 0 6 → X 11 0 7 = F 11 0 7 ∧ X 11 0 8 = F 11 0 8 ∧ Y 14 0 49 = Fm 14 0 49) → zP (f_Walker_goBracket_95 o K (F 11 0 10) (F 11 0 9) 0 x D X B) (f_M_goSign_115 oM Km i Y Bm) (fun _ F' B' _ Fm' Bm' => WO q v w bar D F B Fm Bm F' B' Fm' Bm') := by
    intro X Y xn yn x6 tp x7 x8 xk
    unfold f_Walker_goBracket_95 f_M_goSign_115
    have y48 : Y 14 0 48 = Fm 14 0 48 := yn 14 0 48 (by omega)
    rw [if_pos ⟨Int.le_refl _, h11⟩, xn 11 0 0 (by omega), a1, if_pos ⟨Int.le_refl _, h3⟩, if_pos hx, if_pos (by omega), y48, if_pos (by omega), if_pos (by omega), if_pos (by omega), p1, show (zup4 Bm 14 0 46 (Fm 14 0 48) (B0 3 0 2 x)) 14 0 9 (i + 3) = B0 3 0 3 x by rw [zup4_v, if_neg (by omega), p2], hM1, mn 14 0 30 i (by omega), p3, hT.1]
    generalize hY1 : zup3 Y 14 0 48 (Fm 14 0 48 + 1) = Y1
    have y1n : ∀ c y k, ¬ (c = 14 ∧ y = 0 ∧ (k = 48 ∨ k = 49 ∨ k = 50)) → Y1 c y k = Fm c y k := fun c y k n => by rw [← hY1, zup3_v, if_neg (by omega), yn c y k (by omega)]
    have y1 : Y1 14 0 48 = F 11 0 6 + 1 := by rw [← hY1, zup3_v, if_pos (by omega)]; omega
    have y49 : Y1 14 0 49 = Y 14 0 49 := by rw [← hY1, zup3_v, if_neg (by omega)]
    have y50 : Y1 14 0 50 = Y 14 0 50 := by rw [← hY1, zup3_v, if_neg (by omega)]
    have fr : WFR q v w F B Fm Bm X B Y1 M1 := WFR_mk (fun c y k n => xn c y k (by omega)) (fun c y k n => y1n c y k (by omega)) (fun _ _ _ _ _ => rfl) (fun c y k t n => mn c y k t (by omega))
    have sX : WS q v w bar (D + 1) X B Y1 M1 := by
      refine WS_mk hS' (fun c y k n => xn c y k (by omega)) (fun c y k n => y1n c y k (by omega)) (fun _ _ _ _ _ => rfl) (fun c y k t n => mn c y k t (by omega)) ?_ ?_ ?_ ?_ ?_ ?_ ?_ ?_
      · rw [xn 11 0 4 (by omega), y1n 14 0 40 (by omega)]; exact s4
      · rw [xn 11 0 5 (by omega), y1n 14 0 41 (by omega)]; omega
      · rw [x6, y1]; omega
      · rw [y50, xn 11 0 3 (by omega)]; omega
      · intro _
        rw [y49, mn 14 0 8 _ (by omega)]
        exact ⟨x7.2.1, x8⟩
      · rw [x6]; exact tp
      · intro k u t
        rw [mn 14 0 51 _ (by omega)]
        have := hm k u t
        omega
      · rw [xn 11 0 18 (by omega), y1n 14 0 45 (by omega)]
        refine ⟨z1, z2, by omega, fun k u t => ?_⟩
        have := z4 k u t
        unfold CRk at this ⊢
        rw [mn 14 0 42 k (by omega), mn 14 0 43 k (by omega), mn 14 0 44 k (by omega)]
        exact this
    refine zP_c (hL.1 m (B0 3 0 4 x) (i + 5) (Bm0 14 0 30 i) X B Y1 M1 hl (by omega) hb.2 (WT_f hT fr) (by rw [fr.2.2.2.1 14 0 27 (by omega)]; exact hnl) (WC_f hC' fr) sX) ?_
    intro r F2 B2 r' Fm2 Bm2 W
    rw [f_M_goSign_182]
    refine zP_s (WO_close hS' fr W (fun c y k n => by rw [zup3_v, if_neg (by omega), zup3_v, if_neg (by omega), zup3_v, if_neg (by omega)]) (fun c y k n => by rw [zup3_v, if_neg (by omega)]) (fun _ _ _ _ _ => rfl) (fun _ _ _ _ _ => rfl) ?_ (fun k u t => ⟨rfl, rfl, rfl, mn _ _ _ _ (by omega), mn _ _ _ _ (by omega), mn _ _ _ _ (by omega)⟩) (fun k u t => ⟨mn _ _ _ _ (by omega), mn _ _ _ _ (by omega)⟩) (by rw [xn 11 0 18 (by omega)]; exact Int.le_refl _) (by rw [x6]; omega) (fun u => by rw [y49]; exact xk u) (xn 4 q 6 (by omega)))
    intro s kp
    obtain ⟨⟨k5, k6, k9, k10, k18⟩, kw, _⟩ := kp
    obtain ⟨_, _, _, _, ⟨t5, _⟩, ⟨t6, _⟩, _, _, _, _, t11, ⟨t12, _⟩, _⟩ := s
    refine ⟨⟨?_, ?_, ?_, ?_, ?_⟩, ⟨?_, ?_, ?_⟩, fun k u t => ⟨?_, ?_⟩⟩
    · rw [zup3_v, if_neg (by omega), zup3_v, if_neg (by omega), zup3_v, if_neg (by omega), k5, xn 11 0 5 (by omega)]
    · rw [zup3_v, if_neg (by omega), zup3_v, if_neg (by omega), zup3_v, if_pos (by omega), k6, x6]; omega
    · rw [zup3_v, if_neg (by omega), zup3_v, if_pos (by omega)]
    · rw [zup3_v, if_pos (by omega)]
    · rw [zup3_v, if_neg (by omega), zup3_v, if_neg (by omega), zup3_v, if_neg (by omega), k18, xn 11 0 18 (by omega)]
    · rw [zup3_v, if_neg (by omega), ← t5, k5, xn 11 0 5 (by omega)]; exact s5.1
    · rw [zup3_v, if_neg (by omega), ← t12, k18, xn 11 0 18 (by omega)]; exact z1
    · rw [zup3_v, if_pos (by omega), ← t6, k6, x6]; omega
    · exact kw k u t
    · rw [← (t11 k u t).1, kw k u t]; exact (hm k u t).1
  have key : ∀ X Y : zF, (∀ c y k, ¬ (c = 11 ∧ y = 0 ∧ (k = 7 ∨ k = 8)) → X c y k = F c y k) → (∀ c y k, ¬ (c = 14 ∧ y = 0 ∧ (k = 49 ∨ k = 50)) → Y c y k = Fm c y k) → X 11 0 7 = Y 14 0 50 ∧ 1 ≤ X 11 0 7 ∧ X 11 0 7 ≤ F 11 0 3 → X 11 0 8 = Bm 14 0 8 (Y 14 0 49) ∧ 0 ≤ Y 14 0 49 ∧ Y 14 0 49 ≤ 3000 ∧ 0 ≤ X 11 0 8 ∧ X 11 0 8 ≤ 3000 → (0 < F 11 0 6 → X 11 0 7 = F 11 0 7 ∧ X 11 0 8 = F 11 0 8 ∧ Y 14 0 49 = Fm 14 0 49) → zP (f_Walker_goBracket_41 o K (F 11 0 10) (F 11 0 9) 0 x D X B) (f_M_goSign_115 oM Km i Y Bm) (fun _ F' B' _ Fm' Bm' => WO q v w bar D F B Fm Bm F' B' Fm' Bm') := by
    intro X Y xn yn x7 x8 xk
    have x6 := xn 11 0 6 (by omega)
    have x9 := xn 11 0 9 (by omega)
    have x10 := xn 11 0 10 (by omega)
    have x0 := xn 11 0 0 (by omega)
    unfold f_Walker_goBracket_41
    rw [if_pos ⟨Int.le_refl _, h11⟩, x6, if_pos (show r32 (F 11 0 6 + 1) by unfold r32; omega)]
    by_cases c : 2 < F 11 0 6 + 1
    · rw [if_pos c]
      have e7 : zup3 X 11 0 6 (F 11 0 6 + 1) 11 0 7 = X 11 0 7 := by rw [zup3_v, if_neg (by omega)]
      have e8 : zup3 X 11 0 6 (F 11 0 6 + 1) 11 0 8 = X 11 0 8 := by rw [zup3_v, if_neg (by omega)]
      have e9 : zup3 X 11 0 6 (F 11 0 6 + 1) 11 0 9 = F 11 0 9 := by rw [zup3_v, if_neg (by omega), x9]
      have e10 : zup3 X 11 0 6 (F 11 0 6 + 1) 11 0 10 = F 11 0 10 := by rw [zup3_v, if_neg (by omega), x10]
      exact key2 _ Y (fun c y k n => by rw [zup3_v, if_neg (by omega), xn c y k (by omega)]) yn (by rw [zup3_v, if_pos (by omega)]) (by rw [e9, e10]; exact tp1 c) (by rw [e7]; exact x7) (by rw [e8]; exact x8) (by rw [e7, e8]; exact xk)
    · rw [if_neg c, x0, a1, if_pos ⟨Int.le_refl _, h3⟩, if_pos hx, x9, x10, hT.1, hT.1]
      generalize hZ : zup3 (zup3 (zup3 X 11 0 6 (F 11 0 6 + 1)) 11 0 9 (F 11 0 9 * B0 3 0 2 x)) 11 0 10 (F 11 0 10 * B0 3 0 3 x) = Z
      have e6 : Z 11 0 6 = F 11 0 6 + 1 := by rw [← hZ, zup3_v, if_neg (by omega), zup3_v, if_neg (by omega), zup3_v, if_pos (by omega)]
      have e7 : Z 11 0 7 = X 11 0 7 := by rw [← hZ, zup3_v, if_neg (by omega), zup3_v, if_neg (by omega), zup3_v, if_neg (by omega)]
      have e8 : Z 11 0 8 = X 11 0 8 := by rw [← hZ, zup3_v, if_neg (by omega), zup3_v, if_neg (by omega), zup3_v, if_neg (by omega)]
      have e9 : Z 11 0 9 = F 11 0 9 * B0 3 0 2 x := by rw [← hZ, zup3_v, if_neg (by omega), zup3_v, if_pos (by omega)]
      have e10 : Z 11 0 10 = F 11 0 10 * B0 3 0 3 x := by rw [← hZ, zup3_v, if_pos (by omega)]
      exact key2 Z Y (fun c y k n => by rw [← hZ, zup3_v, if_neg (by omega), zup3_v, if_neg (by omega), zup3_v, if_neg (by omega), xn c y k (by omega)]) yn e6 (by rw [e9, e10]; exact tp2 c) (by rw [e7]; exact x7) (by rw [e8]; exact x8) (by rw [e7, e8]; exact xk)
  unfold fb_Walker_goBracket fb_M_goSign
  rw [if_pos ⟨Int.le_refl _, h11⟩, if_pos (show r32 (F 11 0 6) by unfold r32; omega), if_pos (show 0 ≤ i ∧ i < 3001 by omega), m9, if_pos (show r32 91 by decide), if_neg (show ¬ (91 : Int) = 33 by decide), if_neg (show ¬ (91 : Int) = 124 by decide), ← f1, if_pos (show r32 (F 11 0 6) by unfold r32; omega)]
  by_cases c : F 11 0 6 = 0
  · rw [if_pos c, if_pos c, a1, if_pos ⟨Int.le_refl _, h3⟩, if_pos hx, p4]
    have e7 : zup3 (zup3 F 11 0 7 (F 11 0 7 + 1)) 11 0 8 (Bm 14 0 8 i) 11 0 7 = F 11 0 7 + 1 := by rw [zup3_v, if_neg (by omega), zup3_v, if_pos (by omega)]
    have e8 : zup3 (zup3 F 11 0 7 (F 11 0 7 + 1)) 11 0 8 (Bm 14 0 8 i) 11 0 8 = Bm 14 0 8 i := by rw [zup3_v, if_pos (by omega)]
    have d49 : zup3 (zup3 Fm 14 0 49 i) 14 0 50 (Fm 14 0 50 + 1) 14 0 49 = i := by rw [zup3_v, if_neg (by omega), zup3_v, if_pos (by omega)]
    have d50 : zup3 (zup3 Fm 14 0 49 i) 14 0 50 (Fm 14 0 50 + 1) 14 0 50 = Fm 14 0 50 + 1 := by rw [zup3_v, if_pos (by omega)]
    exact key _ _ (fun c y k n => by rw [zup3_v, if_neg (by omega), zup3_v, if_neg (by omega)]) (fun c y k n => by rw [zup3_v, if_neg (by omega), zup3_v, if_neg (by omega)]) (by rw [e7, d50]; omega) (by rw [e8, d49]; exact ⟨rfl, by omega, by omega, (hTK i hi.1 (by omega)).2.2.2.2.2.2.2.2.2.1⟩) (fun u => by omega)
  · rw [if_neg c, if_neg c]
    have hh' := hh (by omega)
    exact key F Fm (fun _ _ _ _ => rfl) (fun _ _ _ _ => rfl) ⟨g1, hh'.1, g3⟩ hh'.2 (fun _ => ⟨rfl, rfl, rfl⟩)
end
end
section
section
/-! ===== the walk: moves and mirrors ===== -/
theorem P_car {K : zK} {Km : Nat} {N nl q v w bar x a sg mi s2 t : Int} {B0 Bm0 : zB} {D m : Nat} {o : oT_CW} {oM : oT_W} {R : zB → zB → Int → Int → Prop} {F : zF} {B : zB} {Fm : zF} {Bm : zB} (hL : LSim K Km N nl q v w bar B0 Bm0 (D + 1) o.1 oM.1 R) (hx : 0 ≤ x ∧ x < 3000) (ha : 0 ≤ a) (hT : WT N B0 Bm0 B Bm) (hnl : Fm 14 0 27 = nl) (hC : WC K Km N q v w bar B Fm Bm) (hS : WS q v w bar D F B Fm Bm) (hD : D < 64) (hk : (mi = 0 ∧ sg = 1 ∧ B0 3 0 2 x = s2 ∧ B0 3 0 3 x = t) ∨ (mi = 1 ∧ sg = -1 ∧ B0 3 0 2 x = 2 * s2 ∧ B0 3 0 3 x = 2 * t)) (hs : -200 ≤ B0 3 0 2 x ∧ B0 3 0 2 x ≤ 200) (ht : -500 ≤ B0 3 0 3 x ∧ B0 3 0 3 x ≤ 500) (hb : a < Bm0 14 0 30 a ∧ Bm0 14 0 30 a ≤ 3000) (hl : LRf R B0 Bm0 m (B0 3 0 4 x) (a + 1) (Bm0 14 0 30 a)) : zP (fb_Walker_goCarried o K 0 sg x D F B) (zbind (oM.1 (a + 1) (Bm 14 0 30 a) (zup3 Fm 14 0 45 (Fm 14 0 45 + 1)) (zup4 (zup4 (zup4 Bm 14 0 42 (Fm 14 0 45) mi) 14 0 43 (Fm 14 0 45) s2) 14 0 44 (Fm 14 0 45) t)) (fun _ F2 B2 => some (0, zup3 F2 14 0 45 (F2 14 0 45 - 1), B2))) (fun _ F' B' _ Fm' Bm' => WO q v w bar D F B Fm Bm F' B' Fm' Bm') := by
  have hC' := hC
  have hS' := hS
  obtain ⟨hK, hKm, h11, h3, h4, v0, w0, ⟨N0, N1, hTK⟩, _⟩ := hC
  obtain ⟨⟨a1, a2, a3, a4⟩, _, ⟨c1, c2, c3⟩, s4, s5, s6, s7, s8, s9, _, hm, ⟨z1, z2, z3, z4⟩, _⟩ := hS
  have aN : a < N := by
    rcases Int.lt_or_le a N with z | z
    · exact z
    · have := (hT.2.2.2 a z).1
      omega
  have p3 : Bm 14 0 30 a = Bm0 14 0 30 a := hT.2.2.1 30 a (by decide) (by decide) aN
  unfold fb_Walker_goCarried
  have e1 : (zup4 B 11 0 15 (F 11 0 18) sg) 3 0 2 x = B0 3 0 2 x := by rw [zup4_v, if_neg (by omega), hT.1]
  have e2 : (zup4 (zup4 B 11 0 15 (F 11 0 18) sg) 11 0 16 (F 11 0 18) (B0 3 0 2 x)) 3 0 3 x = B0 3 0 3 x := by rw [zup4_v, if_neg (by omega), zup4_v, if_neg (by omega), hT.1]
  rw [if_pos ⟨Int.le_refl _, h11⟩, if_pos (show r32 (F 11 0 18) by unfold r32; omega), if_pos (show F 11 0 18 < 64 by omega), if_pos (by omega), a1, if_pos ⟨Int.le_refl _, h3⟩, if_pos hx, e1, e2, p3, ← z1]
  generalize hB1 : zup4 (zup4 (zup4 B 11 0 15 (F 11 0 18) sg) 11 0 16 (F 11 0 18) (B0 3 0 2 x)) 11 0 17 (F 11 0 18) (B0 3 0 3 x) = B1
  generalize hM1 : zup4 (zup4 (zup4 Bm 14 0 42 (F 11 0 18) mi) 14 0 43 (F 11 0 18) s2) 14 0 44 (F 11 0 18) t = M1
  generalize hX : zup3 F 11 0 18 (F 11 0 18 + 1) = X
  generalize hY : zup3 Fm 14 0 45 (F 11 0 18 + 1) = Y
  have bn : ∀ c y k j, ¬ (c = 11 ∧ y = 0 ∧ (15 ≤ k ∧ k ≤ 17) ∧ j = F 11 0 18) → B1 c y k j = B c y k j := fun c y k j n => by rw [← hB1, zup4_v, if_neg (by omega), zup4_v, if_neg (by omega), zup4_v, if_neg (by omega)]
  have mn : ∀ c y k j, ¬ (c = 14 ∧ y = 0 ∧ (42 ≤ k ∧ k ≤ 44) ∧ j = F 11 0 18) → M1 c y k j = Bm c y k j := fun c y k j n => by rw [← hM1, zup4_v, if_neg (by omega), zup4_v, if_neg (by omega), zup4_v, if_neg (by omega)]
  have b15 : B1 11 0 15 (F 11 0 18) = sg := by rw [← hB1, zup4_v, if_neg (by omega), zup4_v, if_neg (by omega), zup4_v, if_pos (by omega)]
  have b16 : B1 11 0 16 (F 11 0 18) = B0 3 0 2 x := by rw [← hB1, zup4_v, if_neg (by omega), zup4_v, if_pos (by omega)]
  have b17 : B1 11 0 17 (F 11 0 18) = B0 3 0 3 x := by rw [← hB1, zup4_v, if_pos (by omega)]
  have m42 : M1 14 0 42 (F 11 0 18) = mi := by rw [← hM1, zup4_v, if_neg (by omega), zup4_v, if_neg (by omega), zup4_v, if_pos (by omega)]
  have m43 : M1 14 0 43 (F 11 0 18) = s2 := by rw [← hM1, zup4_v, if_neg (by omega), zup4_v, if_pos (by omega)]
  have m44 : M1 14 0 44 (F 11 0 18) = t := by rw [← hM1, zup4_v, if_pos (by omega)]
  have xn : ∀ c y k, ¬ (c = 11 ∧ y = 0 ∧ k = 18) → X c y k = F c y k := fun c y k n => by rw [← hX, zup3_v, if_neg n]
  have x18 : X 11 0 18 = F 11 0 18 + 1 := by rw [← hX, zup3_v, if_pos (by omega)]
  have yn : ∀ c y k, ¬ (c = 14 ∧ y = 0 ∧ k = 45) → Y c y k = Fm c y k := fun c y k n => by rw [← hY, zup3_v, if_neg n]
  have y45 : Y 14 0 45 = F 11 0 18 + 1 := by rw [← hY, zup3_v, if_pos (by omega)]
  rw [bn 3 0 4 x (by omega), hT.1]
  have fr : WFR q v w F B Fm Bm X B1 Y M1 := WFR_mk (fun c y k n => xn c y k (by omega)) (fun c y k n => yn c y k (by omega)) (fun c y k j n => bn c y k j (by omega)) (fun c y k j n => mn c y k j (by omega))
  have sX : WS q v w bar (D + 1) X B1 Y M1 := by
    refine WS_mk hS' (fun c y k n => xn c y k (by omega)) (fun c y k n => yn c y k (by omega)) (fun c y k j n => bn c y k j (by omega)) (fun c y k j n => mn c y k j (by omega)) ?_ ?_ ?_ ?_ ?_ ?_ ?_ ?_
    · rw [xn 11 0 4 (by omega), yn 14 0 40 (by omega)]; exact s4
    · rw [xn 11 0 5 (by omega), yn 14 0 41 (by omega)]; omega
    · rw [xn 11 0 6 (by omega), yn 14 0 48 (by omega)]; omega
    · rw [xn 11 0 7 (by omega), xn 11 0 3 (by omega), yn 14 0 50 (by omega)]; exact s7
    · rw [xn 11 0 6 (by omega), xn 11 0 7 (by omega), xn 11 0 8 (by omega), yn 14 0 49 (by omega), mn 14 0 8 _ (by omega)]; exact s8
    · rw [xn 11 0 6 (by omega), xn 11 0 9 (by omega), xn 11 0 10 (by omega)]
      exact TPL_c s9 (fun k _ _ => ⟨mn 14 0 46 k (by omega), mn 14 0 47 k (by omega)⟩)
    · intro k u t
      rw [mn 14 0 51 _ (by omega), bn 11 0 14 k (by omega)]
      have := hm k u t
      omega
    · rw [x18, y45]
      refine ⟨rfl, by omega, by omega, fun k u t => ?_⟩
      by_cases c : k = F 11 0 18
      · unfold CRk
        rw [c, b15, b16, b17, m42, m43, m44]
        refine ⟨?_, hs, ht⟩
        rcases hk with ⟨k1, k2, k3, k4⟩ | ⟨k1, k2, k3, k4⟩
        · exact Or.inl ⟨k1, k2, k3, k4⟩
        · exact Or.inr ⟨k1, k2, k3, k4⟩
      · have := z4 k u (by omega)
        unfold CRk at this ⊢
        rw [bn 11 0 15 k (by omega), bn 11 0 16 k (by omega), bn 11 0 17 k (by omega), mn 14 0 42 k (by omega), mn 14 0 43 k (by omega), mn 14 0 44 k (by omega)]
        exact this
  refine zP_c (hL.1 m (B0 3 0 4 x) (a + 1) (Bm0 14 0 30 a) X B1 Y M1 hl (by omega) hb.2 (WT_f hT fr) (by rw [fr.2.2.2.1 14 0 27 (by omega)]; exact hnl) (WC_f hC' fr) sX) ?_
  intro r F2 B2 r' Fm2 Bm2 W
  refine zP_s (WO_close hS' fr W (fun c y k n => by rw [zup3_v, if_neg (by omega)]) (fun c y k n => by rw [zup3_v, if_neg (by omega)]) (fun _ _ _ _ _ => rfl) (fun _ _ _ _ _ => rfl) ?_ (fun k u t => ⟨bn _ _ _ _ (by omega), bn _ _ _ _ (by omega), bn _ _ _ _ (by omega), mn _ _ _ _ (by omega), mn _ _ _ _ (by omega), mn _ _ _ _ (by omega)⟩) (fun k u t => ⟨mn _ _ _ _ (by omega), mn _ _ _ _ (by omega)⟩) (by rw [x18]; omega) (by rw [xn 11 0 6 (by omega)]; exact Int.le_refl _) (fun u => ⟨xn _ _ _ (by omega), xn _ _ _ (by omega), yn _ _ _ (by omega)⟩) (xn 4 q 6 (by omega)))
  intro s kp
  obtain ⟨⟨k5, k6, k9, k10, k18⟩, kw, _⟩ := kp
  obtain ⟨_, _, _, _, ⟨t5, _⟩, ⟨t6, _⟩, _, _, _, _, t11, ⟨t12, _⟩, _⟩ := s
  refine ⟨⟨?_, ?_, ?_, ?_, ?_⟩, ⟨?_, ?_, ?_⟩, fun k u t => ⟨?_, ?_⟩⟩
  · rw [zup3_v, if_neg (by omega), k5, xn 11 0 5 (by omega)]
  · rw [zup3_v, if_neg (by omega), k6, xn 11 0 6 (by omega)]
  · rw [zup3_v, if_neg (by omega), k9, xn 11 0 9 (by omega)]
  · rw [zup3_v, if_neg (by omega), k10, xn 11 0 10 (by omega)]
  · rw [zup3_v, if_pos (by omega), k18, x18]; omega
  · rw [zup3_v, if_neg (by omega), ← t5, k5, xn 11 0 5 (by omega)]; exact s5.1
  · rw [zup3_v, if_pos (by omega), ← t12, k18, x18]; omega
  · rw [zup3_v, if_neg (by omega), ← t6, k6, xn 11 0 6 (by omega)]; exact s6.1
  · rw [kw k u t, bn 11 0 14 k (by omega)]
  · rw [← (t11 k u t).1, kw k u t, bn 11 0 14 k (by omega)]; exact (hm k u t).1
theorem L_chg0 {K : Nat} {o : oT_W} {i : Int} {F : zF} {B : zB} (hi : 0 ≤ i ∧ i < 2997) (hw : B 14 0 11 i = 1836021349) (h45 : 0 ≤ F 14 0 45 ∧ F 14 0 45 < 100) (h1 : 0 ≤ B 14 0 9 (i + 1) ∧ B 14 0 9 (i + 1) ≤ 62) (h2 : 0 ≤ B 14 0 9 (i + 2) ∧ B 14 0 9 (i + 2) ≤ 62) : fb_M_goChange o K i F B = zbind (o.1 (i + 3 + 1) (B 14 0 30 (i + 3)) (zup3 F 14 0 45 (F 14 0 45 + 1)) (zup4 (zup4 (zup4 B 14 0 42 (F 14 0 45) 0) 14 0 43 (F 14 0 45) (B 14 0 9 (i + 2) - B 14 0 9 (i + 1))) 14 0 44 (F 14 0 45) (mvV B (i + 2) - mvV B (i + 1)))) (fun _ F2 B2 => some (0, zup3 F2 14 0 45 (F2 14 0 45 - 1), B2)) := by
  unfold fb_M_goChange f_M_goChange_18 f_M_goChange_36
  rw [if_pos (by omega), hw, if_pos (by decide), if_neg (by decide), if_pos (by decide), if_pos rfl, if_pos h45, if_pos (Or.inl rfl), if_pos (by decide), if_pos rfl, if_pos (by omega), if_pos (by omega), show i + 1 + 1 = i + 2 by omega]
  have n1 : ∀ (x : Int) k j, ¬ k = 42 → zup4 B 14 0 42 (F 14 0 45) x 14 0 k j = B 14 0 k j := fun x k j n => by rw [zup4_v, if_neg (by omega)]
  rw [n1 _ _ _ (by decide), n1 _ _ _ (by decide)]
  generalize hB1 : zup4 B 14 0 42 (F 14 0 45) 0 = B1 at n1 ⊢
  have e1 : ∀ k j, ¬ k = 42 → B1 14 0 k j = B 14 0 k j := fun k j n => by rw [← hB1, zup4_v, if_neg (by omega)]
  unfold f_M_goChange_84
  rw [if_pos h45, if_pos (by decide), if_pos rfl, if_pos (by omega), show i + 1 + 1 = i + 2 by omega]
  generalize hB2 : zup4 B1 14 0 43 (F 14 0 45) (B 14 0 9 (i + 2) - B 14 0 9 (i + 1)) = B2
  have e2 : ∀ k j, ¬ (k = 42 ∨ k = 43) → B2 14 0 k j = B 14 0 k j := fun k j n => by rw [← hB2, zup4_v, if_neg (by omega), e1 k j (by omega)]
  rw [e2 9 _ (by decide), e2 10 _ (by decide), L_tonP h2.1 h2.2, zb_s, if_pos (by omega), e2 9 _ (by decide), e2 10 _ (by decide), L_tonP h1.1 h1.2, zb_s]
  unfold f_M_goChange_150
  rw [if_pos h45, if_pos (by omega)]
  have e3 : ∀ x, zup4 B2 14 0 44 (F 14 0 45) x 14 0 30 (i + 3) = B 14 0 30 (i + 3) := fun x => by rw [zup4_v, if_neg (by omega), e2 30 _ (by decide)]
  rw [e3]
  rfl
theorem L_chg1 {K : Nat} {o : oT_W} {i : Int} {F : zF} {B : zB} (hi : 0 ≤ i ∧ i < 2998) (hw : B 14 0 11 i = 120299659095922) (h45 : 0 ≤ F 14 0 45 ∧ F 14 0 45 < 100) (h1 : 0 ≤ B 14 0 9 (i + 1) ∧ B 14 0 9 (i + 1) ≤ 62) : fb_M_goChange o K i F B = zbind (o.1 (i + 2 + 1) (B 14 0 30 (i + 2)) (zup3 F 14 0 45 (F 14 0 45 + 1)) (zup4 (zup4 (zup4 B 14 0 42 (F 14 0 45) 1) 14 0 43 (F 14 0 45) (B 14 0 9 (i + 1))) 14 0 44 (F 14 0 45) (mvV B (i + 1)))) (fun _ F2 B2 => some (0, zup3 F2 14 0 45 (F2 14 0 45 - 1), B2)) := by
  unfold fb_M_goChange f_M_goChange_18 f_M_goChange_36
  rw [if_pos (by omega), hw, if_pos (by decide), if_pos (by decide), if_pos (by decide), if_neg (by decide), if_pos h45, if_pos (Or.inr rfl), if_pos (by decide), if_neg (by decide), if_pos (by omega)]
  have n1 : ∀ (x : Int) k j, ¬ k = 42 → zup4 B 14 0 42 (F 14 0 45) x 14 0 k j = B 14 0 k j := fun x k j n => by rw [zup4_v, if_neg (by omega)]
  rw [n1 _ _ _ (by decide)]
  generalize hB1 : zup4 B 14 0 42 (F 14 0 45) 1 = B1 at n1 ⊢
  have e1 : ∀ k j, ¬ k = 42 → B1 14 0 k j = B 14 0 k j := fun k j n => by rw [← hB1, zup4_v, if_neg (by omega)]
  unfold f_M_goChange_84
  rw [if_pos h45, if_pos (by decide), if_neg (by decide), if_pos (by omega)]
  generalize hB2 : zup4 B1 14 0 43 (F 14 0 45) (B 14 0 9 (i + 1)) = B2
  have e2 : ∀ k j, ¬ (k = 42 ∨ k = 43) → B2 14 0 k j = B 14 0 k j := fun k j n => by rw [← hB2, zup4_v, if_neg (by omega), e1 k j (by omega)]
  rw [e2 9 _ (by decide), e2 10 _ (by decide), L_tonP h1.1 h1.2, zb_s]
  unfold f_M_goChange_150
  rw [if_pos h45, if_pos (by omega)]
  have e3 : ∀ x, zup4 B2 14 0 44 (F 14 0 45) x 14 0 30 (i + 2) = B 14 0 30 (i + 2) := fun x => by rw [zup4_v, if_neg (by omega), e2 30 _ (by decide)]
  rw [e3]
  rfl
end
end
section
section
/-! ===== the walk: back, slow, use ===== -/
theorem WS_up {q v w bar : Int} {D : Nat} {F : zF} {B : zB} {Fm : zF} {Bm : zB} (hS : WS q v w bar D F B Fm Bm) : WS q v w bar (D + 1) F B Fm Bm := by
  have hS' := hS
  obtain ⟨_, _, _, s4, s5, s6, s7, s8, s9, _, hm, ⟨z1, z2, z3, z4⟩, _⟩ := hS
  exact WS_mk hS' (fun _ _ _ _ => rfl) (fun _ _ _ _ => rfl) (fun _ _ _ _ _ => rfl) (fun _ _ _ _ _ => rfl) s4 (by omega) (by omega) s7 s8 s9 (fun k u t => by have := hm k u t; omega) ⟨z1, z2, by omega, z4⟩
/-- a walk one deeper that changed nothing but by itself -/
theorem WO_same {q v w bar : Int} {D : Nat} {F F2 : zF} {B B2 : zB} {Fm Fm2 : zF} {Bm Bm2 : zB} (hS : WS q v w bar D F B Fm Bm) (W : WO q v w bar (D + 1) F B Fm Bm F2 B2 Fm2 Bm2) : WO q v w bar D F B Fm Bm F2 B2 Fm2 Bm2 := by
  refine WO_close hS WFR_r W (fun _ _ _ _ => rfl) (fun _ _ _ _ => rfl) (fun _ _ _ _ _ => rfl) (fun _ _ _ _ _ => rfl) ?_ (fun _ _ _ => ⟨rfl, rfl, rfl, rfl, rfl, rfl⟩) (fun _ _ _ => ⟨rfl, rfl⟩) (Int.le_refl _) (Int.le_refl _) (fun _ => ⟨rfl, rfl, rfl⟩) rfl
  intro s kp
  obtain ⟨⟨k5, k6, k9, k10, k18⟩, kw, _⟩ := kp
  obtain ⟨_, _, _, _, ⟨t5, _⟩, ⟨t6, _⟩, _, _, _, _, t11, ⟨t12, _⟩, _⟩ := s
  obtain ⟨_, _, _, _, ⟨s5, _⟩, ⟨s6, _⟩, _, _, _, _, s11, ⟨s12, _⟩, _⟩ := hS
  exact ⟨⟨k5, k6, k9, k10, k18⟩, ⟨by rw [← t5, k5, s5], by rw [← t12, k18, s12], by rw [← t6, k6, s6]⟩, fun k u t => ⟨kw k u t, by rw [← (t11 k u t).1, kw k u t]; exact (s11 k u t).1⟩⟩
theorem P_bk {K : zK} {Km : Nat} {N nl q v w bar x i : Int} {B0 Bm0 : zB} {D m : Nat} {o : oT_CW} {oM : oT_W} {R : zB → zB → Int → Int → Prop} {F : zF} {B : zB} {Fm : zF} {Bm : zB} (hL : LSim K Km N nl q v w bar B0 Bm0 (D + 1) o.1 oM.1 R) (hi : 0 ≤ i ∧ i < N) (hT : WT N B0 Bm0 B Bm) (hnl : Fm 14 0 27 = nl) (hC : WC K Km N q v w bar B Fm Bm) (hS : WS q v w bar D F B Fm Bm) (hD : D < 64) (hb : i + 1 < Bm0 14 0 30 (i + 1) ∧ Bm0 14 0 30 (i + 1) ≤ 3000) (hl : LRf R B0 Bm0 m x (i + 1 + 1) (Bm0 14 0 30 (i + 1))) : zP (fb_Walker_goBack o K 0 x D F B) (fb_M_goBack oM Km i Fm Bm) (fun _ F' B' _ Fm' Bm' => WO q v w bar D F B Fm Bm F' B' Fm' Bm') := by
  have hC' := hC
  have hS' := hS
  obtain ⟨hK, hKm, h11, h3, h4, v0, w0, ⟨N0, N1, hTK⟩, _⟩ := hC
  obtain ⟨⟨a1, a2, a3, a4⟩, _, ⟨c1, c2, c3⟩, s4, s5, s6, s7, s8, s9, _, hm, ⟨z1, z2, z3, z4⟩, ⟨o1, o2, o3, _⟩⟩ := hS
  have aN : i + 1 < N := by
    rcases Int.lt_or_le (i + 1) N with z | z
    · exact z
    · have := (hT.2.2.2 (i + 1) z).1
      omega
  have p3 : Bm 14 0 30 (i + 1) = Bm0 14 0 30 (i + 1) := hT.2.2.1 30 (i + 1) (by decide) (by decide) aN
  unfold fb_Walker_goBack fb_M_goBack
  rw [if_pos ⟨Int.le_refl _, h11⟩, a2, if_pos h4, if_pos (by omega), p3, ← s5.1, ← o1, show i + 2 = i + 1 + 1 by omega]
  generalize hX : zup3 F 11 0 5 (F 11 0 5 + 1) = X
  generalize hY : zup3 Fm 14 0 41 (F 11 0 5 + 1) = Y
  have xn : ∀ c y k, ¬ (c = 11 ∧ y = 0 ∧ k = 5) → X c y k = F c y k := fun c y k n => by rw [← hX, zup3_v, if_neg n]
  have x5 : X 11 0 5 = F 11 0 5 + 1 := by rw [← hX, zup3_v, if_pos (by omega)]
  have yn : ∀ c y k, ¬ (c = 14 ∧ y = 0 ∧ k = 41) → Y c y k = Fm c y k := fun c y k n => by rw [← hY, zup3_v, if_neg n]
  have y41 : Y 14 0 41 = F 11 0 5 + 1 := by rw [← hY, zup3_v, if_pos (by omega)]
  have fr : WFR q v w F B Fm Bm X B Y Bm := WFR_mk (fun c y k n => xn c y k (by omega)) (fun c y k n => yn c y k (by omega)) (fun _ _ _ _ _ => rfl) (fun _ _ _ _ _ => rfl)
  have sX : WS q v w bar (D + 1) X B Y Bm := by
    refine WS_mk hS' (fun c y k n => xn c y k (by omega)) (fun c y k n => yn c y k (by omega)) (fun _ _ _ _ _ => rfl) (fun _ _ _ _ _ => rfl) ?_ ?_ ?_ ?_ ?_ ?_ ?_ ?_
    · rw [xn 11 0 4 (by omega), yn 14 0 40 (by omega)]; exact s4
    · rw [x5, y41]; omega
    · rw [xn 11 0 6 (by omega), yn 14 0 48 (by omega)]; omega
    · rw [xn 11 0 7 (by omega), xn 11 0 3 (by omega), yn 14 0 50 (by omega)]; exact s7
    · rw [xn 11 0 6 (by omega), xn 11 0 7 (by omega), xn 11 0 8 (by omega), yn 14 0 49 (by omega)]; exact s8
    · rw [xn 11 0 6 (by omega), xn 11 0 9 (by omega), xn 11 0 10 (by omega)]; exact s9
    · intro k u t
      have := hm k u t
      omega
    · rw [xn 11 0 18 (by omega), yn 14 0 45 (by omega)]
      exact ⟨z1, z2, by omega, z4⟩
  refine zP_c (hL.1 m x (i + 1 + 1) (Bm0 14 0 30 (i + 1)) X B Y Bm hl (by omega) hb.2 (WT_f hT fr) (by rw [fr.2.2.2.1 14 0 27 (by omega)]; exact hnl) (WC_f hC' fr) sX) ?_
  intro r F2 B2 r' Fm2 Bm2 W
  have q2 : F2 11 0 1 = q := by
    rcases W.2 with ⟨s, _⟩ | s
    · exact s.1.2.1
    · exact s.2.1
  have W3 : WO q v w bar D F B Fm Bm (zup3 F2 11 0 5 (F2 11 0 5 - 1)) B2 (zup3 Fm2 14 0 41 (Fm2 14 0 41 - 1)) Bm2 := by
    refine WO_close hS' fr W (fun c y k n => by rw [zup3_v, if_neg (by omega)]) (fun c y k n => by rw [zup3_v, if_neg (by omega)]) (fun _ _ _ _ _ => rfl) (fun _ _ _ _ _ => rfl) ?_ (fun _ _ _ => ⟨rfl, rfl, rfl, rfl, rfl, rfl⟩) (fun _ _ _ => ⟨rfl, rfl⟩) (by rw [xn 11 0 18 (by omega)]; exact Int.le_refl _) (by rw [xn 11 0 6 (by omega)]; exact Int.le_refl _) (fun u => ⟨xn _ _ _ (by omega), xn _ _ _ (by omega), yn _ _ _ (by omega)⟩) (xn 4 q 6 (by omega))
    intro s kp
    obtain ⟨⟨k5, k6, k9, k10, k18⟩, kw, _⟩ := kp
    obtain ⟨_, _, _, _, ⟨t5, _⟩, ⟨t6, _⟩, _, _, _, _, t11, ⟨t12, _⟩, _⟩ := s
    refine ⟨⟨?_, ?_, ?_, ?_, ?_⟩, ⟨?_, ?_, ?_⟩, fun k u t => ⟨?_, ?_⟩⟩
    · rw [zup3_v, if_pos (by omega), k5, x5]; omega
    · rw [zup3_v, if_neg (by omega), k6, xn 11 0 6 (by omega)]
    · rw [zup3_v, if_neg (by omega), k9, xn 11 0 9 (by omega)]
    · rw [zup3_v, if_neg (by omega), k10, xn 11 0 10 (by omega)]
    · rw [zup3_v, if_neg (by omega), k18, xn 11 0 18 (by omega)]
    · rw [zup3_v, if_pos (by omega), ← t5, k5, x5]; omega
    · rw [zup3_v, if_neg (by omega), ← t12, k18, xn 11 0 18 (by omega)]; exact z1
    · rw [zup3_v, if_neg (by omega), ← t6, k6, xn 11 0 6 (by omega)]; exact s6.1
    · exact kw k u t
    · rw [← (t11 k u t).1, kw k u t]; exact (hm k u t).1
  rw [q2, if_pos h4]
  have e36 : Fm2 14 0 36 = zup3 Fm2 14 0 41 (Fm2 14 0 41 - 1) 14 0 36 := by rw [zup3_v, if_neg (by omega)]
  rw [e36]
  generalize zup3 F2 11 0 5 (F2 11 0 5 - 1) = Z at W3 ⊢
  generalize zup3 Fm2 14 0 41 (Fm2 14 0 41 - 1) = Zm at W3 ⊢
  obtain ⟨f, s⟩ := W3
  rcases s with ⟨s, k⟩ | s
  · obtain ⟨r1, G, C, r1', Gm, Cm, e, e', f', s', k'⟩ := P_turn (o := oM) (fr := F 4 q 6) (WC_f hC' f) s ⟨o2, k.2.2.2.2.2⟩
    rw [e, e', zb_s]
    exact zP_s ⟨WFR_t f f', Or.inl ⟨s', WKP_t k k'⟩⟩
  · obtain ⟨r1, G, C, r1', Gm, Cm, e, e', f', s'⟩ := P_turnE (o := oM) (fr := F 4 q 6) (WC_f hC' f) s ⟨o2, o3⟩
    rw [e, e', zb_s]
    exact zP_s ⟨WFR_t f f', Or.inr s'⟩
theorem L_goW {K : Nat} {o : oT_W} {i : Int} {F : zF} {B : zB} (hi : 0 ≤ i ∧ i < 3001) (h4 : B 14 0 7 i = 4) : (B 14 0 11 i = 125780002955636 → fb_M_go o K i F B = zbind (o.2.2.2.1 i F B) (fun _ F1 B1 => some (0, F1, B1))) ∧ (B 14 0 11 i = 7697253 → fb_M_go o K i F B = zbind (o.2.2.2.2.1 i F B) (fun _ F1 B1 => some (0, F1, B1))) ∧ (B 14 0 11 i = 1836021349 ∨ B 14 0 11 i = 120299659095922 → fb_M_go o K i F B = zbind (o.2.2.2.2.2.1 i F B) (fun _ F1 B1 => some (0, F1, B1))) ∧ (B 14 0 11 i = 1650549611 → fb_M_go o K i F B = zbind (o.2.2.2.2.2.2.1 i F B) (fun _ F1 B1 => some (0, F1, B1))) ∧ (B 14 0 11 i = 1936486263 → fb_M_go o K i F B = zbind (o.2.2.2.2.2.2.2 i F B) (fun _ F1 B1 => some (0, F1, B1))) := by
  unfold fb_M_go f_M_go_31 f_M_go_62 f_M_go_148
  simp only [f_M_go_182]
  rw [if_pos hi, h4, if_pos (by decide), if_neg (by decide), if_neg (by decide), if_pos hi, if_pos (by decide), if_pos rfl]
  refine ⟨fun h => ?_, fun h => ?_, fun h => ?_, fun h => ?_, fun h => ?_⟩
  · rw [h, if_pos (by decide), if_neg (by decide), if_pos hi, if_pos (by decide), if_neg (by decide), if_pos (by decide), if_pos (by decide)]
  · rw [h, if_pos (by decide), if_neg (by decide), if_pos hi, if_pos (by decide), if_neg (by decide), if_pos (by decide), if_neg (by decide), if_pos (by decide)]
  · rcases h with h | h
    · rw [h, if_pos (by decide), if_neg (by decide), if_pos hi, if_pos (by decide), if_neg (by decide), if_pos (by decide), if_neg (by decide), if_neg (by decide), if_pos (by decide)]
    · rw [h, if_pos (by decide), if_neg (by decide), if_pos hi, if_pos (by decide), if_neg (by decide), if_pos (by decide), if_neg (by decide), if_neg (by decide), if_neg (by decide), if_pos (by decide)]
  · rw [h, if_pos (by decide), if_neg (by decide), if_pos hi, if_pos (by decide), if_neg (by decide), if_pos (by decide), if_neg (by decide), if_neg (by decide), if_neg (by decide), if_neg (by decide), if_pos (by decide)]
  · rw [h, if_pos (by decide), if_neg (by decide), if_pos hi, if_pos (by decide), if_neg (by decide), if_pos (by decide), if_neg (by decide), if_neg (by decide), if_neg (by decide), if_neg (by decide), if_neg (by decide)]
end
end
section
section
/-! ===== the walk: slow, use ===== -/
theorem exN_3 {p x : Int} : exN p x ≤ 3 := by
  unfold exN
  split
  · split
    · split <;> omega
    · omega
  · omega
theorem P_slI {K : zK} {Km : Nat} {N nl q v w bar x i : Int} {B0 Bm0 : zB} {D m : Nat} {o : oT_CW} {oM oM' : oT_W} {R : zB → zB → Int → Int → Prop} {F : zF} {B : zB} {Fm : zF} {Bm : zB} (hL : LSim K Km N nl q v w bar B0 Bm0 (D + 1) o.1 oM'.1 R) (hG : ∀ F B, oM.2.2.2.2.2.2.2 i F B = fb_M_goSlow oM' Km i F B) (hx : 0 ≤ x ∧ x < 3000) (hi : 0 ≤ i ∧ i < N) (hT : WT N B0 Bm0 B Bm) (hnl : Fm 14 0 27 = nl) (hC : WC K Km N q v w bar B Fm Bm) (hS : WS q v w bar D F B Fm Bm) (hD : D < 64) (k0 : B0 3 0 0 x = 9) (hw : wdAt Bm0 i 1936486263) (n1 : nmAt Bm0 (i + 1) (B0 3 0 2 x) 1 8) (n2 : nmAt Bm0 (i + 3) (B0 3 0 3 x) 1 8) (hb : i + 4 < Bm0 14 0 30 (i + 4) ∧ Bm0 14 0 30 (i + 4) ≤ 3000) (hl : LRf R B0 Bm0 m (B0 3 0 4 x) (i + 4 + 1) (Bm0 14 0 30 (i + 4))) : zP (fb_Walker_goItem o K 0 x D F B) (fb_M_go oM Km i Fm Bm) (fun _ F' B' _ Fm' Bm' => WO q v w bar D F B Fm Bm F' B' Fm' Bm') := by
  have hC' := hC
  have hS' := hS
  obtain ⟨hK, hKm, h11, h3, h4, v0, w0, ⟨N0, N1, hTK⟩, _⟩ := hC
  obtain ⟨⟨a1, a2, a3, a4⟩, _, ⟨c1, c2, c3⟩, s4, s5, s6, s7, s8, s9, _, hm, ⟨z1, z2, z3, z4⟩, _⟩ := hS
  have aN : i + 4 < N := by
    rcases Int.lt_or_le (i + 4) N with z | z
    · exact z
    · have := (hT.2.2.2 (i + 4) z).1
      omega
  have m7 : Bm 14 0 7 i = 4 := by rw [hT.2.1 7 i (by decide)]; exact hw.1
  have m11 : Bm 14 0 11 i = 1936486263 := by rw [hT.2.1 11 i (by decide)]; exact hw.2
  have p1 : Bm 14 0 9 (i + 1) = B0 3 0 2 x := by rw [hT.2.1 9 _ (by decide)]; exact n1.2.1
  have p2 : Bm 14 0 9 (i + 3) = B0 3 0 3 x := by rw [hT.2.1 9 _ (by decide)]; exact n2.2.1
  have p3 : Bm 14 0 30 (i + 4) = Bm0 14 0 30 (i + 4) := hT.2.2.1 30 (i + 4) (by decide) (by decide) aN
  have q2 : B 3 0 2 x = B0 3 0 2 x := hT.1 2 x
  have q3 : B 3 0 3 x = B0 3 0 3 x := hT.1 3 x
  have q4 : B 3 0 4 x = B0 3 0 4 x := hT.1 4 x
  have n1' := n1.2.2
  have n2' := n2.2.2
  clear n1 n2 hw
  generalize ea : B0 3 0 2 x = a at p1 q2 n1'
  generalize ec : B0 3 0 3 x = c at p2 q3 n2'
  obtain ⟨B1, e1, u1, d1⟩ := C_mul (K := K) (F := F) (B := B) (s := 1) h11 (by omega) n1'.1 n1'.2
  obtain ⟨B2, e2, u2, d2⟩ := C_mul (K := K) (F := F) (B := B1) (s := -1) h11 (by omega) n2'.1 n2'.2
  obtain ⟨M1, e3, u3, d3⟩ := L_pow (K := Km) (F := Fm) (B := Bm) (s := 1) (by omega) n1'.1 n1'.2
  obtain ⟨M2, e4, u4, d4⟩ := L_pow (K := Km) (F := Fm) (B := M1) (s := -1) (by omega) n2'.1 n2'.2
  have bn : ∀ c y k j, ¬ (c = 11 ∧ y = 0 ∧ k = 14) → B2 c y k j = B c y k j := fun c y k j n => by rw [d2 c y k j n, d1 c y k j n]
  have mn : ∀ c y k j, ¬ (c = 14 ∧ y = 0 ∧ k = 51) → M2 c y k j = Bm c y k j := fun c y k j n => by rw [d4 c y k j (by omega), d3 c y k j (by omega)]
  rw [(L_goW (by omega) m7).2.2.2.2 m11, hG, fb_M_goSlow, if_pos (by omega), p1, e3, zb_s, if_pos (by omega), d3 14 0 9 _ (by omega), p2, e4, zb_s, if_pos (by omega), mn 14 0 30 _ (by omega), p3]
  rw [fb_Walker_goItem, if_pos ⟨Int.le_refl _, h11⟩, a1, if_pos ⟨Int.le_refl _, h3⟩, if_pos hx, hT.1 0 x, k0, if_pos (by decide), if_neg (by decide), if_neg (by decide), if_neg (by decide), if_neg (by decide), if_neg (by decide), if_neg (by decide), if_neg (by decide), if_neg (by decide), if_neg (by decide), if_pos rfl, q2, q4, e1, zb_s, a1, if_pos ⟨Int.le_refl _, h3⟩, d1 3 0 3 x (by omega), q3, e2, zb_s]
  have fr : WFR q v w F B Fm Bm F B2 Fm M2 := WFR_mk (fun _ _ _ _ => rfl) (fun _ _ _ _ => rfl) (fun c y k j n => bn c y k j (by omega)) (fun c y k j n => mn c y k j (by omega))
  have pw : ∀ k, 0 ≤ k → k < 4 → B2 11 0 14 k = B 11 0 14 k + exN (prN k) a - exN (prN k) c ∧ M2 14 0 51 (prN k) = Bm 14 0 51 (prN k) + exN (prN k) a - exN (prN k) c := fun k u t => by
    rw [u2 k u t, u1 k u t, u4 k u t, u3 k u t]
    constructor <;> omega
  have sX : WS q v w bar (D + 1) F B2 Fm M2 := by
    refine WS_mk hS' (fun _ _ _ _ => rfl) (fun _ _ _ _ => rfl) (fun c y k j n => bn c y k j (by omega)) (fun c y k j n => mn c y k j (by omega)) s4 (by omega) (by omega) s7 ?_ ?_ ?_ ?_
    · rw [mn 14 0 8 _ (by omega)]; exact s8
    · exact TPL_c s9 (fun k _ _ => ⟨mn 14 0 46 k (by omega), mn 14 0 47 k (by omega)⟩)
    · intro k u t
      have y1 := hm k u t
      have y2 := pw k u t
      have y3 := exN_3 (p := prN k) (x := a)
      have y4 := exN_3 (p := prN k) (x := c)
      omega
    · refine ⟨z1, z2, by omega, fun k u t => ?_⟩
      have := z4 k u t
      unfold CRk at this ⊢
      rw [bn 11 0 15 k (by omega), bn 11 0 16 k (by omega), bn 11 0 17 k (by omega), mn 14 0 42 k (by omega), mn 14 0 43 k (by omega), mn 14 0 44 k (by omega)]
      exact this
  have W := hL.1 m (B0 3 0 4 x) (i + 4 + 1) (Bm0 14 0 30 (i + 4)) F B2 Fm M2 hl (by omega) hb.2 (WT_f hT fr) hnl (WC_f hC' fr) sX
  obtain ⟨r, F3, B3, r', G3, M3, y1, y2, W⟩ := W
  rw [show ((D + 1 : Nat) : Int) = (D : Int) + 1 by omega] at y1
  rw [y1, y2, zb_s, zb_s]
  have t3 := WT_f (WT_f hT fr) W.1
  have f0 : F3 11 0 0 = 0 := by
    rcases W.2 with ⟨s, _⟩ | s
    · exact s.1.1
    · exact s.1
  obtain ⟨B4, e5, u5, d5⟩ := C_mul (K := K) (F := F3) (B := B3) (s := -1) h11 (by omega) n1'.1 n1'.2
  obtain ⟨B5, e6, u6, d6⟩ := C_mul (K := K) (F := F3) (B := B4) (s := 1) h11 (by omega) n2'.1 n2'.2
  obtain ⟨M4, e7, u7, d7⟩ := L_pow (K := Km) (F := G3) (B := M3) (s := -1) (by omega) n1'.1 n1'.2
  obtain ⟨M5, e8, u8, d8⟩ := L_pow (K := Km) (F := G3) (B := M4) (s := 1) (by omega) n2'.1 n2'.2
  have r1 : M3 14 0 9 (i + 1) = a := by rw [t3.2.1 9 _ (by decide), ← hT.2.1 9 _ (by decide)]; exact p1
  have r2 : M4 14 0 9 (i + 3) = c := by rw [d7 14 0 9 _ (by omega), t3.2.1 9 _ (by decide), ← hT.2.1 9 _ (by decide)]; exact p2
  have r3 : B3 3 0 2 x = a := by rw [t3.1 2 x]; exact ea
  have r4 : B4 3 0 3 x = c := by rw [d5 3 0 3 x (by omega), t3.1 3 x]; exact ec
  rw [f0, if_pos ⟨Int.le_refl _, h3⟩, r3, e5, zb_s, f0, if_pos ⟨Int.le_refl _, h3⟩, r4, e6, zb_s, f_Walker_goItem_285, r1, e7, zb_s, r2, e8, zb_s, zb_s]
  refine zP_s (WO_close hS' fr W (fun _ _ _ _ => rfl) (fun _ _ _ _ => rfl) (fun c y k j n => by rw [d6 c y k j n, d5 c y k j n]) (fun c y k j n => by rw [d8 c y k j (by omega), d7 c y k j (by omega)]) ?_ (fun k _ _ => ⟨bn _ _ _ _ (by omega), bn _ _ _ _ (by omega), bn _ _ _ _ (by omega), mn _ _ _ _ (by omega), mn _ _ _ _ (by omega), mn _ _ _ _ (by omega)⟩) (fun k _ _ => ⟨mn _ _ _ _ (by omega), mn _ _ _ _ (by omega)⟩) (Int.le_refl _) (Int.le_refl _) (fun _ => ⟨rfl, rfl, rfl⟩) rfl)
  intro s kp
  obtain ⟨⟨k5, k6, k9, k10, k18⟩, kw, _⟩ := kp
  obtain ⟨_, _, _, _, ⟨t5, _⟩, ⟨t6, _⟩, _, _, _, _, t11, ⟨t12, _⟩, _⟩ := s
  refine ⟨⟨k5, k6, k9, k10, k18⟩, ⟨by rw [← t5, k5, s5.1], by rw [← t12, k18, z1], by rw [← t6, k6, s6.1]⟩, fun k u t => ?_⟩
  have y1 := (pw k u t).1
  have y2 := (t11 k u t).1
  have y3 := kw k u t
  have y4 := (hm k u t).1
  rw [u6 k u t, u5 k u t, u8 k u t, u7 k u t]
  constructor <;> omega
theorem fdR_i {row : Int → Int} {m w q : Int} : ∀ {f : Nat} {k : Int}, k ≤ q → q < m → q - k < f → row q = w → (∀ p, k ≤ p → p < q → ¬ row p = w) → fdR row m w f k = q := by
  intro f
  induction f with
  | zero => intro k a b c _ _; omega
  | succ f ih =>
    intro k a b c d e
    unfold fdR
    rw [if_neg (by omega)]
    by_cases h : k = q
    · rw [h, if_pos d]
    · rw [if_neg (e k (Int.le_refl _) (by omega))]
      exact ih (by omega) b (by omega) d (fun p u t => e p (by omega) t)
/-- the lets told so far -/
noncomputable def LTW (nl : Int) (B0 Bm0 : zB) : Prop := (0 ≤ nl ∧ nl ≤ 6) ∧ ∀ p, 0 ≤ p → p < nl → (0 ≤ B0 3 0 13 p ∧ B0 3 0 13 p < 3000) ∧ r64 (Bm0 14 0 25 p) ∧ 0 ≤ Bm0 14 0 26 p ∧ BKf (IRd p 7) B0 Bm0 (B0 3 0 13 p) (Bm0 14 0 26 p)
theorem P_usI {K : zK} {Km : Nat} {N nl L q v w bar x i : Int} {B0 Bm0 : zB} {D : Nat} {o : oT_CW} {oM oM' : oT_W} {F : zF} {B : zB} {Fm : zF} {Bm : zB} (hL : ∀ p, 0 ≤ p → p < L → LSim K Km N nl q v w bar B0 Bm0 (D + 1) o.1 oM'.1 (IRd p 7)) (hLn : L ≤ nl) (hLT : LTW nl B0 Bm0) (hG : ∀ F B, oM.2.2.2.2.1 i F B = fb_M_goUse oM' Km i F B) (hx : 0 ≤ x ∧ x < 3000) (hi : 0 ≤ i ∧ i < N) (hT : WT N B0 Bm0 B Bm) (hnl : Fm 14 0 27 = nl) (hC : WC K Km N q v w bar B Fm Bm) (hS : WS q v w bar D F B Fm Bm) (hD : D < 64) (k0 : B0 3 0 0 x = 5) (hu : usR L B0 Bm0 x i) : zP (fb_Walker_goItem o K 0 x D F B) (fb_M_go oM Km i Fm Bm) (fun _ F' B' _ Fm' Bm' => WO q v w bar D F B Fm Bm F' B' Fm' Bm') := by
  have hC' := hC
  obtain ⟨hK, hKm, h11, h3, h4, v0, w0, ⟨N0, N1, hTK⟩, _⟩ := hC
  have a1 := hS.1.1
  obtain ⟨hw, p, ⟨p0, p1⟩, pe, px, pn⟩ := hu
  obtain ⟨⟨l0, l6⟩, hLp⟩ := hLT
  obtain ⟨⟨x0, x1⟩, r25, r26, b1, b2, m, hl⟩ := hLp p p0 (by omega)
  have m7 : Bm 14 0 7 i = 4 := by rw [hT.2.1 7 i (by decide)]; exact hw.1
  have m11 : Bm 14 0 11 i = 7697253 := by rw [hT.2.1 11 i (by decide)]; exact hw.2
  have fd : fdR (Bm 14 0 25) nl (Bm 14 0 11 (i + 1)) 22 0 = p := by
    refine fdR_i p0 (by omega) (by omega) ?_ (fun y u t => ?_)
    · rw [hT.2.1 25 p (by decide), hT.2.1 11 _ (by decide)]; exact pe
    · rw [hT.2.1 25 y (by decide), hT.2.1 11 _ (by decide)]; exact pn y u t
  have r11 : r64 (Bm 14 0 11 (i + 1)) := by rw [hT.2.1 11 _ (by decide), ← pe]; exact r25
  have aN : Bm0 14 0 26 p < N := by
    rcases Int.lt_or_le (Bm0 14 0 26 p) N with z | z
    · exact z
    · have := (hT.2.2.2 _ z).1
      omega
  rw [(L_goW (by omega) m7).2.1 m11, hG, fb_M_goUse, if_pos (by omega), hnl, L_find (by omega) (by decide) (by rw [show lnM 14 0 25 = 6 by decide]; omega) (by decide) (by decide) (by omega) (fun y u t => by rw [hT.2.1 25 y (by decide)]; exact (hLp y u t).2.1) r11, zb_s, fd, if_pos (by omega), hT.2.1 26 p (by decide), if_pos (by omega), hT.2.2.1 30 _ (by decide) (by decide) aN]
  rw [fb_Walker_goItem, if_pos ⟨Int.le_refl _, h11⟩, a1, if_pos ⟨Int.le_refl _, h3⟩, if_pos hx, hT.1 0 x, k0, if_pos (by decide), if_neg (by decide), if_neg (by decide), if_neg (by decide), if_neg (by decide), if_neg (by decide), if_pos rfl, hT.1 2 x, px, if_pos ⟨x0, x1⟩, hT.1 4 _]
  have W := (hL p p0 p1).1 m _ _ _ F B Fm Bm hl (by omega) b2 hT hnl hC' (WS_up hS)
  obtain ⟨r, F3, B3, r', G3, M3, y1, y2, W⟩ := W
  rw [show ((D + 1 : Nat) : Int) = (D : Int) + 1 by omega] at y1
  rw [y1, y2, zb_s, zb_s, f_Walker_goItem_285, zb_s]
  exact zP_s (WO_same hS W)
end
end
